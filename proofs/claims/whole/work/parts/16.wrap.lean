/-! ===== the law's own methods: each calls one that may throw, and catches ===== -/
/-- which handler: the place of the exception in the list; what is done with an answer -/
def x_lb {α : Type} (o : Option ((Nat ⊕ α) × XH)) (hs : List Nat) (k : α → XH → XH) : Option (Int32 × XH) := match o with
  | none => none
  | some (.inl e, h) => match hs.idxOf? e with
    | some j => some (nI (j + 1), h)
    | none => none
  | some (.inr v, h) => some (0, k v h)
theorem x_idx {e : Nat} : ∀ {hs : List Nat} {j : Nat}, hs.idxOf? e = some j → hs[j]? = some e := by
  intro hs j h
  rw [List.idxOf?, List.findIdx?_eq_some_iff_getElem] at h
  obtain ⟨h1, h2, -⟩ := h
  rw [List.getElem?_eq_getElem h1]
  simpa using h2
theorem x_lbd {α : Type} {o : Option ((Nat ⊕ α) × XH)} {hs : List Nat} {k : α → XH → XH} {r : Int32} {h' : XH} (hf : x_lb o hs k = some (r, h')) : ∃ (s1 : Nat ⊕ α) (h1 : XH), o = some (s1, h1) ∧ (∀ e, s1 = .inl e → ∃ j, hs[j]? = some e ∧ r = nI (j + 1) ∧ h' = h1) ∧ (∀ v, s1 = .inr v → r = 0 ∧ h' = k v h1) := by
  cases o with
  | none => cases hf
  | some q =>
    obtain ⟨s1, h1⟩ := q
    refine ⟨s1, h1, rfl, fun e he => ?_, fun v hv => ?_⟩
    · subst he
      have hf : (match hs.idxOf? e with | some j => some (nI (j + 1), h1) | none => none) = some (r, h') := hf
      cases hj : hs.idxOf? e with
      | none => rw [hj] at hf; cases hf
      | some j =>
        rw [hj] at hf
        cases hf
        exact ⟨j, x_idx hj, rfl, rfl⟩
    · subst hv
      have hf : some ((0 : Int32), k v h1) = some (r, h') := hf
      cases hf
      exact ⟨rfl, rfl⟩
/-- the same for methods that change the shape -/
def x_lbK {α : Type} (o : Option ((Nat ⊕ α) × XK × XH)) (hs : List Nat) (k : α → XH → XH) : Option (Int32 × XK × XH) := Option.bind o (fun q => Option.bind (x_lb (some (q.1, q.2.2)) hs k) (fun z => some (z.1, q.2.1, z.2)))
def x_ML (l : Launch) (O : XO) (K K' : XK) (y : MethodName) (cc : ByteArray) (nL : Nat) (hh : List (Nat × Nat × Nat × Nat)) (f lo mc ms : Nat) (h : XH) (n : Nat) (av : List Value) (r : Int32) (h' : XH) : Prop :=
  vx_Met l y (.codeWith y cc nL (some .int) hh :: TB) (x_rmX f lo mc ms) (x_PN O K h n av) (x_XQ O K' h' (.inr (some (.int r)))) (fun _ _ _ => False) mc ms (oA O)
section XU
variable {p : Program} {l : Launch} {e : Env} {R : Room} {s : State} {m : MethodId} {args : Array Value} {below : List Frame} {meth : Method} {c : Code} {H : Heap} {locs : List Loc} {cells slots mc ms : Nat} {Q : State → Prop}
variable {O : XO} {K K' K1 : XK} {h h' h1 : XH} {n : Nat} {cc : ByteArray} {nL : Nat} {own : String} {ret : Option FieldType} {pc : Nat} {ls : Array Slot} {rest : List Value}
theorem x_enterL {y : MethodName} {f lo : Nat} {av : List Value} {hh : List (Nat × Nat × Nat × Nat)} {r : Int32} (hy : plainName y.cls = true) (hcl : y.cls = RL) (hnl : (lg_sl av).length ≤ nL)
    (body : ∀ (p : Program) (e : Env) (s : State) (m : MethodId) (args : Array Value) (below : List Frame) (meth : Method) (c : Code), x_C p s m args meth c O cc nL RL (some .int) → c.exceptionTable.toList = tableOf hh → x_R O K h s.heap → s.heap.size = n → ∀ ls : Array Slot, lv_has ls nL (lv_args 0 av) →
      W p l e (x_rmX f lo mc ms) s m args below meth c s.heap [] 0 0 (vx_MQ below (x_XQ O K' h' (.inr (some (.int r)))) (fun _ _ _ => False) args s mc ms (oA O)) (F0 m 0 ls [])) : x_ML l O K K' y cc nL hh f lo mc ms h n av r h' := by
  refine vx_ofWH (cc := cc) (maxL := nL) (ret := some .int) (hh := hh) hy rfl ?_
  intro p e s m args below meth c s₁ B hml hv
  obtain ⟨⟨rfl, hE, hR⟩, hz⟩ := hv
  have hts := atoms_spec (ws := (Cond.codeWith y cc nL (some .int) hh :: TB)) B.pre
  rw [lg_entry_eq]
  exact body p e s m _ below meth c ⟨B.exec, B.bytes, hml, hcl ▸ findClass_of_methodNamed B.named, fun w hw => hts w (List.mem_cons_of_mem _ hw), B.notSynchronized, Or.inr rfl, B.returns, hE⟩ (vx_table (x := y) B (hts _ List.mem_cons_self)) hR hz _ (lv_entry av hnl)
/-- the call of a method that may throw, by one with handlers -/
theorem x_lcall (C : x_C p s m args meth c O cc nL RL ret) (hR : x_R O K h H) (hS : va_S (oA O) s.heap H locs) {y : MethodName} {bytes : ByteArray} {maxL : Nat} {ret' : Option FieldType} {f lo k mc' ms' : Nat} {b : Nat} {As : List Value} {res1 : Nat ⊕ Option Value} {Pc : Array Value → State → Prop}
    (M : vx_Met l y (.code y bytes maxL ret' :: TB) (x_rmX f lo mc' ms') Pc (x_XQ O K1 h1 res1) (x_XX O K1 h1 res1) mc' ms' (oA O)) (hbl : FrameBlind Pc) (hpre : ∀ U : State, U.heap = H → s.WarmedH U.vm → Pc (Value.ref b :: As).toArray U) {ci : Nat} (hb : (K b).1 = ci + 1) (hci : ci < 13) {T : u_T} {N : Nat} (hc : vwCl[ci]? = some (y.cls, T, N)) (hm : x_MV y bytes maxL ret' k) {idx : Nat} (hl : Cond.methodLink RL idx y ∈ TB)
    (hF : f + 1 ≤ R.frames) (hL : 8 + (maxL + 11) + lo ≤ R.locals) (hn : As.length = k) (hsz : ls.size = nL) (hst : (rest.map fun v => v.category).sum ≤ 8) (hd : decode cc pc = .ok (.invokevirtual idx, 3)) (hcs : cells + mc' ≤ R.cells ∧ slots + ms' ≤ R.slots)
    {st0 : List Value} (hst0 : st0 = As.reverse ++ .ref b :: rest)
    (kx : ∀ e9, res1 = .inl e9 → ∀ (H1 : Heap) (locs1 : List Loc) (q : Addr) (ce : Cell), x_R O K1 h1 H1 → va_S (oA O) s.heap H1 locs1 → H1[q]? = some ce → ce.vm = .none → s.vm.findClass (x_en e9) = some ce.cls → vx_W p l e R s m args below meth c H1 locs1 (cells + mc') (slots + ms') Q (F0 m pc ls rest) q)
    (kk : ∀ r, res1 = .inr r → ∀ (H1 : Heap) (locs1 : List Loc), x_R O K1 h1 H1 → va_S (oA O) s.heap H1 locs1 → W p l e R s m args below meth c H1 locs1 (cells + mc') (slots + ms') Q (F0 m (pc + 3) ls (r.toList ++ rest))) :
    W p l e R s m args below meth c H locs cells slots Q (F0 m pc ls st0) := by
  obtain ⟨m1, m2, m3, m4, m5, m6, m7⟩ := hm
  have hts := C.2.2.2.2.1
  have hrecv : ∃ cellB : Cell, H[b]? = some cellB ∧ cellB.vm.isStatics = false ∧ s.vm.findClass y.cls = some cellB.cls := by
    obtain ⟨L, hL, hP, hD, hT⟩ := id hR
    obtain ⟨q0, hq⟩ := va_pl_get (X := []) (f := x_cell (oX O) (oC O) K h) ((hL b).mpr (by omega))
    rw [x_cell_obj hb hci] at hq
    exact va_recv (x_K C) hP hc hq
  intro T hT X
  rcases vx_runV (As := As) (b := b) (C := y.cls) (Ts := TB) ⟨C.1, C.2.1, C.2.2.1, C.2.2.2.1, hts⟩ M ⟨callB_of k hts (TB_cons m1) rfl rfl rfl (hts _ m4) (hts _ hl) ⟨m5, m6, m7⟩ ⟨hF, hL⟩, hts _ m2, hts _ m3⟩ ⟨hbl, hrecv, hpre⟩ rfl hn hsz hst0 (lv_room hst) hd hcs T hT X with ⟨v, st₀, t, T', L, h0, X', hL, e1, e2, ⟨r, hr, hv, hp, hFF⟩, st⟩ | ⟨q, st₀, t, T', L, E, ce, h0, X', hL, e1, e2, ⟨e9, he, hE9, hp, hFF⟩, hce, hcv, hcl, st⟩
  · cases hv
    obtain ⟨k1, k2, k3⟩ := vx_keep h0 e1 hS (fun _ _ hq => hq) (fun _ hq => hq) hL hFF
    obtain ⟨t2, a1, b1⟩ := kk _ hr T'.heap (locs ++ L) (by rw [e1]; exact hp) k3 T' rfl X'
    exact ⟨t2, st t2 a1, b1⟩
  · obtain ⟨k1, k2, k3⟩ := vx_keep h0 e1 hS (fun _ _ hq => hq) (fun _ hq => hq) hL hFF
    obtain ⟨t2, a1, b1⟩ := kx e9 he T'.heap (locs ++ L) q ce (by rw [e1]; exact hp) k3 (by rw [e1]; exact hce) hcv (hE9 ▸ hcl) T' rfl X'
    exact ⟨t2, st.trans a1, b1⟩
theorem x_nc (C : x_C p s m args meth c O cc nL own ret) {a b : Nat} (ha : x_en a ∈ x_ex) (hb : x_en b ∈ x_ex) (hne : x_en a ≠ x_en b) : va_Nc (x_en a) (x_en b) s := C.2.2.2.2.2.2.2.2.2.2.2.2.2.2.2.2.2.2.1 _ ha _ hb hne
/-- a call of one of these methods by the law -/
theorem x_callL (C : x_C p s m args meth c O cc nL RL ret) (hR : x_R O K h H) (hS : va_S (oA O) s.heap H locs) (hz : H.size = n) {y : MethodName} {bytes : ByteArray} {maxL : Nat} {hh : List (Nat × Nat × Nat × Nat)} {f lo k mc' ms' : Nat} {As : List Value} {r : Int32}
    (M : x_ML l O K K' y bytes maxL hh f lo mc' ms' h n As r h') (hw : Cond.codeWith y bytes maxL (some .int) hh ∈ TB ∧ Cond.static y ∈ TB ∧ Cond.initialized y.cls ∈ TB ∧ y.cls ≠ "java/lang/invoke/MethodHandle" ∧ y.cls ≠ "java/lang/invoke/VarHandle" ∧ (parseMethodDescriptor y.desc).map (fun d => d.parameters.length) = some k) {idx : Nat} (hl : Cond.methodLink RL idx y ∈ TB)
    (hF : f + 1 ≤ R.frames) (hL : 8 + (maxL + 11) + lo ≤ R.locals) (hn : As.length = k) (hsz : ls.size = nL) (hst : (rest.map fun v => v.category).sum ≤ 8) (hd : decode cc pc = .ok (.invokestatic idx, 3)) (hcs : cells + mc' ≤ R.cells ∧ slots + ms' ≤ R.slots)
    {st0 : List Value} (hst0 : st0 = As.reverse ++ rest)
    (kk : ∀ (H1 : Heap) (locs1 : List Loc), x_R O K' h' H1 → va_S (oA O) s.heap H1 locs1 → W p l e R s m args below meth c H1 locs1 (cells + mc') (slots + ms') Q (F0 m (pc + 3) ls (.int r :: rest))) : W p l e R s m args below meth c H locs cells slots Q (F0 m pc ls st0) := by
  obtain ⟨m1, m2, m4, m5, m6, m7⟩ := hw
  have hts := C.2.2.2.2.1
  have hin : GoodIn TB (Cond.codeWith y bytes maxL (some .int) hh :: TB) := TB_cons m1
  intro T hT X
  rcases vx_runSX (As := As) (Ts := TB) (hh := hh) ⟨C.1, C.2.1, C.2.2.1, C.2.2.2.1, hts⟩ M ⟨⟨rfl, rfl, hF, hL, pay_in hts hin, List.mem_cons_self⟩, hts _ m1, hts _ m4, ⟨m5, m6⟩, fun sig h9 => (by rw [h9] at m7; exact (Option.some.inj m7).symm), hts _ hl, hts _ m2⟩ ⟨x_blindN, x_preN C hR hS hz⟩ rfl hn hsz hst0 (lv_room hst) hd hcs T hT X with ⟨v, st₀, t, T', L, h0, X', hL, e1, e2, ⟨r9, hr, hv, hp, hFF⟩, st⟩ | ⟨q, st₀, t, T', L, E, ce, h0, X', hL, e1, e2, hfalse, hce, hcv, hcl, st⟩
  · cases hv
    cases hr
    obtain ⟨k1, k2, k3⟩ := vx_keep h0 e1 hS (fun _ _ hq => hq) (fun _ hq => hq) hL hFF
    obtain ⟨t2, a1, b1⟩ := kk T'.heap (locs ++ L) (by rw [e1]; exact hp) k3 T' rfl X'
    exact ⟨t2, st t2 a1, b1⟩
  · exact hfalse.elim
end XU
theorem ca_0 : Cond.castable (x_en 0) (x_en 0) ∈ lw_tbl := tin_4 (List.mem_of_getElem? (i := 60) (by decide +kernel))
theorem ca_1 : Cond.castable (x_en 1) (x_en 1) ∈ lw_tbl := tin_3 (List.mem_of_getElem? (i := 198) (by decide +kernel))
theorem ca_2 : Cond.castable (x_en 2) (x_en 2) ∈ lw_tbl := tin_4 (List.mem_of_getElem? (i := 151) (by decide +kernel))
theorem ca_3 : Cond.castable (x_en 3) (x_en 3) ∈ lw_tbl := tin_4 (List.mem_of_getElem? (i := 27) (by decide +kernel))
theorem ca_4 : Cond.castable (x_en 4) (x_en 4) ∈ lw_tbl := tin_5 (List.mem_of_getElem? (i := 16) (by decide +kernel))
def f_L_law (K : XK) (x n : Nat) (h : XH) : Option (Int32 × XK × XH) := x_lbK (f_X11_law K x n h) [1, 3] (fun v h => x_l h (x + 76) (0 : Int32).toNatClampNeg v.toInt64)
set_option maxRecDepth 20000 in
theorem S_L_law {l : Launch} {O : XO} {K K' : XK} {h h' : XH} {n : Nat} {r : Int32} (hA : ∀ q, oX O ≤ q → oA O q) (hst : l.stackTraces = false) (hf : f_L_law K (oX O) n h = some (r, K', h')) : x_ML l O K K' yL_law cL_law 3 [(0, 8, 11, 13), (0, 8, 14, 15)] 30 671 6 440 h n [.ref (oX O), .ref (oX O + 76)] r h' := by
  obtain ⟨⟨z1, K1, z2⟩, eq0, hf⟩ := x_bd hf
  obtain ⟨⟨w1, w2⟩, hf2, hf⟩ := x_bd hf
  cases hf
  obtain ⟨s1, h1, e1, hE, hV⟩ := x_lbd hf2
  cases e1
  refine x_enterL (by decide) rfl (Nat.le_of_ble_eq_true rfl) (fun p e s m args below meth c C ht hR hz ls hl => ?_)
  have hS : va_S (oA O) s.heap s.heap [] := va_S.rf
  have hx := C.1
  have hb := C.2.1
  have hl : lv_has ls 3 [(0, .ref (oX O)), (1, .ref (oX O + 76))] := hl
  refine lv_aload_n hx hb dL_law_0 rfl (lv_at hl 1 rfl) ?_
  refine lv_iconst (v := 0) hx hb dL_law_1 rfl ?_
  refine lv_aload_n hx hb dL_law_2 rfl (lv_at hl 0 rfl) ?_
  refine x_lcall C hR hS (S_X11_law (l := l) hA hst eq0) x_blindN (x_preN C hR hS hz) (ci := 11) (x_k1 (x_k hR 0 rfl)) (by decide) rfl mf_X11_law tw_624 (Nat.le_of_ble_eq_true rfl) (Nat.le_of_ble_eq_true rfl) (As := []) rfl hl.1 (Nat.le_of_ble_eq_true rfl) dL_law_3 ⟨Nat.le_of_ble_eq_true rfl, Nat.le_of_ble_eq_true rfl⟩ rfl (fun e9 he9 H locs q ce hR hS hce hcv hcl => ?_) (fun r9 hr9 H locs hR hS => ?_)
  · obtain ⟨j, hj, hr, hh9⟩ := hE e9 (x_rv_inl he9)
    subst hh9
    subst hr
    have hj9 : j = 0 ∨ j = 1 := by
      have := (List.getElem?_eq_some_iff.mp hj).1
      simp only [List.length_cons, List.length_nil] at this
      omega
    rcases hj9 with rfl | rfl
    · cases hj
      refine vx_catch (name := x_en 1) C.2.2.2.1 [] ⟨0, 8, 11, 13⟩ [⟨0, 8, 14, 15⟩] (by rw [ht]; rfl) (fun z hz => nomatch hz) (by decide) (by decide) (C.2.2.2.2.1 _ tw_622) (x_hat C ca_1 rfl) hce hcv hcl ?_
      refine lv_astore_n (lv' := [(2, .ref q), (0, .ref (oX O)), (1, .ref (oX O + 76))]) hx hb dL_law_11 rfl hl (Nat.le_of_ble_eq_true rfl) rfl (fun ls hl => ?_)
      refine lv_iconst (v := 1) hx hb dL_law_12 rfl ?_
      exact xx_iret C hR hS (Nat.le_of_ble_eq_true rfl) (Nat.le_of_ble_eq_true rfl) dL_law_13
    · cases hj
      refine vx_catch (name := x_en 3) C.2.2.2.1 [⟨0, 8, 11, 13⟩] ⟨0, 8, 14, 15⟩ [] (by rw [ht]; rfl) (fun z hz => by rcases List.mem_singleton.mp hz with rfl; exact Or.inr ⟨by decide, x_en 1, C.2.2.2.2.1 _ tw_622, x_nc C (by decide) (by decide) (by decide)⟩) (by decide) (by decide) (C.2.2.2.2.1 _ tw_623) (x_hat C ca_3 rfl) hce hcv hcl ?_
      refine lv_astore_n (lv' := [(2, .ref q), (0, .ref (oX O)), (1, .ref (oX O + 76))]) hx hb dL_law_14 rfl hl (Nat.le_of_ble_eq_true rfl) rfl (fun ls hl => ?_)
      refine lv_iconst (v := 2) hx hb dL_law_15 rfl ?_
      exact xx_iret C hR hS (Nat.le_of_ble_eq_true rfl) (Nat.le_of_ble_eq_true rfl) dL_law_16
  · obtain ⟨v9, hv9, rfl⟩ := x_rv_inr hr9
    obtain ⟨rfl, hh9⟩ := hV v9 hv9
    subst hh9
    refine lv_i2l hx hb dL_law_6 rfl ?_
    refine x_last C hR hS (x_k1 (x_k hR 76 rfl)) (x_k2 (x_k hR 76 rfl) (by decide)) dL_law_7 (fun H locs hR hS => ?_)
    refine lv_goto (tgt := 17) hx hb dL_law_8 rfl ?_
    refine lv_iconst (v := 0) hx hb dL_law_17 rfl ?_
    exact xx_iret C hR hS (Nat.le_of_ble_eq_true rfl) (Nat.le_of_ble_eq_true rfl) dL_law_18
theorem lw_L_law : Cond.codeWith yL_law cL_law 3 (some .int) [(0, 8, 11, 13), (0, 8, 14, 15)] ∈ TB ∧ Cond.static yL_law ∈ TB ∧ Cond.initialized yL_law.cls ∈ TB ∧ yL_law.cls ≠ "java/lang/invoke/MethodHandle" ∧ yL_law.cls ≠ "java/lang/invoke/VarHandle" ∧ (parseMethodDescriptor yL_law.desc).map (fun d => d.parameters.length) = some 2 := ⟨TB_of (tin_3 (List.mem_of_getElem? (i := 36) (by decide +kernel))) rfl, TB_of (tin_3 (List.mem_of_getElem? (i := 35) (by decide +kernel))) rfl, TB_of (tin_1 (List.mem_of_getElem? (i := 0) (by decide +kernel))) rfl, by decide, by decide, by decide +kernel⟩
def f_L_rule (K : XK) (x n : Nat) (h : XH) : Option (Int32 × XK × XH) := x_lbK (f_X11_rule K x n h) [1, 3] (fun v h => x_l h (x + 76) (0 : Int32).toNatClampNeg v.toInt64)
set_option maxRecDepth 20000 in
theorem S_L_rule {l : Launch} {O : XO} {K K' : XK} {h h' : XH} {n : Nat} {r : Int32} (hA : ∀ q, oX O ≤ q → oA O q) (hst : l.stackTraces = false) (hf : f_L_rule K (oX O) n h = some (r, K', h')) : x_ML l O K K' yL_rule cL_rule 3 [(0, 8, 11, 13), (0, 8, 14, 15)] 30 671 6 440 h n [.ref (oX O), .ref (oX O + 76)] r h' := by
  obtain ⟨⟨z1, K1, z2⟩, eq0, hf⟩ := x_bd hf
  obtain ⟨⟨w1, w2⟩, hf2, hf⟩ := x_bd hf
  cases hf
  obtain ⟨s1, h1, e1, hE, hV⟩ := x_lbd hf2
  cases e1
  refine x_enterL (by decide) rfl (Nat.le_of_ble_eq_true rfl) (fun p e s m args below meth c C ht hR hz ls hl => ?_)
  have hS : va_S (oA O) s.heap s.heap [] := va_S.rf
  have hx := C.1
  have hb := C.2.1
  have hl : lv_has ls 3 [(0, .ref (oX O)), (1, .ref (oX O + 76))] := hl
  refine lv_aload_n hx hb dL_rule_0 rfl (lv_at hl 1 rfl) ?_
  refine lv_iconst (v := 0) hx hb dL_rule_1 rfl ?_
  refine lv_aload_n hx hb dL_rule_2 rfl (lv_at hl 0 rfl) ?_
  refine x_lcall C hR hS (S_X11_rule (l := l) hA hst eq0) x_blindN (x_preN C hR hS hz) (ci := 11) (x_k1 (x_k hR 0 rfl)) (by decide) rfl mf_X11_rule tw_869 (Nat.le_of_ble_eq_true rfl) (Nat.le_of_ble_eq_true rfl) (As := []) rfl hl.1 (Nat.le_of_ble_eq_true rfl) dL_rule_3 ⟨Nat.le_of_ble_eq_true rfl, Nat.le_of_ble_eq_true rfl⟩ rfl (fun e9 he9 H locs q ce hR hS hce hcv hcl => ?_) (fun r9 hr9 H locs hR hS => ?_)
  · obtain ⟨j, hj, hr, hh9⟩ := hE e9 (x_rv_inl he9)
    subst hh9
    subst hr
    have hj9 : j = 0 ∨ j = 1 := by
      have := (List.getElem?_eq_some_iff.mp hj).1
      simp only [List.length_cons, List.length_nil] at this
      omega
    rcases hj9 with rfl | rfl
    · cases hj
      refine vx_catch (name := x_en 1) C.2.2.2.1 [] ⟨0, 8, 11, 13⟩ [⟨0, 8, 14, 15⟩] (by rw [ht]; rfl) (fun z hz => nomatch hz) (by decide) (by decide) (C.2.2.2.2.1 _ tw_622) (x_hat C ca_1 rfl) hce hcv hcl ?_
      refine lv_astore_n (lv' := [(2, .ref q), (0, .ref (oX O)), (1, .ref (oX O + 76))]) hx hb dL_rule_11 rfl hl (Nat.le_of_ble_eq_true rfl) rfl (fun ls hl => ?_)
      refine lv_iconst (v := 1) hx hb dL_rule_12 rfl ?_
      exact xx_iret C hR hS (Nat.le_of_ble_eq_true rfl) (Nat.le_of_ble_eq_true rfl) dL_rule_13
    · cases hj
      refine vx_catch (name := x_en 3) C.2.2.2.1 [⟨0, 8, 11, 13⟩] ⟨0, 8, 14, 15⟩ [] (by rw [ht]; rfl) (fun z hz => by rcases List.mem_singleton.mp hz with rfl; exact Or.inr ⟨by decide, x_en 1, C.2.2.2.2.1 _ tw_622, x_nc C (by decide) (by decide) (by decide)⟩) (by decide) (by decide) (C.2.2.2.2.1 _ tw_623) (x_hat C ca_3 rfl) hce hcv hcl ?_
      refine lv_astore_n (lv' := [(2, .ref q), (0, .ref (oX O)), (1, .ref (oX O + 76))]) hx hb dL_rule_14 rfl hl (Nat.le_of_ble_eq_true rfl) rfl (fun ls hl => ?_)
      refine lv_iconst (v := 2) hx hb dL_rule_15 rfl ?_
      exact xx_iret C hR hS (Nat.le_of_ble_eq_true rfl) (Nat.le_of_ble_eq_true rfl) dL_rule_16
  · obtain ⟨v9, hv9, rfl⟩ := x_rv_inr hr9
    obtain ⟨rfl, hh9⟩ := hV v9 hv9
    subst hh9
    refine lv_i2l hx hb dL_rule_6 rfl ?_
    refine x_last C hR hS (x_k1 (x_k hR 76 rfl)) (x_k2 (x_k hR 76 rfl) (by decide)) dL_rule_7 (fun H locs hR hS => ?_)
    refine lv_goto (tgt := 17) hx hb dL_rule_8 rfl ?_
    refine lv_iconst (v := 0) hx hb dL_rule_17 rfl ?_
    exact xx_iret C hR hS (Nat.le_of_ble_eq_true rfl) (Nat.le_of_ble_eq_true rfl) dL_rule_18
theorem lw_L_rule : Cond.codeWith yL_rule cL_rule 3 (some .int) [(0, 8, 11, 13), (0, 8, 14, 15)] ∈ TB ∧ Cond.static yL_rule ∈ TB ∧ Cond.initialized yL_rule.cls ∈ TB ∧ yL_rule.cls ≠ "java/lang/invoke/MethodHandle" ∧ yL_rule.cls ≠ "java/lang/invoke/VarHandle" ∧ (parseMethodDescriptor yL_rule.desc).map (fun d => d.parameters.length) = some 2 := ⟨TB_of (tin_4 (List.mem_of_getElem? (i := 43) (by decide +kernel))) rfl, TB_of (tin_4 (List.mem_of_getElem? (i := 42) (by decide +kernel))) rfl, TB_of (tin_1 (List.mem_of_getElem? (i := 0) (by decide +kernel))) rfl, by decide, by decide, by decide +kernel⟩
def f_L_dull (x : Nat) (h : XH) (v1 : Int32) (v2 : Int32) (v3 : Int32) : Option (Int32 × XH) := x_lb (f_X11_dull x h v1 v2 v3) [0, 1] (fun v h => x_l h (x + 76) (0 : Int32).toNatClampNeg v.toInt64)
set_option maxRecDepth 20000 in
theorem S_L_dull {l : Launch} {O : XO} {K : XK} {h h' : XH} {n : Nat} {v1 : Int32} {v2 : Int32} {v3 : Int32} {r : Int32} (hst : l.stackTraces = false) (hf : f_L_dull (oX O) h v1 v2 v3 = some (r, h')) : x_ML l O K K yL_dull cL_dull 6 [(0, 12, 15, 24), (0, 12, 19, 13)] 7 114 1 6 h n [.ref (oX O), .int v1, .int v2, .int v3, .ref (oX O + 76)] r h' := by
  obtain ⟨s1, h1, eq0, hE, hV⟩ := x_lbd hf
  refine x_enterL (by decide) rfl (Nat.le_of_ble_eq_true rfl) (fun p e s m args below meth c C ht hR hz ls hl => ?_)
  have hS : va_S (oA O) s.heap s.heap [] := va_S.rf
  have hx := C.1
  have hb := C.2.1
  have hl : lv_has ls 6 [(0, .ref (oX O)), (1, .int v1), (2, .int v2), (3, .int v3), (4, .ref (oX O + 76))] := hl
  refine lv_aload hx hb dL_dull_0 (lv_at hl 4 rfl) ?_
  refine lv_iconst (v := 0) hx hb dL_dull_2 rfl ?_
  refine lv_aload_n hx hb dL_dull_3 rfl (lv_at hl 0 rfl) ?_
  refine lv_iload_n hx hb dL_dull_4 rfl (lv_at hl 1 rfl) ?_
  refine lv_iload_n hx hb dL_dull_5 rfl (lv_at hl 2 rfl) ?_
  refine lv_iload_n hx hb dL_dull_6 rfl (lv_at hl 3 rfl) ?_
  refine x_lcall C hR hS (S_X11_dull (l := l) (K := K) hst eq0) x_blind (x_pre C hR hS) (ci := 11) (x_k1 (x_k hR 0 rfl)) (by decide) rfl mf_X11_dull tw_879 (Nat.le_of_ble_eq_true rfl) (Nat.le_of_ble_eq_true rfl) (As := [.int v1, .int v2, .int v3]) rfl hl.1 (Nat.le_of_ble_eq_true rfl) dL_dull_7 ⟨Nat.le_of_ble_eq_true rfl, Nat.le_of_ble_eq_true rfl⟩ rfl (fun e9 he9 H locs q ce hR hS hce hcv hcl => ?_) (fun r9 hr9 H locs hR hS => ?_)
  · obtain ⟨j, hj, hr, hh9⟩ := hE e9 (x_rv_inl he9)
    subst hh9
    subst hr
    have hj9 : j = 0 ∨ j = 1 := by
      have := (List.getElem?_eq_some_iff.mp hj).1
      simp only [List.length_cons, List.length_nil] at this
      omega
    rcases hj9 with rfl | rfl
    · cases hj
      refine vx_catch (name := x_en 0) C.2.2.2.1 [] ⟨0, 12, 15, 24⟩ [⟨0, 12, 19, 13⟩] (by rw [ht]; rfl) (fun z hz => nomatch hz) (by decide) (by decide) (C.2.2.2.2.1 _ tw_878) (x_hat C ca_0 rfl) hce hcv hcl ?_
      refine lv_astore (lv' := [(5, .ref q), (0, .ref (oX O)), (1, .int v1), (2, .int v2), (3, .int v3), (4, .ref (oX O + 76))]) hx hb dL_dull_15 hl (Nat.le_of_ble_eq_true rfl) rfl (fun ls hl => ?_)
      refine lv_iconst (v := 1) hx hb dL_dull_17 rfl ?_
      exact xx_iret C hR hS (Nat.le_of_ble_eq_true rfl) (Nat.le_of_ble_eq_true rfl) dL_dull_18
    · cases hj
      refine vx_catch (name := x_en 1) C.2.2.2.1 [⟨0, 12, 15, 24⟩] ⟨0, 12, 19, 13⟩ [] (by rw [ht]; rfl) (fun z hz => by rcases List.mem_singleton.mp hz with rfl; exact Or.inr ⟨by decide, x_en 0, C.2.2.2.2.1 _ tw_878, x_nc C (by decide) (by decide) (by decide)⟩) (by decide) (by decide) (C.2.2.2.2.1 _ tw_622) (x_hat C ca_1 rfl) hce hcv hcl ?_
      refine lv_astore (lv' := [(5, .ref q), (0, .ref (oX O)), (1, .int v1), (2, .int v2), (3, .int v3), (4, .ref (oX O + 76))]) hx hb dL_dull_19 hl (Nat.le_of_ble_eq_true rfl) rfl (fun ls hl => ?_)
      refine lv_iconst (v := 2) hx hb dL_dull_21 rfl ?_
      exact xx_iret C hR hS (Nat.le_of_ble_eq_true rfl) (Nat.le_of_ble_eq_true rfl) dL_dull_22
  · obtain ⟨v9, hv9, rfl⟩ := x_rv_inr hr9
    obtain ⟨rfl, hh9⟩ := hV v9 hv9
    subst hh9
    refine lv_i2l hx hb dL_dull_10 rfl ?_
    refine x_last C hR hS (x_k1 (x_k hR 76 rfl)) (x_k2 (x_k hR 76 rfl) (by decide)) dL_dull_11 (fun H locs hR hS => ?_)
    refine lv_goto (tgt := 23) hx hb dL_dull_12 rfl ?_
    refine lv_iconst (v := 0) hx hb dL_dull_23 rfl ?_
    exact xx_iret C hR hS (Nat.le_of_ble_eq_true rfl) (Nat.le_of_ble_eq_true rfl) dL_dull_24
theorem lw_L_dull : Cond.codeWith yL_dull cL_dull 6 (some .int) [(0, 12, 15, 24), (0, 12, 19, 13)] ∈ TB ∧ Cond.static yL_dull ∈ TB ∧ Cond.initialized yL_dull.cls ∈ TB ∧ yL_dull.cls ≠ "java/lang/invoke/MethodHandle" ∧ yL_dull.cls ≠ "java/lang/invoke/VarHandle" ∧ (parseMethodDescriptor yL_dull.desc).map (fun d => d.parameters.length) = some 5 := ⟨TB_of (tin_4 (List.mem_of_getElem? (i := 52) (by decide +kernel))) rfl, TB_of (tin_4 (List.mem_of_getElem? (i := 51) (by decide +kernel))) rfl, TB_of (tin_1 (List.mem_of_getElem? (i := 0) (by decide +kernel))) rfl, by decide, by decide, by decide +kernel⟩
def f_L_house (x : Nat) (h : XH) (v1 : Int32) : Option (Int32 × XH) := x_lb (f_X11_house x h v1) [1, 3] (fun v h => x_l h (x + 76) (0 : Int32).toNatClampNeg v.toInt64)
set_option maxRecDepth 20000 in
theorem S_L_house {l : Launch} {O : XO} {K : XK} {h h' : XH} {n : Nat} {v1 : Int32} {r : Int32} (hst : l.stackTraces = false) (hf : f_L_house (oX O) h v1 = some (r, h')) : x_ML l O K K yL_house cL_house 4 [(0, 9, 12, 13), (0, 9, 15, 15)] 7 111 1 6 h n [.ref (oX O), .int v1, .ref (oX O + 76)] r h' := by
  obtain ⟨s1, h1, eq0, hE, hV⟩ := x_lbd hf
  refine x_enterL (by decide) rfl (Nat.le_of_ble_eq_true rfl) (fun p e s m args below meth c C ht hR hz ls hl => ?_)
  have hS : va_S (oA O) s.heap s.heap [] := va_S.rf
  have hx := C.1
  have hb := C.2.1
  have hl : lv_has ls 4 [(0, .ref (oX O)), (1, .int v1), (2, .ref (oX O + 76))] := hl
  refine lv_aload_n hx hb dL_house_0 rfl (lv_at hl 2 rfl) ?_
  refine lv_iconst (v := 0) hx hb dL_house_1 rfl ?_
  refine lv_aload_n hx hb dL_house_2 rfl (lv_at hl 0 rfl) ?_
  refine lv_iload_n hx hb dL_house_3 rfl (lv_at hl 1 rfl) ?_
  refine x_lcall C hR hS (S_X11_house (l := l) (K := K) hst eq0) x_blind (x_pre C hR hS) (ci := 11) (x_k1 (x_k hR 0 rfl)) (by decide) rfl mf_X11_house tw_903 (Nat.le_of_ble_eq_true rfl) (Nat.le_of_ble_eq_true rfl) (As := [.int v1]) rfl hl.1 (Nat.le_of_ble_eq_true rfl) dL_house_4 ⟨Nat.le_of_ble_eq_true rfl, Nat.le_of_ble_eq_true rfl⟩ rfl (fun e9 he9 H locs q ce hR hS hce hcv hcl => ?_) (fun r9 hr9 H locs hR hS => ?_)
  · obtain ⟨j, hj, hr, hh9⟩ := hE e9 (x_rv_inl he9)
    subst hh9
    subst hr
    have hj9 : j = 0 ∨ j = 1 := by
      have := (List.getElem?_eq_some_iff.mp hj).1
      simp only [List.length_cons, List.length_nil] at this
      omega
    rcases hj9 with rfl | rfl
    · cases hj
      refine vx_catch (name := x_en 1) C.2.2.2.1 [] ⟨0, 9, 12, 13⟩ [⟨0, 9, 15, 15⟩] (by rw [ht]; rfl) (fun z hz => nomatch hz) (by decide) (by decide) (C.2.2.2.2.1 _ tw_622) (x_hat C ca_1 rfl) hce hcv hcl ?_
      refine lv_astore_n (lv' := [(3, .ref q), (0, .ref (oX O)), (1, .int v1), (2, .ref (oX O + 76))]) hx hb dL_house_12 rfl hl (Nat.le_of_ble_eq_true rfl) rfl (fun ls hl => ?_)
      refine lv_iconst (v := 1) hx hb dL_house_13 rfl ?_
      exact xx_iret C hR hS (Nat.le_of_ble_eq_true rfl) (Nat.le_of_ble_eq_true rfl) dL_house_14
    · cases hj
      refine vx_catch (name := x_en 3) C.2.2.2.1 [⟨0, 9, 12, 13⟩] ⟨0, 9, 15, 15⟩ [] (by rw [ht]; rfl) (fun z hz => by rcases List.mem_singleton.mp hz with rfl; exact Or.inr ⟨by decide, x_en 1, C.2.2.2.2.1 _ tw_622, x_nc C (by decide) (by decide) (by decide)⟩) (by decide) (by decide) (C.2.2.2.2.1 _ tw_623) (x_hat C ca_3 rfl) hce hcv hcl ?_
      refine lv_astore_n (lv' := [(3, .ref q), (0, .ref (oX O)), (1, .int v1), (2, .ref (oX O + 76))]) hx hb dL_house_15 rfl hl (Nat.le_of_ble_eq_true rfl) rfl (fun ls hl => ?_)
      refine lv_iconst (v := 2) hx hb dL_house_16 rfl ?_
      exact xx_iret C hR hS (Nat.le_of_ble_eq_true rfl) (Nat.le_of_ble_eq_true rfl) dL_house_17
  · obtain ⟨v9, hv9, rfl⟩ := x_rv_inr hr9
    obtain ⟨rfl, hh9⟩ := hV v9 hv9
    subst hh9
    refine lv_i2l hx hb dL_house_7 rfl ?_
    refine x_last C hR hS (x_k1 (x_k hR 76 rfl)) (x_k2 (x_k hR 76 rfl) (by decide)) dL_house_8 (fun H locs hR hS => ?_)
    refine lv_goto (tgt := 18) hx hb dL_house_9 rfl ?_
    refine lv_iconst (v := 0) hx hb dL_house_18 rfl ?_
    exact xx_iret C hR hS (Nat.le_of_ble_eq_true rfl) (Nat.le_of_ble_eq_true rfl) dL_house_19
theorem lw_L_house : Cond.codeWith yL_house cL_house 4 (some .int) [(0, 9, 12, 13), (0, 9, 15, 15)] ∈ TB ∧ Cond.static yL_house ∈ TB ∧ Cond.initialized yL_house.cls ∈ TB ∧ yL_house.cls ≠ "java/lang/invoke/MethodHandle" ∧ yL_house.cls ≠ "java/lang/invoke/VarHandle" ∧ (parseMethodDescriptor yL_house.desc).map (fun d => d.parameters.length) = some 3 := ⟨TB_of (tin_4 (List.mem_of_getElem? (i := 77) (by decide +kernel))) rfl, TB_of (tin_4 (List.mem_of_getElem? (i := 76) (by decide +kernel))) rfl, TB_of (tin_1 (List.mem_of_getElem? (i := 0) (by decide +kernel))) rfl, by decide, by decide, by decide +kernel⟩
def f_L_look (x : Nat) (h : XH) (v1 : Int32) (v2 : Int32) (v3 : Int32) : Option (Int32 × XH) := x_lb (f_X11_look x h v1 v2 v3) [0, 1] (fun _ h => h)
set_option maxRecDepth 20000 in
theorem S_L_look {l : Launch} {O : XO} {K : XK} {h h' : XH} {n : Nat} {v1 : Int32} {v2 : Int32} {v3 : Int32} {r : Int32} (hst : l.stackTraces = false) (hf : f_L_look (oX O) h v1 v2 v3 = some (r, h')) : x_ML l O K K yL_look cL_look 5 [(0, 7, 10, 24), (0, 7, 14, 13)] 9 156 3 18 h n [.ref (oX O), .int v1, .int v2, .int v3] r h' := by
  obtain ⟨s1, h1, eq0, hE, hV⟩ := x_lbd hf
  refine x_enterL (by decide) rfl (Nat.le_of_ble_eq_true rfl) (fun p e s m args below meth c C ht hR hz ls hl => ?_)
  have hS : va_S (oA O) s.heap s.heap [] := va_S.rf
  have hx := C.1
  have hb := C.2.1
  have hl : lv_has ls 5 [(0, .ref (oX O)), (1, .int v1), (2, .int v2), (3, .int v3)] := hl
  refine lv_aload_n hx hb dL_look_0 rfl (lv_at hl 0 rfl) ?_
  refine lv_iload_n hx hb dL_look_1 rfl (lv_at hl 1 rfl) ?_
  refine lv_iload_n hx hb dL_look_2 rfl (lv_at hl 2 rfl) ?_
  refine lv_iload_n hx hb dL_look_3 rfl (lv_at hl 3 rfl) ?_
  refine x_lcall C hR hS (S_X11_look (l := l) (K := K) hst eq0) x_blind (x_pre C hR hS) (ci := 11) (x_k1 (x_k hR 0 rfl)) (by decide) rfl mf_X11_look tw_916 (Nat.le_of_ble_eq_true rfl) (Nat.le_of_ble_eq_true rfl) (As := [.int v1, .int v2, .int v3]) rfl hl.1 (Nat.le_of_ble_eq_true rfl) dL_look_4 ⟨Nat.le_of_ble_eq_true rfl, Nat.le_of_ble_eq_true rfl⟩ rfl (fun e9 he9 H locs q ce hR hS hce hcv hcl => ?_) (fun r9 hr9 H locs hR hS => ?_)
  · obtain ⟨j, hj, hr, hh9⟩ := hE e9 (x_rv_inl he9)
    subst hh9
    subst hr
    have hj9 : j = 0 ∨ j = 1 := by
      have := (List.getElem?_eq_some_iff.mp hj).1
      simp only [List.length_cons, List.length_nil] at this
      omega
    rcases hj9 with rfl | rfl
    · cases hj
      refine vx_catch (name := x_en 0) C.2.2.2.1 [] ⟨0, 7, 10, 24⟩ [⟨0, 7, 14, 13⟩] (by rw [ht]; rfl) (fun z hz => nomatch hz) (by decide) (by decide) (C.2.2.2.2.1 _ tw_878) (x_hat C ca_0 rfl) hce hcv hcl ?_
      refine lv_astore (lv' := [(4, .ref q), (0, .ref (oX O)), (1, .int v1), (2, .int v2), (3, .int v3)]) hx hb dL_look_10 hl (Nat.le_of_ble_eq_true rfl) rfl (fun ls hl => ?_)
      refine lv_iconst (v := 1) hx hb dL_look_12 rfl ?_
      exact xx_iret C hR hS (Nat.le_of_ble_eq_true rfl) (Nat.le_of_ble_eq_true rfl) dL_look_13
    · cases hj
      refine vx_catch (name := x_en 1) C.2.2.2.1 [⟨0, 7, 10, 24⟩] ⟨0, 7, 14, 13⟩ [] (by rw [ht]; rfl) (fun z hz => by rcases List.mem_singleton.mp hz with rfl; exact Or.inr ⟨by decide, x_en 0, C.2.2.2.2.1 _ tw_878, x_nc C (by decide) (by decide) (by decide)⟩) (by decide) (by decide) (C.2.2.2.2.1 _ tw_622) (x_hat C ca_1 rfl) hce hcv hcl ?_
      refine lv_astore (lv' := [(4, .ref q), (0, .ref (oX O)), (1, .int v1), (2, .int v2), (3, .int v3)]) hx hb dL_look_14 hl (Nat.le_of_ble_eq_true rfl) rfl (fun ls hl => ?_)
      refine lv_iconst (v := 2) hx hb dL_look_16 rfl ?_
      exact xx_iret C hR hS (Nat.le_of_ble_eq_true rfl) (Nat.le_of_ble_eq_true rfl) dL_look_17
  · obtain ⟨v9, hv9, rfl⟩ := x_rv_inr hr9
    obtain ⟨rfl, hh9⟩ := hV v9 hv9
    subst hh9
    refine lv_goto (tgt := 18) hx hb dL_look_7 rfl ?_
    refine lv_iconst (v := 0) hx hb dL_look_18 rfl ?_
    exact xx_iret C hR hS (Nat.le_of_ble_eq_true rfl) (Nat.le_of_ble_eq_true rfl) dL_look_19
theorem lw_L_look : Cond.codeWith yL_look cL_look 5 (some .int) [(0, 7, 10, 24), (0, 7, 14, 13)] ∈ TB ∧ Cond.static yL_look ∈ TB ∧ Cond.initialized yL_look.cls ∈ TB ∧ yL_look.cls ≠ "java/lang/invoke/MethodHandle" ∧ yL_look.cls ≠ "java/lang/invoke/VarHandle" ∧ (parseMethodDescriptor yL_look.desc).map (fun d => d.parameters.length) = some 4 := ⟨TB_of (tin_4 (List.mem_of_getElem? (i := 90) (by decide +kernel))) rfl, TB_of (tin_4 (List.mem_of_getElem? (i := 89) (by decide +kernel))) rfl, TB_of (tin_1 (List.mem_of_getElem? (i := 0) (by decide +kernel))) rfl, by decide, by decide, by decide +kernel⟩
def f_L_pack (K : XK) (x : Nat) (h : XH) (v1 : Int32) (v2 : Int32) (v3 : Int32) : Option (Int32 × XH) := x_lb (f_X11_pack K x h v1 v2 v3) [1, 3] (fun v h => x_l h (x + 76) (0 : Int32).toNatClampNeg v.toInt64)
set_option maxRecDepth 20000 in
theorem S_L_pack {l : Launch} {O : XO} {K : XK} {h h' : XH} {n : Nat} {v1 : Int32} {v2 : Int32} {v3 : Int32} {r : Int32} (hst : l.stackTraces = false) (hf : f_L_pack K (oX O) h v1 v2 v3 = some (r, h')) : x_ML l O K K yL_pack cL_pack 6 [(0, 12, 15, 13), (0, 12, 19, 15)] 7 113 1 6 h n [.ref (oX O), .int v1, .int v2, .int v3, .ref (oX O + 76)] r h' := by
  obtain ⟨s1, h1, eq0, hE, hV⟩ := x_lbd hf
  refine x_enterL (by decide) rfl (Nat.le_of_ble_eq_true rfl) (fun p e s m args below meth c C ht hR hz ls hl => ?_)
  have hS : va_S (oA O) s.heap s.heap [] := va_S.rf
  have hx := C.1
  have hb := C.2.1
  have hl : lv_has ls 6 [(0, .ref (oX O)), (1, .int v1), (2, .int v2), (3, .int v3), (4, .ref (oX O + 76))] := hl
  refine lv_aload hx hb dL_pack_0 (lv_at hl 4 rfl) ?_
  refine lv_iconst (v := 0) hx hb dL_pack_2 rfl ?_
  refine lv_aload_n hx hb dL_pack_3 rfl (lv_at hl 0 rfl) ?_
  refine lv_iload_n hx hb dL_pack_4 rfl (lv_at hl 1 rfl) ?_
  refine lv_iload_n hx hb dL_pack_5 rfl (lv_at hl 2 rfl) ?_
  refine lv_iload_n hx hb dL_pack_6 rfl (lv_at hl 3 rfl) ?_
  refine x_lcall C hR hS (S_X11_pack (l := l) (K := K) hst eq0) x_blind (x_pre C hR hS) (ci := 11) (x_k1 (x_k hR 0 rfl)) (by decide) rfl mf_X11_pack tw_934 (Nat.le_of_ble_eq_true rfl) (Nat.le_of_ble_eq_true rfl) (As := [.int v1, .int v2, .int v3]) rfl hl.1 (Nat.le_of_ble_eq_true rfl) dL_pack_7 ⟨Nat.le_of_ble_eq_true rfl, Nat.le_of_ble_eq_true rfl⟩ rfl (fun e9 he9 H locs q ce hR hS hce hcv hcl => ?_) (fun r9 hr9 H locs hR hS => ?_)
  · obtain ⟨j, hj, hr, hh9⟩ := hE e9 (x_rv_inl he9)
    subst hh9
    subst hr
    have hj9 : j = 0 ∨ j = 1 := by
      have := (List.getElem?_eq_some_iff.mp hj).1
      simp only [List.length_cons, List.length_nil] at this
      omega
    rcases hj9 with rfl | rfl
    · cases hj
      refine vx_catch (name := x_en 1) C.2.2.2.1 [] ⟨0, 12, 15, 13⟩ [⟨0, 12, 19, 15⟩] (by rw [ht]; rfl) (fun z hz => nomatch hz) (by decide) (by decide) (C.2.2.2.2.1 _ tw_622) (x_hat C ca_1 rfl) hce hcv hcl ?_
      refine lv_astore (lv' := [(5, .ref q), (0, .ref (oX O)), (1, .int v1), (2, .int v2), (3, .int v3), (4, .ref (oX O + 76))]) hx hb dL_pack_15 hl (Nat.le_of_ble_eq_true rfl) rfl (fun ls hl => ?_)
      refine lv_iconst (v := 1) hx hb dL_pack_17 rfl ?_
      exact xx_iret C hR hS (Nat.le_of_ble_eq_true rfl) (Nat.le_of_ble_eq_true rfl) dL_pack_18
    · cases hj
      refine vx_catch (name := x_en 3) C.2.2.2.1 [⟨0, 12, 15, 13⟩] ⟨0, 12, 19, 15⟩ [] (by rw [ht]; rfl) (fun z hz => by rcases List.mem_singleton.mp hz with rfl; exact Or.inr ⟨by decide, x_en 1, C.2.2.2.2.1 _ tw_622, x_nc C (by decide) (by decide) (by decide)⟩) (by decide) (by decide) (C.2.2.2.2.1 _ tw_623) (x_hat C ca_3 rfl) hce hcv hcl ?_
      refine lv_astore (lv' := [(5, .ref q), (0, .ref (oX O)), (1, .int v1), (2, .int v2), (3, .int v3), (4, .ref (oX O + 76))]) hx hb dL_pack_19 hl (Nat.le_of_ble_eq_true rfl) rfl (fun ls hl => ?_)
      refine lv_iconst (v := 2) hx hb dL_pack_21 rfl ?_
      exact xx_iret C hR hS (Nat.le_of_ble_eq_true rfl) (Nat.le_of_ble_eq_true rfl) dL_pack_22
  · obtain ⟨v9, hv9, rfl⟩ := x_rv_inr hr9
    obtain ⟨rfl, hh9⟩ := hV v9 hv9
    subst hh9
    refine lv_i2l hx hb dL_pack_10 rfl ?_
    refine x_last C hR hS (x_k1 (x_k hR 76 rfl)) (x_k2 (x_k hR 76 rfl) (by decide)) dL_pack_11 (fun H locs hR hS => ?_)
    refine lv_goto (tgt := 23) hx hb dL_pack_12 rfl ?_
    refine lv_iconst (v := 0) hx hb dL_pack_23 rfl ?_
    exact xx_iret C hR hS (Nat.le_of_ble_eq_true rfl) (Nat.le_of_ble_eq_true rfl) dL_pack_24
theorem lw_L_pack : Cond.codeWith yL_pack cL_pack 6 (some .int) [(0, 12, 15, 13), (0, 12, 19, 15)] ∈ TB ∧ Cond.static yL_pack ∈ TB ∧ Cond.initialized yL_pack.cls ∈ TB ∧ yL_pack.cls ≠ "java/lang/invoke/MethodHandle" ∧ yL_pack.cls ≠ "java/lang/invoke/VarHandle" ∧ (parseMethodDescriptor yL_pack.desc).map (fun d => d.parameters.length) = some 5 := ⟨TB_of (tin_4 (List.mem_of_getElem? (i := 108) (by decide +kernel))) rfl, TB_of (tin_4 (List.mem_of_getElem? (i := 107) (by decide +kernel))) rfl, TB_of (tin_1 (List.mem_of_getElem? (i := 0) (by decide +kernel))) rfl, by decide, by decide, by decide +kernel⟩
def f_L_card (x : Nat) (h : XH) (v1 : Int32) (v2 : Int32) : Option (Int32 × XH) := x_lb (f_X11_card x h v1 v2) [0] (fun v h => x_l h (x + 76) (0 : Int32).toNatClampNeg v.toInt64)
set_option maxRecDepth 20000 in
theorem S_L_card {l : Launch} {O : XO} {K : XK} {h h' : XH} {n : Nat} {v1 : Int32} {v2 : Int32} {r : Int32} (hst : l.stackTraces = false) (hf : f_L_card (oX O) h v1 v2 = some (r, h')) : x_ML l O K K yL_card cL_card 5 [(0, 10, 13, 24)] 9 155 2 12 h n [.ref (oX O), .int v1, .int v2, .ref (oX O + 76)] r h' := by
  obtain ⟨s1, h1, eq0, hE, hV⟩ := x_lbd hf
  refine x_enterL (by decide) rfl (Nat.le_of_ble_eq_true rfl) (fun p e s m args below meth c C ht hR hz ls hl => ?_)
  have hS : va_S (oA O) s.heap s.heap [] := va_S.rf
  have hx := C.1
  have hb := C.2.1
  have hl : lv_has ls 5 [(0, .ref (oX O)), (1, .int v1), (2, .int v2), (3, .ref (oX O + 76))] := hl
  refine lv_aload_n hx hb dL_card_0 rfl (lv_at hl 3 rfl) ?_
  refine lv_iconst (v := 0) hx hb dL_card_1 rfl ?_
  refine lv_aload_n hx hb dL_card_2 rfl (lv_at hl 0 rfl) ?_
  refine lv_iload_n hx hb dL_card_3 rfl (lv_at hl 1 rfl) ?_
  refine lv_iload_n hx hb dL_card_4 rfl (lv_at hl 2 rfl) ?_
  refine x_lcall C hR hS (S_X11_card (l := l) (K := K) hst eq0) x_blind (x_pre C hR hS) (ci := 11) (x_k1 (x_k hR 0 rfl)) (by decide) rfl mf_X11_card tw_951 (Nat.le_of_ble_eq_true rfl) (Nat.le_of_ble_eq_true rfl) (As := [.int v1, .int v2]) rfl hl.1 (Nat.le_of_ble_eq_true rfl) dL_card_5 ⟨Nat.le_of_ble_eq_true rfl, Nat.le_of_ble_eq_true rfl⟩ rfl (fun e9 he9 H locs q ce hR hS hce hcv hcl => ?_) (fun r9 hr9 H locs hR hS => ?_)
  · obtain ⟨j, hj, hr, hh9⟩ := hE e9 (x_rv_inl he9)
    subst hh9
    subst hr
    have hj9 : j = 0 := by
      have := (List.getElem?_eq_some_iff.mp hj).1
      simp only [List.length_cons, List.length_nil] at this
      omega
    rcases hj9 with rfl
    · cases hj
      refine vx_catch (name := x_en 0) C.2.2.2.1 [] ⟨0, 10, 13, 24⟩ [] (by rw [ht]; rfl) (fun z hz => nomatch hz) (by decide) (by decide) (C.2.2.2.2.1 _ tw_878) (x_hat C ca_0 rfl) hce hcv hcl ?_
      refine lv_astore (lv' := [(4, .ref q), (0, .ref (oX O)), (1, .int v1), (2, .int v2), (3, .ref (oX O + 76))]) hx hb dL_card_13 hl (Nat.le_of_ble_eq_true rfl) rfl (fun ls hl => ?_)
      refine lv_iconst (v := 1) hx hb dL_card_15 rfl ?_
      exact xx_iret C hR hS (Nat.le_of_ble_eq_true rfl) (Nat.le_of_ble_eq_true rfl) dL_card_16
  · obtain ⟨v9, hv9, rfl⟩ := x_rv_inr hr9
    obtain ⟨rfl, hh9⟩ := hV v9 hv9
    subst hh9
    refine lv_i2l hx hb dL_card_8 rfl ?_
    refine x_last C hR hS (x_k1 (x_k hR 76 rfl)) (x_k2 (x_k hR 76 rfl) (by decide)) dL_card_9 (fun H locs hR hS => ?_)
    refine lv_goto (tgt := 17) hx hb dL_card_10 rfl ?_
    refine lv_iconst (v := 0) hx hb dL_card_17 rfl ?_
    exact xx_iret C hR hS (Nat.le_of_ble_eq_true rfl) (Nat.le_of_ble_eq_true rfl) dL_card_18
theorem lw_L_card : Cond.codeWith yL_card cL_card 5 (some .int) [(0, 10, 13, 24)] ∈ TB ∧ Cond.static yL_card ∈ TB ∧ Cond.initialized yL_card.cls ∈ TB ∧ yL_card.cls ≠ "java/lang/invoke/MethodHandle" ∧ yL_card.cls ≠ "java/lang/invoke/VarHandle" ∧ (parseMethodDescriptor yL_card.desc).map (fun d => d.parameters.length) = some 4 := ⟨TB_of (tin_4 (List.mem_of_getElem? (i := 125) (by decide +kernel))) rfl, TB_of (tin_4 (List.mem_of_getElem? (i := 124) (by decide +kernel))) rfl, TB_of (tin_1 (List.mem_of_getElem? (i := 0) (by decide +kernel))) rfl, by decide, by decide, by decide +kernel⟩
def f_L_put (x : Nat) (h : XH) (v1 : Int32) (v2 : Int32) (v3 : Int32) (v4 : Int32) (v5 : Int32) : Option (Int32 × XH) := x_lb (f_X11_put x h v1 v2 v3 v4 v5) [0, 2, 1] (fun v h => x_l h (x + 76) (0 : Int32).toNatClampNeg v.toInt64)
set_option maxRecDepth 20000 in
theorem S_L_put {l : Launch} {O : XO} {K : XK} {h h' : XH} {n : Nat} {v1 : Int32} {v2 : Int32} {v3 : Int32} {v4 : Int32} {v5 : Int32} {r : Int32} (hst : l.stackTraces = false) (hf : f_L_put (oX O) h v1 v2 v3 v4 v5 = some (r, h')) : x_ML l O K K yL_put cL_put 8 [(0, 16, 19, 24), (0, 16, 23, 45), (0, 16, 27, 13)] 9 160 7 42 h n [.ref (oX O), .int v1, .int v2, .int v3, .int v4, .int v5, .ref (oX O + 76)] r h' := by
  obtain ⟨s1, h1, eq0, hE, hV⟩ := x_lbd hf
  refine x_enterL (by decide) rfl (Nat.le_of_ble_eq_true rfl) (fun p e s m args below meth c C ht hR hz ls hl => ?_)
  have hS : va_S (oA O) s.heap s.heap [] := va_S.rf
  have hx := C.1
  have hb := C.2.1
  have hl : lv_has ls 8 [(0, .ref (oX O)), (1, .int v1), (2, .int v2), (3, .int v3), (4, .int v4), (5, .int v5), (6, .ref (oX O + 76))] := hl
  refine lv_aload hx hb dL_put_0 (lv_at hl 6 rfl) ?_
  refine lv_iconst (v := 0) hx hb dL_put_2 rfl ?_
  refine lv_aload_n hx hb dL_put_3 rfl (lv_at hl 0 rfl) ?_
  refine lv_iload_n hx hb dL_put_4 rfl (lv_at hl 1 rfl) ?_
  refine lv_iload_n hx hb dL_put_5 rfl (lv_at hl 2 rfl) ?_
  refine lv_iload_n hx hb dL_put_6 rfl (lv_at hl 3 rfl) ?_
  refine lv_iload hx hb dL_put_7 (lv_at hl 4 rfl) ?_
  refine lv_iload hx hb dL_put_9 (lv_at hl 5 rfl) ?_
  refine x_lcall C hR hS (S_X11_put (l := l) (K := K) hst eq0) x_blind (x_pre C hR hS) (ci := 11) (x_k1 (x_k hR 0 rfl)) (by decide) rfl mf_X11_put tw_970 (Nat.le_of_ble_eq_true rfl) (Nat.le_of_ble_eq_true rfl) (As := [.int v1, .int v2, .int v3, .int v4, .int v5]) rfl hl.1 (Nat.le_of_ble_eq_true rfl) dL_put_11 ⟨Nat.le_of_ble_eq_true rfl, Nat.le_of_ble_eq_true rfl⟩ rfl (fun e9 he9 H locs q ce hR hS hce hcv hcl => ?_) (fun r9 hr9 H locs hR hS => ?_)
  · obtain ⟨j, hj, hr, hh9⟩ := hE e9 (x_rv_inl he9)
    subst hh9
    subst hr
    have hj9 : j = 0 ∨ j = 1 ∨ j = 2 := by
      have := (List.getElem?_eq_some_iff.mp hj).1
      simp only [List.length_cons, List.length_nil] at this
      omega
    rcases hj9 with rfl | rfl | rfl
    · cases hj
      refine vx_catch (name := x_en 0) C.2.2.2.1 [] ⟨0, 16, 19, 24⟩ [⟨0, 16, 23, 45⟩, ⟨0, 16, 27, 13⟩] (by rw [ht]; rfl) (fun z hz => nomatch hz) (by decide) (by decide) (C.2.2.2.2.1 _ tw_878) (x_hat C ca_0 rfl) hce hcv hcl ?_
      refine lv_astore (lv' := [(7, .ref q), (0, .ref (oX O)), (1, .int v1), (2, .int v2), (3, .int v3), (4, .int v4), (5, .int v5), (6, .ref (oX O + 76))]) hx hb dL_put_19 hl (Nat.le_of_ble_eq_true rfl) rfl (fun ls hl => ?_)
      refine lv_iconst (v := 1) hx hb dL_put_21 rfl ?_
      exact xx_iret C hR hS (Nat.le_of_ble_eq_true rfl) (Nat.le_of_ble_eq_true rfl) dL_put_22
    · cases hj
      refine vx_catch (name := x_en 2) C.2.2.2.1 [⟨0, 16, 19, 24⟩] ⟨0, 16, 23, 45⟩ [⟨0, 16, 27, 13⟩] (by rw [ht]; rfl) (fun z hz => by rcases List.mem_singleton.mp hz with rfl; exact Or.inr ⟨by decide, x_en 0, C.2.2.2.2.1 _ tw_878, x_nc C (by decide) (by decide) (by decide)⟩) (by decide) (by decide) (C.2.2.2.2.1 _ tw_969) (x_hat C ca_2 rfl) hce hcv hcl ?_
      refine lv_astore (lv' := [(7, .ref q), (0, .ref (oX O)), (1, .int v1), (2, .int v2), (3, .int v3), (4, .int v4), (5, .int v5), (6, .ref (oX O + 76))]) hx hb dL_put_23 hl (Nat.le_of_ble_eq_true rfl) rfl (fun ls hl => ?_)
      refine lv_iconst (v := 2) hx hb dL_put_25 rfl ?_
      exact xx_iret C hR hS (Nat.le_of_ble_eq_true rfl) (Nat.le_of_ble_eq_true rfl) dL_put_26
    · cases hj
      refine vx_catch (name := x_en 1) C.2.2.2.1 [⟨0, 16, 19, 24⟩, ⟨0, 16, 23, 45⟩] ⟨0, 16, 27, 13⟩ [] (by rw [ht]; rfl) (fun z hz => by rcases List.mem_cons.mp hz with rfl | hz; exact Or.inr ⟨by decide, x_en 0, C.2.2.2.2.1 _ tw_878, x_nc C (by decide) (by decide) (by decide)⟩; rcases List.mem_singleton.mp hz with rfl; exact Or.inr ⟨by decide, x_en 2, C.2.2.2.2.1 _ tw_969, x_nc C (by decide) (by decide) (by decide)⟩) (by decide) (by decide) (C.2.2.2.2.1 _ tw_622) (x_hat C ca_1 rfl) hce hcv hcl ?_
      refine lv_astore (lv' := [(7, .ref q), (0, .ref (oX O)), (1, .int v1), (2, .int v2), (3, .int v3), (4, .int v4), (5, .int v5), (6, .ref (oX O + 76))]) hx hb dL_put_27 hl (Nat.le_of_ble_eq_true rfl) rfl (fun ls hl => ?_)
      refine lv_iconst (v := 3) hx hb dL_put_29 rfl ?_
      exact xx_iret C hR hS (Nat.le_of_ble_eq_true rfl) (Nat.le_of_ble_eq_true rfl) dL_put_30
  · obtain ⟨v9, hv9, rfl⟩ := x_rv_inr hr9
    obtain ⟨rfl, hh9⟩ := hV v9 hv9
    subst hh9
    refine lv_i2l hx hb dL_put_14 rfl ?_
    refine x_last C hR hS (x_k1 (x_k hR 76 rfl)) (x_k2 (x_k hR 76 rfl) (by decide)) dL_put_15 (fun H locs hR hS => ?_)
    refine lv_goto (tgt := 31) hx hb dL_put_16 rfl ?_
    refine lv_iconst (v := 0) hx hb dL_put_31 rfl ?_
    exact xx_iret C hR hS (Nat.le_of_ble_eq_true rfl) (Nat.le_of_ble_eq_true rfl) dL_put_32
theorem lw_L_put : Cond.codeWith yL_put cL_put 8 (some .int) [(0, 16, 19, 24), (0, 16, 23, 45), (0, 16, 27, 13)] ∈ TB ∧ Cond.static yL_put ∈ TB ∧ Cond.initialized yL_put.cls ∈ TB ∧ yL_put.cls ≠ "java/lang/invoke/MethodHandle" ∧ yL_put.cls ≠ "java/lang/invoke/VarHandle" ∧ (parseMethodDescriptor yL_put.desc).map (fun d => d.parameters.length) = some 7 := ⟨TB_of (tin_4 (List.mem_of_getElem? (i := 143) (by decide +kernel))) rfl, TB_of (tin_4 (List.mem_of_getElem? (i := 142) (by decide +kernel))) rfl, TB_of (tin_1 (List.mem_of_getElem? (i := 0) (by decide +kernel))) rfl, by decide, by decide, by decide +kernel⟩
def f_L_later (x : Nat) (h : XH) (v1 : Int32) : Option (Int32 × XH) := x_lb (f_X11_later x h v1) [1] (fun v h => x_l h (x + 76) (0 : Int32).toNatClampNeg v.toInt64)
set_option maxRecDepth 20000 in
theorem S_L_later {l : Launch} {O : XO} {K : XK} {h h' : XH} {n : Nat} {v1 : Int32} {r : Int32} (hst : l.stackTraces = false) (hf : f_L_later (oX O) h v1 = some (r, h')) : x_ML l O K K yL_later cL_later 4 [(0, 9, 12, 13)] 8 132 2 12 h n [.ref (oX O), .int v1, .ref (oX O + 76)] r h' := by
  obtain ⟨s1, h1, eq0, hE, hV⟩ := x_lbd hf
  refine x_enterL (by decide) rfl (Nat.le_of_ble_eq_true rfl) (fun p e s m args below meth c C ht hR hz ls hl => ?_)
  have hS : va_S (oA O) s.heap s.heap [] := va_S.rf
  have hx := C.1
  have hb := C.2.1
  have hl : lv_has ls 4 [(0, .ref (oX O)), (1, .int v1), (2, .ref (oX O + 76))] := hl
  refine lv_aload_n hx hb dL_later_0 rfl (lv_at hl 2 rfl) ?_
  refine lv_iconst (v := 0) hx hb dL_later_1 rfl ?_
  refine lv_aload_n hx hb dL_later_2 rfl (lv_at hl 0 rfl) ?_
  refine lv_iload_n hx hb dL_later_3 rfl (lv_at hl 1 rfl) ?_
  refine x_lcall C hR hS (S_X11_later (l := l) (K := K) hst eq0) x_blind (x_pre C hR hS) (ci := 11) (x_k1 (x_k hR 0 rfl)) (by decide) rfl mf_X11_later tw_1022 (Nat.le_of_ble_eq_true rfl) (Nat.le_of_ble_eq_true rfl) (As := [.int v1]) rfl hl.1 (Nat.le_of_ble_eq_true rfl) dL_later_4 ⟨Nat.le_of_ble_eq_true rfl, Nat.le_of_ble_eq_true rfl⟩ rfl (fun e9 he9 H locs q ce hR hS hce hcv hcl => ?_) (fun r9 hr9 H locs hR hS => ?_)
  · obtain ⟨j, hj, hr, hh9⟩ := hE e9 (x_rv_inl he9)
    subst hh9
    subst hr
    have hj9 : j = 0 := by
      have := (List.getElem?_eq_some_iff.mp hj).1
      simp only [List.length_cons, List.length_nil] at this
      omega
    rcases hj9 with rfl
    · cases hj
      refine vx_catch (name := x_en 1) C.2.2.2.1 [] ⟨0, 9, 12, 13⟩ [] (by rw [ht]; rfl) (fun z hz => nomatch hz) (by decide) (by decide) (C.2.2.2.2.1 _ tw_622) (x_hat C ca_1 rfl) hce hcv hcl ?_
      refine lv_astore_n (lv' := [(3, .ref q), (0, .ref (oX O)), (1, .int v1), (2, .ref (oX O + 76))]) hx hb dL_later_12 rfl hl (Nat.le_of_ble_eq_true rfl) rfl (fun ls hl => ?_)
      refine lv_iconst (v := 1) hx hb dL_later_13 rfl ?_
      exact xx_iret C hR hS (Nat.le_of_ble_eq_true rfl) (Nat.le_of_ble_eq_true rfl) dL_later_14
  · obtain ⟨v9, hv9, rfl⟩ := x_rv_inr hr9
    obtain ⟨rfl, hh9⟩ := hV v9 hv9
    subst hh9
    refine lv_i2l hx hb dL_later_7 rfl ?_
    refine x_last C hR hS (x_k1 (x_k hR 76 rfl)) (x_k2 (x_k hR 76 rfl) (by decide)) dL_later_8 (fun H locs hR hS => ?_)
    refine lv_goto (tgt := 15) hx hb dL_later_9 rfl ?_
    refine lv_iconst (v := 0) hx hb dL_later_15 rfl ?_
    exact xx_iret C hR hS (Nat.le_of_ble_eq_true rfl) (Nat.le_of_ble_eq_true rfl) dL_later_16
theorem lw_L_later : Cond.codeWith yL_later cL_later 4 (some .int) [(0, 9, 12, 13)] ∈ TB ∧ Cond.static yL_later ∈ TB ∧ Cond.initialized yL_later.cls ∈ TB ∧ yL_later.cls ≠ "java/lang/invoke/MethodHandle" ∧ yL_later.cls ≠ "java/lang/invoke/VarHandle" ∧ (parseMethodDescriptor yL_later.desc).map (fun d => d.parameters.length) = some 3 := ⟨TB_of (tin_4 (List.mem_of_getElem? (i := 196) (by decide +kernel))) rfl, TB_of (tin_4 (List.mem_of_getElem? (i := 195) (by decide +kernel))) rfl, TB_of (tin_1 (List.mem_of_getElem? (i := 0) (by decide +kernel))) rfl, by decide, by decide, by decide +kernel⟩
def f_L_go (x : Nat) (h : XH) (v1 : Int32) (v2 : Int32) : Option (Int32 × XH) := x_lb (f_X11_go x h v1 v2) [0, 2, 1] (fun v h => x_l h (x + 76) (0 : Int32).toNatClampNeg v.toInt64)
set_option maxRecDepth 20000 in
theorem S_L_go {l : Launch} {O : XO} {K : XK} {h h' : XH} {n : Nat} {v1 : Int32} {v2 : Int32} {r : Int32} (hst : l.stackTraces = false) (hf : f_L_go (oX O) h v1 v2 = some (r, h')) : x_ML l O K K yL_go cL_go 5 [(0, 10, 13, 24), (0, 10, 17, 45), (0, 10, 21, 13)] 9 156 4 24 h n [.ref (oX O), .int v1, .int v2, .ref (oX O + 76)] r h' := by
  obtain ⟨s1, h1, eq0, hE, hV⟩ := x_lbd hf
  refine x_enterL (by decide) rfl (Nat.le_of_ble_eq_true rfl) (fun p e s m args below meth c C ht hR hz ls hl => ?_)
  have hS : va_S (oA O) s.heap s.heap [] := va_S.rf
  have hx := C.1
  have hb := C.2.1
  have hl : lv_has ls 5 [(0, .ref (oX O)), (1, .int v1), (2, .int v2), (3, .ref (oX O + 76))] := hl
  refine lv_aload_n hx hb dL_go_0 rfl (lv_at hl 3 rfl) ?_
  refine lv_iconst (v := 0) hx hb dL_go_1 rfl ?_
  refine lv_aload_n hx hb dL_go_2 rfl (lv_at hl 0 rfl) ?_
  refine lv_iload_n hx hb dL_go_3 rfl (lv_at hl 1 rfl) ?_
  refine lv_iload_n hx hb dL_go_4 rfl (lv_at hl 2 rfl) ?_
  refine x_lcall C hR hS (S_X11_go (l := l) (K := K) hst eq0) x_blind (x_pre C hR hS) (ci := 11) (x_k1 (x_k hR 0 rfl)) (by decide) rfl mf_X11_go tw_1030 (Nat.le_of_ble_eq_true rfl) (Nat.le_of_ble_eq_true rfl) (As := [.int v1, .int v2]) rfl hl.1 (Nat.le_of_ble_eq_true rfl) dL_go_5 ⟨Nat.le_of_ble_eq_true rfl, Nat.le_of_ble_eq_true rfl⟩ rfl (fun e9 he9 H locs q ce hR hS hce hcv hcl => ?_) (fun r9 hr9 H locs hR hS => ?_)
  · obtain ⟨j, hj, hr, hh9⟩ := hE e9 (x_rv_inl he9)
    subst hh9
    subst hr
    have hj9 : j = 0 ∨ j = 1 ∨ j = 2 := by
      have := (List.getElem?_eq_some_iff.mp hj).1
      simp only [List.length_cons, List.length_nil] at this
      omega
    rcases hj9 with rfl | rfl | rfl
    · cases hj
      refine vx_catch (name := x_en 0) C.2.2.2.1 [] ⟨0, 10, 13, 24⟩ [⟨0, 10, 17, 45⟩, ⟨0, 10, 21, 13⟩] (by rw [ht]; rfl) (fun z hz => nomatch hz) (by decide) (by decide) (C.2.2.2.2.1 _ tw_878) (x_hat C ca_0 rfl) hce hcv hcl ?_
      refine lv_astore (lv' := [(4, .ref q), (0, .ref (oX O)), (1, .int v1), (2, .int v2), (3, .ref (oX O + 76))]) hx hb dL_go_13 hl (Nat.le_of_ble_eq_true rfl) rfl (fun ls hl => ?_)
      refine lv_iconst (v := 1) hx hb dL_go_15 rfl ?_
      exact xx_iret C hR hS (Nat.le_of_ble_eq_true rfl) (Nat.le_of_ble_eq_true rfl) dL_go_16
    · cases hj
      refine vx_catch (name := x_en 2) C.2.2.2.1 [⟨0, 10, 13, 24⟩] ⟨0, 10, 17, 45⟩ [⟨0, 10, 21, 13⟩] (by rw [ht]; rfl) (fun z hz => by rcases List.mem_singleton.mp hz with rfl; exact Or.inr ⟨by decide, x_en 0, C.2.2.2.2.1 _ tw_878, x_nc C (by decide) (by decide) (by decide)⟩) (by decide) (by decide) (C.2.2.2.2.1 _ tw_969) (x_hat C ca_2 rfl) hce hcv hcl ?_
      refine lv_astore (lv' := [(4, .ref q), (0, .ref (oX O)), (1, .int v1), (2, .int v2), (3, .ref (oX O + 76))]) hx hb dL_go_17 hl (Nat.le_of_ble_eq_true rfl) rfl (fun ls hl => ?_)
      refine lv_iconst (v := 2) hx hb dL_go_19 rfl ?_
      exact xx_iret C hR hS (Nat.le_of_ble_eq_true rfl) (Nat.le_of_ble_eq_true rfl) dL_go_20
    · cases hj
      refine vx_catch (name := x_en 1) C.2.2.2.1 [⟨0, 10, 13, 24⟩, ⟨0, 10, 17, 45⟩] ⟨0, 10, 21, 13⟩ [] (by rw [ht]; rfl) (fun z hz => by rcases List.mem_cons.mp hz with rfl | hz; exact Or.inr ⟨by decide, x_en 0, C.2.2.2.2.1 _ tw_878, x_nc C (by decide) (by decide) (by decide)⟩; rcases List.mem_singleton.mp hz with rfl; exact Or.inr ⟨by decide, x_en 2, C.2.2.2.2.1 _ tw_969, x_nc C (by decide) (by decide) (by decide)⟩) (by decide) (by decide) (C.2.2.2.2.1 _ tw_622) (x_hat C ca_1 rfl) hce hcv hcl ?_
      refine lv_astore (lv' := [(4, .ref q), (0, .ref (oX O)), (1, .int v1), (2, .int v2), (3, .ref (oX O + 76))]) hx hb dL_go_21 hl (Nat.le_of_ble_eq_true rfl) rfl (fun ls hl => ?_)
      refine lv_iconst (v := 3) hx hb dL_go_23 rfl ?_
      exact xx_iret C hR hS (Nat.le_of_ble_eq_true rfl) (Nat.le_of_ble_eq_true rfl) dL_go_24
  · obtain ⟨v9, hv9, rfl⟩ := x_rv_inr hr9
    obtain ⟨rfl, hh9⟩ := hV v9 hv9
    subst hh9
    refine lv_i2l hx hb dL_go_8 rfl ?_
    refine x_last C hR hS (x_k1 (x_k hR 76 rfl)) (x_k2 (x_k hR 76 rfl) (by decide)) dL_go_9 (fun H locs hR hS => ?_)
    refine lv_goto (tgt := 25) hx hb dL_go_10 rfl ?_
    refine lv_iconst (v := 0) hx hb dL_go_25 rfl ?_
    exact xx_iret C hR hS (Nat.le_of_ble_eq_true rfl) (Nat.le_of_ble_eq_true rfl) dL_go_26
theorem lw_L_go : Cond.codeWith yL_go cL_go 5 (some .int) [(0, 10, 13, 24), (0, 10, 17, 45), (0, 10, 21, 13)] ∈ TB ∧ Cond.static yL_go ∈ TB ∧ Cond.initialized yL_go.cls ∈ TB ∧ yL_go.cls ≠ "java/lang/invoke/MethodHandle" ∧ yL_go.cls ≠ "java/lang/invoke/VarHandle" ∧ (parseMethodDescriptor yL_go.desc).map (fun d => d.parameters.length) = some 4 := ⟨TB_of (tin_4 (List.mem_of_getElem? (i := 204) (by decide +kernel))) rfl, TB_of (tin_4 (List.mem_of_getElem? (i := 203) (by decide +kernel))) rfl, TB_of (tin_1 (List.mem_of_getElem? (i := 0) (by decide +kernel))) rfl, by decide, by decide, by decide +kernel⟩
def f_L_about (x : Nat) (h : XH) (v1 : Int32) (v2 : Int32) (v3 : Int32) : Option (Int32 × XH) := x_lb (f_X11_about x h v1 v2 v3) [0, 2, 4] (fun v h => x_l h (x + 76) (0 : Int32).toNatClampNeg v.toInt64)
set_option maxRecDepth 20000 in
theorem S_L_about {l : Launch} {O : XO} {K : XK} {h h' : XH} {n : Nat} {v1 : Int32} {v2 : Int32} {v3 : Int32} {r : Int32} (hst : l.stackTraces = false) (hf : f_L_about (oX O) h v1 v2 v3 = some (r, h')) : x_ML l O K K yL_about cL_about 6 [(0, 12, 15, 24), (0, 12, 19, 45), (0, 12, 23, 56)] 9 159 5 30 h n [.ref (oX O), .int v1, .int v2, .int v3, .ref (oX O + 76)] r h' := by
  obtain ⟨s1, h1, eq0, hE, hV⟩ := x_lbd hf
  refine x_enterL (by decide) rfl (Nat.le_of_ble_eq_true rfl) (fun p e s m args below meth c C ht hR hz ls hl => ?_)
  have hS : va_S (oA O) s.heap s.heap [] := va_S.rf
  have hx := C.1
  have hb := C.2.1
  have hl : lv_has ls 6 [(0, .ref (oX O)), (1, .int v1), (2, .int v2), (3, .int v3), (4, .ref (oX O + 76))] := hl
  refine lv_aload hx hb dL_about_0 (lv_at hl 4 rfl) ?_
  refine lv_iconst (v := 0) hx hb dL_about_2 rfl ?_
  refine lv_aload_n hx hb dL_about_3 rfl (lv_at hl 0 rfl) ?_
  refine lv_iload_n hx hb dL_about_4 rfl (lv_at hl 1 rfl) ?_
  refine lv_iload_n hx hb dL_about_5 rfl (lv_at hl 2 rfl) ?_
  refine lv_iload_n hx hb dL_about_6 rfl (lv_at hl 3 rfl) ?_
  refine x_lcall C hR hS (S_X11_about (l := l) (K := K) hst eq0) x_blind (x_pre C hR hS) (ci := 11) (x_k1 (x_k hR 0 rfl)) (by decide) rfl mf_X11_about tw_1048 (Nat.le_of_ble_eq_true rfl) (Nat.le_of_ble_eq_true rfl) (As := [.int v1, .int v2, .int v3]) rfl hl.1 (Nat.le_of_ble_eq_true rfl) dL_about_7 ⟨Nat.le_of_ble_eq_true rfl, Nat.le_of_ble_eq_true rfl⟩ rfl (fun e9 he9 H locs q ce hR hS hce hcv hcl => ?_) (fun r9 hr9 H locs hR hS => ?_)
  · obtain ⟨j, hj, hr, hh9⟩ := hE e9 (x_rv_inl he9)
    subst hh9
    subst hr
    have hj9 : j = 0 ∨ j = 1 ∨ j = 2 := by
      have := (List.getElem?_eq_some_iff.mp hj).1
      simp only [List.length_cons, List.length_nil] at this
      omega
    rcases hj9 with rfl | rfl | rfl
    · cases hj
      refine vx_catch (name := x_en 0) C.2.2.2.1 [] ⟨0, 12, 15, 24⟩ [⟨0, 12, 19, 45⟩, ⟨0, 12, 23, 56⟩] (by rw [ht]; rfl) (fun z hz => nomatch hz) (by decide) (by decide) (C.2.2.2.2.1 _ tw_878) (x_hat C ca_0 rfl) hce hcv hcl ?_
      refine lv_astore (lv' := [(5, .ref q), (0, .ref (oX O)), (1, .int v1), (2, .int v2), (3, .int v3), (4, .ref (oX O + 76))]) hx hb dL_about_15 hl (Nat.le_of_ble_eq_true rfl) rfl (fun ls hl => ?_)
      refine lv_iconst (v := 1) hx hb dL_about_17 rfl ?_
      exact xx_iret C hR hS (Nat.le_of_ble_eq_true rfl) (Nat.le_of_ble_eq_true rfl) dL_about_18
    · cases hj
      refine vx_catch (name := x_en 2) C.2.2.2.1 [⟨0, 12, 15, 24⟩] ⟨0, 12, 19, 45⟩ [⟨0, 12, 23, 56⟩] (by rw [ht]; rfl) (fun z hz => by rcases List.mem_singleton.mp hz with rfl; exact Or.inr ⟨by decide, x_en 0, C.2.2.2.2.1 _ tw_878, x_nc C (by decide) (by decide) (by decide)⟩) (by decide) (by decide) (C.2.2.2.2.1 _ tw_969) (x_hat C ca_2 rfl) hce hcv hcl ?_
      refine lv_astore (lv' := [(5, .ref q), (0, .ref (oX O)), (1, .int v1), (2, .int v2), (3, .int v3), (4, .ref (oX O + 76))]) hx hb dL_about_19 hl (Nat.le_of_ble_eq_true rfl) rfl (fun ls hl => ?_)
      refine lv_iconst (v := 2) hx hb dL_about_21 rfl ?_
      exact xx_iret C hR hS (Nat.le_of_ble_eq_true rfl) (Nat.le_of_ble_eq_true rfl) dL_about_22
    · cases hj
      refine vx_catch (name := x_en 4) C.2.2.2.1 [⟨0, 12, 15, 24⟩, ⟨0, 12, 19, 45⟩] ⟨0, 12, 23, 56⟩ [] (by rw [ht]; rfl) (fun z hz => by rcases List.mem_cons.mp hz with rfl | hz; exact Or.inr ⟨by decide, x_en 0, C.2.2.2.2.1 _ tw_878, x_nc C (by decide) (by decide) (by decide)⟩; rcases List.mem_singleton.mp hz with rfl; exact Or.inr ⟨by decide, x_en 2, C.2.2.2.2.1 _ tw_969, x_nc C (by decide) (by decide) (by decide)⟩) (by decide) (by decide) (C.2.2.2.2.1 _ tw_1047) (x_hat C ca_4 rfl) hce hcv hcl ?_
      refine lv_astore (lv' := [(5, .ref q), (0, .ref (oX O)), (1, .int v1), (2, .int v2), (3, .int v3), (4, .ref (oX O + 76))]) hx hb dL_about_23 hl (Nat.le_of_ble_eq_true rfl) rfl (fun ls hl => ?_)
      refine lv_iconst (v := 3) hx hb dL_about_25 rfl ?_
      exact xx_iret C hR hS (Nat.le_of_ble_eq_true rfl) (Nat.le_of_ble_eq_true rfl) dL_about_26
  · obtain ⟨v9, hv9, rfl⟩ := x_rv_inr hr9
    obtain ⟨rfl, hh9⟩ := hV v9 hv9
    subst hh9
    refine lv_i2l hx hb dL_about_10 rfl ?_
    refine x_last C hR hS (x_k1 (x_k hR 76 rfl)) (x_k2 (x_k hR 76 rfl) (by decide)) dL_about_11 (fun H locs hR hS => ?_)
    refine lv_goto (tgt := 27) hx hb dL_about_12 rfl ?_
    refine lv_iconst (v := 0) hx hb dL_about_27 rfl ?_
    exact xx_iret C hR hS (Nat.le_of_ble_eq_true rfl) (Nat.le_of_ble_eq_true rfl) dL_about_28
theorem lw_L_about : Cond.codeWith yL_about cL_about 6 (some .int) [(0, 12, 15, 24), (0, 12, 19, 45), (0, 12, 23, 56)] ∈ TB ∧ Cond.static yL_about ∈ TB ∧ Cond.initialized yL_about.cls ∈ TB ∧ yL_about.cls ≠ "java/lang/invoke/MethodHandle" ∧ yL_about.cls ≠ "java/lang/invoke/VarHandle" ∧ (parseMethodDescriptor yL_about.desc).map (fun d => d.parameters.length) = some 5 := ⟨TB_of (tin_4 (List.mem_of_getElem? (i := 221) (by decide +kernel))) rfl, TB_of (tin_4 (List.mem_of_getElem? (i := 220) (by decide +kernel))) rfl, TB_of (tin_1 (List.mem_of_getElem? (i := 0) (by decide +kernel))) rfl, by decide, by decide, by decide +kernel⟩
def f_L_holds (K : XK) (x : Nat) (h : XH) (v1 : Int32) (v2 : Int32) (v3 : Int32) : Option (Int32 × XH) := x_lb (f_X11_holds K x h v1 v2 v3) [0, 2] (fun v h => x_l h (x + 76) (0 : Int32).toNatClampNeg v.toInt64)
set_option maxRecDepth 20000 in
theorem S_L_holds {l : Launch} {O : XO} {K : XK} {h h' : XH} {n : Nat} {v1 : Int32} {v2 : Int32} {v3 : Int32} {r : Int32} (hst : l.stackTraces = false) (hf : f_L_holds K (oX O) h v1 v2 v3 = some (r, h')) : x_ML l O K K yL_holds cL_holds 6 [(0, 12, 15, 24), (0, 12, 19, 45)] 9 156 5 30 h n [.ref (oX O), .int v1, .int v2, .int v3, .ref (oX O + 76)] r h' := by
  obtain ⟨s1, h1, eq0, hE, hV⟩ := x_lbd hf
  refine x_enterL (by decide) rfl (Nat.le_of_ble_eq_true rfl) (fun p e s m args below meth c C ht hR hz ls hl => ?_)
  have hS : va_S (oA O) s.heap s.heap [] := va_S.rf
  have hx := C.1
  have hb := C.2.1
  have hl : lv_has ls 6 [(0, .ref (oX O)), (1, .int v1), (2, .int v2), (3, .int v3), (4, .ref (oX O + 76))] := hl
  refine lv_aload hx hb dL_holds_0 (lv_at hl 4 rfl) ?_
  refine lv_iconst (v := 0) hx hb dL_holds_2 rfl ?_
  refine lv_aload_n hx hb dL_holds_3 rfl (lv_at hl 0 rfl) ?_
  refine lv_iload_n hx hb dL_holds_4 rfl (lv_at hl 1 rfl) ?_
  refine lv_iload_n hx hb dL_holds_5 rfl (lv_at hl 2 rfl) ?_
  refine lv_iload_n hx hb dL_holds_6 rfl (lv_at hl 3 rfl) ?_
  refine x_lcall C hR hS (S_X11_holds (l := l) (K := K) hst eq0) x_blind (x_pre C hR hS) (ci := 11) (x_k1 (x_k hR 0 rfl)) (by decide) rfl mf_X11_holds tw_1098 (Nat.le_of_ble_eq_true rfl) (Nat.le_of_ble_eq_true rfl) (As := [.int v1, .int v2, .int v3]) rfl hl.1 (Nat.le_of_ble_eq_true rfl) dL_holds_7 ⟨Nat.le_of_ble_eq_true rfl, Nat.le_of_ble_eq_true rfl⟩ rfl (fun e9 he9 H locs q ce hR hS hce hcv hcl => ?_) (fun r9 hr9 H locs hR hS => ?_)
  · obtain ⟨j, hj, hr, hh9⟩ := hE e9 (x_rv_inl he9)
    subst hh9
    subst hr
    have hj9 : j = 0 ∨ j = 1 := by
      have := (List.getElem?_eq_some_iff.mp hj).1
      simp only [List.length_cons, List.length_nil] at this
      omega
    rcases hj9 with rfl | rfl
    · cases hj
      refine vx_catch (name := x_en 0) C.2.2.2.1 [] ⟨0, 12, 15, 24⟩ [⟨0, 12, 19, 45⟩] (by rw [ht]; rfl) (fun z hz => nomatch hz) (by decide) (by decide) (C.2.2.2.2.1 _ tw_878) (x_hat C ca_0 rfl) hce hcv hcl ?_
      refine lv_astore (lv' := [(5, .ref q), (0, .ref (oX O)), (1, .int v1), (2, .int v2), (3, .int v3), (4, .ref (oX O + 76))]) hx hb dL_holds_15 hl (Nat.le_of_ble_eq_true rfl) rfl (fun ls hl => ?_)
      refine lv_iconst (v := 1) hx hb dL_holds_17 rfl ?_
      exact xx_iret C hR hS (Nat.le_of_ble_eq_true rfl) (Nat.le_of_ble_eq_true rfl) dL_holds_18
    · cases hj
      refine vx_catch (name := x_en 2) C.2.2.2.1 [⟨0, 12, 15, 24⟩] ⟨0, 12, 19, 45⟩ [] (by rw [ht]; rfl) (fun z hz => by rcases List.mem_singleton.mp hz with rfl; exact Or.inr ⟨by decide, x_en 0, C.2.2.2.2.1 _ tw_878, x_nc C (by decide) (by decide) (by decide)⟩) (by decide) (by decide) (C.2.2.2.2.1 _ tw_969) (x_hat C ca_2 rfl) hce hcv hcl ?_
      refine lv_astore (lv' := [(5, .ref q), (0, .ref (oX O)), (1, .int v1), (2, .int v2), (3, .int v3), (4, .ref (oX O + 76))]) hx hb dL_holds_19 hl (Nat.le_of_ble_eq_true rfl) rfl (fun ls hl => ?_)
      refine lv_iconst (v := 2) hx hb dL_holds_21 rfl ?_
      exact xx_iret C hR hS (Nat.le_of_ble_eq_true rfl) (Nat.le_of_ble_eq_true rfl) dL_holds_22
  · obtain ⟨v9, hv9, rfl⟩ := x_rv_inr hr9
    obtain ⟨rfl, hh9⟩ := hV v9 hv9
    subst hh9
    refine lv_i2l hx hb dL_holds_10 rfl ?_
    refine x_last C hR hS (x_k1 (x_k hR 76 rfl)) (x_k2 (x_k hR 76 rfl) (by decide)) dL_holds_11 (fun H locs hR hS => ?_)
    refine lv_goto (tgt := 23) hx hb dL_holds_12 rfl ?_
    refine lv_iconst (v := 0) hx hb dL_holds_23 rfl ?_
    exact xx_iret C hR hS (Nat.le_of_ble_eq_true rfl) (Nat.le_of_ble_eq_true rfl) dL_holds_24
theorem lw_L_holds : Cond.codeWith yL_holds cL_holds 6 (some .int) [(0, 12, 15, 24), (0, 12, 19, 45)] ∈ TB ∧ Cond.static yL_holds ∈ TB ∧ Cond.initialized yL_holds.cls ∈ TB ∧ yL_holds.cls ≠ "java/lang/invoke/MethodHandle" ∧ yL_holds.cls ≠ "java/lang/invoke/VarHandle" ∧ (parseMethodDescriptor yL_holds.desc).map (fun d => d.parameters.length) = some 5 := ⟨TB_of (tin_5 (List.mem_of_getElem? (i := 32) (by decide +kernel))) rfl, TB_of (tin_5 (List.mem_of_getElem? (i := 31) (by decide +kernel))) rfl, TB_of (tin_1 (List.mem_of_getElem? (i := 0) (by decide +kernel))) rfl, by decide, by decide, by decide +kernel⟩
def f_L_awaited (K : XK) (x : Nat) (h : XH) (v1 : Int32) (v2 : Int32) : Option (Int32 × XH) := x_lb (f_X11_awaited K x h v1 v2) [0, 2] (fun v h => x_l h (x + 76) (0 : Int32).toNatClampNeg v.toInt64)
set_option maxRecDepth 20000 in
theorem S_L_awaited {l : Launch} {O : XO} {K : XK} {h h' : XH} {n : Nat} {v1 : Int32} {v2 : Int32} {r : Int32} (hst : l.stackTraces = false) (hf : f_L_awaited K (oX O) h v1 v2 = some (r, h')) : x_ML l O K K yL_awaited cL_awaited 5 [(0, 10, 13, 24), (0, 10, 17, 45)] 9 175 3 18 h n [.ref (oX O), .int v1, .int v2, .ref (oX O + 76)] r h' := by
  obtain ⟨s1, h1, eq0, hE, hV⟩ := x_lbd hf
  refine x_enterL (by decide) rfl (Nat.le_of_ble_eq_true rfl) (fun p e s m args below meth c C ht hR hz ls hl => ?_)
  have hS : va_S (oA O) s.heap s.heap [] := va_S.rf
  have hx := C.1
  have hb := C.2.1
  have hl : lv_has ls 5 [(0, .ref (oX O)), (1, .int v1), (2, .int v2), (3, .ref (oX O + 76))] := hl
  refine lv_aload_n hx hb dL_awaited_0 rfl (lv_at hl 3 rfl) ?_
  refine lv_iconst (v := 0) hx hb dL_awaited_1 rfl ?_
  refine lv_aload_n hx hb dL_awaited_2 rfl (lv_at hl 0 rfl) ?_
  refine lv_iload_n hx hb dL_awaited_3 rfl (lv_at hl 1 rfl) ?_
  refine lv_iload_n hx hb dL_awaited_4 rfl (lv_at hl 2 rfl) ?_
  refine x_lcall C hR hS (S_X11_awaited (l := l) (K := K) hst eq0) x_blind (x_pre C hR hS) (ci := 11) (x_k1 (x_k hR 0 rfl)) (by decide) rfl mf_X11_awaited tw_1141 (Nat.le_of_ble_eq_true rfl) (Nat.le_of_ble_eq_true rfl) (As := [.int v1, .int v2]) rfl hl.1 (Nat.le_of_ble_eq_true rfl) dL_awaited_5 ⟨Nat.le_of_ble_eq_true rfl, Nat.le_of_ble_eq_true rfl⟩ rfl (fun e9 he9 H locs q ce hR hS hce hcv hcl => ?_) (fun r9 hr9 H locs hR hS => ?_)
  · obtain ⟨j, hj, hr, hh9⟩ := hE e9 (x_rv_inl he9)
    subst hh9
    subst hr
    have hj9 : j = 0 ∨ j = 1 := by
      have := (List.getElem?_eq_some_iff.mp hj).1
      simp only [List.length_cons, List.length_nil] at this
      omega
    rcases hj9 with rfl | rfl
    · cases hj
      refine vx_catch (name := x_en 0) C.2.2.2.1 [] ⟨0, 10, 13, 24⟩ [⟨0, 10, 17, 45⟩] (by rw [ht]; rfl) (fun z hz => nomatch hz) (by decide) (by decide) (C.2.2.2.2.1 _ tw_878) (x_hat C ca_0 rfl) hce hcv hcl ?_
      refine lv_astore (lv' := [(4, .ref q), (0, .ref (oX O)), (1, .int v1), (2, .int v2), (3, .ref (oX O + 76))]) hx hb dL_awaited_13 hl (Nat.le_of_ble_eq_true rfl) rfl (fun ls hl => ?_)
      refine lv_iconst (v := 1) hx hb dL_awaited_15 rfl ?_
      exact xx_iret C hR hS (Nat.le_of_ble_eq_true rfl) (Nat.le_of_ble_eq_true rfl) dL_awaited_16
    · cases hj
      refine vx_catch (name := x_en 2) C.2.2.2.1 [⟨0, 10, 13, 24⟩] ⟨0, 10, 17, 45⟩ [] (by rw [ht]; rfl) (fun z hz => by rcases List.mem_singleton.mp hz with rfl; exact Or.inr ⟨by decide, x_en 0, C.2.2.2.2.1 _ tw_878, x_nc C (by decide) (by decide) (by decide)⟩) (by decide) (by decide) (C.2.2.2.2.1 _ tw_969) (x_hat C ca_2 rfl) hce hcv hcl ?_
      refine lv_astore (lv' := [(4, .ref q), (0, .ref (oX O)), (1, .int v1), (2, .int v2), (3, .ref (oX O + 76))]) hx hb dL_awaited_17 hl (Nat.le_of_ble_eq_true rfl) rfl (fun ls hl => ?_)
      refine lv_iconst (v := 2) hx hb dL_awaited_19 rfl ?_
      exact xx_iret C hR hS (Nat.le_of_ble_eq_true rfl) (Nat.le_of_ble_eq_true rfl) dL_awaited_20
  · obtain ⟨v9, hv9, rfl⟩ := x_rv_inr hr9
    obtain ⟨rfl, hh9⟩ := hV v9 hv9
    subst hh9
    refine lv_i2l hx hb dL_awaited_8 rfl ?_
    refine x_last C hR hS (x_k1 (x_k hR 76 rfl)) (x_k2 (x_k hR 76 rfl) (by decide)) dL_awaited_9 (fun H locs hR hS => ?_)
    refine lv_goto (tgt := 21) hx hb dL_awaited_10 rfl ?_
    refine lv_iconst (v := 0) hx hb dL_awaited_21 rfl ?_
    exact xx_iret C hR hS (Nat.le_of_ble_eq_true rfl) (Nat.le_of_ble_eq_true rfl) dL_awaited_22
theorem lw_L_awaited : Cond.codeWith yL_awaited cL_awaited 5 (some .int) [(0, 10, 13, 24), (0, 10, 17, 45)] ∈ TB ∧ Cond.static yL_awaited ∈ TB ∧ Cond.initialized yL_awaited.cls ∈ TB ∧ yL_awaited.cls ≠ "java/lang/invoke/MethodHandle" ∧ yL_awaited.cls ≠ "java/lang/invoke/VarHandle" ∧ (parseMethodDescriptor yL_awaited.desc).map (fun d => d.parameters.length) = some 4 := ⟨TB_of (tin_5 (List.mem_of_getElem? (i := 75) (by decide +kernel))) rfl, TB_of (tin_5 (List.mem_of_getElem? (i := 74) (by decide +kernel))) rfl, TB_of (tin_1 (List.mem_of_getElem? (i := 0) (by decide +kernel))) rfl, by decide, by decide, by decide +kernel⟩
def f_L_say (x : Nat) (h : XH) (v1 : Int32) (v2 : Int32) (v3 : Int32) : Option (Int32 × XH) := x_lb (f_X11_say x h v1 v2 v3) [0, 2] (fun v h => x_l h (x + 76) (0 : Int32).toNatClampNeg v.toInt64)
set_option maxRecDepth 20000 in
theorem S_L_say {l : Launch} {O : XO} {K : XK} {h h' : XH} {n : Nat} {v1 : Int32} {v2 : Int32} {v3 : Int32} {r : Int32} (hst : l.stackTraces = false) (hf : f_L_say (oX O) h v1 v2 v3 = some (r, h')) : x_ML l O K K yL_say cL_say 6 [(0, 12, 15, 24), (0, 12, 19, 45)] 9 156 5 30 h n [.ref (oX O), .int v1, .int v2, .int v3, .ref (oX O + 76)] r h' := by
  obtain ⟨s1, h1, eq0, hE, hV⟩ := x_lbd hf
  refine x_enterL (by decide) rfl (Nat.le_of_ble_eq_true rfl) (fun p e s m args below meth c C ht hR hz ls hl => ?_)
  have hS : va_S (oA O) s.heap s.heap [] := va_S.rf
  have hx := C.1
  have hb := C.2.1
  have hl : lv_has ls 6 [(0, .ref (oX O)), (1, .int v1), (2, .int v2), (3, .int v3), (4, .ref (oX O + 76))] := hl
  refine lv_aload hx hb dL_say_0 (lv_at hl 4 rfl) ?_
  refine lv_iconst (v := 0) hx hb dL_say_2 rfl ?_
  refine lv_aload_n hx hb dL_say_3 rfl (lv_at hl 0 rfl) ?_
  refine lv_iload_n hx hb dL_say_4 rfl (lv_at hl 1 rfl) ?_
  refine lv_iload_n hx hb dL_say_5 rfl (lv_at hl 2 rfl) ?_
  refine lv_iload_n hx hb dL_say_6 rfl (lv_at hl 3 rfl) ?_
  refine x_lcall C hR hS (S_X11_say (l := l) (K := K) hst eq0) x_blind (x_pre C hR hS) (ci := 11) (x_k1 (x_k hR 0 rfl)) (by decide) rfl mf_X11_say tw_1156 (Nat.le_of_ble_eq_true rfl) (Nat.le_of_ble_eq_true rfl) (As := [.int v1, .int v2, .int v3]) rfl hl.1 (Nat.le_of_ble_eq_true rfl) dL_say_7 ⟨Nat.le_of_ble_eq_true rfl, Nat.le_of_ble_eq_true rfl⟩ rfl (fun e9 he9 H locs q ce hR hS hce hcv hcl => ?_) (fun r9 hr9 H locs hR hS => ?_)
  · obtain ⟨j, hj, hr, hh9⟩ := hE e9 (x_rv_inl he9)
    subst hh9
    subst hr
    have hj9 : j = 0 ∨ j = 1 := by
      have := (List.getElem?_eq_some_iff.mp hj).1
      simp only [List.length_cons, List.length_nil] at this
      omega
    rcases hj9 with rfl | rfl
    · cases hj
      refine vx_catch (name := x_en 0) C.2.2.2.1 [] ⟨0, 12, 15, 24⟩ [⟨0, 12, 19, 45⟩] (by rw [ht]; rfl) (fun z hz => nomatch hz) (by decide) (by decide) (C.2.2.2.2.1 _ tw_878) (x_hat C ca_0 rfl) hce hcv hcl ?_
      refine lv_astore (lv' := [(5, .ref q), (0, .ref (oX O)), (1, .int v1), (2, .int v2), (3, .int v3), (4, .ref (oX O + 76))]) hx hb dL_say_15 hl (Nat.le_of_ble_eq_true rfl) rfl (fun ls hl => ?_)
      refine lv_iconst (v := 1) hx hb dL_say_17 rfl ?_
      exact xx_iret C hR hS (Nat.le_of_ble_eq_true rfl) (Nat.le_of_ble_eq_true rfl) dL_say_18
    · cases hj
      refine vx_catch (name := x_en 2) C.2.2.2.1 [⟨0, 12, 15, 24⟩] ⟨0, 12, 19, 45⟩ [] (by rw [ht]; rfl) (fun z hz => by rcases List.mem_singleton.mp hz with rfl; exact Or.inr ⟨by decide, x_en 0, C.2.2.2.2.1 _ tw_878, x_nc C (by decide) (by decide) (by decide)⟩) (by decide) (by decide) (C.2.2.2.2.1 _ tw_969) (x_hat C ca_2 rfl) hce hcv hcl ?_
      refine lv_astore (lv' := [(5, .ref q), (0, .ref (oX O)), (1, .int v1), (2, .int v2), (3, .int v3), (4, .ref (oX O + 76))]) hx hb dL_say_19 hl (Nat.le_of_ble_eq_true rfl) rfl (fun ls hl => ?_)
      refine lv_iconst (v := 2) hx hb dL_say_21 rfl ?_
      exact xx_iret C hR hS (Nat.le_of_ble_eq_true rfl) (Nat.le_of_ble_eq_true rfl) dL_say_22
  · obtain ⟨v9, hv9, rfl⟩ := x_rv_inr hr9
    obtain ⟨rfl, hh9⟩ := hV v9 hv9
    subst hh9
    refine lv_i2l hx hb dL_say_10 rfl ?_
    refine x_last C hR hS (x_k1 (x_k hR 76 rfl)) (x_k2 (x_k hR 76 rfl) (by decide)) dL_say_11 (fun H locs hR hS => ?_)
    refine lv_goto (tgt := 23) hx hb dL_say_12 rfl ?_
    refine lv_iconst (v := 0) hx hb dL_say_23 rfl ?_
    exact xx_iret C hR hS (Nat.le_of_ble_eq_true rfl) (Nat.le_of_ble_eq_true rfl) dL_say_24
theorem lw_L_say : Cond.codeWith yL_say cL_say 6 (some .int) [(0, 12, 15, 24), (0, 12, 19, 45)] ∈ TB ∧ Cond.static yL_say ∈ TB ∧ Cond.initialized yL_say.cls ∈ TB ∧ yL_say.cls ≠ "java/lang/invoke/MethodHandle" ∧ yL_say.cls ≠ "java/lang/invoke/VarHandle" ∧ (parseMethodDescriptor yL_say.desc).map (fun d => d.parameters.length) = some 5 := ⟨TB_of (tin_5 (List.mem_of_getElem? (i := 90) (by decide +kernel))) rfl, TB_of (tin_5 (List.mem_of_getElem? (i := 89) (by decide +kernel))) rfl, TB_of (tin_1 (List.mem_of_getElem? (i := 0) (by decide +kernel))) rfl, by decide, by decide, by decide +kernel⟩
def f_L_kind (x : Nat) (h : XH) (v1 : Int32) (v2 : Int32) : Option (Int32 × XH) := x_lb (f_X11_kind x h v1 v2) [0, 2] (fun v h => x_l h (x + 76) (0 : Int32).toNatClampNeg v.toInt64)
set_option maxRecDepth 20000 in
theorem S_L_kind {l : Launch} {O : XO} {K : XK} {h h' : XH} {n : Nat} {v1 : Int32} {v2 : Int32} {r : Int32} (hst : l.stackTraces = false) (hf : f_L_kind (oX O) h v1 v2 = some (r, h')) : x_ML l O K K yL_kind cL_kind 5 [(0, 10, 13, 24), (0, 10, 17, 45)] 9 155 4 24 h n [.ref (oX O), .int v1, .int v2, .ref (oX O + 76)] r h' := by
  obtain ⟨s1, h1, eq0, hE, hV⟩ := x_lbd hf
  refine x_enterL (by decide) rfl (Nat.le_of_ble_eq_true rfl) (fun p e s m args below meth c C ht hR hz ls hl => ?_)
  have hS : va_S (oA O) s.heap s.heap [] := va_S.rf
  have hx := C.1
  have hb := C.2.1
  have hl : lv_has ls 5 [(0, .ref (oX O)), (1, .int v1), (2, .int v2), (3, .ref (oX O + 76))] := hl
  refine lv_aload_n hx hb dL_kind_0 rfl (lv_at hl 3 rfl) ?_
  refine lv_iconst (v := 0) hx hb dL_kind_1 rfl ?_
  refine lv_aload_n hx hb dL_kind_2 rfl (lv_at hl 0 rfl) ?_
  refine lv_iload_n hx hb dL_kind_3 rfl (lv_at hl 1 rfl) ?_
  refine lv_iload_n hx hb dL_kind_4 rfl (lv_at hl 2 rfl) ?_
  refine x_lcall C hR hS (S_X11_kind (l := l) (K := K) hst eq0) x_blind (x_pre C hR hS) (ci := 11) (x_k1 (x_k hR 0 rfl)) (by decide) rfl mf_X11_kind tw_1199 (Nat.le_of_ble_eq_true rfl) (Nat.le_of_ble_eq_true rfl) (As := [.int v1, .int v2]) rfl hl.1 (Nat.le_of_ble_eq_true rfl) dL_kind_5 ⟨Nat.le_of_ble_eq_true rfl, Nat.le_of_ble_eq_true rfl⟩ rfl (fun e9 he9 H locs q ce hR hS hce hcv hcl => ?_) (fun r9 hr9 H locs hR hS => ?_)
  · obtain ⟨j, hj, hr, hh9⟩ := hE e9 (x_rv_inl he9)
    subst hh9
    subst hr
    have hj9 : j = 0 ∨ j = 1 := by
      have := (List.getElem?_eq_some_iff.mp hj).1
      simp only [List.length_cons, List.length_nil] at this
      omega
    rcases hj9 with rfl | rfl
    · cases hj
      refine vx_catch (name := x_en 0) C.2.2.2.1 [] ⟨0, 10, 13, 24⟩ [⟨0, 10, 17, 45⟩] (by rw [ht]; rfl) (fun z hz => nomatch hz) (by decide) (by decide) (C.2.2.2.2.1 _ tw_878) (x_hat C ca_0 rfl) hce hcv hcl ?_
      refine lv_astore (lv' := [(4, .ref q), (0, .ref (oX O)), (1, .int v1), (2, .int v2), (3, .ref (oX O + 76))]) hx hb dL_kind_13 hl (Nat.le_of_ble_eq_true rfl) rfl (fun ls hl => ?_)
      refine lv_iconst (v := 1) hx hb dL_kind_15 rfl ?_
      exact xx_iret C hR hS (Nat.le_of_ble_eq_true rfl) (Nat.le_of_ble_eq_true rfl) dL_kind_16
    · cases hj
      refine vx_catch (name := x_en 2) C.2.2.2.1 [⟨0, 10, 13, 24⟩] ⟨0, 10, 17, 45⟩ [] (by rw [ht]; rfl) (fun z hz => by rcases List.mem_singleton.mp hz with rfl; exact Or.inr ⟨by decide, x_en 0, C.2.2.2.2.1 _ tw_878, x_nc C (by decide) (by decide) (by decide)⟩) (by decide) (by decide) (C.2.2.2.2.1 _ tw_969) (x_hat C ca_2 rfl) hce hcv hcl ?_
      refine lv_astore (lv' := [(4, .ref q), (0, .ref (oX O)), (1, .int v1), (2, .int v2), (3, .ref (oX O + 76))]) hx hb dL_kind_17 hl (Nat.le_of_ble_eq_true rfl) rfl (fun ls hl => ?_)
      refine lv_iconst (v := 2) hx hb dL_kind_19 rfl ?_
      exact xx_iret C hR hS (Nat.le_of_ble_eq_true rfl) (Nat.le_of_ble_eq_true rfl) dL_kind_20
  · obtain ⟨v9, hv9, rfl⟩ := x_rv_inr hr9
    obtain ⟨rfl, hh9⟩ := hV v9 hv9
    subst hh9
    refine lv_i2l hx hb dL_kind_8 rfl ?_
    refine x_last C hR hS (x_k1 (x_k hR 76 rfl)) (x_k2 (x_k hR 76 rfl) (by decide)) dL_kind_9 (fun H locs hR hS => ?_)
    refine lv_goto (tgt := 21) hx hb dL_kind_10 rfl ?_
    refine lv_iconst (v := 0) hx hb dL_kind_21 rfl ?_
    exact xx_iret C hR hS (Nat.le_of_ble_eq_true rfl) (Nat.le_of_ble_eq_true rfl) dL_kind_22
theorem lw_L_kind : Cond.codeWith yL_kind cL_kind 5 (some .int) [(0, 10, 13, 24), (0, 10, 17, 45)] ∈ TB ∧ Cond.static yL_kind ∈ TB ∧ Cond.initialized yL_kind.cls ∈ TB ∧ yL_kind.cls ≠ "java/lang/invoke/MethodHandle" ∧ yL_kind.cls ≠ "java/lang/invoke/VarHandle" ∧ (parseMethodDescriptor yL_kind.desc).map (fun d => d.parameters.length) = some 4 := ⟨TB_of (tin_5 (List.mem_of_getElem? (i := 133) (by decide +kernel))) rfl, TB_of (tin_5 (List.mem_of_getElem? (i := 132) (by decide +kernel))) rfl, TB_of (tin_1 (List.mem_of_getElem? (i := 0) (by decide +kernel))) rfl, by decide, by decide, by decide +kernel⟩
def f_L_run (K : XK) (x : Nat) (h : XH) (v1 : Int32) (v2 : Int32) (v3 : Int32) : Option (Int32 × XH) := x_lb (f_X11_run K x h v1 v2 v3) [0, 2] (fun v h => x_l h (x + 76) (0 : Int32).toNatClampNeg v.toInt64)
set_option maxRecDepth 20000 in
theorem S_L_run {l : Launch} {O : XO} {K : XK} {h h' : XH} {n : Nat} {v1 : Int32} {v2 : Int32} {v3 : Int32} {r : Int32} (hst : l.stackTraces = false) (hf : f_L_run K (oX O) h v1 v2 v3 = some (r, h')) : x_ML l O K K yL_run cL_run 6 [(0, 12, 15, 24), (0, 12, 19, 45)] 9 158 3 18 h n [.ref (oX O), .int v1, .int v2, .int v3, .ref (oX O + 76)] r h' := by
  obtain ⟨s1, h1, eq0, hE, hV⟩ := x_lbd hf
  refine x_enterL (by decide) rfl (Nat.le_of_ble_eq_true rfl) (fun p e s m args below meth c C ht hR hz ls hl => ?_)
  have hS : va_S (oA O) s.heap s.heap [] := va_S.rf
  have hx := C.1
  have hb := C.2.1
  have hl : lv_has ls 6 [(0, .ref (oX O)), (1, .int v1), (2, .int v2), (3, .int v3), (4, .ref (oX O + 76))] := hl
  refine lv_aload hx hb dL_run_0 (lv_at hl 4 rfl) ?_
  refine lv_iconst (v := 0) hx hb dL_run_2 rfl ?_
  refine lv_aload_n hx hb dL_run_3 rfl (lv_at hl 0 rfl) ?_
  refine lv_iload_n hx hb dL_run_4 rfl (lv_at hl 1 rfl) ?_
  refine lv_iload_n hx hb dL_run_5 rfl (lv_at hl 2 rfl) ?_
  refine lv_iload_n hx hb dL_run_6 rfl (lv_at hl 3 rfl) ?_
  refine x_lcall C hR hS (S_X11_run (l := l) (K := K) hst eq0) x_blind (x_pre C hR hS) (ci := 11) (x_k1 (x_k hR 0 rfl)) (by decide) rfl mf_X11_run tw_1206 (Nat.le_of_ble_eq_true rfl) (Nat.le_of_ble_eq_true rfl) (As := [.int v1, .int v2, .int v3]) rfl hl.1 (Nat.le_of_ble_eq_true rfl) dL_run_7 ⟨Nat.le_of_ble_eq_true rfl, Nat.le_of_ble_eq_true rfl⟩ rfl (fun e9 he9 H locs q ce hR hS hce hcv hcl => ?_) (fun r9 hr9 H locs hR hS => ?_)
  · obtain ⟨j, hj, hr, hh9⟩ := hE e9 (x_rv_inl he9)
    subst hh9
    subst hr
    have hj9 : j = 0 ∨ j = 1 := by
      have := (List.getElem?_eq_some_iff.mp hj).1
      simp only [List.length_cons, List.length_nil] at this
      omega
    rcases hj9 with rfl | rfl
    · cases hj
      refine vx_catch (name := x_en 0) C.2.2.2.1 [] ⟨0, 12, 15, 24⟩ [⟨0, 12, 19, 45⟩] (by rw [ht]; rfl) (fun z hz => nomatch hz) (by decide) (by decide) (C.2.2.2.2.1 _ tw_878) (x_hat C ca_0 rfl) hce hcv hcl ?_
      refine lv_astore (lv' := [(5, .ref q), (0, .ref (oX O)), (1, .int v1), (2, .int v2), (3, .int v3), (4, .ref (oX O + 76))]) hx hb dL_run_15 hl (Nat.le_of_ble_eq_true rfl) rfl (fun ls hl => ?_)
      refine lv_iconst (v := 1) hx hb dL_run_17 rfl ?_
      exact xx_iret C hR hS (Nat.le_of_ble_eq_true rfl) (Nat.le_of_ble_eq_true rfl) dL_run_18
    · cases hj
      refine vx_catch (name := x_en 2) C.2.2.2.1 [⟨0, 12, 15, 24⟩] ⟨0, 12, 19, 45⟩ [] (by rw [ht]; rfl) (fun z hz => by rcases List.mem_singleton.mp hz with rfl; exact Or.inr ⟨by decide, x_en 0, C.2.2.2.2.1 _ tw_878, x_nc C (by decide) (by decide) (by decide)⟩) (by decide) (by decide) (C.2.2.2.2.1 _ tw_969) (x_hat C ca_2 rfl) hce hcv hcl ?_
      refine lv_astore (lv' := [(5, .ref q), (0, .ref (oX O)), (1, .int v1), (2, .int v2), (3, .int v3), (4, .ref (oX O + 76))]) hx hb dL_run_19 hl (Nat.le_of_ble_eq_true rfl) rfl (fun ls hl => ?_)
      refine lv_iconst (v := 2) hx hb dL_run_21 rfl ?_
      exact xx_iret C hR hS (Nat.le_of_ble_eq_true rfl) (Nat.le_of_ble_eq_true rfl) dL_run_22
  · obtain ⟨v9, hv9, rfl⟩ := x_rv_inr hr9
    obtain ⟨rfl, hh9⟩ := hV v9 hv9
    subst hh9
    refine lv_i2l hx hb dL_run_10 rfl ?_
    refine x_last C hR hS (x_k1 (x_k hR 76 rfl)) (x_k2 (x_k hR 76 rfl) (by decide)) dL_run_11 (fun H locs hR hS => ?_)
    refine lv_goto (tgt := 23) hx hb dL_run_12 rfl ?_
    refine lv_iconst (v := 0) hx hb dL_run_23 rfl ?_
    exact xx_iret C hR hS (Nat.le_of_ble_eq_true rfl) (Nat.le_of_ble_eq_true rfl) dL_run_24
theorem lw_L_run : Cond.codeWith yL_run cL_run 6 (some .int) [(0, 12, 15, 24), (0, 12, 19, 45)] ∈ TB ∧ Cond.static yL_run ∈ TB ∧ Cond.initialized yL_run.cls ∈ TB ∧ yL_run.cls ≠ "java/lang/invoke/MethodHandle" ∧ yL_run.cls ≠ "java/lang/invoke/VarHandle" ∧ (parseMethodDescriptor yL_run.desc).map (fun d => d.parameters.length) = some 5 := ⟨TB_of (tin_5 (List.mem_of_getElem? (i := 140) (by decide +kernel))) rfl, TB_of (tin_5 (List.mem_of_getElem? (i := 139) (by decide +kernel))) rfl, TB_of (tin_1 (List.mem_of_getElem? (i := 0) (by decide +kernel))) rfl, by decide, by decide, by decide +kernel⟩
def f_L_odds (K : XK) (x : Nat) (h : XH) (v1 : Int32) (v2 : Int32) (v3 : Int32) (v4 : Int32) (v5 : Int32) : Option (Int32 × XH) := x_lb (f_X11_odds K x h v1 v2 v3 v4 v5) [0, 2, 1] (fun v h => x_l h (x + 76) (0 : Int32).toNatClampNeg v.toInt64)
set_option maxRecDepth 20000 in
theorem S_L_odds {l : Launch} {O : XO} {K : XK} {h h' : XH} {n : Nat} {v1 : Int32} {v2 : Int32} {v3 : Int32} {v4 : Int32} {v5 : Int32} {r : Int32} (hst : l.stackTraces = false) (hf : f_L_odds K (oX O) h v1 v2 v3 v4 v5 = some (r, h')) : x_ML l O K K yL_odds cL_odds 8 [(0, 16, 19, 24), (0, 16, 23, 45), (0, 16, 27, 13)] 9 165 6 36 h n [.ref (oX O), .int v1, .int v2, .int v3, .int v4, .int v5, .ref (oX O + 76)] r h' := by
  obtain ⟨s1, h1, eq0, hE, hV⟩ := x_lbd hf
  refine x_enterL (by decide) rfl (Nat.le_of_ble_eq_true rfl) (fun p e s m args below meth c C ht hR hz ls hl => ?_)
  have hS : va_S (oA O) s.heap s.heap [] := va_S.rf
  have hx := C.1
  have hb := C.2.1
  have hl : lv_has ls 8 [(0, .ref (oX O)), (1, .int v1), (2, .int v2), (3, .int v3), (4, .int v4), (5, .int v5), (6, .ref (oX O + 76))] := hl
  refine lv_aload hx hb dL_odds_0 (lv_at hl 6 rfl) ?_
  refine lv_iconst (v := 0) hx hb dL_odds_2 rfl ?_
  refine lv_aload_n hx hb dL_odds_3 rfl (lv_at hl 0 rfl) ?_
  refine lv_iload_n hx hb dL_odds_4 rfl (lv_at hl 1 rfl) ?_
  refine lv_iload_n hx hb dL_odds_5 rfl (lv_at hl 2 rfl) ?_
  refine lv_iload_n hx hb dL_odds_6 rfl (lv_at hl 3 rfl) ?_
  refine lv_iload hx hb dL_odds_7 (lv_at hl 4 rfl) ?_
  refine lv_iload hx hb dL_odds_9 (lv_at hl 5 rfl) ?_
  refine x_lcall C hR hS (S_X11_odds (l := l) (K := K) hst eq0) x_blind (x_pre C hR hS) (ci := 11) (x_k1 (x_k hR 0 rfl)) (by decide) rfl mf_X11_odds tw_1238 (Nat.le_of_ble_eq_true rfl) (Nat.le_of_ble_eq_true rfl) (As := [.int v1, .int v2, .int v3, .int v4, .int v5]) rfl hl.1 (Nat.le_of_ble_eq_true rfl) dL_odds_11 ⟨Nat.le_of_ble_eq_true rfl, Nat.le_of_ble_eq_true rfl⟩ rfl (fun e9 he9 H locs q ce hR hS hce hcv hcl => ?_) (fun r9 hr9 H locs hR hS => ?_)
  · obtain ⟨j, hj, hr, hh9⟩ := hE e9 (x_rv_inl he9)
    subst hh9
    subst hr
    have hj9 : j = 0 ∨ j = 1 ∨ j = 2 := by
      have := (List.getElem?_eq_some_iff.mp hj).1
      simp only [List.length_cons, List.length_nil] at this
      omega
    rcases hj9 with rfl | rfl | rfl
    · cases hj
      refine vx_catch (name := x_en 0) C.2.2.2.1 [] ⟨0, 16, 19, 24⟩ [⟨0, 16, 23, 45⟩, ⟨0, 16, 27, 13⟩] (by rw [ht]; rfl) (fun z hz => nomatch hz) (by decide) (by decide) (C.2.2.2.2.1 _ tw_878) (x_hat C ca_0 rfl) hce hcv hcl ?_
      refine lv_astore (lv' := [(7, .ref q), (0, .ref (oX O)), (1, .int v1), (2, .int v2), (3, .int v3), (4, .int v4), (5, .int v5), (6, .ref (oX O + 76))]) hx hb dL_odds_19 hl (Nat.le_of_ble_eq_true rfl) rfl (fun ls hl => ?_)
      refine lv_iconst (v := 1) hx hb dL_odds_21 rfl ?_
      exact xx_iret C hR hS (Nat.le_of_ble_eq_true rfl) (Nat.le_of_ble_eq_true rfl) dL_odds_22
    · cases hj
      refine vx_catch (name := x_en 2) C.2.2.2.1 [⟨0, 16, 19, 24⟩] ⟨0, 16, 23, 45⟩ [⟨0, 16, 27, 13⟩] (by rw [ht]; rfl) (fun z hz => by rcases List.mem_singleton.mp hz with rfl; exact Or.inr ⟨by decide, x_en 0, C.2.2.2.2.1 _ tw_878, x_nc C (by decide) (by decide) (by decide)⟩) (by decide) (by decide) (C.2.2.2.2.1 _ tw_969) (x_hat C ca_2 rfl) hce hcv hcl ?_
      refine lv_astore (lv' := [(7, .ref q), (0, .ref (oX O)), (1, .int v1), (2, .int v2), (3, .int v3), (4, .int v4), (5, .int v5), (6, .ref (oX O + 76))]) hx hb dL_odds_23 hl (Nat.le_of_ble_eq_true rfl) rfl (fun ls hl => ?_)
      refine lv_iconst (v := 2) hx hb dL_odds_25 rfl ?_
      exact xx_iret C hR hS (Nat.le_of_ble_eq_true rfl) (Nat.le_of_ble_eq_true rfl) dL_odds_26
    · cases hj
      refine vx_catch (name := x_en 1) C.2.2.2.1 [⟨0, 16, 19, 24⟩, ⟨0, 16, 23, 45⟩] ⟨0, 16, 27, 13⟩ [] (by rw [ht]; rfl) (fun z hz => by rcases List.mem_cons.mp hz with rfl | hz; exact Or.inr ⟨by decide, x_en 0, C.2.2.2.2.1 _ tw_878, x_nc C (by decide) (by decide) (by decide)⟩; rcases List.mem_singleton.mp hz with rfl; exact Or.inr ⟨by decide, x_en 2, C.2.2.2.2.1 _ tw_969, x_nc C (by decide) (by decide) (by decide)⟩) (by decide) (by decide) (C.2.2.2.2.1 _ tw_622) (x_hat C ca_1 rfl) hce hcv hcl ?_
      refine lv_astore (lv' := [(7, .ref q), (0, .ref (oX O)), (1, .int v1), (2, .int v2), (3, .int v3), (4, .int v4), (5, .int v5), (6, .ref (oX O + 76))]) hx hb dL_odds_27 hl (Nat.le_of_ble_eq_true rfl) rfl (fun ls hl => ?_)
      refine lv_iconst (v := 3) hx hb dL_odds_29 rfl ?_
      exact xx_iret C hR hS (Nat.le_of_ble_eq_true rfl) (Nat.le_of_ble_eq_true rfl) dL_odds_30
  · obtain ⟨v9, hv9, rfl⟩ := x_rv_inr hr9
    obtain ⟨rfl, hh9⟩ := hV v9 hv9
    subst hh9
    refine lv_i2l hx hb dL_odds_14 rfl ?_
    refine x_last C hR hS (x_k1 (x_k hR 76 rfl)) (x_k2 (x_k hR 76 rfl) (by decide)) dL_odds_15 (fun H locs hR hS => ?_)
    refine lv_goto (tgt := 31) hx hb dL_odds_16 rfl ?_
    refine lv_iconst (v := 0) hx hb dL_odds_31 rfl ?_
    exact xx_iret C hR hS (Nat.le_of_ble_eq_true rfl) (Nat.le_of_ble_eq_true rfl) dL_odds_32
theorem lw_L_odds : Cond.codeWith yL_odds cL_odds 8 (some .int) [(0, 16, 19, 24), (0, 16, 23, 45), (0, 16, 27, 13)] ∈ TB ∧ Cond.static yL_odds ∈ TB ∧ Cond.initialized yL_odds.cls ∈ TB ∧ yL_odds.cls ≠ "java/lang/invoke/MethodHandle" ∧ yL_odds.cls ≠ "java/lang/invoke/VarHandle" ∧ (parseMethodDescriptor yL_odds.desc).map (fun d => d.parameters.length) = some 7 := ⟨TB_of (tin_5 (List.mem_of_getElem? (i := 172) (by decide +kernel))) rfl, TB_of (tin_5 (List.mem_of_getElem? (i := 171) (by decide +kernel))) rfl, TB_of (tin_1 (List.mem_of_getElem? (i := 0) (by decide +kernel))) rfl, by decide, by decide, by decide +kernel⟩
def f_L_kinds (x : Nat) (h : XH) (v1 : Int32) (v2 : Int32) : Option (Int32 × XH) := x_lb (f_X11_kinds x h v1 v2) [0, 2, 1] (fun v h => x_l h (x + 76) (0 : Int32).toNatClampNeg v.toInt64)
set_option maxRecDepth 20000 in
theorem S_L_kinds {l : Launch} {O : XO} {K : XK} {h h' : XH} {n : Nat} {v1 : Int32} {v2 : Int32} {r : Int32} (hst : l.stackTraces = false) (hf : f_L_kinds (oX O) h v1 v2 = some (r, h')) : x_ML l O K K yL_kinds cL_kinds 5 [(0, 10, 13, 24), (0, 10, 17, 45), (0, 10, 21, 13)] 9 156 3 18 h n [.ref (oX O), .int v1, .int v2, .ref (oX O + 76)] r h' := by
  obtain ⟨s1, h1, eq0, hE, hV⟩ := x_lbd hf
  refine x_enterL (by decide) rfl (Nat.le_of_ble_eq_true rfl) (fun p e s m args below meth c C ht hR hz ls hl => ?_)
  have hS : va_S (oA O) s.heap s.heap [] := va_S.rf
  have hx := C.1
  have hb := C.2.1
  have hl : lv_has ls 5 [(0, .ref (oX O)), (1, .int v1), (2, .int v2), (3, .ref (oX O + 76))] := hl
  refine lv_aload_n hx hb dL_kinds_0 rfl (lv_at hl 3 rfl) ?_
  refine lv_iconst (v := 0) hx hb dL_kinds_1 rfl ?_
  refine lv_aload_n hx hb dL_kinds_2 rfl (lv_at hl 0 rfl) ?_
  refine lv_iload_n hx hb dL_kinds_3 rfl (lv_at hl 1 rfl) ?_
  refine lv_iload_n hx hb dL_kinds_4 rfl (lv_at hl 2 rfl) ?_
  refine x_lcall C hR hS (S_X11_kinds (l := l) (K := K) hst eq0) x_blind (x_pre C hR hS) (ci := 11) (x_k1 (x_k hR 0 rfl)) (by decide) rfl mf_X11_kinds tw_1253 (Nat.le_of_ble_eq_true rfl) (Nat.le_of_ble_eq_true rfl) (As := [.int v1, .int v2]) rfl hl.1 (Nat.le_of_ble_eq_true rfl) dL_kinds_5 ⟨Nat.le_of_ble_eq_true rfl, Nat.le_of_ble_eq_true rfl⟩ rfl (fun e9 he9 H locs q ce hR hS hce hcv hcl => ?_) (fun r9 hr9 H locs hR hS => ?_)
  · obtain ⟨j, hj, hr, hh9⟩ := hE e9 (x_rv_inl he9)
    subst hh9
    subst hr
    have hj9 : j = 0 ∨ j = 1 ∨ j = 2 := by
      have := (List.getElem?_eq_some_iff.mp hj).1
      simp only [List.length_cons, List.length_nil] at this
      omega
    rcases hj9 with rfl | rfl | rfl
    · cases hj
      refine vx_catch (name := x_en 0) C.2.2.2.1 [] ⟨0, 10, 13, 24⟩ [⟨0, 10, 17, 45⟩, ⟨0, 10, 21, 13⟩] (by rw [ht]; rfl) (fun z hz => nomatch hz) (by decide) (by decide) (C.2.2.2.2.1 _ tw_878) (x_hat C ca_0 rfl) hce hcv hcl ?_
      refine lv_astore (lv' := [(4, .ref q), (0, .ref (oX O)), (1, .int v1), (2, .int v2), (3, .ref (oX O + 76))]) hx hb dL_kinds_13 hl (Nat.le_of_ble_eq_true rfl) rfl (fun ls hl => ?_)
      refine lv_iconst (v := 1) hx hb dL_kinds_15 rfl ?_
      exact xx_iret C hR hS (Nat.le_of_ble_eq_true rfl) (Nat.le_of_ble_eq_true rfl) dL_kinds_16
    · cases hj
      refine vx_catch (name := x_en 2) C.2.2.2.1 [⟨0, 10, 13, 24⟩] ⟨0, 10, 17, 45⟩ [⟨0, 10, 21, 13⟩] (by rw [ht]; rfl) (fun z hz => by rcases List.mem_singleton.mp hz with rfl; exact Or.inr ⟨by decide, x_en 0, C.2.2.2.2.1 _ tw_878, x_nc C (by decide) (by decide) (by decide)⟩) (by decide) (by decide) (C.2.2.2.2.1 _ tw_969) (x_hat C ca_2 rfl) hce hcv hcl ?_
      refine lv_astore (lv' := [(4, .ref q), (0, .ref (oX O)), (1, .int v1), (2, .int v2), (3, .ref (oX O + 76))]) hx hb dL_kinds_17 hl (Nat.le_of_ble_eq_true rfl) rfl (fun ls hl => ?_)
      refine lv_iconst (v := 2) hx hb dL_kinds_19 rfl ?_
      exact xx_iret C hR hS (Nat.le_of_ble_eq_true rfl) (Nat.le_of_ble_eq_true rfl) dL_kinds_20
    · cases hj
      refine vx_catch (name := x_en 1) C.2.2.2.1 [⟨0, 10, 13, 24⟩, ⟨0, 10, 17, 45⟩] ⟨0, 10, 21, 13⟩ [] (by rw [ht]; rfl) (fun z hz => by rcases List.mem_cons.mp hz with rfl | hz; exact Or.inr ⟨by decide, x_en 0, C.2.2.2.2.1 _ tw_878, x_nc C (by decide) (by decide) (by decide)⟩; rcases List.mem_singleton.mp hz with rfl; exact Or.inr ⟨by decide, x_en 2, C.2.2.2.2.1 _ tw_969, x_nc C (by decide) (by decide) (by decide)⟩) (by decide) (by decide) (C.2.2.2.2.1 _ tw_622) (x_hat C ca_1 rfl) hce hcv hcl ?_
      refine lv_astore (lv' := [(4, .ref q), (0, .ref (oX O)), (1, .int v1), (2, .int v2), (3, .ref (oX O + 76))]) hx hb dL_kinds_21 hl (Nat.le_of_ble_eq_true rfl) rfl (fun ls hl => ?_)
      refine lv_iconst (v := 3) hx hb dL_kinds_23 rfl ?_
      exact xx_iret C hR hS (Nat.le_of_ble_eq_true rfl) (Nat.le_of_ble_eq_true rfl) dL_kinds_24
  · obtain ⟨v9, hv9, rfl⟩ := x_rv_inr hr9
    obtain ⟨rfl, hh9⟩ := hV v9 hv9
    subst hh9
    refine lv_i2l hx hb dL_kinds_8 rfl ?_
    refine x_last C hR hS (x_k1 (x_k hR 76 rfl)) (x_k2 (x_k hR 76 rfl) (by decide)) dL_kinds_9 (fun H locs hR hS => ?_)
    refine lv_goto (tgt := 25) hx hb dL_kinds_10 rfl ?_
    refine lv_iconst (v := 0) hx hb dL_kinds_25 rfl ?_
    exact xx_iret C hR hS (Nat.le_of_ble_eq_true rfl) (Nat.le_of_ble_eq_true rfl) dL_kinds_26
theorem lw_L_kinds : Cond.codeWith yL_kinds cL_kinds 5 (some .int) [(0, 10, 13, 24), (0, 10, 17, 45), (0, 10, 21, 13)] ∈ TB ∧ Cond.static yL_kinds ∈ TB ∧ Cond.initialized yL_kinds.cls ∈ TB ∧ yL_kinds.cls ≠ "java/lang/invoke/MethodHandle" ∧ yL_kinds.cls ≠ "java/lang/invoke/VarHandle" ∧ (parseMethodDescriptor yL_kinds.desc).map (fun d => d.parameters.length) = some 4 := ⟨TB_of (tin_5 (List.mem_of_getElem? (i := 187) (by decide +kernel))) rfl, TB_of (tin_5 (List.mem_of_getElem? (i := 186) (by decide +kernel))) rfl, TB_of (tin_1 (List.mem_of_getElem? (i := 0) (by decide +kernel))) rfl, by decide, by decide, by decide +kernel⟩
def f_L_score (K : XK) (x : Nat) (h : XH) (v1 : Int32) (v2 : Int32) : Option (Int32 × XH) := x_lb (f_X11_score K x h v1 v2) [0, 2] (fun v h => x_l h (x + 76) (0 : Int32).toNatClampNeg v.toInt64)
set_option maxRecDepth 20000 in
theorem S_L_score {l : Launch} {O : XO} {K : XK} {h h' : XH} {n : Nat} {v1 : Int32} {v2 : Int32} {r : Int32} (hst : l.stackTraces = false) (hf : f_L_score K (oX O) h v1 v2 = some (r, h')) : x_ML l O K K yL_score cL_score 5 [(0, 10, 13, 24), (0, 10, 17, 45)] 9 155 3 18 h n [.ref (oX O), .int v1, .int v2, .ref (oX O + 76)] r h' := by
  obtain ⟨s1, h1, eq0, hE, hV⟩ := x_lbd hf
  refine x_enterL (by decide) rfl (Nat.le_of_ble_eq_true rfl) (fun p e s m args below meth c C ht hR hz ls hl => ?_)
  have hS : va_S (oA O) s.heap s.heap [] := va_S.rf
  have hx := C.1
  have hb := C.2.1
  have hl : lv_has ls 5 [(0, .ref (oX O)), (1, .int v1), (2, .int v2), (3, .ref (oX O + 76))] := hl
  refine lv_aload_n hx hb dL_score_0 rfl (lv_at hl 3 rfl) ?_
  refine lv_iconst (v := 0) hx hb dL_score_1 rfl ?_
  refine lv_aload_n hx hb dL_score_2 rfl (lv_at hl 0 rfl) ?_
  refine lv_iload_n hx hb dL_score_3 rfl (lv_at hl 1 rfl) ?_
  refine lv_iload_n hx hb dL_score_4 rfl (lv_at hl 2 rfl) ?_
  refine x_lcall C hR hS (S_X11_score (l := l) (K := K) hst eq0) x_blind (x_pre C hR hS) (ci := 11) (x_k1 (x_k hR 0 rfl)) (by decide) rfl mf_X11_score tw_1261 (Nat.le_of_ble_eq_true rfl) (Nat.le_of_ble_eq_true rfl) (As := [.int v1, .int v2]) rfl hl.1 (Nat.le_of_ble_eq_true rfl) dL_score_5 ⟨Nat.le_of_ble_eq_true rfl, Nat.le_of_ble_eq_true rfl⟩ rfl (fun e9 he9 H locs q ce hR hS hce hcv hcl => ?_) (fun r9 hr9 H locs hR hS => ?_)
  · obtain ⟨j, hj, hr, hh9⟩ := hE e9 (x_rv_inl he9)
    subst hh9
    subst hr
    have hj9 : j = 0 ∨ j = 1 := by
      have := (List.getElem?_eq_some_iff.mp hj).1
      simp only [List.length_cons, List.length_nil] at this
      omega
    rcases hj9 with rfl | rfl
    · cases hj
      refine vx_catch (name := x_en 0) C.2.2.2.1 [] ⟨0, 10, 13, 24⟩ [⟨0, 10, 17, 45⟩] (by rw [ht]; rfl) (fun z hz => nomatch hz) (by decide) (by decide) (C.2.2.2.2.1 _ tw_878) (x_hat C ca_0 rfl) hce hcv hcl ?_
      refine lv_astore (lv' := [(4, .ref q), (0, .ref (oX O)), (1, .int v1), (2, .int v2), (3, .ref (oX O + 76))]) hx hb dL_score_13 hl (Nat.le_of_ble_eq_true rfl) rfl (fun ls hl => ?_)
      refine lv_iconst (v := 1) hx hb dL_score_15 rfl ?_
      exact xx_iret C hR hS (Nat.le_of_ble_eq_true rfl) (Nat.le_of_ble_eq_true rfl) dL_score_16
    · cases hj
      refine vx_catch (name := x_en 2) C.2.2.2.1 [⟨0, 10, 13, 24⟩] ⟨0, 10, 17, 45⟩ [] (by rw [ht]; rfl) (fun z hz => by rcases List.mem_singleton.mp hz with rfl; exact Or.inr ⟨by decide, x_en 0, C.2.2.2.2.1 _ tw_878, x_nc C (by decide) (by decide) (by decide)⟩) (by decide) (by decide) (C.2.2.2.2.1 _ tw_969) (x_hat C ca_2 rfl) hce hcv hcl ?_
      refine lv_astore (lv' := [(4, .ref q), (0, .ref (oX O)), (1, .int v1), (2, .int v2), (3, .ref (oX O + 76))]) hx hb dL_score_17 hl (Nat.le_of_ble_eq_true rfl) rfl (fun ls hl => ?_)
      refine lv_iconst (v := 2) hx hb dL_score_19 rfl ?_
      exact xx_iret C hR hS (Nat.le_of_ble_eq_true rfl) (Nat.le_of_ble_eq_true rfl) dL_score_20
  · obtain ⟨v9, hv9, rfl⟩ := x_rv_inr hr9
    obtain ⟨rfl, hh9⟩ := hV v9 hv9
    subst hh9
    refine lv_i2l hx hb dL_score_8 rfl ?_
    refine x_last C hR hS (x_k1 (x_k hR 76 rfl)) (x_k2 (x_k hR 76 rfl) (by decide)) dL_score_9 (fun H locs hR hS => ?_)
    refine lv_goto (tgt := 21) hx hb dL_score_10 rfl ?_
    refine lv_iconst (v := 0) hx hb dL_score_21 rfl ?_
    exact xx_iret C hR hS (Nat.le_of_ble_eq_true rfl) (Nat.le_of_ble_eq_true rfl) dL_score_22
theorem lw_L_score : Cond.codeWith yL_score cL_score 5 (some .int) [(0, 10, 13, 24), (0, 10, 17, 45)] ∈ TB ∧ Cond.static yL_score ∈ TB ∧ Cond.initialized yL_score.cls ∈ TB ∧ yL_score.cls ≠ "java/lang/invoke/MethodHandle" ∧ yL_score.cls ≠ "java/lang/invoke/VarHandle" ∧ (parseMethodDescriptor yL_score.desc).map (fun d => d.parameters.length) = some 4 := ⟨TB_of (tin_5 (List.mem_of_getElem? (i := 195) (by decide +kernel))) rfl, TB_of (tin_5 (List.mem_of_getElem? (i := 194) (by decide +kernel))) rfl, TB_of (tin_1 (List.mem_of_getElem? (i := 0) (by decide +kernel))) rfl, by decide, by decide, by decide +kernel⟩
def f_L_fits (K : XK) (x : Nat) (h : XH) (v1 : Int32) (v2 : Int32) : Option (Int32 × XH) := x_lb (f_X11_fits K x h v1 v2) [0, 2, 1] (fun v h => x_l h (x + 76) (0 : Int32).toNatClampNeg v.toInt64)
set_option maxRecDepth 20000 in
theorem S_L_fits {l : Launch} {O : XO} {K : XK} {h h' : XH} {n : Nat} {v1 : Int32} {v2 : Int32} {r : Int32} (hst : l.stackTraces = false) (hf : f_L_fits K (oX O) h v1 v2 = some (r, h')) : x_ML l O K K yL_fits cL_fits 5 [(0, 10, 13, 24), (0, 10, 17, 45), (0, 10, 21, 13)] 9 178 3 18 h n [.ref (oX O), .int v1, .int v2, .ref (oX O + 76)] r h' := by
  obtain ⟨s1, h1, eq0, hE, hV⟩ := x_lbd hf
  refine x_enterL (by decide) rfl (Nat.le_of_ble_eq_true rfl) (fun p e s m args below meth c C ht hR hz ls hl => ?_)
  have hS : va_S (oA O) s.heap s.heap [] := va_S.rf
  have hx := C.1
  have hb := C.2.1
  have hl : lv_has ls 5 [(0, .ref (oX O)), (1, .int v1), (2, .int v2), (3, .ref (oX O + 76))] := hl
  refine lv_aload_n hx hb dL_fits_0 rfl (lv_at hl 3 rfl) ?_
  refine lv_iconst (v := 0) hx hb dL_fits_1 rfl ?_
  refine lv_aload_n hx hb dL_fits_2 rfl (lv_at hl 0 rfl) ?_
  refine lv_iload_n hx hb dL_fits_3 rfl (lv_at hl 1 rfl) ?_
  refine lv_iload_n hx hb dL_fits_4 rfl (lv_at hl 2 rfl) ?_
  refine x_lcall C hR hS (S_X11_fits (l := l) (K := K) hst eq0) x_blind (x_pre C hR hS) (ci := 11) (x_k1 (x_k hR 0 rfl)) (by decide) rfl mf_X11_fits tw_1281 (Nat.le_of_ble_eq_true rfl) (Nat.le_of_ble_eq_true rfl) (As := [.int v1, .int v2]) rfl hl.1 (Nat.le_of_ble_eq_true rfl) dL_fits_5 ⟨Nat.le_of_ble_eq_true rfl, Nat.le_of_ble_eq_true rfl⟩ rfl (fun e9 he9 H locs q ce hR hS hce hcv hcl => ?_) (fun r9 hr9 H locs hR hS => ?_)
  · obtain ⟨j, hj, hr, hh9⟩ := hE e9 (x_rv_inl he9)
    subst hh9
    subst hr
    have hj9 : j = 0 ∨ j = 1 ∨ j = 2 := by
      have := (List.getElem?_eq_some_iff.mp hj).1
      simp only [List.length_cons, List.length_nil] at this
      omega
    rcases hj9 with rfl | rfl | rfl
    · cases hj
      refine vx_catch (name := x_en 0) C.2.2.2.1 [] ⟨0, 10, 13, 24⟩ [⟨0, 10, 17, 45⟩, ⟨0, 10, 21, 13⟩] (by rw [ht]; rfl) (fun z hz => nomatch hz) (by decide) (by decide) (C.2.2.2.2.1 _ tw_878) (x_hat C ca_0 rfl) hce hcv hcl ?_
      refine lv_astore (lv' := [(4, .ref q), (0, .ref (oX O)), (1, .int v1), (2, .int v2), (3, .ref (oX O + 76))]) hx hb dL_fits_13 hl (Nat.le_of_ble_eq_true rfl) rfl (fun ls hl => ?_)
      refine lv_iconst (v := 1) hx hb dL_fits_15 rfl ?_
      exact xx_iret C hR hS (Nat.le_of_ble_eq_true rfl) (Nat.le_of_ble_eq_true rfl) dL_fits_16
    · cases hj
      refine vx_catch (name := x_en 2) C.2.2.2.1 [⟨0, 10, 13, 24⟩] ⟨0, 10, 17, 45⟩ [⟨0, 10, 21, 13⟩] (by rw [ht]; rfl) (fun z hz => by rcases List.mem_singleton.mp hz with rfl; exact Or.inr ⟨by decide, x_en 0, C.2.2.2.2.1 _ tw_878, x_nc C (by decide) (by decide) (by decide)⟩) (by decide) (by decide) (C.2.2.2.2.1 _ tw_969) (x_hat C ca_2 rfl) hce hcv hcl ?_
      refine lv_astore (lv' := [(4, .ref q), (0, .ref (oX O)), (1, .int v1), (2, .int v2), (3, .ref (oX O + 76))]) hx hb dL_fits_17 hl (Nat.le_of_ble_eq_true rfl) rfl (fun ls hl => ?_)
      refine lv_iconst (v := 2) hx hb dL_fits_19 rfl ?_
      exact xx_iret C hR hS (Nat.le_of_ble_eq_true rfl) (Nat.le_of_ble_eq_true rfl) dL_fits_20
    · cases hj
      refine vx_catch (name := x_en 1) C.2.2.2.1 [⟨0, 10, 13, 24⟩, ⟨0, 10, 17, 45⟩] ⟨0, 10, 21, 13⟩ [] (by rw [ht]; rfl) (fun z hz => by rcases List.mem_cons.mp hz with rfl | hz; exact Or.inr ⟨by decide, x_en 0, C.2.2.2.2.1 _ tw_878, x_nc C (by decide) (by decide) (by decide)⟩; rcases List.mem_singleton.mp hz with rfl; exact Or.inr ⟨by decide, x_en 2, C.2.2.2.2.1 _ tw_969, x_nc C (by decide) (by decide) (by decide)⟩) (by decide) (by decide) (C.2.2.2.2.1 _ tw_622) (x_hat C ca_1 rfl) hce hcv hcl ?_
      refine lv_astore (lv' := [(4, .ref q), (0, .ref (oX O)), (1, .int v1), (2, .int v2), (3, .ref (oX O + 76))]) hx hb dL_fits_21 hl (Nat.le_of_ble_eq_true rfl) rfl (fun ls hl => ?_)
      refine lv_iconst (v := 3) hx hb dL_fits_23 rfl ?_
      exact xx_iret C hR hS (Nat.le_of_ble_eq_true rfl) (Nat.le_of_ble_eq_true rfl) dL_fits_24
  · obtain ⟨v9, hv9, rfl⟩ := x_rv_inr hr9
    obtain ⟨rfl, hh9⟩ := hV v9 hv9
    subst hh9
    refine lv_i2l hx hb dL_fits_8 rfl ?_
    refine x_last C hR hS (x_k1 (x_k hR 76 rfl)) (x_k2 (x_k hR 76 rfl) (by decide)) dL_fits_9 (fun H locs hR hS => ?_)
    refine lv_goto (tgt := 25) hx hb dL_fits_10 rfl ?_
    refine lv_iconst (v := 0) hx hb dL_fits_25 rfl ?_
    exact xx_iret C hR hS (Nat.le_of_ble_eq_true rfl) (Nat.le_of_ble_eq_true rfl) dL_fits_26
theorem lw_L_fits : Cond.codeWith yL_fits cL_fits 5 (some .int) [(0, 10, 13, 24), (0, 10, 17, 45), (0, 10, 21, 13)] ∈ TB ∧ Cond.static yL_fits ∈ TB ∧ Cond.initialized yL_fits.cls ∈ TB ∧ yL_fits.cls ≠ "java/lang/invoke/MethodHandle" ∧ yL_fits.cls ≠ "java/lang/invoke/VarHandle" ∧ (parseMethodDescriptor yL_fits.desc).map (fun d => d.parameters.length) = some 4 := ⟨TB_of (tin_5 (List.mem_of_getElem? (i := 215) (by decide +kernel))) rfl, TB_of (tin_5 (List.mem_of_getElem? (i := 214) (by decide +kernel))) rfl, TB_of (tin_1 (List.mem_of_getElem? (i := 0) (by decide +kernel))) rfl, by decide, by decide, by decide +kernel⟩
def f_L_lacks (x : Nat) (h : XH) (v1 : Int32) (v2 : Int32) : Option (Int32 × XH) := x_lb (f_X11_lacks x h v1 v2) [0, 2, 1] (fun v h => x_l h (x + 76) (0 : Int32).toNatClampNeg v.toInt64)
set_option maxRecDepth 20000 in
theorem S_L_lacks {l : Launch} {O : XO} {K : XK} {h h' : XH} {n : Nat} {v1 : Int32} {v2 : Int32} {r : Int32} (hst : l.stackTraces = false) (hf : f_L_lacks (oX O) h v1 v2 = some (r, h')) : x_ML l O K K yL_lacks cL_lacks 5 [(0, 10, 13, 24), (0, 10, 17, 45), (0, 10, 21, 13)] 9 155 3 18 h n [.ref (oX O), .int v1, .int v2, .ref (oX O + 76)] r h' := by
  obtain ⟨s1, h1, eq0, hE, hV⟩ := x_lbd hf
  refine x_enterL (by decide) rfl (Nat.le_of_ble_eq_true rfl) (fun p e s m args below meth c C ht hR hz ls hl => ?_)
  have hS : va_S (oA O) s.heap s.heap [] := va_S.rf
  have hx := C.1
  have hb := C.2.1
  have hl : lv_has ls 5 [(0, .ref (oX O)), (1, .int v1), (2, .int v2), (3, .ref (oX O + 76))] := hl
  refine lv_aload_n hx hb dL_lacks_0 rfl (lv_at hl 3 rfl) ?_
  refine lv_iconst (v := 0) hx hb dL_lacks_1 rfl ?_
  refine lv_aload_n hx hb dL_lacks_2 rfl (lv_at hl 0 rfl) ?_
  refine lv_iload_n hx hb dL_lacks_3 rfl (lv_at hl 1 rfl) ?_
  refine lv_iload_n hx hb dL_lacks_4 rfl (lv_at hl 2 rfl) ?_
  refine x_lcall C hR hS (S_X11_lacks (l := l) (K := K) hst eq0) x_blind (x_pre C hR hS) (ci := 11) (x_k1 (x_k hR 0 rfl)) (by decide) rfl mf_X11_lacks tw_1292 (Nat.le_of_ble_eq_true rfl) (Nat.le_of_ble_eq_true rfl) (As := [.int v1, .int v2]) rfl hl.1 (Nat.le_of_ble_eq_true rfl) dL_lacks_5 ⟨Nat.le_of_ble_eq_true rfl, Nat.le_of_ble_eq_true rfl⟩ rfl (fun e9 he9 H locs q ce hR hS hce hcv hcl => ?_) (fun r9 hr9 H locs hR hS => ?_)
  · obtain ⟨j, hj, hr, hh9⟩ := hE e9 (x_rv_inl he9)
    subst hh9
    subst hr
    have hj9 : j = 0 ∨ j = 1 ∨ j = 2 := by
      have := (List.getElem?_eq_some_iff.mp hj).1
      simp only [List.length_cons, List.length_nil] at this
      omega
    rcases hj9 with rfl | rfl | rfl
    · cases hj
      refine vx_catch (name := x_en 0) C.2.2.2.1 [] ⟨0, 10, 13, 24⟩ [⟨0, 10, 17, 45⟩, ⟨0, 10, 21, 13⟩] (by rw [ht]; rfl) (fun z hz => nomatch hz) (by decide) (by decide) (C.2.2.2.2.1 _ tw_878) (x_hat C ca_0 rfl) hce hcv hcl ?_
      refine lv_astore (lv' := [(4, .ref q), (0, .ref (oX O)), (1, .int v1), (2, .int v2), (3, .ref (oX O + 76))]) hx hb dL_lacks_13 hl (Nat.le_of_ble_eq_true rfl) rfl (fun ls hl => ?_)
      refine lv_iconst (v := 1) hx hb dL_lacks_15 rfl ?_
      exact xx_iret C hR hS (Nat.le_of_ble_eq_true rfl) (Nat.le_of_ble_eq_true rfl) dL_lacks_16
    · cases hj
      refine vx_catch (name := x_en 2) C.2.2.2.1 [⟨0, 10, 13, 24⟩] ⟨0, 10, 17, 45⟩ [⟨0, 10, 21, 13⟩] (by rw [ht]; rfl) (fun z hz => by rcases List.mem_singleton.mp hz with rfl; exact Or.inr ⟨by decide, x_en 0, C.2.2.2.2.1 _ tw_878, x_nc C (by decide) (by decide) (by decide)⟩) (by decide) (by decide) (C.2.2.2.2.1 _ tw_969) (x_hat C ca_2 rfl) hce hcv hcl ?_
      refine lv_astore (lv' := [(4, .ref q), (0, .ref (oX O)), (1, .int v1), (2, .int v2), (3, .ref (oX O + 76))]) hx hb dL_lacks_17 hl (Nat.le_of_ble_eq_true rfl) rfl (fun ls hl => ?_)
      refine lv_iconst (v := 2) hx hb dL_lacks_19 rfl ?_
      exact xx_iret C hR hS (Nat.le_of_ble_eq_true rfl) (Nat.le_of_ble_eq_true rfl) dL_lacks_20
    · cases hj
      refine vx_catch (name := x_en 1) C.2.2.2.1 [⟨0, 10, 13, 24⟩, ⟨0, 10, 17, 45⟩] ⟨0, 10, 21, 13⟩ [] (by rw [ht]; rfl) (fun z hz => by rcases List.mem_cons.mp hz with rfl | hz; exact Or.inr ⟨by decide, x_en 0, C.2.2.2.2.1 _ tw_878, x_nc C (by decide) (by decide) (by decide)⟩; rcases List.mem_singleton.mp hz with rfl; exact Or.inr ⟨by decide, x_en 2, C.2.2.2.2.1 _ tw_969, x_nc C (by decide) (by decide) (by decide)⟩) (by decide) (by decide) (C.2.2.2.2.1 _ tw_622) (x_hat C ca_1 rfl) hce hcv hcl ?_
      refine lv_astore (lv' := [(4, .ref q), (0, .ref (oX O)), (1, .int v1), (2, .int v2), (3, .ref (oX O + 76))]) hx hb dL_lacks_21 hl (Nat.le_of_ble_eq_true rfl) rfl (fun ls hl => ?_)
      refine lv_iconst (v := 3) hx hb dL_lacks_23 rfl ?_
      exact xx_iret C hR hS (Nat.le_of_ble_eq_true rfl) (Nat.le_of_ble_eq_true rfl) dL_lacks_24
  · obtain ⟨v9, hv9, rfl⟩ := x_rv_inr hr9
    obtain ⟨rfl, hh9⟩ := hV v9 hv9
    subst hh9
    refine lv_i2l hx hb dL_lacks_8 rfl ?_
    refine x_last C hR hS (x_k1 (x_k hR 76 rfl)) (x_k2 (x_k hR 76 rfl) (by decide)) dL_lacks_9 (fun H locs hR hS => ?_)
    refine lv_goto (tgt := 25) hx hb dL_lacks_10 rfl ?_
    refine lv_iconst (v := 0) hx hb dL_lacks_25 rfl ?_
    exact xx_iret C hR hS (Nat.le_of_ble_eq_true rfl) (Nat.le_of_ble_eq_true rfl) dL_lacks_26
theorem lw_L_lacks : Cond.codeWith yL_lacks cL_lacks 5 (some .int) [(0, 10, 13, 24), (0, 10, 17, 45), (0, 10, 21, 13)] ∈ TB ∧ Cond.static yL_lacks ∈ TB ∧ Cond.initialized yL_lacks.cls ∈ TB ∧ yL_lacks.cls ≠ "java/lang/invoke/MethodHandle" ∧ yL_lacks.cls ≠ "java/lang/invoke/VarHandle" ∧ (parseMethodDescriptor yL_lacks.desc).map (fun d => d.parameters.length) = some 4 := ⟨TB_of (tin_5 (List.mem_of_getElem? (i := 226) (by decide +kernel))) rfl, TB_of (tin_5 (List.mem_of_getElem? (i := 225) (by decide +kernel))) rfl, TB_of (tin_1 (List.mem_of_getElem? (i := 0) (by decide +kernel))) rfl, by decide, by decide, by decide +kernel⟩
def f_L_guess (K : XK) (x : Nat) (h : XH) (v1 : Int32) (v2 : Int32) (v3 : Int32) : Option (Int32 × XH) := x_lb (f_X11_guess K x h v1 v2 v3) [0, 2, 4] (fun v h => x_l h (x + 76) (0 : Int32).toNatClampNeg v.toInt64)
set_option maxRecDepth 20000 in
theorem S_L_guess {l : Launch} {O : XO} {K : XK} {h h' : XH} {n : Nat} {v1 : Int32} {v2 : Int32} {v3 : Int32} {r : Int32} (hst : l.stackTraces = false) (hf : f_L_guess K (oX O) h v1 v2 v3 = some (r, h')) : x_ML l O K K yL_guess cL_guess 6 [(0, 12, 15, 24), (0, 12, 19, 45), (0, 12, 23, 56)] 10 259 4 24 h n [.ref (oX O), .int v1, .int v2, .int v3, .ref (oX O + 76)] r h' := by
  obtain ⟨s1, h1, eq0, hE, hV⟩ := x_lbd hf
  refine x_enterL (by decide) rfl (Nat.le_of_ble_eq_true rfl) (fun p e s m args below meth c C ht hR hz ls hl => ?_)
  have hS : va_S (oA O) s.heap s.heap [] := va_S.rf
  have hx := C.1
  have hb := C.2.1
  have hl : lv_has ls 6 [(0, .ref (oX O)), (1, .int v1), (2, .int v2), (3, .int v3), (4, .ref (oX O + 76))] := hl
  refine lv_aload hx hb dL_guess_0 (lv_at hl 4 rfl) ?_
  refine lv_iconst (v := 0) hx hb dL_guess_2 rfl ?_
  refine lv_aload_n hx hb dL_guess_3 rfl (lv_at hl 0 rfl) ?_
  refine lv_iload_n hx hb dL_guess_4 rfl (lv_at hl 1 rfl) ?_
  refine lv_iload_n hx hb dL_guess_5 rfl (lv_at hl 2 rfl) ?_
  refine lv_iload_n hx hb dL_guess_6 rfl (lv_at hl 3 rfl) ?_
  refine x_lcall C hR hS (S_X11_guess (l := l) (K := K) hst eq0) x_blind (x_pre C hR hS) (ci := 11) (x_k1 (x_k hR 0 rfl)) (by decide) rfl mf_X11_guess tw_1312 (Nat.le_of_ble_eq_true rfl) (Nat.le_of_ble_eq_true rfl) (As := [.int v1, .int v2, .int v3]) rfl hl.1 (Nat.le_of_ble_eq_true rfl) dL_guess_7 ⟨Nat.le_of_ble_eq_true rfl, Nat.le_of_ble_eq_true rfl⟩ rfl (fun e9 he9 H locs q ce hR hS hce hcv hcl => ?_) (fun r9 hr9 H locs hR hS => ?_)
  · obtain ⟨j, hj, hr, hh9⟩ := hE e9 (x_rv_inl he9)
    subst hh9
    subst hr
    have hj9 : j = 0 ∨ j = 1 ∨ j = 2 := by
      have := (List.getElem?_eq_some_iff.mp hj).1
      simp only [List.length_cons, List.length_nil] at this
      omega
    rcases hj9 with rfl | rfl | rfl
    · cases hj
      refine vx_catch (name := x_en 0) C.2.2.2.1 [] ⟨0, 12, 15, 24⟩ [⟨0, 12, 19, 45⟩, ⟨0, 12, 23, 56⟩] (by rw [ht]; rfl) (fun z hz => nomatch hz) (by decide) (by decide) (C.2.2.2.2.1 _ tw_878) (x_hat C ca_0 rfl) hce hcv hcl ?_
      refine lv_astore (lv' := [(5, .ref q), (0, .ref (oX O)), (1, .int v1), (2, .int v2), (3, .int v3), (4, .ref (oX O + 76))]) hx hb dL_guess_15 hl (Nat.le_of_ble_eq_true rfl) rfl (fun ls hl => ?_)
      refine lv_iconst (v := 1) hx hb dL_guess_17 rfl ?_
      exact xx_iret C hR hS (Nat.le_of_ble_eq_true rfl) (Nat.le_of_ble_eq_true rfl) dL_guess_18
    · cases hj
      refine vx_catch (name := x_en 2) C.2.2.2.1 [⟨0, 12, 15, 24⟩] ⟨0, 12, 19, 45⟩ [⟨0, 12, 23, 56⟩] (by rw [ht]; rfl) (fun z hz => by rcases List.mem_singleton.mp hz with rfl; exact Or.inr ⟨by decide, x_en 0, C.2.2.2.2.1 _ tw_878, x_nc C (by decide) (by decide) (by decide)⟩) (by decide) (by decide) (C.2.2.2.2.1 _ tw_969) (x_hat C ca_2 rfl) hce hcv hcl ?_
      refine lv_astore (lv' := [(5, .ref q), (0, .ref (oX O)), (1, .int v1), (2, .int v2), (3, .int v3), (4, .ref (oX O + 76))]) hx hb dL_guess_19 hl (Nat.le_of_ble_eq_true rfl) rfl (fun ls hl => ?_)
      refine lv_iconst (v := 2) hx hb dL_guess_21 rfl ?_
      exact xx_iret C hR hS (Nat.le_of_ble_eq_true rfl) (Nat.le_of_ble_eq_true rfl) dL_guess_22
    · cases hj
      refine vx_catch (name := x_en 4) C.2.2.2.1 [⟨0, 12, 15, 24⟩, ⟨0, 12, 19, 45⟩] ⟨0, 12, 23, 56⟩ [] (by rw [ht]; rfl) (fun z hz => by rcases List.mem_cons.mp hz with rfl | hz; exact Or.inr ⟨by decide, x_en 0, C.2.2.2.2.1 _ tw_878, x_nc C (by decide) (by decide) (by decide)⟩; rcases List.mem_singleton.mp hz with rfl; exact Or.inr ⟨by decide, x_en 2, C.2.2.2.2.1 _ tw_969, x_nc C (by decide) (by decide) (by decide)⟩) (by decide) (by decide) (C.2.2.2.2.1 _ tw_1047) (x_hat C ca_4 rfl) hce hcv hcl ?_
      refine lv_astore (lv' := [(5, .ref q), (0, .ref (oX O)), (1, .int v1), (2, .int v2), (3, .int v3), (4, .ref (oX O + 76))]) hx hb dL_guess_23 hl (Nat.le_of_ble_eq_true rfl) rfl (fun ls hl => ?_)
      refine lv_iconst (v := 3) hx hb dL_guess_25 rfl ?_
      exact xx_iret C hR hS (Nat.le_of_ble_eq_true rfl) (Nat.le_of_ble_eq_true rfl) dL_guess_26
  · obtain ⟨v9, hv9, rfl⟩ := x_rv_inr hr9
    obtain ⟨rfl, hh9⟩ := hV v9 hv9
    subst hh9
    refine lv_i2l hx hb dL_guess_10 rfl ?_
    refine x_last C hR hS (x_k1 (x_k hR 76 rfl)) (x_k2 (x_k hR 76 rfl) (by decide)) dL_guess_11 (fun H locs hR hS => ?_)
    refine lv_goto (tgt := 27) hx hb dL_guess_12 rfl ?_
    refine lv_iconst (v := 0) hx hb dL_guess_27 rfl ?_
    exact xx_iret C hR hS (Nat.le_of_ble_eq_true rfl) (Nat.le_of_ble_eq_true rfl) dL_guess_28
theorem lw_L_guess : Cond.codeWith yL_guess cL_guess 6 (some .int) [(0, 12, 15, 24), (0, 12, 19, 45), (0, 12, 23, 56)] ∈ TB ∧ Cond.static yL_guess ∈ TB ∧ Cond.initialized yL_guess.cls ∈ TB ∧ yL_guess.cls ≠ "java/lang/invoke/MethodHandle" ∧ yL_guess.cls ≠ "java/lang/invoke/VarHandle" ∧ (parseMethodDescriptor yL_guess.desc).map (fun d => d.parameters.length) = some 5 := ⟨TB_of (tin_6 (List.mem_of_getElem? (i := 6) (by decide +kernel))) rfl, TB_of (tin_6 (List.mem_of_getElem? (i := 5) (by decide +kernel))) rfl, TB_of (tin_1 (List.mem_of_getElem? (i := 0) (by decide +kernel))) rfl, by decide, by decide, by decide +kernel⟩
def f_L_moment (x : Nat) (h : XH) (v1 : Int32) : Option (Int32 × XH) := x_lb (f_X11_moment x h v1) [1, 3] (fun v h => x_l h (x + 76) (0 : Int32).toNatClampNeg v.toInt64)
set_option maxRecDepth 20000 in
theorem S_L_moment {l : Launch} {O : XO} {K : XK} {h h' : XH} {n : Nat} {v1 : Int32} {r : Int32} (hst : l.stackTraces = false) (hf : f_L_moment (oX O) h v1 = some (r, h')) : x_ML l O K K yL_moment cL_moment 4 [(0, 9, 12, 13), (0, 9, 15, 15)] 7 111 1 6 h n [.ref (oX O), .int v1, .ref (oX O + 76)] r h' := by
  obtain ⟨s1, h1, eq0, hE, hV⟩ := x_lbd hf
  refine x_enterL (by decide) rfl (Nat.le_of_ble_eq_true rfl) (fun p e s m args below meth c C ht hR hz ls hl => ?_)
  have hS : va_S (oA O) s.heap s.heap [] := va_S.rf
  have hx := C.1
  have hb := C.2.1
  have hl : lv_has ls 4 [(0, .ref (oX O)), (1, .int v1), (2, .ref (oX O + 76))] := hl
  refine lv_aload_n hx hb dL_moment_0 rfl (lv_at hl 2 rfl) ?_
  refine lv_iconst (v := 0) hx hb dL_moment_1 rfl ?_
  refine lv_aload_n hx hb dL_moment_2 rfl (lv_at hl 0 rfl) ?_
  refine lv_iload_n hx hb dL_moment_3 rfl (lv_at hl 1 rfl) ?_
  refine x_lcall C hR hS (S_X11_moment (l := l) (K := K) hst eq0) x_blind (x_pre C hR hS) (ci := 11) (x_k1 (x_k hR 0 rfl)) (by decide) rfl mf_X11_moment tw_1344 (Nat.le_of_ble_eq_true rfl) (Nat.le_of_ble_eq_true rfl) (As := [.int v1]) rfl hl.1 (Nat.le_of_ble_eq_true rfl) dL_moment_4 ⟨Nat.le_of_ble_eq_true rfl, Nat.le_of_ble_eq_true rfl⟩ rfl (fun e9 he9 H locs q ce hR hS hce hcv hcl => ?_) (fun r9 hr9 H locs hR hS => ?_)
  · obtain ⟨j, hj, hr, hh9⟩ := hE e9 (x_rv_inl he9)
    subst hh9
    subst hr
    have hj9 : j = 0 ∨ j = 1 := by
      have := (List.getElem?_eq_some_iff.mp hj).1
      simp only [List.length_cons, List.length_nil] at this
      omega
    rcases hj9 with rfl | rfl
    · cases hj
      refine vx_catch (name := x_en 1) C.2.2.2.1 [] ⟨0, 9, 12, 13⟩ [⟨0, 9, 15, 15⟩] (by rw [ht]; rfl) (fun z hz => nomatch hz) (by decide) (by decide) (C.2.2.2.2.1 _ tw_622) (x_hat C ca_1 rfl) hce hcv hcl ?_
      refine lv_astore_n (lv' := [(3, .ref q), (0, .ref (oX O)), (1, .int v1), (2, .ref (oX O + 76))]) hx hb dL_moment_12 rfl hl (Nat.le_of_ble_eq_true rfl) rfl (fun ls hl => ?_)
      refine lv_iconst (v := 1) hx hb dL_moment_13 rfl ?_
      exact xx_iret C hR hS (Nat.le_of_ble_eq_true rfl) (Nat.le_of_ble_eq_true rfl) dL_moment_14
    · cases hj
      refine vx_catch (name := x_en 3) C.2.2.2.1 [⟨0, 9, 12, 13⟩] ⟨0, 9, 15, 15⟩ [] (by rw [ht]; rfl) (fun z hz => by rcases List.mem_singleton.mp hz with rfl; exact Or.inr ⟨by decide, x_en 1, C.2.2.2.2.1 _ tw_622, x_nc C (by decide) (by decide) (by decide)⟩) (by decide) (by decide) (C.2.2.2.2.1 _ tw_623) (x_hat C ca_3 rfl) hce hcv hcl ?_
      refine lv_astore_n (lv' := [(3, .ref q), (0, .ref (oX O)), (1, .int v1), (2, .ref (oX O + 76))]) hx hb dL_moment_15 rfl hl (Nat.le_of_ble_eq_true rfl) rfl (fun ls hl => ?_)
      refine lv_iconst (v := 2) hx hb dL_moment_16 rfl ?_
      exact xx_iret C hR hS (Nat.le_of_ble_eq_true rfl) (Nat.le_of_ble_eq_true rfl) dL_moment_17
  · obtain ⟨v9, hv9, rfl⟩ := x_rv_inr hr9
    obtain ⟨rfl, hh9⟩ := hV v9 hv9
    subst hh9
    refine lv_i2l hx hb dL_moment_7 rfl ?_
    refine x_last C hR hS (x_k1 (x_k hR 76 rfl)) (x_k2 (x_k hR 76 rfl) (by decide)) dL_moment_8 (fun H locs hR hS => ?_)
    refine lv_goto (tgt := 18) hx hb dL_moment_9 rfl ?_
    refine lv_iconst (v := 0) hx hb dL_moment_18 rfl ?_
    exact xx_iret C hR hS (Nat.le_of_ble_eq_true rfl) (Nat.le_of_ble_eq_true rfl) dL_moment_19
theorem lw_L_moment : Cond.codeWith yL_moment cL_moment 4 (some .int) [(0, 9, 12, 13), (0, 9, 15, 15)] ∈ TB ∧ Cond.static yL_moment ∈ TB ∧ Cond.initialized yL_moment.cls ∈ TB ∧ yL_moment.cls ≠ "java/lang/invoke/MethodHandle" ∧ yL_moment.cls ≠ "java/lang/invoke/VarHandle" ∧ (parseMethodDescriptor yL_moment.desc).map (fun d => d.parameters.length) = some 3 := ⟨TB_of (tin_6 (List.mem_of_getElem? (i := 38) (by decide +kernel))) rfl, TB_of (tin_6 (List.mem_of_getElem? (i := 37) (by decide +kernel))) rfl, TB_of (tin_1 (List.mem_of_getElem? (i := 0) (by decide +kernel))) rfl, by decide, by decide, by decide +kernel⟩
def f_L_again (K : XK) (x : Nat) (h : XH) (v1 : Int32) (v2 : Int32) (v3 : Int32) (v4 : Int32) (v5 : Int32) : Option (Int32 × XH) := x_lb (f_X11_again K x h v1 v2 v3 v4 v5) [0, 2, 1] (fun v h => x_l h (x + 76) (0 : Int32).toNatClampNeg v.toInt64)
set_option maxRecDepth 20000 in
theorem S_L_again {l : Launch} {O : XO} {K : XK} {h h' : XH} {n : Nat} {v1 : Int32} {v2 : Int32} {v3 : Int32} {v4 : Int32} {v5 : Int32} {r : Int32} (hst : l.stackTraces = false) (hf : f_L_again K (oX O) h v1 v2 v3 v4 v5 = some (r, h')) : x_ML l O K K yL_again cL_again 8 [(0, 16, 19, 24), (0, 16, 23, 45), (0, 16, 27, 13)] 9 188 4 24 h n [.ref (oX O), .int v1, .int v2, .int v3, .int v4, .int v5, .ref (oX O + 76)] r h' := by
  obtain ⟨s1, h1, eq0, hE, hV⟩ := x_lbd hf
  refine x_enterL (by decide) rfl (Nat.le_of_ble_eq_true rfl) (fun p e s m args below meth c C ht hR hz ls hl => ?_)
  have hS : va_S (oA O) s.heap s.heap [] := va_S.rf
  have hx := C.1
  have hb := C.2.1
  have hl : lv_has ls 8 [(0, .ref (oX O)), (1, .int v1), (2, .int v2), (3, .int v3), (4, .int v4), (5, .int v5), (6, .ref (oX O + 76))] := hl
  refine lv_aload hx hb dL_again_0 (lv_at hl 6 rfl) ?_
  refine lv_iconst (v := 0) hx hb dL_again_2 rfl ?_
  refine lv_aload_n hx hb dL_again_3 rfl (lv_at hl 0 rfl) ?_
  refine lv_iload_n hx hb dL_again_4 rfl (lv_at hl 1 rfl) ?_
  refine lv_iload_n hx hb dL_again_5 rfl (lv_at hl 2 rfl) ?_
  refine lv_iload_n hx hb dL_again_6 rfl (lv_at hl 3 rfl) ?_
  refine lv_iload hx hb dL_again_7 (lv_at hl 4 rfl) ?_
  refine lv_iload hx hb dL_again_9 (lv_at hl 5 rfl) ?_
  refine x_lcall C hR hS (S_X11_again (l := l) (K := K) hst eq0) x_blind (x_pre C hR hS) (ci := 11) (x_k1 (x_k hR 0 rfl)) (by decide) rfl mf_X11_again tw_1358 (Nat.le_of_ble_eq_true rfl) (Nat.le_of_ble_eq_true rfl) (As := [.int v1, .int v2, .int v3, .int v4, .int v5]) rfl hl.1 (Nat.le_of_ble_eq_true rfl) dL_again_11 ⟨Nat.le_of_ble_eq_true rfl, Nat.le_of_ble_eq_true rfl⟩ rfl (fun e9 he9 H locs q ce hR hS hce hcv hcl => ?_) (fun r9 hr9 H locs hR hS => ?_)
  · obtain ⟨j, hj, hr, hh9⟩ := hE e9 (x_rv_inl he9)
    subst hh9
    subst hr
    have hj9 : j = 0 ∨ j = 1 ∨ j = 2 := by
      have := (List.getElem?_eq_some_iff.mp hj).1
      simp only [List.length_cons, List.length_nil] at this
      omega
    rcases hj9 with rfl | rfl | rfl
    · cases hj
      refine vx_catch (name := x_en 0) C.2.2.2.1 [] ⟨0, 16, 19, 24⟩ [⟨0, 16, 23, 45⟩, ⟨0, 16, 27, 13⟩] (by rw [ht]; rfl) (fun z hz => nomatch hz) (by decide) (by decide) (C.2.2.2.2.1 _ tw_878) (x_hat C ca_0 rfl) hce hcv hcl ?_
      refine lv_astore (lv' := [(7, .ref q), (0, .ref (oX O)), (1, .int v1), (2, .int v2), (3, .int v3), (4, .int v4), (5, .int v5), (6, .ref (oX O + 76))]) hx hb dL_again_19 hl (Nat.le_of_ble_eq_true rfl) rfl (fun ls hl => ?_)
      refine lv_iconst (v := 1) hx hb dL_again_21 rfl ?_
      exact xx_iret C hR hS (Nat.le_of_ble_eq_true rfl) (Nat.le_of_ble_eq_true rfl) dL_again_22
    · cases hj
      refine vx_catch (name := x_en 2) C.2.2.2.1 [⟨0, 16, 19, 24⟩] ⟨0, 16, 23, 45⟩ [⟨0, 16, 27, 13⟩] (by rw [ht]; rfl) (fun z hz => by rcases List.mem_singleton.mp hz with rfl; exact Or.inr ⟨by decide, x_en 0, C.2.2.2.2.1 _ tw_878, x_nc C (by decide) (by decide) (by decide)⟩) (by decide) (by decide) (C.2.2.2.2.1 _ tw_969) (x_hat C ca_2 rfl) hce hcv hcl ?_
      refine lv_astore (lv' := [(7, .ref q), (0, .ref (oX O)), (1, .int v1), (2, .int v2), (3, .int v3), (4, .int v4), (5, .int v5), (6, .ref (oX O + 76))]) hx hb dL_again_23 hl (Nat.le_of_ble_eq_true rfl) rfl (fun ls hl => ?_)
      refine lv_iconst (v := 2) hx hb dL_again_25 rfl ?_
      exact xx_iret C hR hS (Nat.le_of_ble_eq_true rfl) (Nat.le_of_ble_eq_true rfl) dL_again_26
    · cases hj
      refine vx_catch (name := x_en 1) C.2.2.2.1 [⟨0, 16, 19, 24⟩, ⟨0, 16, 23, 45⟩] ⟨0, 16, 27, 13⟩ [] (by rw [ht]; rfl) (fun z hz => by rcases List.mem_cons.mp hz with rfl | hz; exact Or.inr ⟨by decide, x_en 0, C.2.2.2.2.1 _ tw_878, x_nc C (by decide) (by decide) (by decide)⟩; rcases List.mem_singleton.mp hz with rfl; exact Or.inr ⟨by decide, x_en 2, C.2.2.2.2.1 _ tw_969, x_nc C (by decide) (by decide) (by decide)⟩) (by decide) (by decide) (C.2.2.2.2.1 _ tw_622) (x_hat C ca_1 rfl) hce hcv hcl ?_
      refine lv_astore (lv' := [(7, .ref q), (0, .ref (oX O)), (1, .int v1), (2, .int v2), (3, .int v3), (4, .int v4), (5, .int v5), (6, .ref (oX O + 76))]) hx hb dL_again_27 hl (Nat.le_of_ble_eq_true rfl) rfl (fun ls hl => ?_)
      refine lv_iconst (v := 3) hx hb dL_again_29 rfl ?_
      exact xx_iret C hR hS (Nat.le_of_ble_eq_true rfl) (Nat.le_of_ble_eq_true rfl) dL_again_30
  · obtain ⟨v9, hv9, rfl⟩ := x_rv_inr hr9
    obtain ⟨rfl, hh9⟩ := hV v9 hv9
    subst hh9
    refine lv_i2l hx hb dL_again_14 rfl ?_
    refine x_last C hR hS (x_k1 (x_k hR 76 rfl)) (x_k2 (x_k hR 76 rfl) (by decide)) dL_again_15 (fun H locs hR hS => ?_)
    refine lv_goto (tgt := 31) hx hb dL_again_16 rfl ?_
    refine lv_iconst (v := 0) hx hb dL_again_31 rfl ?_
    exact xx_iret C hR hS (Nat.le_of_ble_eq_true rfl) (Nat.le_of_ble_eq_true rfl) dL_again_32
theorem lw_L_again : Cond.codeWith yL_again cL_again 8 (some .int) [(0, 16, 19, 24), (0, 16, 23, 45), (0, 16, 27, 13)] ∈ TB ∧ Cond.static yL_again ∈ TB ∧ Cond.initialized yL_again.cls ∈ TB ∧ yL_again.cls ≠ "java/lang/invoke/MethodHandle" ∧ yL_again.cls ≠ "java/lang/invoke/VarHandle" ∧ (parseMethodDescriptor yL_again.desc).map (fun d => d.parameters.length) = some 7 := ⟨TB_of (tin_6 (List.mem_of_getElem? (i := 52) (by decide +kernel))) rfl, TB_of (tin_6 (List.mem_of_getElem? (i := 51) (by decide +kernel))) rfl, TB_of (tin_1 (List.mem_of_getElem? (i := 0) (by decide +kernel))) rfl, by decide, by decide, by decide +kernel⟩
def f_L_houses (K : XK) (x : Nat) (h : XH) (v1 : Int32) (v2 : Int32) (v3 : Int32) (v4 : Int32) : Option (Int32 × XH) := x_lb (f_X11_houses K x h v1 v2 v3 v4) [0, 1] (fun v h => x_l h (x + 76) (0 : Int32).toNatClampNeg v.toInt64)
set_option maxRecDepth 20000 in
theorem S_L_houses {l : Launch} {O : XO} {K : XK} {h h' : XH} {n : Nat} {v1 : Int32} {v2 : Int32} {v3 : Int32} {v4 : Int32} {r : Int32} (hst : l.stackTraces = false) (hf : f_L_houses K (oX O) h v1 v2 v3 v4 = some (r, h')) : x_ML l O K K yL_houses cL_houses 7 [(0, 14, 17, 24), (0, 14, 21, 13)] 8 136 3 18 h n [.ref (oX O), .int v1, .int v2, .int v3, .int v4, .ref (oX O + 76)] r h' := by
  obtain ⟨s1, h1, eq0, hE, hV⟩ := x_lbd hf
  refine x_enterL (by decide) rfl (Nat.le_of_ble_eq_true rfl) (fun p e s m args below meth c C ht hR hz ls hl => ?_)
  have hS : va_S (oA O) s.heap s.heap [] := va_S.rf
  have hx := C.1
  have hb := C.2.1
  have hl : lv_has ls 7 [(0, .ref (oX O)), (1, .int v1), (2, .int v2), (3, .int v3), (4, .int v4), (5, .ref (oX O + 76))] := hl
  refine lv_aload hx hb dL_houses_0 (lv_at hl 5 rfl) ?_
  refine lv_iconst (v := 0) hx hb dL_houses_2 rfl ?_
  refine lv_aload_n hx hb dL_houses_3 rfl (lv_at hl 0 rfl) ?_
  refine lv_iload_n hx hb dL_houses_4 rfl (lv_at hl 1 rfl) ?_
  refine lv_iload_n hx hb dL_houses_5 rfl (lv_at hl 2 rfl) ?_
  refine lv_iload_n hx hb dL_houses_6 rfl (lv_at hl 3 rfl) ?_
  refine lv_iload hx hb dL_houses_7 (lv_at hl 4 rfl) ?_
  refine x_lcall C hR hS (S_X11_houses (l := l) (K := K) hst eq0) x_blind (x_pre C hR hS) (ci := 11) (x_k1 (x_k hR 0 rfl)) (by decide) rfl mf_X11_houses tw_1384 (Nat.le_of_ble_eq_true rfl) (Nat.le_of_ble_eq_true rfl) (As := [.int v1, .int v2, .int v3, .int v4]) rfl hl.1 (Nat.le_of_ble_eq_true rfl) dL_houses_9 ⟨Nat.le_of_ble_eq_true rfl, Nat.le_of_ble_eq_true rfl⟩ rfl (fun e9 he9 H locs q ce hR hS hce hcv hcl => ?_) (fun r9 hr9 H locs hR hS => ?_)
  · obtain ⟨j, hj, hr, hh9⟩ := hE e9 (x_rv_inl he9)
    subst hh9
    subst hr
    have hj9 : j = 0 ∨ j = 1 := by
      have := (List.getElem?_eq_some_iff.mp hj).1
      simp only [List.length_cons, List.length_nil] at this
      omega
    rcases hj9 with rfl | rfl
    · cases hj
      refine vx_catch (name := x_en 0) C.2.2.2.1 [] ⟨0, 14, 17, 24⟩ [⟨0, 14, 21, 13⟩] (by rw [ht]; rfl) (fun z hz => nomatch hz) (by decide) (by decide) (C.2.2.2.2.1 _ tw_878) (x_hat C ca_0 rfl) hce hcv hcl ?_
      refine lv_astore (lv' := [(6, .ref q), (0, .ref (oX O)), (1, .int v1), (2, .int v2), (3, .int v3), (4, .int v4), (5, .ref (oX O + 76))]) hx hb dL_houses_17 hl (Nat.le_of_ble_eq_true rfl) rfl (fun ls hl => ?_)
      refine lv_iconst (v := 1) hx hb dL_houses_19 rfl ?_
      exact xx_iret C hR hS (Nat.le_of_ble_eq_true rfl) (Nat.le_of_ble_eq_true rfl) dL_houses_20
    · cases hj
      refine vx_catch (name := x_en 1) C.2.2.2.1 [⟨0, 14, 17, 24⟩] ⟨0, 14, 21, 13⟩ [] (by rw [ht]; rfl) (fun z hz => by rcases List.mem_singleton.mp hz with rfl; exact Or.inr ⟨by decide, x_en 0, C.2.2.2.2.1 _ tw_878, x_nc C (by decide) (by decide) (by decide)⟩) (by decide) (by decide) (C.2.2.2.2.1 _ tw_622) (x_hat C ca_1 rfl) hce hcv hcl ?_
      refine lv_astore (lv' := [(6, .ref q), (0, .ref (oX O)), (1, .int v1), (2, .int v2), (3, .int v3), (4, .int v4), (5, .ref (oX O + 76))]) hx hb dL_houses_21 hl (Nat.le_of_ble_eq_true rfl) rfl (fun ls hl => ?_)
      refine lv_iconst (v := 2) hx hb dL_houses_23 rfl ?_
      exact xx_iret C hR hS (Nat.le_of_ble_eq_true rfl) (Nat.le_of_ble_eq_true rfl) dL_houses_24
  · obtain ⟨v9, hv9, rfl⟩ := x_rv_inr hr9
    obtain ⟨rfl, hh9⟩ := hV v9 hv9
    subst hh9
    refine lv_i2l hx hb dL_houses_12 rfl ?_
    refine x_last C hR hS (x_k1 (x_k hR 76 rfl)) (x_k2 (x_k hR 76 rfl) (by decide)) dL_houses_13 (fun H locs hR hS => ?_)
    refine lv_goto (tgt := 25) hx hb dL_houses_14 rfl ?_
    refine lv_iconst (v := 0) hx hb dL_houses_25 rfl ?_
    exact xx_iret C hR hS (Nat.le_of_ble_eq_true rfl) (Nat.le_of_ble_eq_true rfl) dL_houses_26
theorem lw_L_houses : Cond.codeWith yL_houses cL_houses 7 (some .int) [(0, 14, 17, 24), (0, 14, 21, 13)] ∈ TB ∧ Cond.static yL_houses ∈ TB ∧ Cond.initialized yL_houses.cls ∈ TB ∧ yL_houses.cls ≠ "java/lang/invoke/MethodHandle" ∧ yL_houses.cls ≠ "java/lang/invoke/VarHandle" ∧ (parseMethodDescriptor yL_houses.desc).map (fun d => d.parameters.length) = some 6 := ⟨TB_of (tin_6 (List.mem_of_getElem? (i := 78) (by decide +kernel))) rfl, TB_of (tin_6 (List.mem_of_getElem? (i := 77) (by decide +kernel))) rfl, TB_of (tin_1 (List.mem_of_getElem? (i := 0) (by decide +kernel))) rfl, by decide, by decide, by decide +kernel⟩
def f_L_per (K : XK) (x : Nat) (h : XH) (v1 : Int32) (v2 : Int32) (v3 : Int32) (v4 : Int32) (v5 : Int32) : Option (Int32 × XH) := x_lb (f_X11_per K x h v1 v2 v3 v4 v5) [0, 1] (fun v h => x_l h (x + 76) (0 : Int32).toNatClampNeg v.toInt64)
set_option maxRecDepth 20000 in
theorem S_L_per {l : Launch} {O : XO} {K : XK} {h h' : XH} {n : Nat} {v1 : Int32} {v2 : Int32} {v3 : Int32} {v4 : Int32} {v5 : Int32} {r : Int32} (hst : l.stackTraces = false) (hf : f_L_per K (oX O) h v1 v2 v3 v4 v5 = some (r, h')) : x_ML l O K K yL_per cL_per 8 [(0, 16, 19, 24), (0, 16, 23, 13)] 8 186 4 24 h n [.ref (oX O), .int v1, .int v2, .int v3, .int v4, .int v5, .ref (oX O + 76)] r h' := by
  obtain ⟨s1, h1, eq0, hE, hV⟩ := x_lbd hf
  refine x_enterL (by decide) rfl (Nat.le_of_ble_eq_true rfl) (fun p e s m args below meth c C ht hR hz ls hl => ?_)
  have hS : va_S (oA O) s.heap s.heap [] := va_S.rf
  have hx := C.1
  have hb := C.2.1
  have hl : lv_has ls 8 [(0, .ref (oX O)), (1, .int v1), (2, .int v2), (3, .int v3), (4, .int v4), (5, .int v5), (6, .ref (oX O + 76))] := hl
  refine lv_aload hx hb dL_per_0 (lv_at hl 6 rfl) ?_
  refine lv_iconst (v := 0) hx hb dL_per_2 rfl ?_
  refine lv_aload_n hx hb dL_per_3 rfl (lv_at hl 0 rfl) ?_
  refine lv_iload_n hx hb dL_per_4 rfl (lv_at hl 1 rfl) ?_
  refine lv_iload_n hx hb dL_per_5 rfl (lv_at hl 2 rfl) ?_
  refine lv_iload_n hx hb dL_per_6 rfl (lv_at hl 3 rfl) ?_
  refine lv_iload hx hb dL_per_7 (lv_at hl 4 rfl) ?_
  refine lv_iload hx hb dL_per_9 (lv_at hl 5 rfl) ?_
  refine x_lcall C hR hS (S_X11_per (l := l) (K := K) hst eq0) x_blind (x_pre C hR hS) (ci := 11) (x_k1 (x_k hR 0 rfl)) (by decide) rfl mf_X11_per tw_1396 (Nat.le_of_ble_eq_true rfl) (Nat.le_of_ble_eq_true rfl) (As := [.int v1, .int v2, .int v3, .int v4, .int v5]) rfl hl.1 (Nat.le_of_ble_eq_true rfl) dL_per_11 ⟨Nat.le_of_ble_eq_true rfl, Nat.le_of_ble_eq_true rfl⟩ rfl (fun e9 he9 H locs q ce hR hS hce hcv hcl => ?_) (fun r9 hr9 H locs hR hS => ?_)
  · obtain ⟨j, hj, hr, hh9⟩ := hE e9 (x_rv_inl he9)
    subst hh9
    subst hr
    have hj9 : j = 0 ∨ j = 1 := by
      have := (List.getElem?_eq_some_iff.mp hj).1
      simp only [List.length_cons, List.length_nil] at this
      omega
    rcases hj9 with rfl | rfl
    · cases hj
      refine vx_catch (name := x_en 0) C.2.2.2.1 [] ⟨0, 16, 19, 24⟩ [⟨0, 16, 23, 13⟩] (by rw [ht]; rfl) (fun z hz => nomatch hz) (by decide) (by decide) (C.2.2.2.2.1 _ tw_878) (x_hat C ca_0 rfl) hce hcv hcl ?_
      refine lv_astore (lv' := [(7, .ref q), (0, .ref (oX O)), (1, .int v1), (2, .int v2), (3, .int v3), (4, .int v4), (5, .int v5), (6, .ref (oX O + 76))]) hx hb dL_per_19 hl (Nat.le_of_ble_eq_true rfl) rfl (fun ls hl => ?_)
      refine lv_iconst (v := 1) hx hb dL_per_21 rfl ?_
      exact xx_iret C hR hS (Nat.le_of_ble_eq_true rfl) (Nat.le_of_ble_eq_true rfl) dL_per_22
    · cases hj
      refine vx_catch (name := x_en 1) C.2.2.2.1 [⟨0, 16, 19, 24⟩] ⟨0, 16, 23, 13⟩ [] (by rw [ht]; rfl) (fun z hz => by rcases List.mem_singleton.mp hz with rfl; exact Or.inr ⟨by decide, x_en 0, C.2.2.2.2.1 _ tw_878, x_nc C (by decide) (by decide) (by decide)⟩) (by decide) (by decide) (C.2.2.2.2.1 _ tw_622) (x_hat C ca_1 rfl) hce hcv hcl ?_
      refine lv_astore (lv' := [(7, .ref q), (0, .ref (oX O)), (1, .int v1), (2, .int v2), (3, .int v3), (4, .int v4), (5, .int v5), (6, .ref (oX O + 76))]) hx hb dL_per_23 hl (Nat.le_of_ble_eq_true rfl) rfl (fun ls hl => ?_)
      refine lv_iconst (v := 2) hx hb dL_per_25 rfl ?_
      exact xx_iret C hR hS (Nat.le_of_ble_eq_true rfl) (Nat.le_of_ble_eq_true rfl) dL_per_26
  · obtain ⟨v9, hv9, rfl⟩ := x_rv_inr hr9
    obtain ⟨rfl, hh9⟩ := hV v9 hv9
    subst hh9
    refine lv_i2l hx hb dL_per_14 rfl ?_
    refine x_last C hR hS (x_k1 (x_k hR 76 rfl)) (x_k2 (x_k hR 76 rfl) (by decide)) dL_per_15 (fun H locs hR hS => ?_)
    refine lv_goto (tgt := 27) hx hb dL_per_16 rfl ?_
    refine lv_iconst (v := 0) hx hb dL_per_27 rfl ?_
    exact xx_iret C hR hS (Nat.le_of_ble_eq_true rfl) (Nat.le_of_ble_eq_true rfl) dL_per_28
theorem lw_L_per : Cond.codeWith yL_per cL_per 8 (some .int) [(0, 16, 19, 24), (0, 16, 23, 13)] ∈ TB ∧ Cond.static yL_per ∈ TB ∧ Cond.initialized yL_per.cls ∈ TB ∧ yL_per.cls ≠ "java/lang/invoke/MethodHandle" ∧ yL_per.cls ≠ "java/lang/invoke/VarHandle" ∧ (parseMethodDescriptor yL_per.desc).map (fun d => d.parameters.length) = some 7 := ⟨TB_of (tin_6 (List.mem_of_getElem? (i := 90) (by decide +kernel))) rfl, TB_of (tin_6 (List.mem_of_getElem? (i := 89) (by decide +kernel))) rfl, TB_of (tin_1 (List.mem_of_getElem? (i := 0) (by decide +kernel))) rfl, by decide, by decide, by decide +kernel⟩
def f_L_plan (K : XK) (x : Nat) (h : XH) (v1 : Int32) (v2 : Int32) (v3 : Int32) (v4 : Int32) (v5 : Int32) : Option (Int32 × XH) := x_lb (f_X11_plan K x h v1 v2 v3 v4 v5) [0, 1] (fun v h => x_l h (x + 76) (0 : Int32).toNatClampNeg v.toInt64)
set_option maxRecDepth 20000 in
theorem S_L_plan {l : Launch} {O : XO} {K : XK} {h h' : XH} {n : Nat} {v1 : Int32} {v2 : Int32} {v3 : Int32} {v4 : Int32} {v5 : Int32} {r : Int32} (hst : l.stackTraces = false) (hf : f_L_plan K (oX O) h v1 v2 v3 v4 v5 = some (r, h')) : x_ML l O K K yL_plan cL_plan 8 [(0, 16, 19, 24), (0, 16, 23, 13)] 10 772 5 30 h n [.ref (oX O), .int v1, .int v2, .int v3, .int v4, .int v5, .ref (oX O + 76)] r h' := by
  obtain ⟨s1, h1, eq0, hE, hV⟩ := x_lbd hf
  refine x_enterL (by decide) rfl (Nat.le_of_ble_eq_true rfl) (fun p e s m args below meth c C ht hR hz ls hl => ?_)
  have hS : va_S (oA O) s.heap s.heap [] := va_S.rf
  have hx := C.1
  have hb := C.2.1
  have hl : lv_has ls 8 [(0, .ref (oX O)), (1, .int v1), (2, .int v2), (3, .int v3), (4, .int v4), (5, .int v5), (6, .ref (oX O + 76))] := hl
  refine lv_aload hx hb dL_plan_0 (lv_at hl 6 rfl) ?_
  refine lv_iconst (v := 0) hx hb dL_plan_2 rfl ?_
  refine lv_aload_n hx hb dL_plan_3 rfl (lv_at hl 0 rfl) ?_
  refine lv_iload_n hx hb dL_plan_4 rfl (lv_at hl 1 rfl) ?_
  refine lv_iload_n hx hb dL_plan_5 rfl (lv_at hl 2 rfl) ?_
  refine lv_iload_n hx hb dL_plan_6 rfl (lv_at hl 3 rfl) ?_
  refine lv_iload hx hb dL_plan_7 (lv_at hl 4 rfl) ?_
  refine lv_iload hx hb dL_plan_9 (lv_at hl 5 rfl) ?_
  refine x_lcall C hR hS (S_X11_plan (l := l) (K := K) hst eq0) x_blind (x_pre C hR hS) (ci := 11) (x_k1 (x_k hR 0 rfl)) (by decide) rfl mf_X11_plan tw_1410 (Nat.le_of_ble_eq_true rfl) (Nat.le_of_ble_eq_true rfl) (As := [.int v1, .int v2, .int v3, .int v4, .int v5]) rfl hl.1 (Nat.le_of_ble_eq_true rfl) dL_plan_11 ⟨Nat.le_of_ble_eq_true rfl, Nat.le_of_ble_eq_true rfl⟩ rfl (fun e9 he9 H locs q ce hR hS hce hcv hcl => ?_) (fun r9 hr9 H locs hR hS => ?_)
  · obtain ⟨j, hj, hr, hh9⟩ := hE e9 (x_rv_inl he9)
    subst hh9
    subst hr
    have hj9 : j = 0 ∨ j = 1 := by
      have := (List.getElem?_eq_some_iff.mp hj).1
      simp only [List.length_cons, List.length_nil] at this
      omega
    rcases hj9 with rfl | rfl
    · cases hj
      refine vx_catch (name := x_en 0) C.2.2.2.1 [] ⟨0, 16, 19, 24⟩ [⟨0, 16, 23, 13⟩] (by rw [ht]; rfl) (fun z hz => nomatch hz) (by decide) (by decide) (C.2.2.2.2.1 _ tw_878) (x_hat C ca_0 rfl) hce hcv hcl ?_
      refine lv_astore (lv' := [(7, .ref q), (0, .ref (oX O)), (1, .int v1), (2, .int v2), (3, .int v3), (4, .int v4), (5, .int v5), (6, .ref (oX O + 76))]) hx hb dL_plan_19 hl (Nat.le_of_ble_eq_true rfl) rfl (fun ls hl => ?_)
      refine lv_iconst (v := 1) hx hb dL_plan_21 rfl ?_
      exact xx_iret C hR hS (Nat.le_of_ble_eq_true rfl) (Nat.le_of_ble_eq_true rfl) dL_plan_22
    · cases hj
      refine vx_catch (name := x_en 1) C.2.2.2.1 [⟨0, 16, 19, 24⟩] ⟨0, 16, 23, 13⟩ [] (by rw [ht]; rfl) (fun z hz => by rcases List.mem_singleton.mp hz with rfl; exact Or.inr ⟨by decide, x_en 0, C.2.2.2.2.1 _ tw_878, x_nc C (by decide) (by decide) (by decide)⟩) (by decide) (by decide) (C.2.2.2.2.1 _ tw_622) (x_hat C ca_1 rfl) hce hcv hcl ?_
      refine lv_astore (lv' := [(7, .ref q), (0, .ref (oX O)), (1, .int v1), (2, .int v2), (3, .int v3), (4, .int v4), (5, .int v5), (6, .ref (oX O + 76))]) hx hb dL_plan_23 hl (Nat.le_of_ble_eq_true rfl) rfl (fun ls hl => ?_)
      refine lv_iconst (v := 2) hx hb dL_plan_25 rfl ?_
      exact xx_iret C hR hS (Nat.le_of_ble_eq_true rfl) (Nat.le_of_ble_eq_true rfl) dL_plan_26
  · obtain ⟨v9, hv9, rfl⟩ := x_rv_inr hr9
    obtain ⟨rfl, hh9⟩ := hV v9 hv9
    subst hh9
    refine lv_i2l hx hb dL_plan_14 rfl ?_
    refine x_last C hR hS (x_k1 (x_k hR 76 rfl)) (x_k2 (x_k hR 76 rfl) (by decide)) dL_plan_15 (fun H locs hR hS => ?_)
    refine lv_goto (tgt := 27) hx hb dL_plan_16 rfl ?_
    refine lv_iconst (v := 0) hx hb dL_plan_27 rfl ?_
    exact xx_iret C hR hS (Nat.le_of_ble_eq_true rfl) (Nat.le_of_ble_eq_true rfl) dL_plan_28
theorem lw_L_plan : Cond.codeWith yL_plan cL_plan 8 (some .int) [(0, 16, 19, 24), (0, 16, 23, 13)] ∈ TB ∧ Cond.static yL_plan ∈ TB ∧ Cond.initialized yL_plan.cls ∈ TB ∧ yL_plan.cls ≠ "java/lang/invoke/MethodHandle" ∧ yL_plan.cls ≠ "java/lang/invoke/VarHandle" ∧ (parseMethodDescriptor yL_plan.desc).map (fun d => d.parameters.length) = some 7 := ⟨TB_of (tin_6 (List.mem_of_getElem? (i := 104) (by decide +kernel))) rfl, TB_of (tin_6 (List.mem_of_getElem? (i := 103) (by decide +kernel))) rfl, TB_of (tin_1 (List.mem_of_getElem? (i := 0) (by decide +kernel))) rfl, by decide, by decide, by decide +kernel⟩
def f_L_last (K : XK) (x : Nat) (h : XH) (v1 : Int32) (v2 : Int32) (v3 : Int32) : Option (Int32 × XH) := x_lb (f_X11_last K x h v1 v2 v3) [0, 1] (fun v h => x_l h (x + 76) (0 : Int32).toNatClampNeg v.toInt64)
set_option maxRecDepth 20000 in
theorem S_L_last {l : Launch} {O : XO} {K : XK} {h h' : XH} {n : Nat} {v1 : Int32} {v2 : Int32} {v3 : Int32} {r : Int32} (hst : l.stackTraces = false) (hf : f_L_last K (oX O) h v1 v2 v3 = some (r, h')) : x_ML l O K K yL_last cL_last 6 [(0, 12, 15, 24), (0, 12, 19, 13)] 8 180 2 12 h n [.ref (oX O), .int v1, .int v2, .int v3, .ref (oX O + 76)] r h' := by
  obtain ⟨s1, h1, eq0, hE, hV⟩ := x_lbd hf
  refine x_enterL (by decide) rfl (Nat.le_of_ble_eq_true rfl) (fun p e s m args below meth c C ht hR hz ls hl => ?_)
  have hS : va_S (oA O) s.heap s.heap [] := va_S.rf
  have hx := C.1
  have hb := C.2.1
  have hl : lv_has ls 6 [(0, .ref (oX O)), (1, .int v1), (2, .int v2), (3, .int v3), (4, .ref (oX O + 76))] := hl
  refine lv_aload hx hb dL_last_0 (lv_at hl 4 rfl) ?_
  refine lv_iconst (v := 0) hx hb dL_last_2 rfl ?_
  refine lv_aload_n hx hb dL_last_3 rfl (lv_at hl 0 rfl) ?_
  refine lv_iload_n hx hb dL_last_4 rfl (lv_at hl 1 rfl) ?_
  refine lv_iload_n hx hb dL_last_5 rfl (lv_at hl 2 rfl) ?_
  refine lv_iload_n hx hb dL_last_6 rfl (lv_at hl 3 rfl) ?_
  refine x_lcall C hR hS (S_X11_last (l := l) (K := K) hst eq0) x_blind (x_pre C hR hS) (ci := 11) (x_k1 (x_k hR 0 rfl)) (by decide) rfl mf_X11_last tw_1449 (Nat.le_of_ble_eq_true rfl) (Nat.le_of_ble_eq_true rfl) (As := [.int v1, .int v2, .int v3]) rfl hl.1 (Nat.le_of_ble_eq_true rfl) dL_last_7 ⟨Nat.le_of_ble_eq_true rfl, Nat.le_of_ble_eq_true rfl⟩ rfl (fun e9 he9 H locs q ce hR hS hce hcv hcl => ?_) (fun r9 hr9 H locs hR hS => ?_)
  · obtain ⟨j, hj, hr, hh9⟩ := hE e9 (x_rv_inl he9)
    subst hh9
    subst hr
    have hj9 : j = 0 ∨ j = 1 := by
      have := (List.getElem?_eq_some_iff.mp hj).1
      simp only [List.length_cons, List.length_nil] at this
      omega
    rcases hj9 with rfl | rfl
    · cases hj
      refine vx_catch (name := x_en 0) C.2.2.2.1 [] ⟨0, 12, 15, 24⟩ [⟨0, 12, 19, 13⟩] (by rw [ht]; rfl) (fun z hz => nomatch hz) (by decide) (by decide) (C.2.2.2.2.1 _ tw_878) (x_hat C ca_0 rfl) hce hcv hcl ?_
      refine lv_astore (lv' := [(5, .ref q), (0, .ref (oX O)), (1, .int v1), (2, .int v2), (3, .int v3), (4, .ref (oX O + 76))]) hx hb dL_last_15 hl (Nat.le_of_ble_eq_true rfl) rfl (fun ls hl => ?_)
      refine lv_iconst (v := 1) hx hb dL_last_17 rfl ?_
      exact xx_iret C hR hS (Nat.le_of_ble_eq_true rfl) (Nat.le_of_ble_eq_true rfl) dL_last_18
    · cases hj
      refine vx_catch (name := x_en 1) C.2.2.2.1 [⟨0, 12, 15, 24⟩] ⟨0, 12, 19, 13⟩ [] (by rw [ht]; rfl) (fun z hz => by rcases List.mem_singleton.mp hz with rfl; exact Or.inr ⟨by decide, x_en 0, C.2.2.2.2.1 _ tw_878, x_nc C (by decide) (by decide) (by decide)⟩) (by decide) (by decide) (C.2.2.2.2.1 _ tw_622) (x_hat C ca_1 rfl) hce hcv hcl ?_
      refine lv_astore (lv' := [(5, .ref q), (0, .ref (oX O)), (1, .int v1), (2, .int v2), (3, .int v3), (4, .ref (oX O + 76))]) hx hb dL_last_19 hl (Nat.le_of_ble_eq_true rfl) rfl (fun ls hl => ?_)
      refine lv_iconst (v := 2) hx hb dL_last_21 rfl ?_
      exact xx_iret C hR hS (Nat.le_of_ble_eq_true rfl) (Nat.le_of_ble_eq_true rfl) dL_last_22
  · obtain ⟨v9, hv9, rfl⟩ := x_rv_inr hr9
    obtain ⟨rfl, hh9⟩ := hV v9 hv9
    subst hh9
    refine lv_i2l hx hb dL_last_10 rfl ?_
    refine x_last C hR hS (x_k1 (x_k hR 76 rfl)) (x_k2 (x_k hR 76 rfl) (by decide)) dL_last_11 (fun H locs hR hS => ?_)
    refine lv_goto (tgt := 23) hx hb dL_last_12 rfl ?_
    refine lv_iconst (v := 0) hx hb dL_last_23 rfl ?_
    exact xx_iret C hR hS (Nat.le_of_ble_eq_true rfl) (Nat.le_of_ble_eq_true rfl) dL_last_24
theorem lw_L_last : Cond.codeWith yL_last cL_last 6 (some .int) [(0, 12, 15, 24), (0, 12, 19, 13)] ∈ TB ∧ Cond.static yL_last ∈ TB ∧ Cond.initialized yL_last.cls ∈ TB ∧ yL_last.cls ≠ "java/lang/invoke/MethodHandle" ∧ yL_last.cls ≠ "java/lang/invoke/VarHandle" ∧ (parseMethodDescriptor yL_last.desc).map (fun d => d.parameters.length) = some 5 := ⟨TB_of (tin_6 (List.mem_of_getElem? (i := 143) (by decide +kernel))) rfl, TB_of (tin_6 (List.mem_of_getElem? (i := 142) (by decide +kernel))) rfl, TB_of (tin_1 (List.mem_of_getElem? (i := 0) (by decide +kernel))) rfl, by decide, by decide, by decide +kernel⟩
def f_L_chance (x : Nat) (h : XH) (v1 : Int32) (v2 : Int32) : Option (Int32 × XH) := x_lb (f_X11_chance x h v1 v2) [1] (fun _ h => h)
set_option maxRecDepth 20000 in
theorem S_L_chance {l : Launch} {O : XO} {K : XK} {h h' : XH} {n : Nat} {v1 : Int32} {v2 : Int32} {r : Int32} (hst : l.stackTraces = false) (hf : f_L_chance (oX O) h v1 v2 = some (r, h')) : x_ML l O K K yL_chance cL_chance 4 [(0, 6, 9, 13)] 7 112 1 6 h n [.ref (oX O), .int v1, .int v2] r h' := by
  obtain ⟨s1, h1, eq0, hE, hV⟩ := x_lbd hf
  refine x_enterL (by decide) rfl (Nat.le_of_ble_eq_true rfl) (fun p e s m args below meth c C ht hR hz ls hl => ?_)
  have hS : va_S (oA O) s.heap s.heap [] := va_S.rf
  have hx := C.1
  have hb := C.2.1
  have hl : lv_has ls 4 [(0, .ref (oX O)), (1, .int v1), (2, .int v2)] := hl
  refine lv_aload_n hx hb dL_chance_0 rfl (lv_at hl 0 rfl) ?_
  refine lv_iload_n hx hb dL_chance_1 rfl (lv_at hl 1 rfl) ?_
  refine lv_iload_n hx hb dL_chance_2 rfl (lv_at hl 2 rfl) ?_
  refine x_lcall C hR hS (S_X11_chance (l := l) (K := K) hst eq0) x_blind (x_pre C hR hS) (ci := 11) (x_k1 (x_k hR 0 rfl)) (by decide) rfl mf_X11_chance tw_1457 (Nat.le_of_ble_eq_true rfl) (Nat.le_of_ble_eq_true rfl) (As := [.int v1, .int v2]) rfl hl.1 (Nat.le_of_ble_eq_true rfl) dL_chance_3 ⟨Nat.le_of_ble_eq_true rfl, Nat.le_of_ble_eq_true rfl⟩ rfl (fun e9 he9 H locs q ce hR hS hce hcv hcl => ?_) (fun r9 hr9 H locs hR hS => ?_)
  · obtain ⟨j, hj, hr, hh9⟩ := hE e9 (x_rv_inl he9)
    subst hh9
    subst hr
    have hj9 : j = 0 := by
      have := (List.getElem?_eq_some_iff.mp hj).1
      simp only [List.length_cons, List.length_nil] at this
      omega
    rcases hj9 with rfl
    · cases hj
      refine vx_catch (name := x_en 1) C.2.2.2.1 [] ⟨0, 6, 9, 13⟩ [] (by rw [ht]; rfl) (fun z hz => nomatch hz) (by decide) (by decide) (C.2.2.2.2.1 _ tw_622) (x_hat C ca_1 rfl) hce hcv hcl ?_
      refine lv_astore_n (lv' := [(3, .ref q), (0, .ref (oX O)), (1, .int v1), (2, .int v2)]) hx hb dL_chance_9 rfl hl (Nat.le_of_ble_eq_true rfl) rfl (fun ls hl => ?_)
      refine lv_iconst (v := 1) hx hb dL_chance_10 rfl ?_
      exact xx_iret C hR hS (Nat.le_of_ble_eq_true rfl) (Nat.le_of_ble_eq_true rfl) dL_chance_11
  · obtain ⟨v9, hv9, rfl⟩ := x_rv_inr hr9
    obtain ⟨rfl, hh9⟩ := hV v9 hv9
    subst hh9
    refine lv_goto (tgt := 12) hx hb dL_chance_6 rfl ?_
    refine lv_iconst (v := 0) hx hb dL_chance_12 rfl ?_
    exact xx_iret C hR hS (Nat.le_of_ble_eq_true rfl) (Nat.le_of_ble_eq_true rfl) dL_chance_13
theorem lw_L_chance : Cond.codeWith yL_chance cL_chance 4 (some .int) [(0, 6, 9, 13)] ∈ TB ∧ Cond.static yL_chance ∈ TB ∧ Cond.initialized yL_chance.cls ∈ TB ∧ yL_chance.cls ≠ "java/lang/invoke/MethodHandle" ∧ yL_chance.cls ≠ "java/lang/invoke/VarHandle" ∧ (parseMethodDescriptor yL_chance.desc).map (fun d => d.parameters.length) = some 3 := ⟨TB_of (tin_6 (List.mem_of_getElem? (i := 151) (by decide +kernel))) rfl, TB_of (tin_6 (List.mem_of_getElem? (i := 150) (by decide +kernel))) rfl, TB_of (tin_1 (List.mem_of_getElem? (i := 0) (by decide +kernel))) rfl, by decide, by decide, by decide +kernel⟩
def f_L_risk (x : Nat) (h : XH) (v1 : Int32) (v2 : Int32) : Option (Int32 × XH) := x_lb (f_X11_risk x h v1 v2) [1] (fun v h => x_l h (x + 76) (0 : Int32).toNatClampNeg v)
set_option maxRecDepth 20000 in
theorem S_L_risk {l : Launch} {O : XO} {K : XK} {h h' : XH} {n : Nat} {v1 : Int32} {v2 : Int32} {r : Int32} (hst : l.stackTraces = false) (hf : f_L_risk (oX O) h v1 v2 = some (r, h')) : x_ML l O K K yL_risk cL_risk 5 [(0, 9, 12, 13)] 7 118 1 6 h n [.ref (oX O), .int v1, .int v2, .ref (oX O + 76)] r h' := by
  obtain ⟨s1, h1, eq0, hE, hV⟩ := x_lbd hf
  refine x_enterL (by decide) rfl (Nat.le_of_ble_eq_true rfl) (fun p e s m args below meth c C ht hR hz ls hl => ?_)
  have hS : va_S (oA O) s.heap s.heap [] := va_S.rf
  have hx := C.1
  have hb := C.2.1
  have hl : lv_has ls 5 [(0, .ref (oX O)), (1, .int v1), (2, .int v2), (3, .ref (oX O + 76))] := hl
  refine lv_aload_n hx hb dL_risk_0 rfl (lv_at hl 3 rfl) ?_
  refine lv_iconst (v := 0) hx hb dL_risk_1 rfl ?_
  refine lv_aload_n hx hb dL_risk_2 rfl (lv_at hl 0 rfl) ?_
  refine lv_iload_n hx hb dL_risk_3 rfl (lv_at hl 1 rfl) ?_
  refine lv_iload_n hx hb dL_risk_4 rfl (lv_at hl 2 rfl) ?_
  refine x_lcall C hR hS (S_X11_risk (l := l) (K := K) hst eq0) x_blind (x_pre C hR hS) (ci := 11) (x_k1 (x_k hR 0 rfl)) (by decide) rfl mf_X11_risk tw_1465 (Nat.le_of_ble_eq_true rfl) (Nat.le_of_ble_eq_true rfl) (As := [.int v1, .int v2]) rfl hl.1 (Nat.le_of_ble_eq_true rfl) dL_risk_5 ⟨Nat.le_of_ble_eq_true rfl, Nat.le_of_ble_eq_true rfl⟩ rfl (fun e9 he9 H locs q ce hR hS hce hcv hcl => ?_) (fun r9 hr9 H locs hR hS => ?_)
  · obtain ⟨j, hj, hr, hh9⟩ := hE e9 (x_rv_inl he9)
    subst hh9
    subst hr
    have hj9 : j = 0 := by
      have := (List.getElem?_eq_some_iff.mp hj).1
      simp only [List.length_cons, List.length_nil] at this
      omega
    rcases hj9 with rfl
    · cases hj
      refine vx_catch (name := x_en 1) C.2.2.2.1 [] ⟨0, 9, 12, 13⟩ [] (by rw [ht]; rfl) (fun z hz => nomatch hz) (by decide) (by decide) (C.2.2.2.2.1 _ tw_622) (x_hat C ca_1 rfl) hce hcv hcl ?_
      refine lv_astore (lv' := [(4, .ref q), (0, .ref (oX O)), (1, .int v1), (2, .int v2), (3, .ref (oX O + 76))]) hx hb dL_risk_12 hl (Nat.le_of_ble_eq_true rfl) rfl (fun ls hl => ?_)
      refine lv_iconst (v := 1) hx hb dL_risk_14 rfl ?_
      exact xx_iret C hR hS (Nat.le_of_ble_eq_true rfl) (Nat.le_of_ble_eq_true rfl) dL_risk_15
  · obtain ⟨v9, hv9, rfl⟩ := x_rv_inr hr9
    obtain ⟨rfl, hh9⟩ := hV v9 hv9
    subst hh9
    refine x_last C hR hS (x_k1 (x_k hR 76 rfl)) (x_k2 (x_k hR 76 rfl) (by decide)) dL_risk_8 (fun H locs hR hS => ?_)
    refine lv_goto (tgt := 16) hx hb dL_risk_9 rfl ?_
    refine lv_iconst (v := 0) hx hb dL_risk_16 rfl ?_
    exact xx_iret C hR hS (Nat.le_of_ble_eq_true rfl) (Nat.le_of_ble_eq_true rfl) dL_risk_17
theorem lw_L_risk : Cond.codeWith yL_risk cL_risk 5 (some .int) [(0, 9, 12, 13)] ∈ TB ∧ Cond.static yL_risk ∈ TB ∧ Cond.initialized yL_risk.cls ∈ TB ∧ yL_risk.cls ≠ "java/lang/invoke/MethodHandle" ∧ yL_risk.cls ≠ "java/lang/invoke/VarHandle" ∧ (parseMethodDescriptor yL_risk.desc).map (fun d => d.parameters.length) = some 4 := ⟨TB_of (tin_6 (List.mem_of_getElem? (i := 159) (by decide +kernel))) rfl, TB_of (tin_6 (List.mem_of_getElem? (i := 158) (by decide +kernel))) rfl, TB_of (tin_1 (List.mem_of_getElem? (i := 0) (by decide +kernel))) rfl, by decide, by decide, by decide +kernel⟩
def f_L_week (x : Nat) (h : XH) (v1 : Int32) : Option (Int32 × XH) := x_lb (f_X11_week x h v1) [1, 3] (fun v h => x_l h (x + 76) (0 : Int32).toNatClampNeg v.toInt64)
set_option maxRecDepth 20000 in
theorem S_L_week {l : Launch} {O : XO} {K : XK} {h h' : XH} {n : Nat} {v1 : Int32} {r : Int32} (hst : l.stackTraces = false) (hf : f_L_week (oX O) h v1 = some (r, h')) : x_ML l O K K yL_week cL_week 4 [(0, 9, 12, 13), (0, 9, 15, 15)] 7 111 1 6 h n [.ref (oX O), .int v1, .ref (oX O + 76)] r h' := by
  obtain ⟨s1, h1, eq0, hE, hV⟩ := x_lbd hf
  refine x_enterL (by decide) rfl (Nat.le_of_ble_eq_true rfl) (fun p e s m args below meth c C ht hR hz ls hl => ?_)
  have hS : va_S (oA O) s.heap s.heap [] := va_S.rf
  have hx := C.1
  have hb := C.2.1
  have hl : lv_has ls 4 [(0, .ref (oX O)), (1, .int v1), (2, .ref (oX O + 76))] := hl
  refine lv_aload_n hx hb dL_week_0 rfl (lv_at hl 2 rfl) ?_
  refine lv_iconst (v := 0) hx hb dL_week_1 rfl ?_
  refine lv_aload_n hx hb dL_week_2 rfl (lv_at hl 0 rfl) ?_
  refine lv_iload_n hx hb dL_week_3 rfl (lv_at hl 1 rfl) ?_
  refine x_lcall C hR hS (S_X11_week (l := l) (K := K) hst eq0) x_blind (x_pre C hR hS) (ci := 11) (x_k1 (x_k hR 0 rfl)) (by decide) rfl mf_X11_week tw_1480 (Nat.le_of_ble_eq_true rfl) (Nat.le_of_ble_eq_true rfl) (As := [.int v1]) rfl hl.1 (Nat.le_of_ble_eq_true rfl) dL_week_4 ⟨Nat.le_of_ble_eq_true rfl, Nat.le_of_ble_eq_true rfl⟩ rfl (fun e9 he9 H locs q ce hR hS hce hcv hcl => ?_) (fun r9 hr9 H locs hR hS => ?_)
  · obtain ⟨j, hj, hr, hh9⟩ := hE e9 (x_rv_inl he9)
    subst hh9
    subst hr
    have hj9 : j = 0 ∨ j = 1 := by
      have := (List.getElem?_eq_some_iff.mp hj).1
      simp only [List.length_cons, List.length_nil] at this
      omega
    rcases hj9 with rfl | rfl
    · cases hj
      refine vx_catch (name := x_en 1) C.2.2.2.1 [] ⟨0, 9, 12, 13⟩ [⟨0, 9, 15, 15⟩] (by rw [ht]; rfl) (fun z hz => nomatch hz) (by decide) (by decide) (C.2.2.2.2.1 _ tw_622) (x_hat C ca_1 rfl) hce hcv hcl ?_
      refine lv_astore_n (lv' := [(3, .ref q), (0, .ref (oX O)), (1, .int v1), (2, .ref (oX O + 76))]) hx hb dL_week_12 rfl hl (Nat.le_of_ble_eq_true rfl) rfl (fun ls hl => ?_)
      refine lv_iconst (v := 1) hx hb dL_week_13 rfl ?_
      exact xx_iret C hR hS (Nat.le_of_ble_eq_true rfl) (Nat.le_of_ble_eq_true rfl) dL_week_14
    · cases hj
      refine vx_catch (name := x_en 3) C.2.2.2.1 [⟨0, 9, 12, 13⟩] ⟨0, 9, 15, 15⟩ [] (by rw [ht]; rfl) (fun z hz => by rcases List.mem_singleton.mp hz with rfl; exact Or.inr ⟨by decide, x_en 1, C.2.2.2.2.1 _ tw_622, x_nc C (by decide) (by decide) (by decide)⟩) (by decide) (by decide) (C.2.2.2.2.1 _ tw_623) (x_hat C ca_3 rfl) hce hcv hcl ?_
      refine lv_astore_n (lv' := [(3, .ref q), (0, .ref (oX O)), (1, .int v1), (2, .ref (oX O + 76))]) hx hb dL_week_15 rfl hl (Nat.le_of_ble_eq_true rfl) rfl (fun ls hl => ?_)
      refine lv_iconst (v := 2) hx hb dL_week_16 rfl ?_
      exact xx_iret C hR hS (Nat.le_of_ble_eq_true rfl) (Nat.le_of_ble_eq_true rfl) dL_week_17
  · obtain ⟨v9, hv9, rfl⟩ := x_rv_inr hr9
    obtain ⟨rfl, hh9⟩ := hV v9 hv9
    subst hh9
    refine lv_i2l hx hb dL_week_7 rfl ?_
    refine x_last C hR hS (x_k1 (x_k hR 76 rfl)) (x_k2 (x_k hR 76 rfl) (by decide)) dL_week_8 (fun H locs hR hS => ?_)
    refine lv_goto (tgt := 18) hx hb dL_week_9 rfl ?_
    refine lv_iconst (v := 0) hx hb dL_week_18 rfl ?_
    exact xx_iret C hR hS (Nat.le_of_ble_eq_true rfl) (Nat.le_of_ble_eq_true rfl) dL_week_19
theorem lw_L_week : Cond.codeWith yL_week cL_week 4 (some .int) [(0, 9, 12, 13), (0, 9, 15, 15)] ∈ TB ∧ Cond.static yL_week ∈ TB ∧ Cond.initialized yL_week.cls ∈ TB ∧ yL_week.cls ≠ "java/lang/invoke/MethodHandle" ∧ yL_week.cls ≠ "java/lang/invoke/VarHandle" ∧ (parseMethodDescriptor yL_week.desc).map (fun d => d.parameters.length) = some 3 := ⟨TB_of (tin_6 (List.mem_of_getElem? (i := 174) (by decide +kernel))) rfl, TB_of (tin_6 (List.mem_of_getElem? (i := 173) (by decide +kernel))) rfl, TB_of (tin_1 (List.mem_of_getElem? (i := 0) (by decide +kernel))) rfl, by decide, by decide, by decide +kernel⟩
def f_L_rates (x : Nat) (h : XH) (v1 : Int32) (v2 : Int32) : Option (Int32 × XH) := x_lb (f_X11_rates x h v1 v2) [1, 4] (fun v h => x_l h (x + 76) (0 : Int32).toNatClampNeg v.toInt64)
set_option maxRecDepth 20000 in
theorem S_L_rates {l : Launch} {O : XO} {K : XK} {h h' : XH} {n : Nat} {v1 : Int32} {v2 : Int32} {r : Int32} (hst : l.stackTraces = false) (hf : f_L_rates (oX O) h v1 v2 = some (r, h')) : x_ML l O K K yL_rates cL_rates 5 [(0, 10, 13, 13), (0, 10, 17, 56)] 7 121 1 6 h n [.ref (oX O), .int v1, .int v2, .ref (oX O + 76)] r h' := by
  obtain ⟨s1, h1, eq0, hE, hV⟩ := x_lbd hf
  refine x_enterL (by decide) rfl (Nat.le_of_ble_eq_true rfl) (fun p e s m args below meth c C ht hR hz ls hl => ?_)
  have hS : va_S (oA O) s.heap s.heap [] := va_S.rf
  have hx := C.1
  have hb := C.2.1
  have hl : lv_has ls 5 [(0, .ref (oX O)), (1, .int v1), (2, .int v2), (3, .ref (oX O + 76))] := hl
  refine lv_aload_n hx hb dL_rates_0 rfl (lv_at hl 3 rfl) ?_
  refine lv_iconst (v := 0) hx hb dL_rates_1 rfl ?_
  refine lv_aload_n hx hb dL_rates_2 rfl (lv_at hl 0 rfl) ?_
  refine lv_iload_n hx hb dL_rates_3 rfl (lv_at hl 1 rfl) ?_
  refine lv_iload_n hx hb dL_rates_4 rfl (lv_at hl 2 rfl) ?_
  refine x_lcall C hR hS (S_X11_rates (l := l) (K := K) hst eq0) x_blind (x_pre C hR hS) (ci := 11) (x_k1 (x_k hR 0 rfl)) (by decide) rfl mf_X11_rates tw_1489 (Nat.le_of_ble_eq_true rfl) (Nat.le_of_ble_eq_true rfl) (As := [.int v1, .int v2]) rfl hl.1 (Nat.le_of_ble_eq_true rfl) dL_rates_5 ⟨Nat.le_of_ble_eq_true rfl, Nat.le_of_ble_eq_true rfl⟩ rfl (fun e9 he9 H locs q ce hR hS hce hcv hcl => ?_) (fun r9 hr9 H locs hR hS => ?_)
  · obtain ⟨j, hj, hr, hh9⟩ := hE e9 (x_rv_inl he9)
    subst hh9
    subst hr
    have hj9 : j = 0 ∨ j = 1 := by
      have := (List.getElem?_eq_some_iff.mp hj).1
      simp only [List.length_cons, List.length_nil] at this
      omega
    rcases hj9 with rfl | rfl
    · cases hj
      refine vx_catch (name := x_en 1) C.2.2.2.1 [] ⟨0, 10, 13, 13⟩ [⟨0, 10, 17, 56⟩] (by rw [ht]; rfl) (fun z hz => nomatch hz) (by decide) (by decide) (C.2.2.2.2.1 _ tw_622) (x_hat C ca_1 rfl) hce hcv hcl ?_
      refine lv_astore (lv' := [(4, .ref q), (0, .ref (oX O)), (1, .int v1), (2, .int v2), (3, .ref (oX O + 76))]) hx hb dL_rates_13 hl (Nat.le_of_ble_eq_true rfl) rfl (fun ls hl => ?_)
      refine lv_iconst (v := 1) hx hb dL_rates_15 rfl ?_
      exact xx_iret C hR hS (Nat.le_of_ble_eq_true rfl) (Nat.le_of_ble_eq_true rfl) dL_rates_16
    · cases hj
      refine vx_catch (name := x_en 4) C.2.2.2.1 [⟨0, 10, 13, 13⟩] ⟨0, 10, 17, 56⟩ [] (by rw [ht]; rfl) (fun z hz => by rcases List.mem_singleton.mp hz with rfl; exact Or.inr ⟨by decide, x_en 1, C.2.2.2.2.1 _ tw_622, x_nc C (by decide) (by decide) (by decide)⟩) (by decide) (by decide) (C.2.2.2.2.1 _ tw_1047) (x_hat C ca_4 rfl) hce hcv hcl ?_
      refine lv_astore (lv' := [(4, .ref q), (0, .ref (oX O)), (1, .int v1), (2, .int v2), (3, .ref (oX O + 76))]) hx hb dL_rates_17 hl (Nat.le_of_ble_eq_true rfl) rfl (fun ls hl => ?_)
      refine lv_iconst (v := 2) hx hb dL_rates_19 rfl ?_
      exact xx_iret C hR hS (Nat.le_of_ble_eq_true rfl) (Nat.le_of_ble_eq_true rfl) dL_rates_20
  · obtain ⟨v9, hv9, rfl⟩ := x_rv_inr hr9
    obtain ⟨rfl, hh9⟩ := hV v9 hv9
    subst hh9
    refine lv_i2l hx hb dL_rates_8 rfl ?_
    refine x_last C hR hS (x_k1 (x_k hR 76 rfl)) (x_k2 (x_k hR 76 rfl) (by decide)) dL_rates_9 (fun H locs hR hS => ?_)
    refine lv_goto (tgt := 21) hx hb dL_rates_10 rfl ?_
    refine lv_iconst (v := 0) hx hb dL_rates_21 rfl ?_
    exact xx_iret C hR hS (Nat.le_of_ble_eq_true rfl) (Nat.le_of_ble_eq_true rfl) dL_rates_22
theorem lw_L_rates : Cond.codeWith yL_rates cL_rates 5 (some .int) [(0, 10, 13, 13), (0, 10, 17, 56)] ∈ TB ∧ Cond.static yL_rates ∈ TB ∧ Cond.initialized yL_rates.cls ∈ TB ∧ yL_rates.cls ≠ "java/lang/invoke/MethodHandle" ∧ yL_rates.cls ≠ "java/lang/invoke/VarHandle" ∧ (parseMethodDescriptor yL_rates.desc).map (fun d => d.parameters.length) = some 4 := ⟨TB_of (tin_6 (List.mem_of_getElem? (i := 183) (by decide +kernel))) rfl, TB_of (tin_6 (List.mem_of_getElem? (i := 182) (by decide +kernel))) rfl, TB_of (tin_1 (List.mem_of_getElem? (i := 0) (by decide +kernel))) rfl, by decide, by decide, by decide +kernel⟩
def f_L_change (K : XK) (x : Nat) (h : XH) (v1 : Int32) : Option (Int32 × XH) := x_lb (f_X11_change K x h v1) [0] (fun v h => x_l h (x + 76) (0 : Int32).toNatClampNeg v.toInt64)
set_option maxRecDepth 20000 in
theorem S_L_change {l : Launch} {O : XO} {K : XK} {h h' : XH} {n : Nat} {v1 : Int32} {r : Int32} (hst : l.stackTraces = false) (hf : f_L_change K (oX O) h v1 = some (r, h')) : x_ML l O K K yL_change cL_change 4 [(0, 9, 12, 24)] 8 175 1 6 h n [.ref (oX O), .int v1, .ref (oX O + 76)] r h' := by
  obtain ⟨s1, h1, eq0, hE, hV⟩ := x_lbd hf
  refine x_enterL (by decide) rfl (Nat.le_of_ble_eq_true rfl) (fun p e s m args below meth c C ht hR hz ls hl => ?_)
  have hS : va_S (oA O) s.heap s.heap [] := va_S.rf
  have hx := C.1
  have hb := C.2.1
  have hl : lv_has ls 4 [(0, .ref (oX O)), (1, .int v1), (2, .ref (oX O + 76))] := hl
  refine lv_aload_n hx hb dL_change_0 rfl (lv_at hl 2 rfl) ?_
  refine lv_iconst (v := 0) hx hb dL_change_1 rfl ?_
  refine lv_aload_n hx hb dL_change_2 rfl (lv_at hl 0 rfl) ?_
  refine lv_iload_n hx hb dL_change_3 rfl (lv_at hl 1 rfl) ?_
  refine x_lcall C hR hS (S_X11_change (l := l) (K := K) hst eq0) x_blind (x_pre C hR hS) (ci := 11) (x_k1 (x_k hR 0 rfl)) (by decide) rfl mf_X11_change tw_1513 (Nat.le_of_ble_eq_true rfl) (Nat.le_of_ble_eq_true rfl) (As := [.int v1]) rfl hl.1 (Nat.le_of_ble_eq_true rfl) dL_change_4 ⟨Nat.le_of_ble_eq_true rfl, Nat.le_of_ble_eq_true rfl⟩ rfl (fun e9 he9 H locs q ce hR hS hce hcv hcl => ?_) (fun r9 hr9 H locs hR hS => ?_)
  · obtain ⟨j, hj, hr, hh9⟩ := hE e9 (x_rv_inl he9)
    subst hh9
    subst hr
    have hj9 : j = 0 := by
      have := (List.getElem?_eq_some_iff.mp hj).1
      simp only [List.length_cons, List.length_nil] at this
      omega
    rcases hj9 with rfl
    · cases hj
      refine vx_catch (name := x_en 0) C.2.2.2.1 [] ⟨0, 9, 12, 24⟩ [] (by rw [ht]; rfl) (fun z hz => nomatch hz) (by decide) (by decide) (C.2.2.2.2.1 _ tw_878) (x_hat C ca_0 rfl) hce hcv hcl ?_
      refine lv_astore_n (lv' := [(3, .ref q), (0, .ref (oX O)), (1, .int v1), (2, .ref (oX O + 76))]) hx hb dL_change_12 rfl hl (Nat.le_of_ble_eq_true rfl) rfl (fun ls hl => ?_)
      refine lv_iconst (v := 1) hx hb dL_change_13 rfl ?_
      exact xx_iret C hR hS (Nat.le_of_ble_eq_true rfl) (Nat.le_of_ble_eq_true rfl) dL_change_14
  · obtain ⟨v9, hv9, rfl⟩ := x_rv_inr hr9
    obtain ⟨rfl, hh9⟩ := hV v9 hv9
    subst hh9
    refine lv_i2l hx hb dL_change_7 rfl ?_
    refine x_last C hR hS (x_k1 (x_k hR 76 rfl)) (x_k2 (x_k hR 76 rfl) (by decide)) dL_change_8 (fun H locs hR hS => ?_)
    refine lv_goto (tgt := 15) hx hb dL_change_9 rfl ?_
    refine lv_iconst (v := 0) hx hb dL_change_15 rfl ?_
    exact xx_iret C hR hS (Nat.le_of_ble_eq_true rfl) (Nat.le_of_ble_eq_true rfl) dL_change_16
theorem lw_L_change : Cond.codeWith yL_change cL_change 4 (some .int) [(0, 9, 12, 24)] ∈ TB ∧ Cond.static yL_change ∈ TB ∧ Cond.initialized yL_change.cls ∈ TB ∧ yL_change.cls ≠ "java/lang/invoke/MethodHandle" ∧ yL_change.cls ≠ "java/lang/invoke/VarHandle" ∧ (parseMethodDescriptor yL_change.desc).map (fun d => d.parameters.length) = some 3 := ⟨TB_of (tin_6 (List.mem_of_getElem? (i := 207) (by decide +kernel))) rfl, TB_of (tin_6 (List.mem_of_getElem? (i := 206) (by decide +kernel))) rfl, TB_of (tin_1 (List.mem_of_getElem? (i := 0) (by decide +kernel))) rfl, by decide, by decide, by decide +kernel⟩
