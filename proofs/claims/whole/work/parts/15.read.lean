theorem cp_cl : Cond.methodLink "java/util/Arrays" 316 ⟨"[I", "clone", "()Ljava/lang/Object;"⟩ ∈ TB := TB_of (tin_3 (List.mem_of_getElem? (i := 163) (by decide +kernel))) rfl
theorem cp_sm : Cond.sameMethod "[I" "java/lang/Object" "clone" "()Ljava/lang/Object;" ∈ TB := TB_of (tin_3 (List.mem_of_getElem? (i := 164) (by decide +kernel))) rfl
theorem cp_cn : Cond.native ⟨"java/lang/Object", "clone", "()Ljava/lang/Object;"⟩ ∈ TB := TB_of (tin_3 (List.mem_of_getElem? (i := 165) (by decide +kernel))) rfl
theorem cp_ci : Cond.instanceMethod ⟨"java/lang/Object", "clone", "()Ljava/lang/Object;"⟩ ∈ TB := TB_of (tin_3 (List.mem_of_getElem? (i := 166) (by decide +kernel))) rfl
theorem cp_cs : Cond.selects "[I" ⟨"[I", "clone", "()Ljava/lang/Object;"⟩ ⟨"java/lang/Object", "clone", "()Ljava/lang/Object;"⟩ ∈ TB := TB_of (tin_3 (List.mem_of_getElem? (i := 167) (by decide +kernel))) rfl
theorem cp_ca : Cond.castable "[I" "java/lang/Cloneable" ∈ lw_tbl := tin_3 (List.mem_of_getElem? (i := 168) (by decide +kernel))
theorem cp_cc : Cond.classLink "java/util/Arrays" 317 "[I" ∈ TB := TB_of (tin_3 (List.mem_of_getElem? (i := 169) (by decide +kernel))) rfl
theorem cp_ml : Cond.methodLink "java/util/Arrays" 304 Lib.Math.min.name ∈ TB := TB_of (tin_3 (List.mem_of_getElem? (i := 170) (by decide +kernel))) rfl
theorem cp_ms : Cond.static Lib.Math.min.name ∈ TB := TB_of (tin_3 (List.mem_of_getElem? (i := 171) (by decide +kernel))) rfl
theorem cp_mi : Cond.initialized "java/lang/Math" ∈ TB := TB_of (tin_1 (List.mem_of_getElem? (i := 19) (by decide +kernel))) rfl
theorem cp_mc : Cond.code Lib.Math.min.name Lib.Math.min.code 2 (some .int) ∈ TB := TB_of (tin_3 (List.mem_of_getElem? (i := 172) (by decide +kernel))) rfl
theorem cp_ac : Cond.methodLink "java/util/Arrays" 150 arraycopyName ∈ TB := TB_of (tin_3 (List.mem_of_getElem? (i := 173) (by decide +kernel))) rfl
theorem cp_si : Cond.initialized "java/lang/System" ∈ TB := TB_of (tin_1 (List.mem_of_getElem? (i := 20) (by decide +kernel))) rfl
/-! ===== Arrays.copyOf, Tape.read: cells made by methods ===== -/
/-- a new array of ints at n, its first N places as those of a -/
def x_cf (h : XH) (n a N : Nat) : XH := (fun b k => if b = n then (if k < N then h.1 a k else 0) else h.1 b k, (x_zr h n).2)
theorem x_cf_ne {h : XH} {n a N b : Nat} (hb : b ≠ n) : (x_cf h n a N).1 b = h.1 b ∧ (x_cf h n a N).2.1 b = h.2.1 b ∧ (x_cf h n a N).2.2 b = h.2.2 b := by
  refine ⟨?_, (x_zr_ne hb).2.1, (x_zr_ne hb).2.2⟩
  funext k
  simp [x_cf, hb]
theorem x_Q2.app {O : XO} {K K' : XK} {F F' : Nat → List Value} {h h' : XH} {H1 : Heap} {n : Nat} {L : List Nat} {E : va_E} (z1 : H1.size = n + 1) (hx : oX O ≤ n) (hA : ∀ q, oX O ≤ q → oA O q) (hL : ∀ a, a ∈ L ↔ (K a).1 ≠ 0) (hnL : n ∉ L)
    (hP : va_P (oD O) vwCl ([] ++ va_pl L (x_c2 (oX O) (oC O) K F h) ++ [(n, E)]) H1) (hD : va_D (oA O) ([] ++ va_pl L (x_c2 (oX O) (oC O) K F h) ++ [(n, E)])) (hE : E = x_c2 (oX O) (oC O) K' F' h' n)
    (hK : ∀ b, b ≠ n → K' b = K b) (hF : ∀ b, b ≠ n → F' b = F b) (hh : ∀ b, b ≠ n → h'.1 b = h.1 b ∧ h'.2.1 b = h.2.1 b ∧ h'.2.2 b = h.2.2 b) (hk : (K' n).1 ≠ 0) : x_Q2 O K' F' h' H1 (n + 1) := by
  have e1 : [] ++ va_pl L (x_c2 (oX O) (oC O) K F h) ++ [(n, E)] = [] ++ va_pl (L ++ [n]) (x_c2 (oX O) (oC O) K' F' h') := by
    rw [List.nil_append, List.nil_append, va_pl_push hnL]
    refine va_pl_congr fun b => ?_
    by_cases hb : b = n
    · rw [hb, va_up_self, hE]
    · rw [va_up_ne _ _ hb]
      exact (x_c2_congr (hK b hb) (hF b hb) (hh b hb).1 (hh b hb).2.1 (hh b hb).2.2).symm
  rw [e1] at hP hD
  refine ⟨z1, by omega, hA, L ++ [n], fun a => ?_, hP, hD⟩
  rw [List.mem_append, List.mem_singleton]
  by_cases ha : a = n
  · rw [ha]; exact ⟨fun _ => hk, fun _ => Or.inr rfl⟩
  · rw [hK a ha]
    exact ⟨fun q => q.elim (fun q => (hL a).mp q) (fun q => absurd q ha), fun q => Or.inl ((hL a).mpr q)⟩
section XV
variable {p : Program} {l : Launch} {e : Env} {R : Room} {s : State} {m : MethodId} {args : Array Value} {below : List Frame} {meth : Method} {c : Code} {H : Heap} {locs : List Loc} {cells slots mc ms : Nat} {Q : State → Prop}
variable {O : XO} {K K' : XK} {F F' : Nat → List Value} {h h' : XH} {n n' : Nat} {cc : ByteArray} {nL : Nat} {own : String} {ret : Option FieldType} {pc : Nat} {ls : Array Slot} {rest : List Value}
theorem r_alen (C : x_C p s m args meth c O cc nL own ret) (hQ : x_Q2 O K F h H n) {a : Nat} (hk : (K a).1 = 14) (hd : decode cc pc = .ok (.arraylength, 1))
    (kk : W p l e R s m args below meth c H locs cells slots Q (F0 m (pc + 1) ls (.int (nI (K a).2) :: rest))) : W p l e R s m args below meth c H locs cells slots Q (F0 m pc ls (.ref a :: rest)) := by
  obtain ⟨-, -, -, L, hL, hP, hD⟩ := hQ
  obtain ⟨q0, hq⟩ := va_pl_get (X := []) (f := x_c2 (oX O) (oC O) K F h) ((hL a).mpr (by omega))
  rw [x_c2_old (by omega), x_cell_int hk] at hq
  exact va_alen C.1 C.2.1 (x_K C) hP q0 0 hq (ty := .int) rfl rfl hd kk
/-- a field of an object that stands -/
theorem r_gold (C : x_C p s m args meth c O cc nL own ret) (hQ : x_Q2 O K F h H n) {a ci : Nat} (hk : (K a).1 = ci + 1) (hci : ci < 13) {Cn : String} {T : u_T} {N : Nat} (hc : vwCl[ci]? = some (Cn, T, N)) (hin : ∀ w ∈ u_ws Cn T N, w ∈ TB) (k : Nat) (hkN : k < N) {idx : Nat}
    (hlink : Cond.fieldLink own idx (T k).1 (T k).2.1 (T k).2.2.1 ∈ TB) {v : Value} (hv : (x_fs (oX O) h a ci)[k]? = some v) (hd : decode cc pc = .ok (.getfield idx, 3))
    (kk : W p l e R s m args below meth c H locs cells slots Q (F0 m (pc + 3) ls (v :: rest))) : W p l e R s m args below meth c H locs cells slots Q (F0 m pc ls (.ref a :: rest)) := by
  obtain ⟨-, -, -, L, hL, hP, hD⟩ := hQ
  obtain ⟨q0, hq⟩ := va_pl_get (X := []) (f := x_c2 (oX O) (oC O) K F h) ((hL a).mpr (by omega))
  rw [x_c2_old (by omega), x_cell_obj hk hci] at hq
  exact va_get C.1 C.2.1 C.2.2.2.2.1 hin C.2.2.2.1 (x_K C) hP q0 hq hc k hkN (C.2.2.2.2.1 _ hlink) (fun _ h9 => h9) hv hd kk
/-- a static call of a method that makes cells -/
theorem r_callS (C : x_C p s m args meth c O cc nL own ret) (hQ : x_Q2 O K F h H n) (hS : va_S (oA O) s.heap H locs) {y : MethodName} {bytes : ByteArray} {maxL : Nat} {ret' : Option FieldType} {f lo k mc' ms' : Nat} {As : List Value} {r : Option Value}
    (M : x_MI l O y bytes maxL ret' f lo mc' ms' K F h n As r K' F' h' n') (hm : x_MS y bytes maxL ret' k) {idx : Nat} (hl : Cond.methodLink own idx y ∈ TB)
    (hF : f + 1 ≤ R.frames) (hL : 8 + (maxL + 11) + lo ≤ R.locals) (hn : As.length = k) (hsz : ls.size = nL) (hst : (rest.map fun v => v.category).sum ≤ 8) (hd : decode cc pc = .ok (.invokestatic idx, 3)) (hcs : cells + mc' ≤ R.cells ∧ slots + ms' ≤ R.slots)
    {st0 : List Value} (hst0 : st0 = As.reverse ++ rest)
    (kk : ∀ (H1 : Heap) (locs1 : List Loc), x_Q2 O K' F' h' H1 n' → va_S (oA O) s.heap H1 locs1 → W p l e R s m args below meth c H1 locs1 (cells + mc') (slots + ms') Q (F0 m (pc + 3) ls (r.toList ++ rest))) : W p l e R s m args below meth c H locs cells slots Q (F0 m pc ls st0) := by
  obtain ⟨m1, m2, m4, m5, m6, m7⟩ := hm
  have hts := C.2.2.2.2.1
  exact r_back (va_runS (As := As) (Ts := TB) ⟨C.1, C.2.1, C.2.2.1, C.2.2.2.1, hts⟩ M ⟨callB_of k hts (TB_cons m1) rfl rfl rfl (hts _ m4) (hts _ hl) ⟨m5, m6, m7⟩ ⟨hF, hL⟩, hts _ m2⟩ ⟨x_blindI, r_pre C hQ hS⟩ rfl hn hsz hst0 (lv_room hst) hd hcs) hS kk
end XV
theorem x_arrI {cA : ClassId} {N : Nat} {f g : Nat → Int32} (h : ∀ j, j < N → f j = g j) : vp_cell cA (N, .inl f) = vp_cell cA (N, .inl g) := by
  rw [vp_cell_i, vp_cell_i]
  exact x_arrV fun j hj => by rw [h j hj]
/-- Arrays.copyOf(a, N), N at most a's length -/
theorem S_J7_copyOf {l : Launch} {O : XO} {K : XK} {F : Nat → List Value} {h : XH} {a n N : Nat} (hk : (K a).1 = 14) (hN : N ≤ (K a).2) (hK : (K a).2 < 1000) :
    x_MI l O yJ7_copyOf_59c91 cJ7_copyOf_59c91 3 (some (.array .int)) 1 100 1 N K F h n [.ref a, .int (nI N)] (some (.ref n)) (x_ku K n (14, N)) F (x_cf h n a N) (n + 1) := by
  refine x_enterI (by decide) (Nat.le_of_ble_eq_true rfl) (fun p e s m args below meth c C hn hQ ls hl => ?_)
  have hS : va_S (oA O) s.heap s.heap [] := va_S.rf
  have hx := C.1
  have hb := C.2.1
  have hz0 := hQ.1
  have hts := C.2.2.2.2.1
  have hl : lv_has ls 3 [(0, .ref a), (1, .int (nI N))] := hl
  have hfr := hQ.fresh (Nat.le_refl n)
  have han : a ≠ n := fun e9 => by rw [e9, hfr] at hk; cases hk
  refine lv_iload_n hx hb dJ7_copyOf_59c91_0 rfl (lv_at hl 1 rfl) ?_
  refine lv_aload_n hx hb dJ7_copyOf_59c91_1 rfl (lv_at hl 0 rfl) ?_
  refine r_alen C hQ hk dJ7_copyOf_59c91_2 ?_
  refine lv_icmp_ne (tgt := 14) hx hb dJ7_copyOf_59c91_3 rfl (fun hc => ?_) (fun hc => ?_)
  · -- new array, arraycopy
    refine lv_iload_n hx hb dJ7_copyOf_59c91_14 rfl (lv_at hl 1 rfl) ?_
    refine r_newa C hQ hS (N := N) (kd := 14) (Or.inl ⟨rfl, rfl⟩) ac_int (nI_pos (by omega)) (nI_clamp (by omega)) (by show N * 4 ≤ _; omega) (by show 0 + 1 ≤ 1; omega) (by show 0 + N ≤ N; omega) dJ7_copyOf_59c91_15 (fun H hQ hS => ?_)
    refine lv_astore_n (lv' := [(2, .ref n), (0, .ref a), (1, .int (nI N))]) hx hb dJ7_copyOf_59c91_17 rfl hl (Nat.le_of_ble_eq_true rfl) rfl (fun ls hl => ?_)
    refine lv_aload_n hx hb dJ7_copyOf_59c91_18 rfl (lv_at hl 1 rfl) ?_
    refine lv_iconst (v := 0) hx hb dJ7_copyOf_59c91_19 rfl ?_
    refine lv_aload_n hx hb dJ7_copyOf_59c91_20 rfl (lv_at hl 0 rfl) ?_
    refine lv_iconst (v := 0) hx hb dJ7_copyOf_59c91_21 rfl ?_
    refine lv_aload_n hx hb dJ7_copyOf_59c91_22 rfl (lv_at hl 1 rfl) ?_
    refine r_alen C hQ (a := a) (by rw [x_ku_ne han]; exact hk) dJ7_copyOf_59c91_23 ?_
    rw [x_ku_ne han]
    refine lv_iload_n hx hb dJ7_copyOf_59c91_24 rfl (lv_at hl 2 rfl) ?_
    refine va_mmin hx hb (C.2.2.1.trans hl.1.symm) C.2.2.2.1 (hts _ cp_ml) (hts _ cp_ms) (hts _ cp_mi) (hts _ cp_mc) (Nat.le_of_ble_eq_true rfl) (Nat.le_of_ble_eq_true rfl) (by show 0 + 1 ≤ 1; omega) (by show 0 + N ≤ N; omega) dJ7_copyOf_59c91_25 ?_
    have hmin : (if nI N < nI (K a).2 then nI N else nI (K a).2) = nI N := by
      by_cases e9 : N = (K a).2
      · rw [← e9, if_neg (by exact nI_nlt (Nat.le_refl _) (by omega))]
      · rw [if_pos (nI_lt (by omega) (by omega))]
    rw [hmin]
    obtain ⟨hn0, hx0, hA, L, hL, hP, hD⟩ := id hQ
    obtain ⟨q0, hq0⟩ := va_pl_get (X := []) (f := x_c2 (oX O) (oC O) (x_ku K n (14, N)) F (x_zr h n)) ((hL a).mpr (by rw [x_ku_ne han]; omega))
    obtain ⟨q1, hq1⟩ := va_pl_get (X := []) (f := x_c2 (oX O) (oC O) (x_ku K n (14, N)) F (x_zr h n)) ((hL n).mpr (by rw [x_ku_at]; simp))
    rw [x_c2_old (by rw [x_ku_ne han]; omega), x_cell_int (by rw [x_ku_ne han]; exact hk)] at hq0
    have hq1' := hq1
    rw [x_c2_old (by rw [x_ku_at]; simp), x_cell_int (by rw [x_ku_at])] at hq1'
    have hcl : (nI N).toNatClampNeg = N := nI_clamp (by omega)
    refine va_copyi hx hb (C.2.2.1.trans hl.1.symm) C.2.2.2.1 (hts _ cp_ac) (hts _ tw_acn) (hts _ tw_acs) (hts _ cp_si) (x_K C) hP hD (x_Srf hS) q0 q1 0 0 hq0 hq1' rfl rfl (by decide) (by decide) (by decide) (nI_pos (by omega)) (by rw [hcl, x_ku_ne han]; show 0 + N ≤ _; omega) (by rw [hcl, x_ku_at]; show 0 + N ≤ N; omega) (fun _ _ => rfl) (Nat.le_of_ble_eq_true rfl) (Nat.le_of_ble_eq_true rfl) dJ7_copyOf_59c91_28 (fun H1 locs1 hP1 hD1 hS1 => x_sz fun hle => ?_)
    have hQ1 : x_Q2 O (x_ku K n (14, N)) F (x_cf h n a N) H1 (n + 1) := by
      refine x_Q2.set (h := x_zr h n) (F := F) (by have := hS1.1; omega) hx0 hA hL hD (by rw [x_ku_at]; simp) hq1 ?_ hP1 hD1 (fun b hb => rfl) (fun b hb => ⟨by rw [(x_cf_ne hb).1, (x_zr_ne hb).1], by rw [(x_cf_ne hb).2.1, (x_zr_ne hb).2.1], by rw [(x_cf_ne hb).2.2, (x_zr_ne hb).2.2]⟩)
      rw [x_c2_old (by rw [x_ku_at]; simp), x_cell_int (by rw [x_ku_at])]
      congr 4
      funext k
      rw [hcl]
      have h1 : (x_zr h n).1 a = h.1 a := (x_zr_ne han).1
      simp [va_cpy, x_cf, x_zr, han]
    have hS2 := x_Str hS hS1
    refine lv_aload_n hx hb dJ7_copyOf_59c91_31 rfl (lv_at hl 0 rfl) ?_
    exact r_aret C rfl (Or.inr ⟨_, rfl⟩) hQ1 hS2 (Nat.le_refl _) (by show 0 + N ≤ N; omega) dJ7_copyOf_59c91_32
  · -- the whole array: clone
    have hNe : N = (K a).2 := (nI_eq (by omega) (by omega)).mp hc
    refine lv_aload_n hx hb dJ7_copyOf_59c91_6 rfl (lv_at hl 0 rfl) ?_
    obtain ⟨hn0, hx0, hA, L, hL, hP, hD⟩ := id hQ
    obtain ⟨q0, hq0⟩ := va_pl_get (X := []) (f := x_c2 (oX O) (oC O) K F h) ((hL a).mpr (by omega))
    rw [x_c2_old (by omega), x_cell_int hk] at hq0
    -- what may change: the cells that we know, and new ones
    have hLn : ∀ b, b ∈ L → b < n := fun b hb => by
      by_cases e9 : b < n
      · exact e9
      · exact absurd (hQ.fresh (by omega)) ((hL b).mp hb)
    have hD' : va_D (fun q => q ∈ L ∨ n ≤ q) ([] ++ va_pl L (x_c2 (oX O) (oC O) K F h)) := ⟨hD.1, fun k q hq => by
      simp only [va_pl, List.nil_append, List.getElem?_map] at hq
      cases hb9 : L[k]? with
      | none => rw [hb9] at hq; cases hq
      | some b =>
        rw [hb9] at hq
        cases hq
        exact Or.inl (List.mem_of_getElem? hb9)⟩
    have hS' : va_S (fun q => q ∈ L ∨ n ≤ q) s.heap s.heap [] := va_S.rf
    have hAI := ((x_K C).2 0 _ (x_tysI O)).2
    refine va_clone hx hb (C.2.2.1.trans hl.1.symm) (ad := "[I") C.2.2.2.1 (hts _ cp_cl) (hts _ cp_sm) (hts _ cp_cn) (hts _ cp_ci) (hts _ cp_cs) (C.2.2.2.2.2.2.2.2.2.2.2.2.2.2.2.2.2.1 _ cp_ca rfl) (x_K C) hP hD' hS' (fun q hq => Or.inr (by omega)) q0 0 hq0 (x_tysI O) hAI ?_ (Nat.le_of_ble_eq_true rfl) (Nat.le_of_ble_eq_true rfl) (by show 0 + 1 ≤ 1; omega) (by show 0 + (K a).2 ≤ N; omega) dJ7_copyOf_59c91_7 (fun q H1 hK1 hP1 hD1 hS1 => x_sz fun hle => ?_)
    · intro i v hv
      have hv : (Array.ofFn fun j : Fin (K a).2 => Value.int (h.1 a j))[i]? = some v := hv
      rw [Array.getElem?_ofFn] at hv
      split at hv
      · cases hv
        rfl
      · cases hv
    have hql : q < H1.size := vx_lt hP1 (k := ([] ++ va_pl L (x_c2 (oX O) (oC O) K F h)).length) (q := (q, .inl (oC O 0, (K a).2, .inl (h.1 a)))) (by simp)
    have hqL : q ∉ L := fun hq => by
      obtain ⟨j, hj⟩ := List.mem_iff_getElem?.mp hq
      have hjl : j < L.length := (List.getElem?_eq_some_iff.mp hj).1
      have := hD1.1 j (va_pl L (x_c2 (oX O) (oC O) K F h)).length (q, x_c2 (oX O) (oC O) K F h q) (q, .inl (oC O 0, (K a).2, .inl (h.1 a))) (by rw [List.nil_append, List.getElem?_append_left (by simp [va_pl]; omega)]; simp [va_pl, hj]) (by simp) rfl
      simp [va_pl] at this
      omega
    have hqA := hD1.2 ([] ++ va_pl L (x_c2 (oX O) (oC O) K F h)).length (q, .inl (oC O 0, (K a).2, .inl (h.1 a))) (by simp)
    have hqn : q = n := by
      rcases hqA with h9 | h9
      · exact absurd h9 hqL
      · have h9 : n ≤ q := h9
        omega
    subst hqn
    have hnL : q ∉ L := hqL
    have hoA : ∀ z, (z ∈ L ∨ q ≤ z) → oA O z := fun z hz => by
      rcases hz with h9 | h9
      · obtain ⟨j, hj⟩ := List.mem_iff_getElem?.mp h9
        exact hD.2 j (z, x_c2 (oX O) (oC O) K F h z) (by simp [va_pl, hj])
      · exact hA z (by omega)
    have hS2 : va_S (oA O) s.heap H1 [] := ⟨hS1.1, fun z h1 h2 => hS1.2.1 z h1 (fun h3 => h2 (hoA z h3)), fun _ h => nomatch h⟩
    have hQ1 : x_Q2 O (x_ku K q (14, N)) F (x_cf h q a N) H1 (q + 1) := by
      refine x_Q2.app (h := h) (F := F) (by have := hS1.1; omega) hx0 hA hL hnL (E := .inl (oC O 0, N, .inl ((x_cf h q a N).1 q))) (fun k z hz => ?_) ⟨fun i j z w hi hj e9 => ?_, fun k z hz => ?_⟩ (by rw [x_c2_old (by rw [x_ku_at]; simp), x_cell_int (by rw [x_ku_at]), x_ku_at]) (fun b hb => x_ku_ne hb) (fun b hb => rfl) (fun b hb => x_cf_ne hb) (by rw [x_ku_at]; simp)
      · by_cases hk9 : k < ([] ++ va_pl L (x_c2 (oX O) (oC O) K F h)).length
        · rw [List.getElem?_append_left hk9] at hz
          exact hP1 k z (by rw [List.getElem?_append_left hk9]; exact hz)
        · have hlast := hP1 ([] ++ va_pl L (x_c2 (oX O) (oC O) K F h)).length (q, .inl (oC O 0, (K a).2, .inl (h.1 a))) (by simp)
          rw [List.getElem?_append_right (by omega)] at hz
          have hk8 : k - ([] ++ va_pl L (x_c2 (oX O) (oC O) K F h)).length = 0 := by
            have := (List.getElem?_eq_some_iff.mp hz).1
            simp at this ⊢
            omega
          rw [hk8] at hz
          cases hz
          have hlast : H1[q]? = some (vp_cell (oC O 0) ((K a).2, .inl (h.1 a))) := hlast
          show H1[q]? = some (vp_cell (oC O 0) (N, .inl ((x_cf h q a N).1 q)))
          rw [hlast, ← hNe]
          congr 1
          exact x_arrI fun j hj => by simp [x_cf, hj]
      · have key : ∀ (i : Nat) (z : Nat × va_E), ([] ++ va_pl L (x_c2 (oX O) (oC O) K F h) ++ [(q, .inl (oC O 0, N, .inl ((x_cf h q a N).1 q)))])[i]? = some z → ∃ z', z'.1 = z.1 ∧ ([] ++ va_pl L (x_c2 (oX O) (oC O) K F h) ++ [(q, .inl (oC O 0, (K a).2, .inl (h.1 a)))])[i]? = some z' := fun i z hz => by
          by_cases hk9 : i < ([] ++ va_pl L (x_c2 (oX O) (oC O) K F h)).length
          · rw [List.getElem?_append_left hk9] at hz
            exact ⟨z, rfl, by rw [List.getElem?_append_left hk9]; exact hz⟩
          · rw [List.getElem?_append_right (by omega)] at hz
            have hk8 : i - ([] ++ va_pl L (x_c2 (oX O) (oC O) K F h)).length = 0 := by
              have := (List.getElem?_eq_some_iff.mp hz).1
              simp at this ⊢
              omega
            rw [hk8] at hz
            cases hz
            exact ⟨(q, .inl (oC O 0, (K a).2, .inl (h.1 a))), rfl, by rw [List.getElem?_append_right (by omega), hk8]; rfl⟩
        obtain ⟨z', e1, hz'⟩ := key i z hi
        obtain ⟨w', e2, hw'⟩ := key j w hj
        exact hD1.1 i j z' w' hz' hw' (by rw [e1, e2]; exact e9)
      · by_cases hk9 : k < ([] ++ va_pl L (x_c2 (oX O) (oC O) K F h)).length
        · rw [List.getElem?_append_left hk9] at hz
          exact hD.2 k z hz
        · rw [List.getElem?_append_right (by omega)] at hz
          have hk8 : k - ([] ++ va_pl L (x_c2 (oX O) (oC O) K F h)).length = 0 := by
            have := (List.getElem?_eq_some_iff.mp hz).1
            simp at this ⊢
            omega
          rw [hk8] at hz
          cases hz
          exact hA q (by omega)
    obtain ⟨hn1, -, -, L1, hL1, hP2, hD2⟩ := id hQ1
    obtain ⟨q2, hq2⟩ := va_pl_get (X := []) (f := x_c2 (oX O) (oC O) (x_ku K q (14, N)) F (x_cf h q a N)) ((hL1 q).mpr (by rw [x_ku_at]; simp))
    rw [x_c2_old (by rw [x_ku_at]; simp), x_cell_int (by rw [x_ku_at])] at hq2
    refine va_castA hx hb C.2.2.2.1 (hts _ cp_cc) hP2 q2 hq2 hAI dJ7_copyOf_59c91_10 ?_
    exact r_aret C rfl (Or.inr ⟨_, rfl⟩) hQ1 hS2 (Nat.le_refl _) (by show 0 + (K a).2 ≤ N; omega) dJ7_copyOf_59c91_13
/-! ===== contracts of methods that begin with a heap of a known size and leave another shape behind ===== -/
def x_PN (O : XO) (K : XK) (h : XH) (n : Nat) (av : List Value) : Array Value → State → Prop := fun v U => x_Pc O K h av v U ∧ U.heap.size = n
theorem x_blindN {O : XO} {K : XK} {h : XH} {n : Nat} {av : List Value} : FrameBlind (x_PN O K h n av) := fun a U g mk q => by
  obtain ⟨⟨q0, q1, q2⟩, q3⟩ := q
  exact ⟨⟨q0, x_E.calling g mk a q1, q2⟩, q3⟩
section XZ
variable {p : Program} {l : Launch} {e : Env} {R : Room} {s : State} {m : MethodId} {args : Array Value} {below : List Frame} {meth : Method} {c : Code} {H : Heap} {locs : List Loc} {cells slots mc ms : Nat} {Q : State → Prop}
variable {O : XO} {K K' : XK} {F F' : Nat → List Value} {h h' : XH} {n n' : Nat} {cc : ByteArray} {nL : Nat} {own : String} {ret : Option FieldType} {pc : Nat} {ls : Array Slot} {rest : List Value}
theorem x_enterN {y : MethodName} {f lo : Nat} {av : List Value} {Qc : Array Value → State → Outcome → State → Prop} (hy : plainName y.cls = true) (hnl : (lg_sl av).length ≤ nL)
    (body : ∀ (p : Program) (e : Env) (s : State) (m : MethodId) (args : Array Value) (below : List Frame) (meth : Method) (c : Code), x_C p s m args meth c O cc nL y.cls ret → x_R O K h s.heap → s.heap.size = n → ∀ ls : Array Slot, lv_has ls nL (lv_args 0 av) →
      W p l e (x_rmX f lo mc ms) s m args below meth c s.heap [] 0 0 (MQ below Qc args s mc ms (oA O)) (F0 m 0 ls [])) : Met l y (.code y cc nL ret :: TB) (x_rmX f lo mc ms) (x_PN O K h n av) Qc mc ms (oA O) := by
  refine Met.ofW (cc := cc) (maxL := nL) (ret := ret) hy rfl ?_
  intro p e s m args below meth c s₁ B hml hv
  obtain ⟨⟨rfl, hE, hR⟩, hz⟩ := hv
  have ht : ∀ x ∈ c.exceptionTable.toList, False := by
    obtain ⟨meth9, c9, h1, h2, -, -, -, -, h7, -⟩ := Cond.code_spec B.named (atoms_spec (ws := (Cond.code y cc nL ret :: TB)) B.pre _ List.mem_cons_self)
    cases Option.some.inj (h1.symm.trans B.method)
    cases Option.some.inj (h2.symm.trans (Stand.of_body B).code)
    intro x hx
    rw [Array.isEmpty_iff.mp h7] at hx
    cases hx
  have hts := atoms_spec (ws := (Cond.code y cc nL ret :: TB)) B.pre
  rw [lg_entry_eq]
  exact body p e s m _ below meth c ⟨B.exec, B.bytes, hml, findClass_of_methodNamed B.named, fun w hw => hts w (List.mem_cons_of_mem _ hw), B.notSynchronized, Or.inl ht, B.returns, hE⟩ hR hz _ (lv_entry av hnl)
theorem x_enterNX {y : MethodName} {f lo : Nat} {av : List Value} {Qc : Array Value → State → Outcome → State → Prop} {XC : String → State → State → Prop} (hy : plainName y.cls = true) (hnl : (lg_sl av).length ≤ nL)
    (body : ∀ (p : Program) (e : Env) (s : State) (m : MethodId) (args : Array Value) (below : List Frame) (meth : Method) (c : Code), x_C p s m args meth c O cc nL y.cls ret → x_R O K h s.heap → s.heap.size = n → ∀ ls : Array Slot, lv_has ls nL (lv_args 0 av) →
      W p l e (x_rmX f lo mc ms) s m args below meth c s.heap [] 0 0 (vx_MQ below Qc XC args s mc ms (oA O)) (F0 m 0 ls [])) : vx_Met l y (.code y cc nL ret :: TB) (x_rmX f lo mc ms) (x_PN O K h n av) Qc XC mc ms (oA O) := by
  refine vx_ofW (cc := cc) (maxL := nL) (ret := ret) hy rfl ?_
  intro p e s m args below meth c s₁ B hml ht hv
  obtain ⟨⟨rfl, hE, hR⟩, hz⟩ := hv
  have hts := atoms_spec (ws := (Cond.code y cc nL ret :: TB)) B.pre
  rw [lg_entry_eq]
  exact body p e s m _ below meth c ⟨B.exec, B.bytes, hml, findClass_of_methodNamed B.named, fun w hw => hts w (List.mem_cons_of_mem _ hw), B.notSynchronized, Or.inl ht, B.returns, hE⟩ hR hz _ (lv_entry av hnl)
theorem x_preN (C : x_C p s m args meth c O cc nL own ret) (hR : x_R O K h H) (hS : va_S (oA O) s.heap H locs) (hz : H.size = n) {av : List Value} : ∀ U : State, U.heap = H → s.WarmedH U.vm → x_PN O K h n av av.toArray U := fun U hU hW => ⟨x_pre C hR hS U hU hW, by rw [hU]; exact hz⟩
/-- the call of such a method of an object that stands -/
theorem x_callN (C : x_C p s m args meth c O cc nL own ret) (hR : x_R O K h H) (hS : va_S (oA O) s.heap H locs) (hz : H.size = n) {y : MethodName} {bytes : ByteArray} {maxL : Nat} {ret' : Option FieldType} {f lo k mc' ms' : Nat} {b : Nat} {As : List Value} {r : Option Value}
    (M : Met l y (.code y bytes maxL ret' :: TB) (x_rmX f lo mc' ms') (x_PN O K h n (.ref b :: As)) (x_Qc O K' h' r) mc' ms' (oA O)) {ci : Nat} (hb : (K b).1 = ci + 1) (hci : ci < 13) {T : u_T} {N : Nat} (hc : vwCl[ci]? = some (y.cls, T, N)) (hm : x_MV y bytes maxL ret' k) {idx : Nat} (hl : Cond.methodLink own idx y ∈ TB)
    (hF : f + 1 ≤ R.frames) (hL : 8 + (maxL + 11) + lo ≤ R.locals) (hn : As.length = k) (hsz : ls.size = nL) (hst : (rest.map fun v => v.category).sum ≤ 8) (hd : decode cc pc = .ok (.invokevirtual idx, 3)) (hcs : cells + mc' ≤ R.cells ∧ slots + ms' ≤ R.slots)
    {st0 : List Value} (hst0 : st0 = As.reverse ++ .ref b :: rest)
    (kk : ∀ (H1 : Heap) (locs1 : List Loc), x_R O K' h' H1 → va_S (oA O) s.heap H1 locs1 → W p l e R s m args below meth c H1 locs1 (cells + mc') (slots + ms') Q (F0 m (pc + 3) ls (r.toList ++ rest))) : W p l e R s m args below meth c H locs cells slots Q (F0 m pc ls st0) := by
  obtain ⟨m1, m2, m3, m4, m5, m6, m7⟩ := hm
  have hts := C.2.2.2.2.1
  have hrecv : ∃ cellB : Cell, H[b]? = some cellB ∧ cellB.vm.isStatics = false ∧ s.vm.findClass y.cls = some cellB.cls := by
    obtain ⟨L, hL, hP, hD, hT⟩ := id hR
    obtain ⟨q0, hq⟩ := va_pl_get (X := []) (f := x_cell (oX O) (oC O) K h) ((hL b).mpr (by omega))
    rw [x_cell_obj hb hci] at hq
    exact va_recv (x_K C) hP hc hq
  exact x_back (va_runV (As := As) (b := b) (C := y.cls) (Ts := TB) ⟨C.1, C.2.1, C.2.2.1, C.2.2.2.1, hts⟩ M ⟨callB_of k hts (TB_cons m1) rfl rfl rfl (hts _ m4) (hts _ hl) ⟨m5, m6, m7⟩ ⟨hF, hL⟩, hts _ m2, hts _ m3⟩ ⟨x_blindN, hrecv, x_preN C hR hS hz⟩ rfl hn hsz hst0 (lv_room hst) hd hcs) hS kk
/-- an object or null is answered -/
theorem x_aret (C : x_C p s m args meth c O cc nL own ret) {rt : FieldType} (hret : ret = some rt) (hrt : (∃ n, rt = .object n) ∨ ∃ t, rt = .array t) (hR : x_R O K h H) (hS : va_S (oA O) s.heap H locs) {r : Option Nat} (hc : cells ≤ mc) (hs : slots ≤ ms) (hd : decode cc pc = .ok (.areturn, 1)) :
    W p l e R s m args below meth c H locs cells slots (MQ below (x_Qc O K h (some (va_rf r))) args s mc ms (oA O)) (F0 m pc ls [va_rf r]) :=
  W.widen hc hs (W.aret C.1 C.2.1 (C.2.2.2.2.2.2.2.1.trans hret) hrt (by cases r; exact Or.inl rfl; exact Or.inr ⟨_, rfl⟩) (fun t ht _ => ⟨rfl, by rw [ht]; exact hR, hS.F ht⟩) hS.2.2 hd C.2.2.2.2.2.1)
theorem x_vretN (C : x_C p s m args meth c O cc nL own none) (hR : x_R O K h H) (hS : va_S (oA O) s.heap H locs) (hc : cells ≤ mc) (hs : slots ≤ ms) (hd : decode cc pc = .ok (.return_, 1)) :
    W p l e R s m args below meth c H locs cells slots (MQ below (x_Qc O K h none) args s mc ms (oA O)) (F0 m pc ls []) :=
  W.widen hc hs (W.vret C.1 C.2.1 C.2.2.2.2.2.2.2.1 (fun t ht _ => ⟨rfl, by rw [ht]; exact hR, hS.F ht⟩) hS.2.2 hd C.2.2.2.2.2.1)
end XZ
theorem x_R.lt {O : XO} {K : XK} {h : XH} {H : Heap} (hR : x_R O K h H) {a : Nat} (ha : (K a).1 ≠ 0) : a < H.size := by
  obtain ⟨L, hL, hP, hD, hT⟩ := hR
  obtain ⟨q0, hq⟩ := va_pl_get (X := []) (f := x_cell (oX O) (oC O) K h) ((hL a).mpr ha)
  exact vx_lt hP hq
theorem x_R.top {O : XO} {K : XK} {h : XH} {H : Heap} (hR : x_R O K h H) : oX O + 77 ≤ H.size := by
  have := hR.lt (a := oX O + 76) (by rw [x_k hR 76 rfl]; decide)
  omega
theorem x_kl_lt {K : XK} {n b : Nat} {ks : List (Nat × Nat)} (hb : b < n) : x_kl K n ks b = K b := by simp [x_kl, hb]
theorem x_kl_cases {K : XK} {n : Nat} {ks : List (Nat × Nat)} (b : Nat) : x_kl K n ks b = K b ∨ ∃ j, b = n + j ∧ j < ks.length ∧ x_kl K n ks b = ks.getD j (0, 0) := by
  by_cases hb : b < n
  · exact Or.inl (x_kl_lt hb)
  · cases hj : ks[b - n]? with
    | none => exact Or.inl (by simp [x_kl, hb, hj])
    | some q => exact Or.inr ⟨b - n, by omega, (List.getElem?_eq_some_iff.mp hj).1, by simp [x_kl, hb, hj]⟩
theorem x_kl_at' {K : XK} {n j b : Nat} {ks : List (Nat × Nat)} {q : Nat × Nat} (hj : ks[j]? = some q) (hb : b = n + j) : x_kl K n ks b = q := by rw [hb]; exact x_kl_j j hj
def x_ok8 (ks : List (Nat × Nat)) (j : Nat) : Prop := ks[j + 1]? = some (14, 156) ∧ ks[j + 2]? = some (14, 6) ∧ ks[j + 3]? = some (14, 120) ∧ ks[j + 4]? = some (16, 8) ∧ ks[j + 5]? = some (17, 3) ∧ ks[j + 6]? = some (17, 3) ∧ ks[j + 7]? = some (14, 6) ∧ ks[j + 8]? = some (14, 6) ∧ ks[j + 9]? = some (14, 20)
/-- the shape with a new block above all others: what the block itself owes -/
theorem x_T.grow {x n : Nat} {K : XK} {h h' : XH} {ks : List (Nat × Nat)} (hT : x_T x K h) (hz : ∀ b, n ≤ b → (K b).1 = 0) (hn : x + 77 ≤ n)
    (hr : ∀ b, b < n → b ≠ x → h'.2.2 b = h.2.2 b) (hx8 : ∀ r, h'.2.2 x 8 = some r → x_kl K n ks r = (8, 0))
    (b17 : ∀ j, j < ks.length → (ks.getD j (0, 0)).1 = 17 → ∀ k, h'.2.2 (n + j) k = none)
    (b8 : ∀ j, j < ks.length → (ks.getD j (0, 0)).1 = 8 → x_ok8 ks j)
    (b3 : ∀ j, j < ks.length → (ks.getD j (0, 0)).1 = 3 → ks[j + 1]? = some (5, 0) ∧ ks[j + 2]? = some (14, 52))
    (b11 : ∀ j, j < ks.length → (ks.getD j (0, 0)).1 = 11 → ∃ u1 u2 u3 u4, ks[j + 1]? = some (14, u1) ∧ ks[j + 2]? = some (14, u2) ∧ ks[j + 3]? = some (14, u3) ∧ ks[j + 4]? = some (14, u4))
    (b16 : ∀ j, j < ks.length → (ks.getD j (0, 0)).1 = 16 → ∀ k, k < 8 → ks[j + 6 + 3 * k]? = some (3, 0))
    (b0 : ∀ j, j < ks.length → ((ks.getD j (0, 0)).1 < 14 → (ks.getD j (0, 0)).2 = 0) ∧ (ks.getD j (0, 0)).1 ≤ 18) : x_T x (x_kl K n ks) h' := by
  obtain ⟨t1, t2, t3, t4, t5, t6, t7, t8, t9⟩ := hT
  have old : ∀ b, (K b).1 ≠ 0 → b < n ∧ x_kl K n ks b = K b := fun b hb => by
    have : b < n := by
      by_cases e : b < n
      · exact e
      · exact absurd (hz b (by omega)) hb
    exact ⟨this, x_kl_lt this⟩
  have oldq : ∀ b q, K b = q → q.1 ≠ 0 → x_kl K n ks b = q := fun b q hb hq => by
    rw [← hb]
    exact (old b (by rw [hb]; exact hq)).2
  have old1 : ∀ b v, (K b).1 = v → v ≠ 0 → (x_kl K n ks b).1 = v := fun b v hb hv => by
    rw [(old b (by rw [hb]; exact hv)).2]
    exact hb
  have new1 : ∀ j u b, ks[j]? = some (14, u) → b = n + j → (x_kl K n ks b).1 = 14 := fun j u b hj hb => by rw [x_kl_at' hj hb]
  refine ⟨fun j hj => ?_, fun a ha => ?_, fun a ha => ?_, fun a ha => ?_, fun a ha => ?_, fun a ha k r hk => ?_, hx8, fun a ha => ?_, fun a => ?_⟩
  · rw [x_kl_lt (by omega)]; exact t1 j hj
  · rcases x_kl_cases (K := K) (n := n) (ks := ks) a with e | ⟨j, e, hj, e2⟩
    · rw [e] at ha
      obtain ⟨u1, u2, u3, u4, u5, u6, u7, u8, u9⟩ := t2 a ha
      exact ⟨oldq _ _ u1 (by decide), oldq _ _ u2 (by decide), oldq _ _ u3 (by decide), oldq _ _ u4 (by decide), oldq _ _ u5 (by decide), oldq _ _ u6 (by decide), oldq _ _ u7 (by decide), oldq _ _ u8 (by decide), oldq _ _ u9 (by decide)⟩
    · obtain ⟨u1, u2, u3, u4, u5, u6, u7, u8, u9⟩ := b8 j hj (by rw [← e2]; exact ha)
      exact ⟨x_kl_at' u1 (by omega), x_kl_at' u2 (by omega), x_kl_at' u3 (by omega), x_kl_at' u4 (by omega), x_kl_at' u5 (by omega), x_kl_at' u6 (by omega), x_kl_at' u7 (by omega), x_kl_at' u8 (by omega), x_kl_at' u9 (by omega)⟩
  · rcases x_kl_cases (K := K) (n := n) (ks := ks) a with e | ⟨j, e, hj, e2⟩
    · rw [e] at ha
      obtain ⟨u1, u2⟩ := t3 a ha
      exact ⟨oldq _ _ u1 (by decide), oldq _ _ u2 (by decide)⟩
    · obtain ⟨u1, u2⟩ := b3 j hj (by rw [← e2]; exact ha)
      exact ⟨x_kl_at' u1 (by omega), x_kl_at' u2 (by omega)⟩
  · rcases x_kl_cases (K := K) (n := n) (ks := ks) a with e | ⟨j, e, hj, e2⟩
    · rw [e] at ha
      obtain ⟨u1, u2, u3, u4⟩ := t4 a ha
      exact ⟨old1 _ _ u1 (by decide), old1 _ _ u2 (by decide), old1 _ _ u3 (by decide), old1 _ _ u4 (by decide)⟩
    · obtain ⟨v1, v2, v3, v4, u1, u2, u3, u4⟩ := b11 j hj (by rw [← e2]; exact ha)
      exact ⟨new1 _ _ _ u1 (by omega), new1 _ _ _ u2 (by omega), new1 _ _ _ u3 (by omega), new1 _ _ _ u4 (by omega)⟩
  · rcases x_kl_cases (K := K) (n := n) (ks := ks) a with e | ⟨j, e, hj, e2⟩
    · rw [e] at ha
      exact fun k hk => oldq _ _ (t5 a ha k hk) (by decide)
    · exact fun k hk => x_kl_at' (b16 j hj (by rw [← e2]; exact ha) k hk) (by omega)
  · rcases x_kl_cases (K := K) (n := n) (ks := ks) a with e | ⟨j, e, hj, e2⟩
    · rw [e] at ha
      have hb := (old a (by rw [ha]; decide)).1
      have hax : a ≠ x := fun e9 => by
        have h0 := t1 0 (by decide)
        rw [Nat.add_zero, ← e9] at h0
        have h12 : K a = (12, 0) := Option.some.inj h0
        rw [h12] at ha
        cases ha
      rw [hr a hb hax] at hk
      exact oldq _ _ (t6 a ha k r hk) (by decide)
    · rw [e, b17 j hj (by rw [← e2]; exact ha)] at hk
      cases hk
  · rcases x_kl_cases (K := K) (n := n) (ks := ks) a with e | ⟨j, e, hj, e2⟩
    · rw [e] at ha ⊢
      exact t8 a ha
    · rw [e2] at ha ⊢
      exact (b0 j hj).1 ha
  · rcases x_kl_cases (K := K) (n := n) (ks := ks) a with e | ⟨j, e, hj, e2⟩
    · rw [e]; exact t9 a
    · rw [e2]; exact (b0 j hj).2
def f_X8_read_120 (x : Nat) (h : XH) : Option (Int32 × XH) := if x_b (h.1 (x + 1) 9) 401 = true then x_let (x_i h (x + 1) 8 (h.1 (x + 4) (h.1 (x + 1) 9).toNatClampNeg)) (fun h10 => some (1, h10)) else none
def f_X8_read_112 (x : Nat) (h : XH) (v2 : Int32) (v3 : Int32) : Option (Int32 × XH) := if v2 = 0 then f_X8_read_120 x h else if v3 = 0 then x_let (x_i h (x + 1) 8 (-1)) (fun h11 => some (0, h11)) else f_X8_read_120 x h
def f_X8_read_105 (k46 : XH → Int32 → Int32 → Int32 → Option (Int32 × XH)) (x : Nat) (h : XH) (v3 : Int32) (v4 : Int32) (s0 : Int32) : Option (Int32 × XH) := k46 h s0 v3 (v4 + 1)
def f_X8_read_104 (k46 : XH → Int32 → Int32 → Int32 → Option (Int32 × XH)) (x : Nat) (h : XH) (v3 : Int32) (v4 : Int32) : Option (Int32 × XH) := f_X8_read_105 k46 x h v3 v4 0
def f_X8_read_100 (k46 : XH → Int32 → Int32 → Int32 → Option (Int32 × XH)) (x : Nat) (h : XH) (v3 : Int32) (v4 : Int32) : Option (Int32 × XH) := f_X8_read_105 k46 x h v3 v4 1
def f_X8_read_46 (x : Nat) : Nat → XH → Int32 → Int32 → Int32 → Option (Int32 × XH)
  | 0, _, _, _, _ => none
  | n + 1, h, v2, v3, v4 => if 10 ≤ v4 then f_X8_read_112 x h v2 v3 else if v2 = 0 then f_X8_read_112 x h v2 v3 else if v3 = 0 then f_X8_read_112 x h v2 v3 else Option.bind (f_X8_readLine x h) (fun q12 => Option.bind (f_X8_here x q12.2) (fun v_13 => x_let ((if v_13 = 1099 then 0 else 1) : Int32) (fun t15 => if q12.1 = 0 then f_X8_read_104 (f_X8_read_46 x n) x q12.2 t15 v4 else if t15 = 0 then f_X8_read_100 (f_X8_read_46 x n) x q12.2 t15 v4 else Option.bind (f_X8_take x q12.2 1159) (fun q16 => x_let ((if q16.1 = 0 then 0 else 1) : Int32) (fun t18 => f_X8_read_46 x n q16.2 t18 t15 (v4 + 1))))))
def f_X8_readP (x : Nat) (h : XH) (v1 : Int32) : Option (Int32 × XH) := Option.bind (f_X8_split x h v1) (fun h1 => x_let (x_i h1 (x + 1) 1 0) (fun h2 => x_let (x_i h2 (x + 1) 9 0) (fun h3 => x_let (x_i h3 (x + 1) 10 0) (fun h4 => x_let (x_i h4 (x + 1) 11 0) (fun h5 => Option.bind (f_X8_here x h5) (fun v_6 => x_let ((if v_6 = 1099 then 0 else 1) : Int32) (fun t8 => f_X8_read_46 x x_FU h5 1 t8 0)))))))
set_option maxRecDepth 20000 in
theorem B_X8_read_120 {p : Program} {l : Launch} {e : Env} {s : State} {m : MethodId} {args : Array Value} {below : List Frame} {meth : Method} {c : Code} {O : XO} {K : XK} {Q : State → Prop} {r : Int32} {h' : XH}   (C : x_C p s m args meth c O cX8_read 5 RX8 (some (.object "MemoryHouse$Text")))   (kx133 : r = 1 → ∀ (ls : Array Slot) (H : Heap) (locs : List Loc), lv_has ls 5 [(0, .ref (oX O + 1))] → x_R O K h' H → va_S (oA O) s.heap H locs → W p l e (x_rmX 28 626 5 434) s m args below meth c H locs 0 0 (Q) (F0 m 133 ls [])) (kx140 : r = 0 → ∀ (ls : Array Slot) (H : Heap) (locs : List Loc), lv_has ls 5 [(0, .ref (oX O + 1))] → x_R O K h' H → va_S (oA O) s.heap H locs → W p l e (x_rmX 28 626 5 434) s m args below meth c H locs 0 0 (Q) (F0 m 140 ls [])) (ls : Array Slot) (H : Heap) (locs : List Loc) (h : XH) (hl : lv_has ls 5 [(0, .ref (oX O + 1))]) (hR : x_R O K h H) (hS : va_S (oA O) s.heap H locs) (hf : f_X8_read_120 (oX O) h = some (r, h')) : W p l e (x_rmX 28 626 5 434) s m args below meth c H locs 0 0 (Q) (F0 m 120 ls []) := by
  have hx := C.1
  have hb := C.2.1
  rw [f_X8_read_120] at hf
  refine lv_aload_n hx hb dX8_read_120 rfl (lv_at hl 0 rfl) ?_
  refine lv_aload_n hx hb dX8_read_121 rfl (lv_at hl 0 rfl) ?_
  refine gf_8_3 C hR (x_k hR 1 rfl) tw_153 dX8_read_122 ?_
  refine lv_aload_n hx hb dX8_read_125 rfl (lv_at hl 0 rfl) ?_
  refine gf_8_9 C hR (x_k hR 1 rfl) tw_160 dX8_read_126 ?_
  obtain ⟨g9, hf⟩ := x_gd hf
  refine x_iald C hR (x_k1 (x_k hR 4 rfl)) (x_k2 (x_k hR 4 rfl) g9) dX8_read_129 ?_
  obtain ⟨h10, eh10, hf⟩ := x_lt hf
  refine pf_8_8 C hR hS (x_k hR 1 rfl) tw_158 dX8_read_130 (fun H locs hR hS => ?_)
  rw [← eh10] at hR
  cases hf
  exact kx133 rfl ls _ _ (lv_sub hl [0] rfl) hR hS
set_option maxRecDepth 20000 in
theorem B_X8_read_112 {p : Program} {l : Launch} {e : Env} {s : State} {m : MethodId} {args : Array Value} {below : List Frame} {meth : Method} {c : Code} {O : XO} {K : XK} {Q : State → Prop} {r : Int32} {h' : XH}   (C : x_C p s m args meth c O cX8_read 5 RX8 (some (.object "MemoryHouse$Text")))   (kx133 : r = 1 → ∀ (ls : Array Slot) (H : Heap) (locs : List Loc), lv_has ls 5 [(0, .ref (oX O + 1))] → x_R O K h' H → va_S (oA O) s.heap H locs → W p l e (x_rmX 28 626 5 434) s m args below meth c H locs 0 0 (Q) (F0 m 133 ls [])) (kx140 : r = 0 → ∀ (ls : Array Slot) (H : Heap) (locs : List Loc), lv_has ls 5 [(0, .ref (oX O + 1))] → x_R O K h' H → va_S (oA O) s.heap H locs → W p l e (x_rmX 28 626 5 434) s m args below meth c H locs 0 0 (Q) (F0 m 140 ls [])) (ls : Array Slot) (H : Heap) (locs : List Loc) (h : XH) (v2 : Int32) (v3 : Int32) (hl : lv_has ls 5 [(0, .ref (oX O + 1)), (2, .int v2), (3, .int v3)]) (hR : x_R O K h H) (hS : va_S (oA O) s.heap H locs) (hf : f_X8_read_112 (oX O) h v2 v3 = some (r, h')) : W p l e (x_rmX 28 626 5 434) s m args below meth c H locs 0 0 (Q) (F0 m 112 ls []) := by
  have hx := C.1
  have hb := C.2.1
  rw [f_X8_read_112] at hf
  refine lv_iload_n hx hb dX8_read_112 rfl (lv_at hl 1 rfl) ?_
  refine lv_if_eq (tgt := 120) hx hb dX8_read_113 rfl (fun hc => ?_) (fun hc => ?_)
  · have hf := x_ip hc hf
    exact B_X8_read_120  C  kx133 kx140  ls _ _ h  (lv_sub hl [0] rfl) hR hS hf
  · have hf := x_in hc hf
    refine lv_iload_n hx hb dX8_read_116 rfl (lv_at hl 2 rfl) ?_
    refine lv_if_eq (tgt := 135) hx hb dX8_read_117 rfl (fun hc => ?_) (fun hc => ?_)
    · have hf := x_ip hc hf
      refine lv_aload_n hx hb dX8_read_135 rfl (lv_at hl 0 rfl) ?_
      refine lv_iconst (v := (-1)) hx hb dX8_read_136 rfl ?_
      obtain ⟨h11, eh11, hf⟩ := x_lt hf
      refine pf_8_8 C hR hS (x_k hR 1 rfl) tw_158 dX8_read_137 (fun H locs hR hS => ?_)
      rw [← eh11] at hR
      cases hf
      exact kx140 rfl ls _ _ (lv_sub hl [0] rfl) hR hS
    · have hf := x_in hc hf
      exact B_X8_read_120  C  kx133 kx140  ls _ _ h  (lv_sub hl [0] rfl) hR hS hf
set_option maxRecDepth 20000 in
theorem B_X8_read_105 {p : Program} {l : Launch} {e : Env} {s : State} {m : MethodId} {args : Array Value} {below : List Frame} {meth : Method} {c : Code} {O : XO} {K : XK} {Q : State → Prop} {r : Int32} {h' : XH}  {k46 : XH → Int32 → Int32 → Int32 → Option (Int32 × XH)} (C : x_C p s m args meth c O cX8_read 5 RX8 (some (.object "MemoryHouse$Text"))) (hk46 : ∀ (ls : Array Slot) (H : Heap) (locs : List Loc) (h : XH) (v2 : Int32) (v3 : Int32) (v4 : Int32), lv_has ls 5 [(0, .ref (oX O + 1)), (2, .int v2), (3, .int v3), (4, .int v4)] → x_R O K h H → va_S (oA O) s.heap H locs → k46 h v2 v3 v4 = some (r, h') → W p l e (x_rmX 28 626 5 434) s m args below meth c H locs 0 0 (Q) (F0 m 46 ls []))  (kx133 : r = 1 → ∀ (ls : Array Slot) (H : Heap) (locs : List Loc), lv_has ls 5 [(0, .ref (oX O + 1))] → x_R O K h' H → va_S (oA O) s.heap H locs → W p l e (x_rmX 28 626 5 434) s m args below meth c H locs 0 0 (Q) (F0 m 133 ls [])) (kx140 : r = 0 → ∀ (ls : Array Slot) (H : Heap) (locs : List Loc), lv_has ls 5 [(0, .ref (oX O + 1))] → x_R O K h' H → va_S (oA O) s.heap H locs → W p l e (x_rmX 28 626 5 434) s m args below meth c H locs 0 0 (Q) (F0 m 140 ls [])) (ls : Array Slot) (H : Heap) (locs : List Loc) (h : XH) (v3 : Int32) (v4 : Int32) (s0 : Int32) (hl : lv_has ls 5 [(0, .ref (oX O + 1)), (3, .int v3), (4, .int v4)]) (hR : x_R O K h H) (hS : va_S (oA O) s.heap H locs) (hf : f_X8_read_105 k46 (oX O) h v3 v4 s0 = some (r, h')) : W p l e (x_rmX 28 626 5 434) s m args below meth c H locs 0 0 (Q) (F0 m 105 ls [.int s0]) := by
  have hx := C.1
  have hb := C.2.1
  rw [f_X8_read_105] at hf
  refine lv_istore_n (lv' := [(2, _), (0, _), (3, _), (4, _)]) hx hb dX8_read_105 rfl hl (Nat.le_of_ble_eq_true rfl) rfl (fun ls hl => ?_)
  refine lv_iinc (k := 3) (v := _ + 1) (lv' := [(4, _), (2, _), (0, _), (3, _)]) hx hb dX8_read_106 hl rfl (x_inc 1 1 rfl _) (Nat.le_of_ble_eq_true rfl) rfl (fun ls hl => ?_)
  refine lv_goto (tgt := 46) hx hb dX8_read_109 rfl ?_
  exact hk46 ls _ _ h _ _ _  (lv_sub hl [2, 1, 3, 0] rfl) hR hS hf
set_option maxRecDepth 20000 in
theorem B_X8_read_104 {p : Program} {l : Launch} {e : Env} {s : State} {m : MethodId} {args : Array Value} {below : List Frame} {meth : Method} {c : Code} {O : XO} {K : XK} {Q : State → Prop} {r : Int32} {h' : XH}  {k46 : XH → Int32 → Int32 → Int32 → Option (Int32 × XH)} (C : x_C p s m args meth c O cX8_read 5 RX8 (some (.object "MemoryHouse$Text"))) (hk46 : ∀ (ls : Array Slot) (H : Heap) (locs : List Loc) (h : XH) (v2 : Int32) (v3 : Int32) (v4 : Int32), lv_has ls 5 [(0, .ref (oX O + 1)), (2, .int v2), (3, .int v3), (4, .int v4)] → x_R O K h H → va_S (oA O) s.heap H locs → k46 h v2 v3 v4 = some (r, h') → W p l e (x_rmX 28 626 5 434) s m args below meth c H locs 0 0 (Q) (F0 m 46 ls []))  (kx133 : r = 1 → ∀ (ls : Array Slot) (H : Heap) (locs : List Loc), lv_has ls 5 [(0, .ref (oX O + 1))] → x_R O K h' H → va_S (oA O) s.heap H locs → W p l e (x_rmX 28 626 5 434) s m args below meth c H locs 0 0 (Q) (F0 m 133 ls [])) (kx140 : r = 0 → ∀ (ls : Array Slot) (H : Heap) (locs : List Loc), lv_has ls 5 [(0, .ref (oX O + 1))] → x_R O K h' H → va_S (oA O) s.heap H locs → W p l e (x_rmX 28 626 5 434) s m args below meth c H locs 0 0 (Q) (F0 m 140 ls [])) (ls : Array Slot) (H : Heap) (locs : List Loc) (h : XH) (v3 : Int32) (v4 : Int32) (hl : lv_has ls 5 [(0, .ref (oX O + 1)), (3, .int v3), (4, .int v4)]) (hR : x_R O K h H) (hS : va_S (oA O) s.heap H locs) (hf : f_X8_read_104 k46 (oX O) h v3 v4 = some (r, h')) : W p l e (x_rmX 28 626 5 434) s m args below meth c H locs 0 0 (Q) (F0 m 104 ls []) := by
  have hx := C.1
  have hb := C.2.1
  rw [f_X8_read_104] at hf
  refine lv_iconst (v := 0) hx hb dX8_read_104 rfl ?_
  exact B_X8_read_105  C hk46 kx133 kx140  ls _ _ h _ _ _  (lv_sub hl [0, 1, 2] rfl) hR hS hf
set_option maxRecDepth 20000 in
theorem B_X8_read_100 {p : Program} {l : Launch} {e : Env} {s : State} {m : MethodId} {args : Array Value} {below : List Frame} {meth : Method} {c : Code} {O : XO} {K : XK} {Q : State → Prop} {r : Int32} {h' : XH}  {k46 : XH → Int32 → Int32 → Int32 → Option (Int32 × XH)} (C : x_C p s m args meth c O cX8_read 5 RX8 (some (.object "MemoryHouse$Text"))) (hk46 : ∀ (ls : Array Slot) (H : Heap) (locs : List Loc) (h : XH) (v2 : Int32) (v3 : Int32) (v4 : Int32), lv_has ls 5 [(0, .ref (oX O + 1)), (2, .int v2), (3, .int v3), (4, .int v4)] → x_R O K h H → va_S (oA O) s.heap H locs → k46 h v2 v3 v4 = some (r, h') → W p l e (x_rmX 28 626 5 434) s m args below meth c H locs 0 0 (Q) (F0 m 46 ls []))  (kx133 : r = 1 → ∀ (ls : Array Slot) (H : Heap) (locs : List Loc), lv_has ls 5 [(0, .ref (oX O + 1))] → x_R O K h' H → va_S (oA O) s.heap H locs → W p l e (x_rmX 28 626 5 434) s m args below meth c H locs 0 0 (Q) (F0 m 133 ls [])) (kx140 : r = 0 → ∀ (ls : Array Slot) (H : Heap) (locs : List Loc), lv_has ls 5 [(0, .ref (oX O + 1))] → x_R O K h' H → va_S (oA O) s.heap H locs → W p l e (x_rmX 28 626 5 434) s m args below meth c H locs 0 0 (Q) (F0 m 140 ls [])) (ls : Array Slot) (H : Heap) (locs : List Loc) (h : XH) (v3 : Int32) (v4 : Int32) (hl : lv_has ls 5 [(0, .ref (oX O + 1)), (3, .int v3), (4, .int v4)]) (hR : x_R O K h H) (hS : va_S (oA O) s.heap H locs) (hf : f_X8_read_100 k46 (oX O) h v3 v4 = some (r, h')) : W p l e (x_rmX 28 626 5 434) s m args below meth c H locs 0 0 (Q) (F0 m 100 ls []) := by
  have hx := C.1
  have hb := C.2.1
  rw [f_X8_read_100] at hf
  refine lv_iconst (v := 1) hx hb dX8_read_100 rfl ?_
  refine lv_goto (tgt := 105) hx hb dX8_read_101 rfl ?_
  exact B_X8_read_105  C hk46 kx133 kx140  ls _ _ h _ _ _  (lv_sub hl [0, 1, 2] rfl) hR hS hf
set_option maxRecDepth 20000 in
theorem B_X8_read_46 {p : Program} {l : Launch} {e : Env} {s : State} {m : MethodId} {args : Array Value} {below : List Frame} {meth : Method} {c : Code} {O : XO} {K : XK} {Q : State → Prop} {r : Int32} {h' : XH}   (C : x_C p s m args meth c O cX8_read 5 RX8 (some (.object "MemoryHouse$Text")))   (kx133 : r = 1 → ∀ (ls : Array Slot) (H : Heap) (locs : List Loc), lv_has ls 5 [(0, .ref (oX O + 1))] → x_R O K h' H → va_S (oA O) s.heap H locs → W p l e (x_rmX 28 626 5 434) s m args below meth c H locs 0 0 (Q) (F0 m 133 ls [])) (kx140 : r = 0 → ∀ (ls : Array Slot) (H : Heap) (locs : List Loc), lv_has ls 5 [(0, .ref (oX O + 1))] → x_R O K h' H → va_S (oA O) s.heap H locs → W p l e (x_rmX 28 626 5 434) s m args below meth c H locs 0 0 (Q) (F0 m 140 ls [])) : ∀ (n : Nat) (ls : Array Slot) (H : Heap) (locs : List Loc) (h : XH) (v2 : Int32) (v3 : Int32) (v4 : Int32) (hl : lv_has ls 5 [(0, .ref (oX O + 1)), (2, .int v2), (3, .int v3), (4, .int v4)]) (hR : x_R O K h H) (hS : va_S (oA O) s.heap H locs) (hf : f_X8_read_46 (oX O) n h v2 v3 v4 = some (r, h')), W p l e (x_rmX 28 626 5 434) s m args below meth c H locs 0 0 (Q) (F0 m 46 ls []) := by
  have hx := C.1
  have hb := C.2.1
  intro n
  induction n with
  | zero =>
    intro ls H locs h v2 v3 v4 hl hR hS hf
    rw [f_X8_read_46] at hf
    cases hf
  | succ n ih =>
    intro ls H locs h v2 v3 v4 hl hR hS hf
    rw [f_X8_read_46] at hf
    refine lv_iload hx hb dX8_read_46 (lv_at hl 3 rfl) ?_
    refine lv_bipush (v := 10) hx hb dX8_read_48 rfl ?_
    refine lv_icmp_ge (tgt := 112) hx hb dX8_read_50 rfl (fun hc => ?_) (fun hc => ?_)
    · have hf := x_ip hc hf
      exact B_X8_read_112  C  kx133 kx140  ls _ _ h _ _  (lv_sub hl [0, 1, 2] rfl) hR hS hf
    · have hf := x_in hc hf
      refine lv_iload_n hx hb dX8_read_53 rfl (lv_at hl 1 rfl) ?_
      refine lv_if_eq (tgt := 112) hx hb dX8_read_54 rfl (fun hc => ?_) (fun hc => ?_)
      · have hf := x_ip hc hf
        exact B_X8_read_112  C  kx133 kx140  ls _ _ h _ _  (lv_sub hl [0, 1, 2] rfl) hR hS hf
      · have hf := x_in hc hf
        refine lv_iload_n hx hb dX8_read_57 rfl (lv_at hl 2 rfl) ?_
        refine lv_if_eq (tgt := 112) hx hb dX8_read_58 rfl (fun hc => ?_) (fun hc => ?_)
        · have hf := x_ip hc hf
          exact B_X8_read_112  C  kx133 kx140  ls _ _ h _ _  (lv_sub hl [0, 1, 2] rfl) hR hS hf
        · have hf := x_in hc hf
          refine lv_aload_n hx hb dX8_read_61 rfl (lv_at hl 0 rfl) ?_
          obtain ⟨q12, eq12, hf⟩ := x_bd hf
          refine x_cVi0 C hR hS (S_X8_readLine  eq12) (x_k hR 1 rfl) (by decide) rfl mf_X8_readLine tw_715 (Nat.le_of_ble_eq_true rfl) (Nat.le_of_ble_eq_true rfl) hl.1 (Nat.le_of_ble_eq_true rfl) dX8_read_62 ⟨Nat.le_of_ble_eq_true rfl, Nat.le_of_ble_eq_true rfl⟩ (fun H locs hR hS => ?_)
          refine lv_istore_n (lv' := [(2, _), (0, _), (3, _), (4, _)]) hx hb dX8_read_65 rfl hl (Nat.le_of_ble_eq_true rfl) rfl (fun ls hl => ?_)
          refine lv_aload_n hx hb dX8_read_66 rfl (lv_at hl 1 rfl) ?_
          obtain ⟨v_13, ev_13, hf⟩ := x_bd hf
          refine x_cVi0 C hR hS (S_X8_here  ev_13) (x_k hR 1 rfl) (by decide) rfl mf_X8_here tw_711 (Nat.le_of_ble_eq_true rfl) (Nat.le_of_ble_eq_true rfl) hl.1 (Nat.le_of_ble_eq_true rfl) dX8_read_67 ⟨Nat.le_of_ble_eq_true rfl, Nat.le_of_ble_eq_true rfl⟩ (fun H locs hR hS => ?_)
          refine lv_sipush (v := 1099) hx hb dX8_read_70 rfl ?_
          have kM14 : ∀ (ls : Array Slot) (H : Heap) (locs : List Loc), lv_has ls 5 [(0, .ref (oX O + 1)), (2, .int q12.1), (4, .int v4)] → x_R O K q12.2 H → va_S (oA O) s.heap H locs → W p l e (x_rmX 28 626 5 434) s m args below meth c H locs 0 0 (Q) (F0 m 81 ls [.int (if v_13 = 1099 then 0 else 1)]) := by
            intro ls H locs hl hR hS
            obtain ⟨t15, et15, hf⟩ := x_lt hf
            refine x_nmi et15 ?_
            refine lv_istore_n (lv' := [(3, _), (0, _), (2, _), (4, _)]) hx hb dX8_read_81 rfl hl (Nat.le_of_ble_eq_true rfl) rfl (fun ls hl => ?_)
            refine lv_iload_n hx hb dX8_read_82 rfl (lv_at hl 2 rfl) ?_
            refine lv_if_eq (tgt := 104) hx hb dX8_read_83 rfl (fun hc => ?_) (fun hc => ?_)
            · have hf := x_ip hc hf
              exact B_X8_read_104  C ih kx133 kx140  ls _ _ q12.2 _ _  (lv_sub hl [1, 0, 3] rfl) hR hS hf
            · have hf := x_in hc hf
              refine lv_iload_n hx hb dX8_read_86 rfl (lv_at hl 0 rfl) ?_
              refine lv_if_eq (tgt := 100) hx hb dX8_read_87 rfl (fun hc => ?_) (fun hc => ?_)
              · have hf := x_ip hc hf
                exact B_X8_read_100  C ih kx133 kx140  ls _ _ q12.2 _ _  (lv_sub hl [1, 0, 3] rfl) hR hS hf
              · have hf := x_in hc hf
                refine lv_aload_n hx hb dX8_read_90 rfl (lv_at hl 1 rfl) ?_
                refine lv_sipush (v := 1159) hx hb dX8_read_91 rfl ?_
                obtain ⟨q16, eq16, hf⟩ := x_bd hf
                refine x_cVi1 C hR hS (S_X8_take  eq16) (x_k hR 1 rfl) (by decide) rfl mf_X8_take tw_719 (Nat.le_of_ble_eq_true rfl) (Nat.le_of_ble_eq_true rfl) hl.1 (Nat.le_of_ble_eq_true rfl) dX8_read_94 ⟨Nat.le_of_ble_eq_true rfl, Nat.le_of_ble_eq_true rfl⟩ (fun H locs hR hS => ?_)
                have kM17 : ∀ (ls : Array Slot) (H : Heap) (locs : List Loc), lv_has ls 5 [(0, .ref (oX O + 1)), (3, .int t15), (4, .int v4)] → x_R O K q16.2 H → va_S (oA O) s.heap H locs → W p l e (x_rmX 28 626 5 434) s m args below meth c H locs 0 0 (Q) (F0 m 105 ls [.int (if q16.1 = 0 then 0 else 1)]) := by
                  intro ls H locs hl hR hS
                  obtain ⟨t18, et18, hf⟩ := x_lt hf
                  refine x_nmi et18 ?_
                  refine lv_istore_n (lv' := [(2, _), (0, _), (3, _), (4, _)]) hx hb dX8_read_105 rfl hl (Nat.le_of_ble_eq_true rfl) rfl (fun ls hl => ?_)
                  refine lv_iinc (k := 3) (v := _ + 1) (lv' := [(4, _), (2, _), (0, _), (3, _)]) hx hb dX8_read_106 hl rfl (x_inc 1 1 rfl _) (Nat.le_of_ble_eq_true rfl) rfl (fun ls hl => ?_)
                  refine lv_goto (tgt := 46) hx hb dX8_read_109 rfl ?_
                  exact ih ls _ _ q16.2 _ _ _  (lv_sub hl [2, 1, 3, 0] rfl) hR hS hf
                refine lv_if_eq (tgt := 104) hx hb dX8_read_97 rfl (fun hc => ?_) (fun hc => ?_)
                · try simp only [if_pos hc] at kM17
                  refine lv_iconst (v := 0) hx hb dX8_read_104 rfl ?_
                  exact kM17 ls _ _ (lv_sub hl [1, 0, 3] rfl) hR hS
                · try simp only [if_neg hc] at kM17
                  refine lv_iconst (v := 1) hx hb dX8_read_100 rfl ?_
                  refine lv_goto (tgt := 105) hx hb dX8_read_101 rfl ?_
                  exact kM17 ls _ _ (lv_sub hl [1, 0, 3] rfl) hR hS
          refine lv_icmp_eq (tgt := 80) hx hb dX8_read_73 rfl (fun hc => ?_) (fun hc => ?_)
          · try simp only [if_pos hc] at kM14
            refine lv_iconst (v := 0) hx hb dX8_read_80 rfl ?_
            exact kM14 ls _ _ (lv_sub hl [1, 0, 3] rfl) hR hS
          · try simp only [if_neg hc] at kM14
            refine lv_iconst (v := 1) hx hb dX8_read_76 rfl ?_
            refine lv_goto (tgt := 81) hx hb dX8_read_77 rfl ?_
            exact kM14 ls _ _ (lv_sub hl [1, 0, 3] rfl) hR hS
set_option maxRecDepth 20000 in
theorem B_X8_readP {p : Program} {l : Launch} {e : Env} {s : State} {m : MethodId} {args : Array Value} {below : List Frame} {meth : Method} {c : Code} {O : XO} {K : XK} {Q : State → Prop} {h : XH} {v1 : Int32} {r : Int32} {h' : XH} (C : x_C p s m args meth c O cX8_read 5 RX8 (some (.object "MemoryHouse$Text"))) (kx133 : r = 1 → ∀ (ls : Array Slot) (H : Heap) (locs : List Loc), lv_has ls 5 [(0, .ref (oX O + 1))] → x_R O K h' H → va_S (oA O) s.heap H locs → W p l e (x_rmX 28 626 5 434) s m args below meth c H locs 0 0 (Q) (F0 m 133 ls [])) (kx140 : r = 0 → ∀ (ls : Array Slot) (H : Heap) (locs : List Loc), lv_has ls 5 [(0, .ref (oX O + 1))] → x_R O K h' H → va_S (oA O) s.heap H locs → W p l e (x_rmX 28 626 5 434) s m args below meth c H locs 0 0 (Q) (F0 m 140 ls [])) (ls : Array Slot) (H : Heap) (locs : List Loc) (hl : lv_has ls 5 [(0, .ref (oX O + 1)), (1, .int v1)]) (hR : x_R O K h H) (hS : va_S (oA O) s.heap H locs) (hf : f_X8_readP (oX O) h v1 = some (r, h')) : W p l e (x_rmX 28 626 5 434) s m args below meth c H locs 0 0 (Q) (F0 m 0 ls []) := by
  have hx := C.1
  have hb := C.2.1
  rw [f_X8_readP] at hf
  refine lv_aload_n hx hb dX8_read_0 rfl (lv_at hl 0 rfl) ?_
  refine lv_iload_n hx hb dX8_read_1 rfl (lv_at hl 1 rfl) ?_
  obtain ⟨h1, eh1, hf⟩ := x_bd hf
  refine x_cVv1 C hR hS (S_X8_split  eh1) (x_k hR 1 rfl) (by decide) rfl mf_X8_split tw_632 (Nat.le_of_ble_eq_true rfl) (Nat.le_of_ble_eq_true rfl) hl.1 (Nat.le_of_ble_eq_true rfl) dX8_read_2 ⟨Nat.le_of_ble_eq_true rfl, Nat.le_of_ble_eq_true rfl⟩ (fun H locs hR hS => ?_)
  refine lv_aload_n hx hb dX8_read_5 rfl (lv_at hl 0 rfl) ?_
  refine lv_iconst (v := 0) hx hb dX8_read_6 rfl ?_
  obtain ⟨h2, eh2, hf⟩ := x_lt hf
  refine pf_8_1 C hR hS (x_k hR 1 rfl) tw_150 dX8_read_7 (fun H locs hR hS => ?_)
  rw [← eh2] at hR
  refine lv_aload_n hx hb dX8_read_10 rfl (lv_at hl 0 rfl) ?_
  refine lv_iconst (v := 0) hx hb dX8_read_11 rfl ?_
  obtain ⟨h3, eh3, hf⟩ := x_lt hf
  refine pf_8_9 C hR hS (x_k hR 1 rfl) tw_160 dX8_read_12 (fun H locs hR hS => ?_)
  rw [← eh3] at hR
  refine lv_aload_n hx hb dX8_read_15 rfl (lv_at hl 0 rfl) ?_
  refine lv_iconst (v := 0) hx hb dX8_read_16 rfl ?_
  obtain ⟨h4, eh4, hf⟩ := x_lt hf
  refine pf_8_10 C hR hS (x_k hR 1 rfl) tw_161 dX8_read_17 (fun H locs hR hS => ?_)
  rw [← eh4] at hR
  refine lv_aload_n hx hb dX8_read_20 rfl (lv_at hl 0 rfl) ?_
  refine lv_iconst (v := 0) hx hb dX8_read_21 rfl ?_
  obtain ⟨h5, eh5, hf⟩ := x_lt hf
  refine pf_8_11 C hR hS (x_k hR 1 rfl) tw_162 dX8_read_22 (fun H locs hR hS => ?_)
  rw [← eh5] at hR
  refine lv_iconst (v := 1) hx hb dX8_read_25 rfl ?_
  refine lv_istore_n (lv' := [(2, _), (0, _), (1, _)]) hx hb dX8_read_26 rfl hl (Nat.le_of_ble_eq_true rfl) rfl (fun ls hl => ?_)
  refine lv_aload_n hx hb dX8_read_27 rfl (lv_at hl 1 rfl) ?_
  obtain ⟨v_6, ev_6, hf⟩ := x_bd hf
  refine x_cVi0 C hR hS (S_X8_here  ev_6) (x_k hR 1 rfl) (by decide) rfl mf_X8_here tw_711 (Nat.le_of_ble_eq_true rfl) (Nat.le_of_ble_eq_true rfl) hl.1 (Nat.le_of_ble_eq_true rfl) dX8_read_28 ⟨Nat.le_of_ble_eq_true rfl, Nat.le_of_ble_eq_true rfl⟩ (fun H locs hR hS => ?_)
  refine lv_sipush (v := 1099) hx hb dX8_read_31 rfl ?_
  have kM7 : ∀ (ls : Array Slot) (H : Heap) (locs : List Loc), lv_has ls 5 [(0, .ref (oX O + 1)), (2, .int 1)] → x_R O K h5 H → va_S (oA O) s.heap H locs → W p l e (x_rmX 28 626 5 434) s m args below meth c H locs 0 0 (Q) (F0 m 42 ls [.int (if v_6 = 1099 then 0 else 1)]) := by
    intro ls H locs hl hR hS
    obtain ⟨t8, et8, hf⟩ := x_lt hf
    refine x_nmi et8 ?_
    refine lv_istore_n (lv' := [(3, _), (0, _), (2, _)]) hx hb dX8_read_42 rfl hl (Nat.le_of_ble_eq_true rfl) rfl (fun ls hl => ?_)
    refine lv_iconst (v := 0) hx hb dX8_read_43 rfl ?_
    refine lv_istore (lv' := [(4, _), (3, _), (0, _), (2, _)]) hx hb dX8_read_44 hl (Nat.le_of_ble_eq_true rfl) rfl (fun ls hl => ?_)
    exact B_X8_read_46  C  kx133 kx140 x_FU ls _ _ h5 _ _ _  (lv_sub hl [2, 3, 1, 0] rfl) hR hS hf
  refine lv_icmp_eq (tgt := 41) hx hb dX8_read_34 rfl (fun hc => ?_) (fun hc => ?_)
  · try simp only [if_pos hc] at kM7
    refine lv_iconst (v := 0) hx hb dX8_read_41 rfl ?_
    exact kM7 ls _ _ (lv_sub hl [1, 0] rfl) hR hS
  · try simp only [if_neg hc] at kM7
    refine lv_iconst (v := 1) hx hb dX8_read_37 rfl ?_
    refine lv_goto (tgt := 42) hx hb dX8_read_38 rfl ?_
    exact kM7 ls _ _ (lv_sub hl [1, 0] rfl) hR hS
def f_X8_read (K : XK) (x n : Nat) (h : XH) (v1 : Int32) : Option (Option Nat × XK × XH) := Option.bind (f_X8_readP x h v1) (fun q => if q.1 = 1 then some (none, K, q.2) else if x_b (q.2.1 (x + 1) 10) 11 = true then if x_b (q.2.1 (x + 1) 11) 401 = true then some (some n, x_kl K n [(11, 0), (14, (q.2.1 (x + 1) 10).toNatClampNeg), (14, (q.2.1 (x + 1) 10).toNatClampNeg), (14, (q.2.1 (x + 1) 10).toNatClampNeg), (14, (q.2.1 (x + 1) 11).toNatClampNeg)], x_cf (x_cf (x_cf (x_cf q.2 (n + 1) (x + 5) (q.2.1 (x + 1) 10).toNatClampNeg) (n + 2) (x + 6) (q.2.1 (x + 1) 10).toNatClampNeg) (n + 3) (x + 7) (q.2.1 (x + 1) 10).toNatClampNeg) (n + 4) (x + 8) (q.2.1 (x + 1) 11).toNatClampNeg) else none else none)
theorem x_b_nI {i : Int32} {n : Nat} (h : x_b i n = true) : i = nI i.toNatClampNeg ∧ i.toNatClampNeg < n := by
  have h1 : ¬ (i < 0 ∨ n ≤ i.toNatClampNeg) := by simpa [x_b] using h
  obtain ⟨j, hj, e⟩ := nI_of (fun q => h1 (Or.inl q))
  refine ⟨?_, Nat.not_le.mp fun q => h1 (Or.inr q)⟩
  rw [e, nI_clamp hj]
set_option maxRecDepth 20000 in
theorem S_X8_read {l : Launch} {O : XO} {K K' : XK} {h h' : XH} {n : Nat} {v1 : Int32} {r : Option Nat} (hA : ∀ q, oX O ≤ q → oA O q) (hf : f_X8_read K (oX O) n h v1 = some (r, K', h')) :
    Met l yX8_read (.code yX8_read cX8_read 5 (some (.object RX10)) :: TB) (x_rmX 28 626 5 434) (x_PN O K h n [.ref (oX O + 1), .int v1]) (x_Qc O K' h' (some (va_rf r))) 5 434 (oA O) := by
  obtain ⟨⟨q1, q2⟩, e1, hf⟩ := x_bd hf
  refine x_enterN (by decide) (Nat.le_of_ble_eq_true rfl) (fun p e s m args below meth c C hR hz ls hl => ?_)
  have hS : va_S (oA O) s.heap s.heap [] := va_S.rf
  have hx := C.1
  have hb := C.2.1
  have hl : lv_has ls 5 [(0, .ref (oX O + 1)), (1, .int v1)] := hl
  refine B_X8_readP (r := q1) (h' := q2) C (fun hr ls H locs hl hR hS => ?_) (fun hr ls H locs hl hR hS => ?_) ls _ _ hl hR hS e1
  rotate_left
  · rw [if_neg (by show ¬ q1 = 1; rw [hr]; decide)] at hf
    obtain ⟨g1, hf⟩ := x_gd hf
    obtain ⟨g2, hf⟩ := x_gd hf
    cases hf
    obtain ⟨eli, hli⟩ := x_b_nI g1
    obtain ⟨ewr, hwr⟩ := x_b_nI g2
    dsimp only at eli hli ewr hwr ⊢
    generalize (q2.1 (oX O + 1) 10).toNatClampNeg = li at eli hli ⊢
    generalize (q2.1 (oX O + 1) 11).toNatClampNeg = wr at ewr hwr ⊢
    refine x_sz fun hle => ?_
    have hz1 : H.size = n := by have := hS.1; omega
    have htop := hR.top
    rw [hz1] at htop
    have hT := hR.T
    have hQ := hR.toQ (fun _ => []) hA (by omega)
    rw [hz1] at hQ
    have hfr : ∀ b, n ≤ b → (K b).1 = 0 := fun b hb => hQ.fresh hb
    have k1 := x_k hR 1 rfl
    have k5 := x_k hR 5 rfl
    have k6 := x_k hR 6 rfl
    have k7 := x_k hR 7 rfl
    have k8 := x_k hR 8 rfl
    refine r_new C hQ hS (ci := 10) rfl inT_10 tyX10 tyX10_ok tw_743 tw_744 tw_122 (fs := [.null, .null, .null, .null]) (by decide) (Nat.le_of_ble_eq_true rfl) (Nat.le_of_ble_eq_true rfl) dX8_read_140 (fun H hQ hS => ?_)
    rw [x_kl_one] at hQ
    refine lv_dup hx hb dX8_read_143 rfl ?_
    refine lv_aload_n hx hb dX8_read_144 rfl (lv_at hl 0 rfl) ?_
    refine r_gold C hQ (a := oX O + 1) (ci := 8) (by rw [x_kl_lt (by omega), k1]) (by decide) rfl inT_8 4 (by decide) tw_154 (v := .ref (oX O + 1 + 4)) rfl dX8_read_145 ?_
    refine lv_aload_n hx hb dX8_read_148 rfl (lv_at hl 0 rfl) ?_
    refine r_gold C hQ (a := oX O + 1) (ci := 8) (by rw [x_kl_lt (by omega), k1]) (by decide) rfl inT_8 10 (by decide) tw_161 (v := .int (nI li)) (by show some (Value.int (q2.1 (oX O + 1) 10)) = _; rw [eli]) dX8_read_149 ?_
    refine r_callS C hQ hS (S_J7_copyOf (a := oX O + 5) (N := li) (by rw [x_kl_lt (by omega), k5]) (by rw [x_kl_lt (by omega), k5]; show li ≤ 10; omega) (by rw [x_kl_lt (by omega), k5]; decide)) mf_J7_copyOf_59c91 tw_745 (Nat.le_of_ble_eq_true rfl) (Nat.le_of_ble_eq_true rfl) rfl hl.1 (Nat.le_of_ble_eq_true rfl) dX8_read_152 ⟨by show 0 + 1 + 1 ≤ 5; omega, by show 0 + 4 + li ≤ 434; omega⟩ rfl (fun H locs hQ hS => ?_)
    rw [x_kl_snoc (m := 1) rfl] at hQ
    have hQ : x_Q2 O (x_kl K n [(30, 0), (14, li)]) (x_fu (fun _ => []) n [.null, .null, .null, .null]) (x_cf q2 (n + 1) (oX O + 5) li) H (n + 2) := hQ
    refine lv_aload_n hx hb dX8_read_155 rfl (lv_at hl 0 rfl) ?_
    refine r_gold C hQ (a := oX O + 1) (ci := 8) (by rw [x_kl_lt (by omega), k1]) (by decide) rfl inT_8 5 (by decide) tw_155 (v := .ref (oX O + 1 + 5)) rfl dX8_read_156 ?_
    refine lv_aload_n hx hb dX8_read_159 rfl (lv_at hl 0 rfl) ?_
    refine r_gold C hQ (a := oX O + 1) (ci := 8) (by rw [x_kl_lt (by omega), k1]) (by decide) rfl inT_8 10 (by decide) tw_161 (v := .int (nI li)) (by show some (Value.int ((x_cf q2 (n + 1) (oX O + 5) li).1 (oX O + 1) 10)) = _; rw [(x_cf_ne (by omega)).1, eli]) dX8_read_160 ?_
    refine r_callS C hQ hS (S_J7_copyOf (a := oX O + 6) (N := li) (by rw [x_kl_lt (by omega), k6]) (by rw [x_kl_lt (by omega), k6]; show li ≤ 10; omega) (by rw [x_kl_lt (by omega), k6]; decide)) mf_J7_copyOf_59c91 tw_745 (Nat.le_of_ble_eq_true rfl) (Nat.le_of_ble_eq_true rfl) rfl hl.1 (Nat.le_of_ble_eq_true rfl) dX8_read_163 ⟨by show 0 + 1 + 1 + 1 ≤ 5; omega, by show 0 + 4 + li + li ≤ 434; omega⟩ rfl (fun H locs hQ hS => ?_)
    rw [x_kl_snoc (m := 2) rfl] at hQ
    have hQ : x_Q2 O (x_kl K n [(30, 0), (14, li), (14, li)]) (x_fu (fun _ => []) n [.null, .null, .null, .null]) (x_cf (x_cf q2 (n + 1) (oX O + 5) li) (n + 2) (oX O + 6) li) H (n + 3) := hQ
    refine lv_aload_n hx hb dX8_read_166 rfl (lv_at hl 0 rfl) ?_
    refine r_gold C hQ (a := oX O + 1) (ci := 8) (by rw [x_kl_lt (by omega), k1]) (by decide) rfl inT_8 6 (by decide) tw_156 (v := .ref (oX O + 1 + 6)) rfl dX8_read_167 ?_
    refine lv_aload_n hx hb dX8_read_170 rfl (lv_at hl 0 rfl) ?_
    refine r_gold C hQ (a := oX O + 1) (ci := 8) (by rw [x_kl_lt (by omega), k1]) (by decide) rfl inT_8 10 (by decide) tw_161 (v := .int (nI li)) (by show some (Value.int ((x_cf (x_cf q2 (n + 1) (oX O + 5) li) (n + 2) (oX O + 6) li).1 (oX O + 1) 10)) = _; rw [(x_cf_ne (by omega)).1, (x_cf_ne (by omega)).1, eli]) dX8_read_171 ?_
    refine r_callS C hQ hS (S_J7_copyOf (a := oX O + 7) (N := li) (by rw [x_kl_lt (by omega), k7]) (by rw [x_kl_lt (by omega), k7]; show li ≤ 10; omega) (by rw [x_kl_lt (by omega), k7]; decide)) mf_J7_copyOf_59c91 tw_745 (Nat.le_of_ble_eq_true rfl) (Nat.le_of_ble_eq_true rfl) rfl hl.1 (Nat.le_of_ble_eq_true rfl) dX8_read_174 ⟨by show 0 + 1 + 1 + 1 + 1 ≤ 5; omega, by show 0 + 4 + li + li + li ≤ 434; omega⟩ rfl (fun H locs hQ hS => ?_)
    rw [x_kl_snoc (m := 3) rfl] at hQ
    have hQ : x_Q2 O (x_kl K n [(30, 0), (14, li), (14, li), (14, li)]) (x_fu (fun _ => []) n [.null, .null, .null, .null]) (x_cf (x_cf (x_cf q2 (n + 1) (oX O + 5) li) (n + 2) (oX O + 6) li) (n + 3) (oX O + 7) li) H (n + 4) := hQ
    refine lv_aload_n hx hb dX8_read_177 rfl (lv_at hl 0 rfl) ?_
    refine r_gold C hQ (a := oX O + 1) (ci := 8) (by rw [x_kl_lt (by omega), k1]) (by decide) rfl inT_8 7 (by decide) tw_157 (v := .ref (oX O + 1 + 7)) rfl dX8_read_178 ?_
    refine lv_aload_n hx hb dX8_read_181 rfl (lv_at hl 0 rfl) ?_
    refine r_gold C hQ (a := oX O + 1) (ci := 8) (by rw [x_kl_lt (by omega), k1]) (by decide) rfl inT_8 11 (by decide) tw_162 (v := .int (nI wr)) (by show some (Value.int ((x_cf (x_cf (x_cf q2 (n + 1) (oX O + 5) li) (n + 2) (oX O + 6) li) (n + 3) (oX O + 7) li).1 (oX O + 1) 11)) = _; rw [(x_cf_ne (by omega)).1, (x_cf_ne (by omega)).1, (x_cf_ne (by omega)).1, ewr]) dX8_read_182 ?_
    refine r_callS C hQ hS (S_J7_copyOf (a := oX O + 8) (N := wr) (by rw [x_kl_lt (by omega), k8]) (by rw [x_kl_lt (by omega), k8]; show wr ≤ 400; omega) (by rw [x_kl_lt (by omega), k8]; decide)) mf_J7_copyOf_59c91 tw_745 (Nat.le_of_ble_eq_true rfl) (Nat.le_of_ble_eq_true rfl) rfl hl.1 (Nat.le_of_ble_eq_true rfl) dX8_read_185 ⟨by show 0 + 1 + 1 + 1 + 1 + 1 ≤ 5; omega, by show 0 + 4 + li + li + li + wr ≤ 434; omega⟩ rfl (fun H locs hQ hS => ?_)
    rw [x_kl_snoc (m := 4) rfl] at hQ
    have hQ : x_Q2 O (x_kl K n [(30, 0), (14, li), (14, li), (14, li), (14, wr)]) (x_fu (fun _ => []) n [.null, .null, .null, .null]) (x_cf (x_cf (x_cf (x_cf q2 (n + 1) (oX O + 5) li) (n + 2) (oX O + 6) li) (n + 3) (oX O + 7) li) (n + 4) (oX O + 8) wr) H (n + 5) := hQ
    refine r_init C hQ hS (S_X10_init (a := n) (n := n + 5)) mk_10 (host := "MemoryHouse") (As := [.ref (n + 1), .ref (n + 2), .ref (n + 3), .ref (n + 4)]) (Or.inl tw_759) (Nat.le_of_ble_eq_true rfl) (Nat.le_of_ble_eq_true rfl) rfl hl.1 (Nat.le_of_ble_eq_true rfl) dX8_read_188 ⟨by show 0 + 1 + 1 + 1 + 1 + 1 + 0 ≤ 5; omega, by show 0 + 4 + li + li + li + wr + 0 ≤ 434; omega⟩ rfl (fun H locs hQ hS => ?_)
    have hR2 := hQ.toR (hT.grow hfr htop (h' := x_cf (x_cf (x_cf (x_cf q2 (n + 1) (oX O + 5) li) (n + 2) (oX O + 6) li) (n + 3) (oX O + 7) li) (n + 4) (oX O + 8) wr) (fun b h1 h2 => by rw [(x_cf_ne (by omega)).2.2, (x_cf_ne (by omega)).2.2, (x_cf_ne (by omega)).2.2, (x_cf_ne (by omega)).2.2]) (fun r hr => ?_) ?_ ?_ ?_ ?_ ?_ ?_)
    · exact x_aret C rfl (Or.inl ⟨_, rfl⟩) (r := some n) hR2 hS (by show 0 + 1 + 1 + 1 + 1 + 1 + 0 ≤ 5; omega) (by show 0 + 4 + li + li + li + wr + 0 ≤ 434; omega) dX8_read_191
    · rw [(x_cf_ne (by omega)).2.2, (x_cf_ne (by omega)).2.2, (x_cf_ne (by omega)).2.2, (x_cf_ne (by omega)).2.2] at hr
      have h8 := hT.2.2.2.2.2.2.1 r hr
      rw [x_kl_lt, h8]
      by_cases e9 : r < n
      · exact e9
      · have := hfr r (by omega)
        rw [h8] at this
        cases this
    all_goals
      intro j hj
      have hj : j < 5 := hj
      rcases (show j = 0 ∨ j = 1 ∨ j = 2 ∨ j = 3 ∨ j = 4 by omega) with rfl | rfl | rfl | rfl | rfl <;> simp
  · rw [if_pos hr] at hf
    cases hf
    refine lv_null hx hb dX8_read_133 ?_
    exact x_aret C rfl (Or.inl ⟨_, rfl⟩) (r := none) hR hS (Nat.zero_le _) (Nat.zero_le _) dX8_read_134
theorem x_read_text {K K' : XK} {x n : Nat} {h h' : XH} {v1 : Int32} {r : Option Nat} (hf : f_X8_read K x n h v1 = some (r, K', h')) : ∀ t, r = some t → K' t = (11, 0) := by
  obtain ⟨⟨q1, q2⟩, -, hf⟩ := x_bd hf
  intro t ht
  by_cases e : q1 = 1
  · rw [if_pos e] at hf
    cases hf
    cases ht
  · rw [if_neg e] at hf
    obtain ⟨-, hf⟩ := x_gd hf
    obtain ⟨-, hf⟩ := x_gd hf
    cases hf
    cases ht
    exact x_kl_at
def f_X11_law_9 (x : Nat) (h : XH) (v1 : Option Nat) : Option ((Nat ⊕ Int32) × XH) := x_opt v1 (some (.inl 1, h)) (fun r1 => if (h.1 (x + 9) 8) < 3 then if x_b (h.1 (x + 9) 8) 3 = true then x_let (x_r h (x + 14) (h.1 (x + 9) 8).toNatClampNeg (some r1)) (fun h3 => x_let (x_i h3 (x + 9) 8 ((h3.1 (x + 9) 8) + 1)) (fun h4 => some (.inr ((h4.1 (x + 9) 8) - 1), h4))) else none else some (.inl 3, h))
set_option maxRecDepth 20000 in
theorem B_X11_law_9 {p : Program} {l : Launch} {e : Env} {s : State} {m : MethodId} {args : Array Value} {below : List Frame} {meth : Method} {c : Code} {O : XO} {K : XK} {r : Nat ⊕ Int32} {h' : XH}   (C : x_C p s m args meth c O cX11_law 2 RX11 (some .int))   (hst : l.stackTraces = false) (ls : Array Slot) (H : Heap) (locs : List Loc) (h : XH) (v1 : Option Nat) (kv1 : ∀ r, v1 = some r → K r = (11, 0)) (hl : lv_has ls 2 [(0, .ref (oX O)), (1, va_rf v1)]) (hR : x_R O K h H) (hS : va_S (oA O) s.heap H locs) (hf : f_X11_law_9 (oX O) h v1 = some (r, h')) : W p l e (x_rmX 29 650 6 440) s m args below meth c H locs 5 434 (vx_MQ below (x_XQ O K h' (x_rv x_gi r)) (x_XX O K h' (x_rv x_gi r)) args s 6 440 (oA O)) (F0 m 9 ls []) := by
  have hx := C.1
  have hb := C.2.1
  rw [f_X11_law_9] at hf
  refine x_aloadq_n hx hb dX11_law_9 rfl (lv_at hl 1 rfl) ?_
  cases v1 with
  | none =>
    have hf := x_on hf
    refine lv_ifnonnullN hx hb dX11_law_10 ?_
    cases hf
    exact x_thr tf_1 C hR hS hst hl.1 (xs_5 C) dX11_law_13 dX11_law_16 dX11_law_17 dX11_law_19 dX11_law_22 (Nat.le_of_ble_eq_true rfl) (by decide) (Nat.le_of_ble_eq_true rfl) (Nat.le_of_ble_eq_true rfl) (Nat.le_of_ble_eq_true rfl) (Nat.le_of_ble_eq_true rfl)
  | some r1 =>
    have hf := x_os hf
    refine lv_ifnonnull (tgt := 23) hx hb dX11_law_10 rfl ?_
    refine lv_aload_n hx hb dX11_law_23 rfl (lv_at hl 0 rfl) ?_
    refine gf_11_1 C hR (x_k hR 0 rfl) tw_496 dX11_law_24 ?_
    refine gf_7_8 C hR (x_k hR 9 rfl) tw_314 dX11_law_27 ?_
    refine lv_iconst (v := 3) hx hb dX11_law_30 rfl ?_
    refine lv_icmp_lt (tgt := 44) hx hb dX11_law_31 rfl (fun hc => ?_) (fun hc => ?_)
    · have hf := x_ip hc hf
      refine lv_aload_n hx hb dX11_law_44 rfl (lv_at hl 0 rfl) ?_
      refine gf_11_1 C hR (x_k hR 0 rfl) tw_496 dX11_law_45 ?_
      refine gf_7_9 C hR (x_k hR 9 rfl) tw_316 dX11_law_48 ?_
      refine lv_aload_n hx hb dX11_law_51 rfl (lv_at hl 0 rfl) ?_
      refine gf_11_1 C hR (x_k hR 0 rfl) tw_496 dX11_law_52 ?_
      refine gf_7_8 C hR (x_k hR 9 rfl) tw_314 dX11_law_55 ?_
      refine lv_aload_n hx hb dX11_law_58 rfl (lv_at hl 1 rfl) ?_
      obtain ⟨g2, hf⟩ := x_gd hf
      obtain ⟨h3, eh3, hf⟩ := x_lt hf
      refine x_tast C hR hS (x_k1 (x_k hR 14 rfl)) (v := some r1) (x_so (kv1 r1 rfl)) (x_k2 (x_k hR 14 rfl) g2) dX11_law_59 (fun H locs hR hS => ?_)
      rw [← eh3] at hR
      refine lv_aload_n hx hb dX11_law_60 rfl (lv_at hl 0 rfl) ?_
      refine gf_11_1 C hR (x_k hR 0 rfl) tw_496 dX11_law_61 ?_
      refine lv_dup hx hb dX11_law_64 rfl ?_
      refine gf_7_8 C hR (x_k hR 9 rfl) tw_314 dX11_law_65 ?_
      refine lv_iconst (v := 1) hx hb dX11_law_68 rfl ?_
      refine lv_iadd hx hb dX11_law_69 ?_
      obtain ⟨h4, eh4, hf⟩ := x_lt hf
      refine pf_7_8 C hR hS (x_k hR 9 rfl) tw_314 dX11_law_70 (fun H locs hR hS => ?_)
      rw [← eh4] at hR
      refine lv_aload_n hx hb dX11_law_73 rfl (lv_at hl 0 rfl) ?_
      refine gf_11_1 C hR (x_k hR 0 rfl) tw_496 dX11_law_74 ?_
      refine gf_7_8 C hR (x_k hR 9 rfl) tw_314 dX11_law_77 ?_
      refine lv_iconst (v := 1) hx hb dX11_law_80 rfl ?_
      refine lv_isub hx hb dX11_law_81 ?_
      cases hf
      exact xx_iret C hR hS (Nat.le_of_ble_eq_true rfl) (Nat.le_of_ble_eq_true rfl) dX11_law_82
    · have hf := x_in hc hf
      cases hf
      exact x_thr tf_3 C hR hS hst hl.1 (xs_6 C) dX11_law_34 dX11_law_37 dX11_law_38 dX11_law_40 dX11_law_43 (Nat.le_of_ble_eq_true rfl) (by decide) (Nat.le_of_ble_eq_true rfl) (Nat.le_of_ble_eq_true rfl) (Nat.le_of_ble_eq_true rfl) (Nat.le_of_ble_eq_true rfl)
def f_X11_law (K : XK) (x n : Nat) (h : XH) : Option ((Nat ⊕ Int32) × XK × XH) := Option.bind (f_X8_read K x n h 1) (fun q => Option.bind (f_X11_law_9 x q.2.2 q.1) (fun z => some (z.1, q.2.1, z.2)))
set_option maxRecDepth 20000 in
theorem S_X11_law {l : Launch} {O : XO} {K K' : XK} {h h' : XH} {n : Nat} {r : Nat ⊕ Int32} (hA : ∀ q, oX O ≤ q → oA O q) (hst : l.stackTraces = false) (hf : f_X11_law K (oX O) n h = some (r, K', h')) : vx_Met l yX11_law (.code yX11_law cX11_law 2 (some .int) :: TB) (x_rmX 29 650 6 440) (x_PN O K h n [.ref (oX O)]) (x_XQ O K' h' (x_rv x_gi r)) (x_XX O K' h' (x_rv x_gi r)) 6 440 (oA O) := by
  obtain ⟨⟨q1, K1, h1⟩, e1, hf⟩ := x_bd hf
  obtain ⟨⟨z1, z2⟩, e2, hf⟩ := x_bd hf
  cases hf
  refine x_enterNX (by decide) (Nat.le_of_ble_eq_true rfl) (fun p e s m args below meth c C hR hz ls hl => ?_)
  have hS : va_S (oA O) s.heap s.heap [] := va_S.rf
  have hx := C.1
  have hb := C.2.1
  have hl : lv_has ls 2 [(0, .ref (oX O))] := hl
  refine lv_aload_n hx hb dX11_law_0 rfl (lv_at hl 0 rfl) ?_
  refine gf_11_0 C hR (x_k hR 0 rfl) tw_495 dX11_law_1 ?_
  refine lv_iconst (v := 1) hx hb dX11_law_4 rfl ?_
  refine x_callN C hR hS hz (S_X8_read (r := q1) (K' := K1) (h' := h1) hA e1) (ci := 8) (x_k1 (x_k hR 1 rfl)) (by decide) rfl mf_X8_read tw_628 (Nat.le_of_ble_eq_true rfl) (Nat.le_of_ble_eq_true rfl) (As := [.int 1]) rfl hl.1 (Nat.le_of_ble_eq_true rfl) dX11_law_5 ⟨Nat.le_of_ble_eq_true rfl, Nat.le_of_ble_eq_true rfl⟩ rfl (fun H locs hR hS => ?_)
  have kv1 : ∀ r, q1 = some r → K1 r = (11, 0) := fun r hr => x_read_text e1 r hr
  cases q1 with
  | none =>
    refine lv_astore_nN (lv' := [(1, .null), (0, .ref (oX O))]) hx hb dX11_law_8 rfl hl (Nat.le_of_ble_eq_true rfl) rfl (fun ls hl => ?_)
    exact B_X11_law_9 C hst ls _ _ h1 none kv1 (lv_sub hl [1, 0] rfl) hR hS e2
  | some t9 =>
    refine lv_astore_n (lv' := [(1, .ref t9), (0, .ref (oX O))]) hx hb dX11_law_8 rfl hl (Nat.le_of_ble_eq_true rfl) rfl (fun ls hl => ?_)
    exact B_X11_law_9 C hst ls _ _ h1 (some t9) kv1 (lv_sub hl [1, 0] rfl) hR hS e2
def f_X11_rule_9 (x : Nat) (h : XH) (v1 : Option Nat) : Option ((Nat ⊕ Int32) × XH) := x_opt v1 (some (.inl 1, h)) (fun r1 => if (h.1 (x + 9) 10) < 3 then if x_b (h.1 (x + 9) 10) 3 = true then x_let (x_r h (x + 15) (h.1 (x + 9) 10).toNatClampNeg (some r1)) (fun h3 => x_let (x_i h3 (x + 9) 10 ((h3.1 (x + 9) 10) + 1)) (fun h4 => some (.inr ((h4.1 (x + 9) 10) - 1), h4))) else none else some (.inl 3, h))
set_option maxRecDepth 20000 in
theorem B_X11_rule_9 {p : Program} {l : Launch} {e : Env} {s : State} {m : MethodId} {args : Array Value} {below : List Frame} {meth : Method} {c : Code} {O : XO} {K : XK} {r : Nat ⊕ Int32} {h' : XH}   (C : x_C p s m args meth c O cX11_rule 2 RX11 (some .int))   (hst : l.stackTraces = false) (ls : Array Slot) (H : Heap) (locs : List Loc) (h : XH) (v1 : Option Nat) (kv1 : ∀ r, v1 = some r → K r = (11, 0)) (hl : lv_has ls 2 [(0, .ref (oX O)), (1, va_rf v1)]) (hR : x_R O K h H) (hS : va_S (oA O) s.heap H locs) (hf : f_X11_rule_9 (oX O) h v1 = some (r, h')) : W p l e (x_rmX 29 650 6 440) s m args below meth c H locs 5 434 (vx_MQ below (x_XQ O K h' (x_rv x_gi r)) (x_XX O K h' (x_rv x_gi r)) args s 6 440 (oA O)) (F0 m 9 ls []) := by
  have hx := C.1
  have hb := C.2.1
  rw [f_X11_rule_9] at hf
  refine x_aloadq_n hx hb dX11_rule_9 rfl (lv_at hl 1 rfl) ?_
  cases v1 with
  | none =>
    have hf := x_on hf
    refine lv_ifnonnullN hx hb dX11_rule_10 ?_
    cases hf
    exact x_thr tf_1 C hR hS hst hl.1 (xs_7 C) dX11_rule_13 dX11_rule_16 dX11_rule_17 dX11_rule_19 dX11_rule_22 (Nat.le_of_ble_eq_true rfl) (by decide) (Nat.le_of_ble_eq_true rfl) (Nat.le_of_ble_eq_true rfl) (Nat.le_of_ble_eq_true rfl) (Nat.le_of_ble_eq_true rfl)
  | some r1 =>
    have hf := x_os hf
    refine lv_ifnonnull (tgt := 23) hx hb dX11_rule_10 rfl ?_
    refine lv_aload_n hx hb dX11_rule_23 rfl (lv_at hl 0 rfl) ?_
    refine gf_11_1 C hR (x_k hR 0 rfl) tw_496 dX11_rule_24 ?_
    refine gf_7_10 C hR (x_k hR 9 rfl) tw_318 dX11_rule_27 ?_
    refine lv_iconst (v := 3) hx hb dX11_rule_30 rfl ?_
    refine lv_icmp_lt (tgt := 44) hx hb dX11_rule_31 rfl (fun hc => ?_) (fun hc => ?_)
    · have hf := x_ip hc hf
      refine lv_aload_n hx hb dX11_rule_44 rfl (lv_at hl 0 rfl) ?_
      refine gf_11_1 C hR (x_k hR 0 rfl) tw_496 dX11_rule_45 ?_
      refine gf_7_11 C hR (x_k hR 9 rfl) tw_320 dX11_rule_48 ?_
      refine lv_aload_n hx hb dX11_rule_51 rfl (lv_at hl 0 rfl) ?_
      refine gf_11_1 C hR (x_k hR 0 rfl) tw_496 dX11_rule_52 ?_
      refine gf_7_10 C hR (x_k hR 9 rfl) tw_318 dX11_rule_55 ?_
      refine lv_aload_n hx hb dX11_rule_58 rfl (lv_at hl 1 rfl) ?_
      obtain ⟨g2, hf⟩ := x_gd hf
      obtain ⟨h3, eh3, hf⟩ := x_lt hf
      refine x_tast C hR hS (x_k1 (x_k hR 15 rfl)) (v := some r1) (x_so (kv1 r1 rfl)) (x_k2 (x_k hR 15 rfl) g2) dX11_rule_59 (fun H locs hR hS => ?_)
      rw [← eh3] at hR
      refine lv_aload_n hx hb dX11_rule_60 rfl (lv_at hl 0 rfl) ?_
      refine gf_11_1 C hR (x_k hR 0 rfl) tw_496 dX11_rule_61 ?_
      refine lv_dup hx hb dX11_rule_64 rfl ?_
      refine gf_7_10 C hR (x_k hR 9 rfl) tw_318 dX11_rule_65 ?_
      refine lv_iconst (v := 1) hx hb dX11_rule_68 rfl ?_
      refine lv_iadd hx hb dX11_rule_69 ?_
      obtain ⟨h4, eh4, hf⟩ := x_lt hf
      refine pf_7_10 C hR hS (x_k hR 9 rfl) tw_318 dX11_rule_70 (fun H locs hR hS => ?_)
      rw [← eh4] at hR
      refine lv_aload_n hx hb dX11_rule_73 rfl (lv_at hl 0 rfl) ?_
      refine gf_11_1 C hR (x_k hR 0 rfl) tw_496 dX11_rule_74 ?_
      refine gf_7_10 C hR (x_k hR 9 rfl) tw_318 dX11_rule_77 ?_
      refine lv_iconst (v := 1) hx hb dX11_rule_80 rfl ?_
      refine lv_isub hx hb dX11_rule_81 ?_
      cases hf
      exact xx_iret C hR hS (Nat.le_of_ble_eq_true rfl) (Nat.le_of_ble_eq_true rfl) dX11_rule_82
    · have hf := x_in hc hf
      cases hf
      exact x_thr tf_3 C hR hS hst hl.1 (xs_8 C) dX11_rule_34 dX11_rule_37 dX11_rule_38 dX11_rule_40 dX11_rule_43 (Nat.le_of_ble_eq_true rfl) (by decide) (Nat.le_of_ble_eq_true rfl) (Nat.le_of_ble_eq_true rfl) (Nat.le_of_ble_eq_true rfl) (Nat.le_of_ble_eq_true rfl)
def f_X11_rule (K : XK) (x n : Nat) (h : XH) : Option ((Nat ⊕ Int32) × XK × XH) := Option.bind (f_X8_read K x n h 0) (fun q => Option.bind (f_X11_rule_9 x q.2.2 q.1) (fun z => some (z.1, q.2.1, z.2)))
set_option maxRecDepth 20000 in
theorem S_X11_rule {l : Launch} {O : XO} {K K' : XK} {h h' : XH} {n : Nat} {r : Nat ⊕ Int32} (hA : ∀ q, oX O ≤ q → oA O q) (hst : l.stackTraces = false) (hf : f_X11_rule K (oX O) n h = some (r, K', h')) : vx_Met l yX11_rule (.code yX11_rule cX11_rule 2 (some .int) :: TB) (x_rmX 29 650 6 440) (x_PN O K h n [.ref (oX O)]) (x_XQ O K' h' (x_rv x_gi r)) (x_XX O K' h' (x_rv x_gi r)) 6 440 (oA O) := by
  obtain ⟨⟨q1, K1, h1⟩, e1, hf⟩ := x_bd hf
  obtain ⟨⟨z1, z2⟩, e2, hf⟩ := x_bd hf
  cases hf
  refine x_enterNX (by decide) (Nat.le_of_ble_eq_true rfl) (fun p e s m args below meth c C hR hz ls hl => ?_)
  have hS : va_S (oA O) s.heap s.heap [] := va_S.rf
  have hx := C.1
  have hb := C.2.1
  have hl : lv_has ls 2 [(0, .ref (oX O))] := hl
  refine lv_aload_n hx hb dX11_rule_0 rfl (lv_at hl 0 rfl) ?_
  refine gf_11_0 C hR (x_k hR 0 rfl) tw_495 dX11_rule_1 ?_
  refine lv_iconst (v := 0) hx hb dX11_rule_4 rfl ?_
  refine x_callN C hR hS hz (S_X8_read (r := q1) (K' := K1) (h' := h1) hA e1) (ci := 8) (x_k1 (x_k hR 1 rfl)) (by decide) rfl mf_X8_read tw_628 (Nat.le_of_ble_eq_true rfl) (Nat.le_of_ble_eq_true rfl) (As := [.int 0]) rfl hl.1 (Nat.le_of_ble_eq_true rfl) dX11_rule_5 ⟨Nat.le_of_ble_eq_true rfl, Nat.le_of_ble_eq_true rfl⟩ rfl (fun H locs hR hS => ?_)
  have kv1 : ∀ r, q1 = some r → K1 r = (11, 0) := fun r hr => x_read_text e1 r hr
  cases q1 with
  | none =>
    refine lv_astore_nN (lv' := [(1, .null), (0, .ref (oX O))]) hx hb dX11_rule_8 rfl hl (Nat.le_of_ble_eq_true rfl) rfl (fun ls hl => ?_)
    exact B_X11_rule_9 C hst ls _ _ h1 none kv1 (lv_sub hl [1, 0] rfl) hR hS e2
  | some t9 =>
    refine lv_astore_n (lv' := [(1, .ref t9), (0, .ref (oX O))]) hx hb dX11_rule_8 rfl hl (Nat.le_of_ble_eq_true rfl) rfl (fun ls hl => ?_)
    exact B_X11_rule_9 C hst ls _ _ h1 (some t9) kv1 (lv_sub hl [1, 0] rfl) hR hS e2
def x_kSt : List (Nat × Nat) := [(8, 0), (14, 156), (14, 6), (14, 120), (16, 8), (17, 3), (17, 3), (14, 6), (14, 6), (14, 20), (3, 0), (5, 0), (14, 52), (3, 0), (5, 0), (14, 52), (3, 0), (5, 0), (14, 52), (3, 0), (5, 0), (14, 52), (3, 0), (5, 0), (14, 52), (3, 0), (5, 0), (14, 52), (3, 0), (5, 0), (14, 52), (3, 0), (5, 0), (14, 52)]
theorem x_T.kept {x n : Nat} {K : XK} {h : XH} (hT : x_T x K h) (hn : K n = (8, 0)) : x_T x K (x_r h x 8 (some n)) := by
  have hx : ∀ a, (K a).1 = 17 → a ≠ x := fun a ha e => by
    have := hT.1 0 (by decide)
    rw [Nat.add_zero, ← e] at this
    have h12 : K a = (12, 0) := Option.some.inj this
    rw [h12] at ha
    cases ha
  obtain ⟨h1, h2, h3, h4, h5, h6, h7, h8, h9⟩ := hT
  refine ⟨h1, h2, h3, h4, h5, fun a ha k r hr => h6 a ha k r ?_, fun r hr => ?_, h8, h9⟩
  · rw [x_r_ne (hx a ha)] at hr
    exact hr
  · simp [x_r] at hr
    rw [← hr]
    exact hn
theorem x_T.state {x n : Nat} {K : XK} {h : XH} (hT : x_T x K h) (hz : ∀ b, n ≤ b → (K b).1 = 0) (hn : x + 77 ≤ n) (h0 : h.2.2 x 8 = none) (g : XG) : x_T x (x_kl K n x_kSt) (x_hs h n 34 g) := by
  have hr : ∀ b, b < n → (x_hs h n 34 g).2.2 b = h.2.2 b := fun b hb => by
    funext k
    simp [x_hs, hb]
  refine hT.grow hz hn (fun b hb _ => hr b hb) (fun r hr9 => ?_) (fun j hj _ k => ?_) (fun j hj h8 => by have h0 : j = 0 := (by decide : ∀ j, j < 34 → (x_kSt.getD j (0, 0)).1 = 8 → j = 0) j hj h8; subst h0; exact ⟨rfl, rfl, rfl, rfl, rfl, rfl, rfl, rfl, rfl⟩) (by decide) ?_ (by decide) (by decide)
  · rw [hr x (by omega), h0] at hr9
    cases hr9
  · have hj : j < 34 := hj
    have h9 : ¬ (n + j < n ∨ n + 34 ≤ n + j) := by omega
    show (if n + j < n ∨ n + 34 ≤ n + j then h.2.2 (n + j) k else none) = none
    rw [if_neg h9]
  · intro j hj h11
    exact absurd h11 ((by decide : ∀ j, j < 34 → (x_kSt.getD j (0, 0)).1 ≠ 11) j hj)
def f_X11_image (K : XK) (x n : Nat) (h : XH) : Option (XK × XH) := x_opt (h.2.2 x 8) (Option.bind (f_X7_copyFrom n (x_r (x_hs h n 34 g_7) x 8 (some n)) (x + 9)) (fun h3 => some (x_kl K n x_kSt, h3))) (fun r => Option.bind (f_X7_copyFrom r h (x + 9)) (fun h3 => some (K, h3)))
set_option maxRecDepth 20000 in
theorem S_X11_image {l : Launch} {O : XO} {K K' : XK} {h h' : XH} {n : Nat} (hA : ∀ q, oX O ≤ q → oA O q) (hf : f_X11_image K (oX O) n h = some (K', h')) : Met l yX11_image (.code yX11_image cX11_image 1 none :: TB) (x_rmX 4 143 34 873) (x_PN O K h n [.ref (oX O)]) (x_Qc O K' h' none) 34 873 (oA O) := by
  refine x_enterN (by decide) (Nat.le_of_ble_eq_true rfl) (fun p e s m args below meth c C hR hz ls hl => ?_)
  have hS : va_S (oA O) s.heap s.heap [] := va_S.rf
  have hx := C.1
  have hb := C.2.1
  have hl : lv_has ls 1 [(0, .ref (oX O))] := hl
  rw [f_X11_image] at hf
  refine lv_aload_n hx hb dX11_image_0 rfl (lv_at hl 0 rfl) ?_
  refine gf_11_8 C hR (x_k hR 0 rfl) tw_503 dX11_image_1 ?_
  generalize ho : h.2.2 (oX O) 8 = o at hf ⊢
  cases o with
  | none =>
    have hf := x_on hf
    obtain ⟨h3, e3, hf⟩ := x_bd hf
    cases hf
    refine lv_ifnonnullN hx hb dX11_image_4 ?_
    refine lv_aload_n hx hb dX11_image_7 rfl (lv_at hl 0 rfl) ?_
    have htop := hR.top
    rw [hz] at htop
    have hT := hR.T
    have hQ := hR.toQ (fun _ => []) hA (by omega)
    rw [hz] at hQ
    have hfr : ∀ b, n ≤ b → (K b).1 = 0 := fun b hb => hQ.fresh hb
    refine r_new C hQ hS (ci := 7) rfl inT_7 tyX7 tyX7_ok tw_189 tw_190 tw_108 (fs := [.null, .int 0, .null, .null, .int 0, .null, .int 0, .int 0, .int 0, .null, .int 0, .null, .int 0, .null, .null, .int 0, .null]) (by decide) (Nat.le_of_ble_eq_true rfl) (Nat.le_of_ble_eq_true rfl) dX11_image_8 (fun H hQ hS => ?_)
    refine lv_dup hx hb dX11_image_11 rfl ?_
    refine r_init C hQ hS (S_X7_init (a := n)) mk_7 (host := "MemoryHouse") (As := []) (Or.inl tw_191) (Nat.le_of_ble_eq_true rfl) (Nat.le_of_ble_eq_true rfl) rfl hl.1 (Nat.le_of_ble_eq_true rfl) dX11_image_12 ⟨Nat.le_of_ble_eq_true rfl, Nat.le_of_ble_eq_true rfl⟩ rfl (fun H locs hQ hS => ?_)
    have hQ : x_Q2 O (x_kl K n x_kSt) (fun _ => []) (x_hs h n 34 g_7) H (n + 34) := hQ
    have hR := hQ.toR (hT.state hfr htop ho g_7)
    have kn : x_kl K n x_kSt n = (8, 0) := x_kl_at
    refine x_put C hR hS (ci := 11) (x_k1 (x_k hR 0 rfl)) (by decide) rfl inT_11 tyX11 tyX11_ok nmX11 8 (by decide) tw_503 rfl rfl rfl (h' := x_r (x_hs h n 34 g_7) (oX O) 8 (some n)) (Nat.le_of_ble_eq_true rfl) (by simp [x_fs, x_r, va_rf]) (fun _ _ => rfl) (fun _ _ => rfl) (fun _ hb => x_r_ne hb) (fun hT => hT.kept kn) dX11_image_15 (fun H locs hR hS => ?_)
    refine lv_aload_n hx hb dX11_image_18 rfl (lv_at hl 0 rfl) ?_
    refine gf_11_8 C hR (x_k hR 0 rfl) tw_503 dX11_image_19 ?_
    have e8 : (x_r (x_hs h n 34 g_7) (oX O) 8 (some n)).2.2 (oX O) 8 = some n := by simp [x_r]
    rw [e8]
    refine lv_aload_n hx hb dX11_image_22 rfl (lv_at hl 0 rfl) ?_
    refine gf_11_1 C hR (x_k hR 0 rfl) tw_496 dX11_image_23 ?_
    refine x_cVv1 C hR hS (S_X7_copyFrom kn (x_k hR 9 rfl) e3) kn (by decide) rfl mf_X7_copyFrom tw_582 (Nat.le_of_ble_eq_true rfl) (Nat.le_of_ble_eq_true rfl) hl.1 (Nat.le_of_ble_eq_true rfl) dX11_image_26 ⟨Nat.le_of_ble_eq_true rfl, Nat.le_of_ble_eq_true rfl⟩ (fun H locs hR hS => ?_)
    exact x_vretN C hR hS (Nat.le_of_ble_eq_true rfl) (Nat.le_of_ble_eq_true rfl) dX11_image_29
  | some r9 =>
    have hf := x_os hf
    obtain ⟨h3, e3, hf⟩ := x_bd hf
    cases hf
    have kn : K r9 = (8, 0) := hR.T.2.2.2.2.2.2.1 r9 ho
    refine lv_ifnonnull (tgt := 18) hx hb dX11_image_4 rfl ?_
    refine lv_aload_n hx hb dX11_image_18 rfl (lv_at hl 0 rfl) ?_
    refine gf_11_8 C hR (x_k hR 0 rfl) tw_503 dX11_image_19 ?_
    rw [ho]
    refine lv_aload_n hx hb dX11_image_22 rfl (lv_at hl 0 rfl) ?_
    refine gf_11_1 C hR (x_k hR 0 rfl) tw_496 dX11_image_23 ?_
    refine x_cVv1 C hR hS (S_X7_copyFrom kn (x_k hR 9 rfl) e3) kn (by decide) rfl mf_X7_copyFrom tw_582 (Nat.le_of_ble_eq_true rfl) (Nat.le_of_ble_eq_true rfl) hl.1 (Nat.le_of_ble_eq_true rfl) dX11_image_26 ⟨Nat.le_of_ble_eq_true rfl, Nat.le_of_ble_eq_true rfl⟩ (fun H locs hR hS => ?_)
    exact x_vretN C hR hS (Nat.le_of_ble_eq_true rfl) (Nat.le_of_ble_eq_true rfl) dX11_image_29
