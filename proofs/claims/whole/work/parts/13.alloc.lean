/-! ===== objects under construction: kind 20 + class number, with their fields as they stand; a Pack[] that is being filled: kind 19 ===== -/
def x_c2 (x : Nat) (cy : Nat → ClassId) (K : XK) (F : Nat → List Value) (h : XH) (a : Nat) : va_E :=
  if 20 ≤ (K a).1 then .inr ((K a).1 - 20, F a)
  else if (K a).1 = 19 then .inl (cy 2, (K a).2, .inr (.inr (.inr (.inr (h.2.2 a)))))
  else x_cell x cy K h a
/-- .. the heap's size n -/
def x_Q2 (O : XO) (K : XK) (F : Nat → List Value) (h : XH) (H : Heap) (n : Nat) : Prop :=
  H.size = n ∧ oX O ≤ n ∧ (∀ q, oX O ≤ q → oA O q) ∧ ∃ L : List Nat, (∀ a, a ∈ L ↔ (K a).1 ≠ 0) ∧ va_P (oD O) vwCl ([] ++ va_pl L (x_c2 (oX O) (oC O) K F h)) H ∧ va_D (oA O) ([] ++ va_pl L (x_c2 (oX O) (oC O) K F h))
theorem x_c2_raw {x a ci : Nat} {cy : Nat → ClassId} {K : XK} {F : Nat → List Value} {h : XH} (hk : (K a).1 = ci + 20) : x_c2 x cy K F h a = .inr (ci, F a) := by
  unfold x_c2
  rw [if_pos (by omega), hk]
  rfl
theorem x_c2_old {x a : Nat} {cy : Nat → ClassId} {K : XK} {F : Nat → List Value} {h : XH} (hk : (K a).1 ≤ 18) : x_c2 x cy K F h a = x_cell x cy K h a := by
  unfold x_c2
  rw [if_neg (by omega), if_neg (by omega)]
theorem x_c2_packs {x a : Nat} {cy : Nat → ClassId} {K : XK} {F : Nat → List Value} {h : XH} (hk : (K a).1 = 19) : x_c2 x cy K F h a = .inl (cy 2, (K a).2, .inr (.inr (.inr (.inr (h.2.2 a))))) := by
  unfold x_c2
  rw [if_neg (by omega), if_pos hk]
theorem x_c2_congr {x b : Nat} {cy : Nat → ClassId} {K K' : XK} {F F' : Nat → List Value} {h h' : XH} (hK : K' b = K b) (hF : F' b = F b) (hI : h'.1 b = h.1 b) (hJ : h'.2.1 b = h.2.1 b) (hR : h'.2.2 b = h.2.2 b) : x_c2 x cy K' F' h' b = x_c2 x cy K F h b := by
  unfold x_c2 x_cell
  simp only [hK, hF, hI, hJ, hR, x_fs_congr hI hJ hR]
def x_ku (K : XK) (a : Nat) (q : Nat × Nat) : XK := fun b => if b = a then q else K b
/-- all that is at a: zero -/
def x_zr (h : XH) (a : Nat) : XH := (fun b k => if b = a then 0 else h.1 b k, fun b k => if b = a then 0 else h.2.1 b k, fun b k => if b = a then none else h.2.2 b k)
theorem x_zr_ne {h : XH} {a b : Nat} (hb : b ≠ a) : (x_zr h a).1 b = h.1 b ∧ (x_zr h a).2.1 b = h.2.1 b ∧ (x_zr h a).2.2 b = h.2.2 b := by
  refine ⟨?_, ?_, ?_⟩ <;> funext k <;> simp [x_zr, hb]
theorem x_Q2.fresh {O : XO} {K : XK} {F : Nat → List Value} {h : XH} {H : Heap} {n : Nat} (hQ : x_Q2 O K F h H n) {a : Nat} (ha : n ≤ a) : (K a).1 = 0 := by
  obtain ⟨hn, -, -, L, hL, hP, -⟩ := hQ
  by_cases h0 : (K a).1 = 0
  · exact h0
  · exact absurd ((hL a).mpr h0) (va_pl_fresh hP (by omega))
/-- a new cell at n -/
theorem x_Q2.push {O : XO} {K K' : XK} {F F' : Nat → List Value} {h h' : XH} {H H1 : Heap} {n : Nat} (hQ : x_Q2 O K F h H n) (z1 : H1.size = n + 1) (o1 : ∀ q, q < n → H1[q]? = H[q]?)
    (hK : ∀ b, b ≠ n → K' b = K b) (hF : ∀ b, b ≠ n → F' b = F b) (hh : ∀ b, b ≠ n → h'.1 b = h.1 b ∧ h'.2.1 b = h.2.1 b ∧ h'.2.2 b = h.2.2 b) (hk : (K' n).1 ≠ 0)
    (hat : va_at (oD O) vwCl (n, x_c2 (oX O) (oC O) K' F' h' n) H1) : x_Q2 O K' F' h' H1 (n + 1) := by
  have h0 := hQ.fresh (Nat.le_refl n)
  obtain ⟨hn, hx, hA, L, hL, hP, hD⟩ := hQ
  have hnL : n ∉ L := fun q => (hL n).mp q h0
  have e1 : [] ++ va_pl L (x_c2 (oX O) (oC O) K F h) ++ [(n, x_c2 (oX O) (oC O) K' F' h' n)] = [] ++ va_pl (L ++ [n]) (x_c2 (oX O) (oC O) K' F' h') := by
    rw [List.nil_append, List.nil_append, va_pl_push hnL]
    refine va_pl_congr fun b => ?_
    by_cases hb : b = n
    · rw [hb, va_up_self]
    · rw [va_up_ne _ _ hb]
      exact (x_c2_congr (hK b hb) (hF b hb) (hh b hb).1 (hh b hb).2.1 (hh b hb).2.2).symm
  refine ⟨z1, by omega, hA, L ++ [n], fun a => ?_, ?_, ?_⟩
  · rw [List.mem_append, List.mem_singleton]
    by_cases ha : a = n
    · rw [ha]; exact ⟨fun _ => hk, fun _ => Or.inr rfl⟩
    · rw [hK a ha]
      exact ⟨fun q => q.elim (fun q => (hL a).mp q) (fun q => absurd q ha), fun q => Or.inl ((hL a).mpr q)⟩
  · rw [← e1]
    refine va_P.app (hP.kept (fun k x hx => o1 x.1 (by have := (hP k x hx).lt; omega))) (fun k x hx => ?_)
    have hz : k < 1 := (List.getElem?_eq_some_iff.mp hx).1
    rw [show k = 0 by omega] at hx
    cases hx
    exact hat
  · rw [← e1]
    exact hD.push hP hn.symm (hA _ hx)
/-- the same cells, told otherwise -/
theorem x_Q2.seal {O : XO} {K K' : XK} {F F' : Nat → List Value} {h h' : XH} {H : Heap} {n : Nat} (hQ : x_Q2 O K F h H n) (hk : ∀ a, (K' a).1 ≠ 0 ↔ (K a).1 ≠ 0)
    (hc : ∀ a, (K a).1 ≠ 0 → va_at (oD O) vwCl (a, x_c2 (oX O) (oC O) K F h a) H → va_at (oD O) vwCl (a, x_c2 (oX O) (oC O) K' F' h' a) H) : x_Q2 O K' F' h' H n := by
  obtain ⟨hn, hx, hA, L, hL, hP, hD⟩ := hQ
  refine ⟨hn, hx, hA, L, fun a => (hL a).trans (hk a).symm, fun k q hq => ?_, ⟨fun i j p q hi hj e => ?_, fun k q hq => ?_⟩⟩
  · simp only [va_pl, List.nil_append, List.getElem?_map] at hq
    cases hb : L[k]? with
    | none => rw [hb] at hq; cases hq
    | some b =>
      rw [hb] at hq
      cases hq
      exact hc b ((hL b).mp (List.mem_of_getElem? hb)) (hP k (b, _) (by simp [va_pl, hb]))
  · simp only [va_pl, List.nil_append, List.getElem?_map] at hi hj
    cases hb : L[i]? with
    | none => rw [hb] at hi; cases hi
    | some b =>
      cases hb2 : L[j]? with
      | none => rw [hb2] at hj; cases hj
      | some b2 =>
        rw [hb] at hi
        rw [hb2] at hj
        cases hi
        cases hj
        exact hD.1 i j (b, x_c2 (oX O) (oC O) K F h b) (b2, x_c2 (oX O) (oC O) K F h b2) (by simp [va_pl, hb]) (by simp [va_pl, hb2]) e
  · simp only [va_pl, List.nil_append, List.getElem?_map] at hq
    cases hb : L[k]? with
    | none => rw [hb] at hq; cases hq
    | some b =>
      rw [hb] at hq
      cases hq
      exact hD.2 k (b, x_c2 (oX O) (oC O) K F h b) (by simp [va_pl, hb])
/-- one cell rewritten -/
theorem x_Q2.set {O : XO} {K : XK} {F F' : Nat → List Value} {h h' : XH} {H1 : Heap} {L : List Nat} {n q0 a : Nat} {E : va_E} (hn : H1.size = n) (hx : oX O ≤ n) (hA : ∀ q, oX O ≤ q → oA O q) (hL : ∀ a, a ∈ L ↔ (K a).1 ≠ 0) (hD : va_D (oA O) ([] ++ va_pl L (x_c2 (oX O) (oC O) K F h))) (ha : (K a).1 ≠ 0)
    (hk : ([] ++ va_pl L (x_c2 (oX O) (oC O) K F h))[q0]? = some (a, x_c2 (oX O) (oC O) K F h a)) (hE : E = x_c2 (oX O) (oC O) K F' h' a)
    (hP1 : va_P (oD O) vwCl (([] ++ va_pl L (x_c2 (oX O) (oC O) K F h)).set q0 (a, E)) H1) (hD1 : va_D (oA O) (([] ++ va_pl L (x_c2 (oX O) (oC O) K F h)).set q0 (a, E)))
    (hF : ∀ b, b ≠ a → F' b = F b) (hh : ∀ b, b ≠ a → h'.1 b = h.1 b ∧ h'.2.1 b = h.2.1 b ∧ h'.2.2 b = h.2.2 b) : x_Q2 O K F' h' H1 n := by
  have e1 : ([] ++ va_pl L (x_c2 (oX O) (oC O) K F h)).set q0 (a, E) = [] ++ va_pl L (x_c2 (oX O) (oC O) K F' h') := by
    rw [va_pl_set hD ((hL a).mpr ha) hk]
    congr 1
    refine va_pl_congr fun b => ?_
    by_cases hb : b = a
    · rw [hb, va_up_self, hE]
    · rw [va_up_ne _ _ hb]
      exact (x_c2_congr rfl (hF b hb) (hh b hb).1 (hh b hb).2.1 (hh b hb).2.2).symm
  rw [e1] at hP1 hD1
  exact ⟨hn, hx, hA, L, hL, hP1, hD1⟩
def x_fu (F : Nat → List Value) (a : Nat) (l : List Value) : Nat → List Value := fun b => if b = a then l else F b
theorem x_fu_ne {F : Nat → List Value} {a b : Nat} {l : List Value} (hb : b ≠ a) : x_fu F a l b = F b := by simp [x_fu, hb]
theorem x_fu_at {F : Nat → List Value} {a : Nat} {l : List Value} : x_fu F a l a = l := by simp [x_fu]
theorem x_ku_ne {K : XK} {a b : Nat} {q : Nat × Nat} (hb : b ≠ a) : x_ku K a q b = K b := by simp [x_ku, hb]
theorem x_ku_at {K : XK} {a : Nat} {q : Nat × Nat} : x_ku K a q a = q := by simp [x_ku]
theorem x_tysI (O : XO) : (x_tys O)[0]? = some (oC O 0, .int) := rfl
section XN
variable {p : Program} {l : Launch} {e : Env} {R : Room} {s : State} {m : MethodId} {args : Array Value} {below : List Frame} {meth : Method} {c : Code} {H : Heap} {locs : List Loc} {cells slots : Nat} {Q : State → Prop}
variable {O : XO} {K : XK} {F : Nat → List Value} {h : XH} {n : Nat} {cc : ByteArray} {nL : Nat} {own : String} {ret : Option FieldType} {pc : Nat} {ls : Array Slot} {rest : List Value}
theorem r_S {H1 : Heap} (hS : va_S (oA O) s.heap H locs) (z1 : H.size ≤ H1.size) (o1 : ∀ q, q < H.size → H1[q]? = H[q]?) : va_S (oA O) s.heap H1 locs := ⟨Nat.le_trans hS.1 z1, fun q h1 h2 => (o1 q (Nat.lt_of_lt_of_le h1 hS.1)).trans (hS.2.1 q h1 h2), hS.2.2⟩
/-- new -/
theorem r_new (C : x_C p s m args meth c O cc nL own ret) (hQ : x_Q2 O K F h H n) (hS : va_S (oA O) s.heap H locs) {ci : Nat} {Cn : String} {T : u_T} {N : Nat} (hc : vwCl[ci]? = some (Cn, T, N)) (hin : ∀ w ∈ u_ws Cn T N, w ∈ TB) (ty : Nat → FieldType) (hty : ∀ k, k < N → parseFieldDescriptor (T k).2.2.1 = some (ty k)) {idx : Nat}
    (hcl : Cond.classLink own idx Cn ∈ TB) (hinst : Cond.instantiable Cn N ∈ TB) (hini : Cond.initialized Cn ∈ TB) {fs : List Value} (hfs : ∀ j, j < N → defaultValue (ty j) = vp_V fs j) (hcells : cells + 1 ≤ R.cells) (hslots : slots + N ≤ R.slots) (hd : decode cc pc = .ok (.new idx, 3))
    (kk : ∀ H1 : Heap, x_Q2 O (x_ku K n (ci + 20, 0)) (x_fu F n fs) h H1 (n + 1) → va_S (oA O) s.heap H1 locs → W p l e R s m args below meth c H1 locs (cells + 1) (slots + N) Q (F0 m (pc + 3) ls (.ref n :: rest))) : W p l e R s m args below meth c H locs cells slots Q (F0 m pc ls rest) := by
  have hts := C.2.2.2.2.1
  have hKn := (x_K C).1 ci _ hc
  obtain ⟨hn, -⟩ := id hQ
  refine W.newcK C.1 C.2.1 C.2.2.2.1 (hts _ hcl) (hts _ hinst) (hts _ hini) rfl hd hcells hslots hKn.2.1 hn fun H1 kC hkC e1 z1 o1 => ?_
  refine kk H1 (hQ.push z1 o1 (fun b hb => x_ku_ne hb) (fun b hb => x_fu_ne hb) (fun b hb => ⟨rfl, rfl, rfl⟩) (by rw [x_ku_at]; simp) ?_) (r_S hS (by omega) (fun q hq => o1 q (by omega)))
  rw [x_c2_raw (ci := ci) (by rw [x_ku_at]), x_fu_at]
  exact ⟨_, hc, (u_born ty hts hin hKn hkC e1 hty).to hfs⟩
/-- newarray -/
theorem r_newa (C : x_C p s m args meth c O cc nL own ret) (hQ : x_Q2 O K F h H n) (hS : va_S (oA O) s.heap H locs) {atype : ArrayType} {v : Int32} {N kd : Nat} (hkd : (atype = .int ∧ kd = 14) ∨ (atype = .byte ∧ kd = 15) ∨ (atype = .long ∧ kd = 18)) (harr : Cond.arrayClass (newarray.typeOf atype) ∈ TB) (hv : ¬ v < 0) (hN : v.toNatClampNeg = N) (hbytes : N * componentBytes (newarray.typeOf atype) ≤ 536870912) (hcells : cells + 1 ≤ R.cells) (hslots : slots + N ≤ R.slots) (hd : decode cc pc = .ok (.newarray atype, 2))
    (kk : ∀ H1 : Heap, x_Q2 O (x_ku K n (kd, N)) F (x_zr h n) H1 (n + 1) → va_S (oA O) s.heap H1 locs → W p l e R s m args below meth c H1 locs (cells + 1) (slots + N) Q (F0 m (pc + 2) ls (.ref n :: rest))) : W p l e R s m args below meth c H locs cells slots Q (F0 m pc ls (.int v :: rest)) := by
  obtain ⟨hn, -⟩ := id hQ
  refine va_newaK C.1 C.2.1 (C.2.2.2.2.1 _ harr) rfl hd rfl hv hN hbytes hcells hslots hn fun H1 cA e1 z1 o1 hAr hNm => ?_
  refine kk H1 (hQ.push z1 o1 (fun b hb => x_ku_ne hb) (fun b hb => rfl) (fun b hb => x_zr_ne hb) (by rw [x_ku_at]; rcases hkd with h | h | h <;> rw [h.2] <;> simp) ?_) (r_S hS (by omega) (fun q hq => o1 q (by omega)))
  rcases hkd with ⟨rfl, rfl⟩ | ⟨rfl, rfl⟩ | ⟨rfl, rfl⟩
  · have hcA : cA = oC O 0 := Option.some.inj (hNm.symm.trans ((x_K C).2 0 _ rfl).2)
    rw [x_c2_old (by rw [x_ku_at]; simp), x_cell_int (by rw [x_ku_at])]
    show H1[n]? = some (vp_cell _ _)
    rw [e1, x_ku_at, vp_cell_i, hcA]
    congr 2
    funext j
    simp [x_zr, defaultValue, newarray.typeOf]
  · have hcA : cA = oC O 1 := Option.some.inj (hNm.symm.trans ((x_K C).2 1 _ rfl).2)
    rw [x_c2_old (by rw [x_ku_at]; simp), x_cell_byte (by rw [x_ku_at])]
    show H1[n]? = some (vp_cell _ _)
    rw [e1, x_ku_at, vp_cell_i, hcA]
    congr 2
    funext j
    simp [x_zr, defaultValue, newarray.typeOf]
  · have hcA : cA = oC O 4 := Option.some.inj (hNm.symm.trans ((x_K C).2 4 _ rfl).2)
    rw [x_c2_old (by rw [x_ku_at]; simp), x_cell_long (by rw [x_ku_at])]
    show H1[n]? = some (vp_cell _ _)
    rw [e1, x_ku_at, vp_cell_l, hcA]
    congr 2
    funext j
    simp [x_zr, defaultValue, newarray.typeOf]
/-- anewarray of Pack (raw) or Text -/
theorem r_anew (C : x_C p s m args meth c O cc nL own ret) (hQ : x_Q2 O K F h H n) (hS : va_S (oA O) s.heap H locs) {Cn : String} {v : Int32} {N kd idx : Nat} (hkd : (Cn = RX2 ∧ kd = 19) ∨ (Cn = RX10 ∧ kd = 17)) (hcl : Cond.classLink own idx Cn ∈ TB) (hv : ¬ v < 0) (hN : v.toNatClampNeg = N) (hbytes : N * 4 ≤ 536870912) (hcells : cells + 1 ≤ R.cells) (hslots : slots + N ≤ R.slots) (hd : decode cc pc = .ok (.anewarray idx, 3))
    (kk : ∀ H1 : Heap, x_Q2 O (x_ku K n (kd, N)) F (x_zr h n) H1 (n + 1) → va_S (oA O) s.heap H1 locs → W p l e R s m args below meth c H1 locs (cells + 1) (slots + N) Q (F0 m (pc + 3) ls (.ref n :: rest))) : W p l e R s m args below meth c H locs cells slots Q (F0 m pc ls (.int v :: rest)) := by
  obtain ⟨hn, -⟩ := id hQ
  subst hN
  have hE := C.2.2.2.2.2.2.2.2
  have hover : va_AO Cn s := by
    rcases hkd with ⟨rfl, -⟩ | ⟨rfl, -⟩
    · exact hE.2.2.2.2.2.2.2.2.2.2.2.1
    · exact hE.2.2.2.2.2.2.2.2.2.2.2.2
  refine W.anew C.1 C.2.1 C.2.2.2.1 (C.2.2.2.2.1 _ hcl) (va_AO.use hover) rfl hd rfl hv hbytes hcells hslots fun cA kA comp f1 f2 f3 f4 => ?_
  rw [hn]
  generalize hH1 : H.push ({ cls := cA, slots := Array.replicate v.toNatClampNeg .null, vm := .none } : Cell) = H1
  have z1 : H1.size = n + 1 := by rw [← hH1, Array.size_push, hn]
  have e1 : H1[n]? = some (arrV cA v.toNatClampNeg (fun _ => .null)) := by rw [← hH1, ← hn, Array.getElem?_push_size, ← arrV_new]
  have o1 : ∀ q : Nat, q < n → H1[q]? = H[q]? := fun q hq => by rw [← hH1, Array.getElem?_push, if_neg (by omega)]
  refine kk H1 (hQ.push z1 o1 (fun b hb => x_ku_ne hb) (fun b hb => rfl) (fun b hb => x_zr_ne hb) (by rw [x_ku_at]; rcases hkd with h | h <;> rw [h.2] <;> simp) ?_) (r_S hS (by omega) (fun q hq => o1 q (by omega)))
  rcases hkd with ⟨rfl, rfl⟩ | ⟨rfl, rfl⟩
  · obtain ⟨kA', comp', -, -, -, g4⟩ := ((x_K C).2 2 _ rfl).2
    have hcA : cA = oC O 2 := Option.some.inj (f1.symm.trans g4)
    rw [x_c2_packs (by rw [x_ku_at])]
    show H1[n]? = some (vp_cell _ _)
    rw [e1, x_ku_at, vp_cell_q, hcA]
    congr 2
    funext j
    simp [x_zr, va_rf]
  · obtain ⟨kA', comp', -, -, -, g4⟩ := ((x_K C).2 3 _ rfl).2
    have hcA : cA = oC O 3 := Option.some.inj (f1.symm.trans g4)
    rw [x_c2_old (by rw [x_ku_at]; simp), x_cell_text (by rw [x_ku_at])]
    show H1[n]? = some (vp_cell _ _)
    rw [e1, x_ku_at, vp_cell_q, hcA]
    congr 2
    funext j
    simp [x_zr, va_rf]
/-- a field of an object under construction -/
theorem r_get (C : x_C p s m args meth c O cc nL own ret) (hQ : x_Q2 O K F h H n) {a ci : Nat} (hk : (K a).1 = ci + 20) {Cn : String} {T : u_T} {N : Nat} (hc : vwCl[ci]? = some (Cn, T, N)) (hin : ∀ w ∈ u_ws Cn T N, w ∈ TB) (k : Nat) (hkN : k < N) {idx : Nat}
    (hlink : Cond.fieldLink own idx (T k).1 (T k).2.1 (T k).2.2.1 ∈ TB) {v : Value} (hv : (F a)[k]? = some v) (hd : decode cc pc = .ok (.getfield idx, 3))
    (kk : W p l e R s m args below meth c H locs cells slots Q (F0 m (pc + 3) ls (v :: rest))) : W p l e R s m args below meth c H locs cells slots Q (F0 m pc ls (.ref a :: rest)) := by
  obtain ⟨-, -, -, L, hL, hP, hD⟩ := hQ
  obtain ⟨q0, hq⟩ := va_pl_get (X := []) (f := x_c2 (oX O) (oC O) K F h) ((hL a).mpr (by omega))
  rw [x_c2_raw hk] at hq
  exact va_get C.1 C.2.1 C.2.2.2.2.1 hin C.2.2.2.1 (x_K C) hP q0 hq hc k hkN (C.2.2.2.2.1 _ hlink) (fun _ h9 => h9) hv hd kk
/-- a walk knows how many cells it has made: the heap is no larger than that -/
theorem x_sz {g : JFrame} (kk : H.size ≤ s.heap.size + cells → W p l e R s m args below meth c H locs cells slots Q g) : W p l e R s m args below meth c H locs cells slots Q g := fun T hT X => kk (by rw [← hT]; exact X.same.2.2.1) T hT X
theorem x_Srf (hS : va_S (oA O) s.heap H locs) : va_S (oA O) H H locs := ⟨Nat.le_refl _, fun _ _ _ => rfl, hS.2.2⟩
theorem x_Str {H1 : Heap} {locs1 : List Loc} (hS : va_S (oA O) s.heap H locs) (h1 : va_S (oA O) H H1 locs1) : va_S (oA O) s.heap H1 locs1 := ⟨Nat.le_trans hS.1 h1.1, fun q hq hA => (h1.2.1 q (Nat.lt_of_lt_of_le hq hS.1) hA).trans (hS.2.1 q hq hA), h1.2.2⟩
theorem r_put (C : x_C p s m args meth c O cc nL own ret) (hQ : x_Q2 O K F h H n) (hS : va_S (oA O) s.heap H locs) {a ci : Nat} (hk : (K a).1 = ci + 20) {Cn : String} {T : u_T} {N : Nat} (hc : vwCl[ci]? = some (Cn, T, N)) (hin : ∀ w ∈ u_ws Cn T N, w ∈ TB)
    (ty0 : Nat → FieldType) (hty : ∀ k, k < N → parseFieldDescriptor (T k).2.2.1 = some (ty0 k)) (hnm : ∀ a, a < N → ∀ b, b < N → a ≠ b → (T a).2.1 ≠ (T b).2.1) (k : Nat) (hkN : k < N) {idx : Nat}
    (hlink : Cond.fieldLink own idx (T k).1 (T k).2.1 (T k).2.2.1 ∈ TB) (hfin : (T k).2.2.2 = false ∨ ((T k).2.2.2 = true ∧ meth.name = "<init>" ∧ (T k).1 = own)) {v : Value} (hn : narrow (ty0 k) v = v) (hfit : fits (ty0 k) v = true) (hl : k < (F a).length) (hd : decode cc pc = .ok (.putfield idx, 3))
    (kk : ∀ (H1 : Heap) (locs1 : List Loc), x_Q2 O K (x_fu F a ((F a).set k v)) h H1 n → va_S (oA O) s.heap H1 locs1 → W p l e R s m args below meth c H1 locs1 cells slots Q (F0 m (pc + 3) ls rest)) (hz : n = s.heap.size + cells := by omega) : W p l e R s m args below meth c H locs cells slots Q (F0 m pc ls (v :: .ref a :: rest)) := by
  obtain ⟨hn0, hx, hA, L, hL, hP, hD⟩ := hQ
  obtain ⟨q0, hq⟩ := va_pl_get (X := []) (f := x_c2 (oX O) (oC O) K F h) ((hL a).mpr (by omega))
  have hq' := hq
  rw [x_c2_raw hk] at hq'
  have fin : ∀ (H1 : Heap) (locs1 : List Loc), va_P (oD O) vwCl (([] ++ va_pl L (x_c2 (oX O) (oC O) K F h)).set q0 (a, .inr (ci, (F a).set k v))) H1 → va_D (oA O) (([] ++ va_pl L (x_c2 (oX O) (oC O) K F h)).set q0 (a, .inr (ci, (F a).set k v))) → va_S (oA O) H H1 locs1 → W p l e R s m args below meth c H1 locs1 cells slots Q (F0 m (pc + 3) ls rest) := fun H1 locs1 hP1 hD1 hS1 =>
    x_sz fun hle => kk H1 locs1 (x_Q2.set (by have := hS1.1; omega) hx hA hL hD (by omega) hq (by rw [x_c2_raw hk, x_fu_at]) hP1 hD1 (fun b hb => x_fu_ne hb) (fun b hb => ⟨rfl, rfl, rfl⟩)) (x_Str hS hS1)
  rcases hfin with hfin | ⟨hfin, hin2, hdecl⟩
  · exact va_put C.1 C.2.1 C.2.2.2.2.1 hin ty0 hty hnm C.2.2.2.1 (x_K C) hP hD (x_Srf hS) q0 hq' hc k hkN (C.2.2.2.2.1 _ hlink) (fun _ h9 => h9) hfin (hty k hkN) hn hfit hl hd fin
  · exact va_putF C.1 C.2.1 C.2.2.2.2.1 hin ty0 hty hnm C.2.2.2.1 (x_K C) hP hD (x_Srf hS) q0 hq' hc k hkN (C.2.2.2.2.1 _ hlink) (fun _ h9 => h9) hfin hin2 hdecl (hty k hkN) hn hfit hl hd fin
end XN
def x_PI (O : XO) (K : XK) (F : Nat → List Value) (h : XH) (n : Nat) (av : List Value) : Array Value → State → Prop := fun v U => v = av.toArray ∧ x_EE O U U.heap ∧ x_Q2 O K F h U.heap n
def x_QI (O : XO) (K : XK) (F : Nat → List Value) (h : XH) (n : Nat) (r : Option Value) : Array Value → State → Outcome → State → Prop := fun _ st oc t => oc = .returned r ∧ x_Q2 O K F h t.heap n ∧ va_F (oA O) st t
/-- the contract of a constructor, or of another method that makes cells -/
def x_MI (l : Launch) (O : XO) (y : MethodName) (cc : ByteArray) (nL : Nat) (ret : Option FieldType) (f lo mc ms : Nat) (K : XK) (F : Nat → List Value) (h : XH) (n : Nat) (av : List Value) (r : Option Value) (K' : XK) (F' : Nat → List Value) (h' : XH) (n' : Nat) : Prop :=
  Met l y (.code y cc nL ret :: TB) (x_rmX f lo mc ms) (x_PI O K F h n av) (x_QI O K' F' h' n' r) mc ms (oA O)
theorem x_blindI {O : XO} {K : XK} {F : Nat → List Value} {h : XH} {n : Nat} {av : List Value} : FrameBlind (x_PI O K F h n av) := fun a U g mk q => by
  obtain ⟨q0, q1, q2⟩ := q
  exact ⟨q0, x_E.calling g mk a q1, q2⟩
theorem x_R.toQ {O : XO} {K : XK} {h : XH} {H : Heap} (F : Nat → List Value) (hR : x_R O K h H) (hA : ∀ q, oX O ≤ q → oA O q) (hx : oX O ≤ H.size) : x_Q2 O K F h H H.size := by
  obtain ⟨L, hL, hP, hD, hT⟩ := hR
  have e1 : va_pl L (x_cell (oX O) (oC O) K h) = va_pl L (x_c2 (oX O) (oC O) K F h) := va_pl_congr fun b => (x_c2_old (hT.2.2.2.2.2.2.2.2 b)).symm
  rw [e1] at hP hD
  exact ⟨rfl, hx, hA, L, hL, hP, hD⟩
theorem x_Q2.toR {O : XO} {K : XK} {F : Nat → List Value} {h : XH} {H : Heap} {n : Nat} (hQ : x_Q2 O K F h H n) (hT : x_T (oX O) K h) : x_R O K h H := by
  obtain ⟨-, -, -, L, hL, hP, hD⟩ := hQ
  have e1 : va_pl L (x_c2 (oX O) (oC O) K F h) = va_pl L (x_cell (oX O) (oC O) K h) := va_pl_congr fun b => x_c2_old (hT.2.2.2.2.2.2.2.2 b)
  rw [e1] at hP hD
  exact ⟨L, hL, hP, hD, hT⟩
section XM
variable {p : Program} {l : Launch} {e : Env} {R : Room} {s : State} {m : MethodId} {args : Array Value} {below : List Frame} {meth : Method} {c : Code} {H : Heap} {locs : List Loc} {cells slots mc ms : Nat} {Q : State → Prop}
variable {O : XO} {K K' : XK} {F F' : Nat → List Value} {h h' : XH} {n n' : Nat} {cc : ByteArray} {nL : Nat} {own : String} {ret : Option FieldType} {pc : Nat} {ls : Array Slot} {rest : List Value}
theorem x_enterI {y : MethodName} {f lo : Nat} {av : List Value} {r : Option Value} (hy : plainName y.cls = true) (hnl : (lg_sl av).length ≤ nL)
    (body : ∀ (p : Program) (e : Env) (s : State) (m : MethodId) (args : Array Value) (below : List Frame) (meth : Method) (c : Code), x_C p s m args meth c O cc nL y.cls ret → meth.name = y.name → x_Q2 O K F h s.heap n → ∀ ls : Array Slot, lv_has ls nL (lv_args 0 av) →
      W p l e (x_rmX f lo mc ms) s m args below meth c s.heap [] 0 0 (MQ below (x_QI O K' F' h' n' r) args s mc ms (oA O)) (F0 m 0 ls [])) : x_MI l O y cc nL ret f lo mc ms K F h n av r K' F' h' n' := by
  refine Met.ofW (cc := cc) (maxL := nL) (ret := ret) hy rfl ?_
  intro p e s m args below meth c s₁ B hml hv
  obtain ⟨rfl, hE, hR⟩ := hv
  have ht : ∀ x ∈ c.exceptionTable.toList, False := by
    obtain ⟨meth9, c9, h1, h2, -, -, -, -, h7, -⟩ := Cond.code_spec B.named (atoms_spec (ws := (Cond.code y cc nL ret :: TB)) B.pre _ List.mem_cons_self)
    cases Option.some.inj (h1.symm.trans B.method)
    cases Option.some.inj (h2.symm.trans (Stand.of_body B).code)
    intro x hx
    rw [Array.isEmpty_iff.mp h7] at hx
    cases hx
  have hts := atoms_spec (ws := (Cond.code y cc nL ret :: TB)) B.pre
  rw [lg_entry_eq]
  exact body p e s m _ below meth c ⟨B.exec, B.bytes, hml, findClass_of_methodNamed B.named, fun w hw => hts w (List.mem_cons_of_mem _ hw), B.notSynchronized, Or.inl ht, B.returns, hE⟩ (name_of_methodNamed B.named B.method).1 hR _ (lv_entry av hnl)
theorem r_vret (C : x_C p s m args meth c O cc nL own none) (hQ : x_Q2 O K F h H n) (hS : va_S (oA O) s.heap H locs) (hc : cells ≤ mc) (hs : slots ≤ ms) (hd : decode cc pc = .ok (.return_, 1)) :
    W p l e R s m args below meth c H locs cells slots (MQ below (x_QI O K F h n none) args s mc ms (oA O)) (F0 m pc ls []) :=
  W.widen hc hs (W.vret C.1 C.2.1 C.2.2.2.2.2.2.2.1 (fun t ht _ => ⟨rfl, by rw [ht]; exact hQ, hS.F ht⟩) hS.2.2 hd C.2.2.2.2.2.1)
theorem r_aret (C : x_C p s m args meth c O cc nL own ret) {rt : FieldType} (hret : ret = some rt) (hrt : (∃ n, rt = .object n) ∨ ∃ t, rt = .array t) (hQ : x_Q2 O K F h H n) (hS : va_S (oA O) s.heap H locs) {a : Nat} (hc : cells ≤ mc) (hs : slots ≤ ms) (hd : decode cc pc = .ok (.areturn, 1)) :
    W p l e R s m args below meth c H locs cells slots (MQ below (x_QI O K F h n (some (.ref a))) args s mc ms (oA O)) (F0 m pc ls [.ref a]) :=
  W.widen hc hs (W.aret C.1 C.2.1 (C.2.2.2.2.2.2.2.1.trans hret) hrt (Or.inr ⟨_, rfl⟩) (fun t ht _ => ⟨rfl, by rw [ht]; exact hQ, hS.F ht⟩) hS.2.2 hd C.2.2.2.2.2.1)
/-- a Pack into an array of Packs that is being filled -/
theorem r_aast (C : x_C p s m args meth c O cc nL own ret) (hQ : x_Q2 O K F h H n) (hS : va_S (oA O) s.heap H locs) {a b : Nat} (hk : (K a).1 = 19) (hb : (K b).1 = 3) {i : Int32} (hi : x_b i (K a).2 = true) (hd : decode cc pc = .ok (.aastore, 1))
    (kk : ∀ (H1 : Heap) (locs1 : List Loc), x_Q2 O K F (x_r h a i.toNatClampNeg (some b)) H1 n → va_S (oA O) s.heap H1 locs1 → W p l e R s m args below meth c H1 locs1 cells slots Q (F0 m (pc + 1) ls rest)) (hz : n = s.heap.size + cells := by omega) : W p l e R s m args below meth c H locs cells slots Q (F0 m pc ls (.ref b :: .int i :: .ref a :: rest)) := by
  obtain ⟨hn0, hx, hA, L, hL, hP, hD⟩ := hQ
  obtain ⟨q0, hq⟩ := va_pl_get (X := []) (f := x_c2 (oX O) (oC O) K F h) ((hL a).mpr (by omega))
  obtain ⟨q1, hq1⟩ := va_pl_get (X := []) (f := x_c2 (oX O) (oC O) K F h) ((hL b).mpr (by omega))
  have hq' := hq
  rw [x_c2_packs hk] at hq'
  rw [x_c2_old (by omega), x_cell_obj (ci := 2) hb (by decide)] at hq1
  refine va_astq C.1 C.2.1 (x_K C) hP hD (x_Srf hS) q0 2 q1 2 (r := (RX2, TX2, 6)) hq' rfl hq1 rfl (x_b_in hi) hd (fun H1 locs1 hP1 hD1 hS1 => x_sz fun hle => ?_)
  exact kk H1 locs1 (x_Q2.set (by have := hS1.1; omega) hx hA hL hD (by omega) hq (by rw [x_c2_packs hk, x_r_up]) hP1 hD1 (fun b hb => rfl) (fun b hb => ⟨rfl, rfl, x_r_ne hb⟩)) (x_Str hS hS1)
theorem r_back {r : Option Value} {st0 : List Value} {a : Array Value} {mc' ms' : Nat} (hr : va_Run p l e R s m args below meth c H locs cells slots mc' ms' (F0 m pc ls st0) rest (x_QI O K' F' h' n' r a) (oA O)) (hS : va_S (oA O) s.heap H locs)
    (kk : ∀ (H1 : Heap) (locs1 : List Loc), x_Q2 O K' F' h' H1 n' → va_S (oA O) s.heap H1 locs1 → W p l e R s m args below meth c H1 locs1 (cells + mc') (slots + ms') Q (F0 m (pc + 3) ls (r.toList ++ rest))) : W p l e R s m args below meth c H locs cells slots Q (F0 m pc ls st0) := by
  intro T hT X
  obtain ⟨v, st₀, t, T', L, h0, X', hL, e1, e2, ⟨hv, hp, hz, hk⟩, st⟩ := hr T hT X
  cases hv
  rw [h0] at hz hk
  obtain ⟨t2, a1, b1⟩ := kk T'.heap (locs ++ L) (by rw [e1]; exact hp)
    ⟨Nat.le_trans hS.1 (by rw [e1]; exact hz), fun q h1 h2 => by rw [e1, hk q (Nat.lt_of_lt_of_le h1 hS.1) h2]; exact hS.2.1 q h1 h2, fun q hq => by
      rcases List.mem_append.mp hq with h | h
      · exact hS.2.2 q h
      · exact hL q h⟩ T' rfl X'
  exact ⟨t2, st t2 a1, b1⟩
theorem r_pre (C : x_C p s m args meth c O cc nL own ret) (hQ : x_Q2 O K F h H n) (hS : va_S (oA O) s.heap H locs) {av : List Value} : ∀ U : State, U.heap = H → s.WarmedH U.vm → x_PI O K F h n av av.toArray U := fun U hU hW =>
  ⟨rfl, x_E.warm hW (fun q h1 h2 => by rw [hU]; exact hS.2.1 q h1 h2) C.2.2.2.2.2.2.2.2, by rw [hU]; exact hQ⟩
/-- a constructor's words -/
def x_MK (y : MethodName) (cc : ByteArray) (nL : Nat) (k : Nat) : Prop :=
  Cond.code y cc nL none ∈ TB ∧ Cond.instanceMethod y ∈ TB ∧ Cond.initialized y.cls ∈ TB ∧ y.cls ≠ "java/lang/invoke/MethodHandle" ∧ y.cls ≠ "java/lang/invoke/VarHandle" ∧ (parseMethodDescriptor y.desc).map (fun d => d.parameters.length) = some k ∧ y.name = "<init>"
/-- the call of a constructor: linked in its own class' words, or as a nest mate's -/
theorem r_init (C : x_C p s m args meth c O cc nL own ret) (hQ : x_Q2 O K F h H n) (hS : va_S (oA O) s.heap H locs) {y : MethodName} {bytes : ByteArray} {maxL : Nat} {f lo k mc' ms' : Nat} {b : Nat} {As : List Value}
    (M : x_MI l O y bytes maxL none f lo mc' ms' K F h n (.ref b :: As) none K' F' h' n') (hm : x_MK y bytes maxL k) {idx : Nat} {host : String} (hl : Cond.methodLink own idx y ∈ TB ∨ Cond.methodLinkNest own idx y host ∈ lw_tbl)
    (hF : f + 1 ≤ R.frames) (hL : 8 + (maxL + 11) + lo ≤ R.locals) (hn : As.length = k) (hsz : ls.size = nL) (hst : (rest.map fun v => v.category).sum ≤ 8) (hd : decode cc pc = .ok (.invokespecial idx, 3)) (hcs : cells + mc' ≤ R.cells ∧ slots + ms' ≤ R.slots)
    {st0 : List Value} (hst0 : st0 = As.reverse ++ .ref b :: rest)
    (kk : ∀ (H1 : Heap) (locs1 : List Loc), x_Q2 O K' F' h' H1 n' → va_S (oA O) s.heap H1 locs1 → W p l e R s m args below meth c H1 locs1 (cells + mc') (slots + ms') Q (F0 m (pc + 3) ls rest)) : W p l e R s m args below meth c H locs cells slots Q (F0 m pc ls st0) := by
  obtain ⟨m1, m2, m4, m5, m6, m7, m8⟩ := hm
  have hts := C.2.2.2.2.1
  rcases hl with hl | hl
  · exact r_back (va_runI (As := As) (b := b) (Ts := TB) ⟨C.1, C.2.1, C.2.2.1, C.2.2.2.1, hts⟩ M ⟨callB_of k hts (TB_cons m1) rfl rfl rfl (hts _ m4) (hts _ hl) ⟨m5, m6, m7⟩ ⟨hF, hL⟩, m8, hts _ m2⟩ ⟨x_blindI, r_pre C hQ hS⟩ rfl hn hsz hst0 (lv_room hst) hd hcs) hS kk
  · have hE := C.2.2.2.2.2.2.2.2
    exact r_back (va_runIN (As := As) (b := b) (Ts := TB) (host := host) ⟨C.1, C.2.1, C.2.2.1, C.2.2.2.1, hts⟩ M ⟨va_cnB k hts (TB_cons m1) rfl rfl rfl (hE.2.2.2.2.2.2.2.2.2.1 _ hl rfl) (hts _ m4) ⟨m5, m6, m7⟩ ⟨hF, hL⟩, m8, hts _ m2⟩ ⟨x_blindI, r_pre C hQ hS⟩ rfl hn hsz hst0 (lv_room hst) hd hcs) hS kk
end XM
/-! ===== blocks of new cells in a plain form: kinds by a list, values by a function of (place in the block, field) ===== -/
def x_kl (K : XK) (a : Nat) (ks : List (Nat × Nat)) : XK := fun b => if b < a then K b else match ks[b - a]? with
  | some q => q
  | none => K b
abbrev XG : Type := (Nat → Nat → Int32) × (Nat → Nat → Int64)
/-- m cells from a on: ints and longs as g says, no references -/
def x_hs (h : XH) (a m : Nat) (g : XG) : XH := (fun b k => if b < a ∨ a + m ≤ b then h.1 b k else g.1 (b - a) k, fun b k => if b < a ∨ a + m ≤ b then h.2.1 b k else g.2 (b - a) k, fun b k => if b < a ∨ a + m ≤ b then h.2.2 b k else none)
theorem x_kl_one {K : XK} {a : Nat} {q : Nat × Nat} : x_ku K a q = x_kl K a [q] := by
  funext b
  by_cases h : b < a
  · simp [x_ku, x_kl, h, Nat.ne_of_lt h]
  · by_cases e : b = a
    · simp [x_ku, x_kl, e]
    · obtain ⟨j, hj⟩ : ∃ j, b - a = j + 1 := ⟨b - a - 1, by omega⟩
      simp [x_ku, x_kl, h, e, hj]
theorem x_kl_snoc {K : XK} {a m : Nat} {ks : List (Nat × Nat)} {q : Nat × Nat} (hm : ks.length = m) : x_ku (x_kl K a ks) (a + m) q = x_kl K a (ks ++ [q]) := by
  subst hm
  funext b
  by_cases h : b < a
  · simp [x_ku, x_kl, h, show b ≠ a + ks.length by omega]
  · by_cases e : b = a + ks.length
    · subst e
      simp only [x_ku, x_kl, if_true]
      rw [if_neg (by omega), Nat.add_sub_cancel_left, List.getElem?_append_right (Nat.le_refl _), Nat.sub_self]
      rfl
    · by_cases e2 : b - a < ks.length
      · simp [x_ku, x_kl, h, e, e2, List.getElem?_append_left]
      · simp only [x_ku, x_kl, h, e, if_false]
        rw [List.getElem?_eq_none (by omega), List.getElem?_eq_none (by rw [List.length_append, List.length_singleton]; omega)]
theorem x_kl_head {K : XK} {a : Nat} {ks : List (Nat × Nat)} {q q' : Nat × Nat} : x_ku (x_kl K a (q :: ks)) a q' = x_kl K a (q' :: ks) := by
  funext b
  by_cases h : b < a
  · simp [x_ku, x_kl, h, Nat.ne_of_lt h]
  · by_cases e : b = a
    · simp [x_ku, x_kl, e]
    · obtain ⟨j, hj⟩ : ∃ j, b - a = j + 1 := ⟨b - a - 1, by omega⟩
      simp [x_ku, x_kl, h, e, hj]
theorem x_kl_at {K : XK} {a : Nat} {ks : List (Nat × Nat)} {q : Nat × Nat} : x_kl K a (q :: ks) a = q := by simp [x_kl]
theorem x_kl_app {K : XK} {a m : Nat} {ks ks' : List (Nat × Nat)} (hm : ks.length = m) : x_kl (x_kl K a ks) (a + m) ks' = x_kl K a (ks ++ ks') := by
  subst hm
  funext b
  by_cases h : b < a
  · simp [x_kl, h, show b < a + ks.length by omega]
  · by_cases e2 : b - a < ks.length
    · simp [x_kl, h, show b < a + ks.length by omega, List.getElem?_append_left e2]
    · have e3 : ¬ b < a + ks.length := by omega
      simp only [x_kl, h, e3, if_false]
      rw [List.getElem?_append_right (by omega), show b - a - ks.length = b - (a + ks.length) by omega, List.getElem?_eq_none (l := ks) (by omega)]
theorem x_hs_zr {h : XH} {a m : Nat} {g : XG} (hg : ∀ k, g.1 m k = 0 ∧ g.2 m k = 0) : x_zr (x_hs h a m g) (a + m) = x_hs h a (m + 1) g := by
  unfold x_zr x_hs
  refine Prod.ext ?_ (Prod.ext ?_ ?_) <;> funext b k <;> dsimp only
  · by_cases e : b = a + m
    · subst e
      rw [if_pos rfl, if_neg (by omega), Nat.add_sub_cancel_left, (hg k).1]
    · rw [if_neg e]
      by_cases e2 : b < a ∨ a + m ≤ b
      · rw [if_pos e2, if_pos (by omega)]
      · rw [if_neg e2, if_neg (by omega)]
  · by_cases e : b = a + m
    · subst e
      rw [if_pos rfl, if_neg (by omega), Nat.add_sub_cancel_left, (hg k).2]
    · rw [if_neg e]
      by_cases e2 : b < a ∨ a + m ≤ b
      · rw [if_pos e2, if_pos (by omega)]
      · rw [if_neg e2, if_neg (by omega)]
  · by_cases e : b = a + m
    · subst e
      rw [if_pos rfl, if_neg (by omega)]
    · rw [if_neg e]
      by_cases e2 : b < a ∨ a + m ≤ b
      · rw [if_pos e2, if_pos (by omega)]
      · rw [if_neg e2, if_neg (by omega)]
theorem x_hs_app {h : XH} {a m m' : Nat} {g g' : XG} (hg : ∀ j, j < m' → ∀ k, g.1 (m + j) k = g'.1 j k ∧ g.2 (m + j) k = g'.2 j k) : x_hs (x_hs h a m g) (a + m) m' g' = x_hs h a (m + m') g := by
  unfold x_hs
  refine Prod.ext ?_ (Prod.ext ?_ ?_) <;> funext b k <;> dsimp only
  · by_cases e : b < a + m ∨ a + m + m' ≤ b
    · rw [if_pos e]
      by_cases e2 : b < a ∨ a + m ≤ b
      · rw [if_pos e2, if_pos (by omega)]
      · rw [if_neg e2, if_neg (by omega)]
    · rw [if_neg e, if_neg (by omega), show b - a = m + (b - (a + m)) by omega, (hg _ (by omega) k).1]
  · by_cases e : b < a + m ∨ a + m + m' ≤ b
    · rw [if_pos e]
      by_cases e2 : b < a ∨ a + m ≤ b
      · rw [if_pos e2, if_pos (by omega)]
      · rw [if_neg e2, if_neg (by omega)]
    · rw [if_neg e, if_neg (by omega), show b - a = m + (b - (a + m)) by omega, (hg _ (by omega) k).2]
  · by_cases e : b < a + m ∨ a + m + m' ≤ b
    · rw [if_pos e]
      by_cases e2 : b < a ∨ a + m ≤ b
      · rw [if_pos e2, if_pos (by omega)]
      · rw [if_neg e2, if_neg (by omega)]
    · rw [if_neg e, if_neg (by omega)]
theorem x_hs_ne {h : XH} {a b : Nat} {g : XG} (hb : b ≠ a) : (x_hs h a 1 g).1 b = h.1 b ∧ (x_hs h a 1 g).2.1 b = h.2.1 b ∧ (x_hs h a 1 g).2.2 b = h.2.2 b := by
  refine ⟨?_, ?_, ?_⟩ <;> funext k <;> simp [x_hs, show b < a ∨ a + 1 ≤ b by omega]
theorem x_fu_fu {F : Nat → List Value} {a : Nat} {u v : List Value} : x_fu (x_fu F a u) a v = x_fu F a v := by
  funext b
  by_cases e : b = a <;> simp [x_fu, e]
/-- a raw object has no abstract values: put there what it will have -/
theorem x_Q2.at {O : XO} {K : XK} {F : Nat → List Value} {h : XH} {H : Heap} {n a ci : Nat} (hQ : x_Q2 O K F h H n) (hk : (K a).1 = ci + 20) (g : XG) : x_Q2 O K F (x_hs h a 1 g) H n := by
  refine hQ.seal (fun b => Iff.rfl) (fun b hb hat => ?_)
  by_cases e : b = a
  · subst e
    rw [x_c2_raw hk] at hat ⊢
    exact hat
  · rwa [x_c2_congr (h := h) rfl rfl (x_hs_ne e).1 (x_hs_ne e).2.1 (x_hs_ne e).2.2]
/-- the object is done -/
theorem x_Q2.sl {O : XO} {K : XK} {F : Nat → List Value} {D : List Value} {h : XH} {H : Heap} {n a ci : Nat} (hQ : x_Q2 O K (x_fu F a D) h H n) (hk : (K a).1 = ci + 20) (hc : ci < 13) (hD : D = x_fs (oX O) h a ci) : x_Q2 O (x_ku K a (ci + 1, 0)) F h H n := by
  refine hQ.seal (fun b => ?_) (fun b hb hat => ?_)
  · by_cases e : b = a
    · subst e
      rw [x_ku_at]
      exact ⟨fun _ => by omega, fun _ => by simp⟩
    · rw [x_ku_ne e]
  · by_cases e : b = a
    · subst e
      rw [x_c2_raw hk, x_fu_at, hD] at hat
      rw [x_c2_old (by rw [x_ku_at]; simp; omega), x_cell_obj (ci := ci) (by rw [x_ku_at]) hc]
      exact hat
    · rwa [x_c2_congr (F := x_fu F a D) (x_ku_ne e) (x_fu_ne e).symm rfl rfl rfl]
section XY
variable {p : Program} {l : Launch} {e : Env} {R : Room} {s : State} {m : MethodId} {args : Array Value} {below : List Frame} {meth : Method} {c : Code} {H : Heap} {locs : List Loc} {cells slots : Nat} {Q : State → Prop}
variable {O : XO} {K : XK} {F : Nat → List Value} {h : XH} {a w : Nat} {ks : List (Nat × Nat)} {g : XG} {D : List Value} {cc : ByteArray} {nL : Nat} {own : String} {ret : Option FieldType} {pc : Nat} {ls : Array Slot} {rest : List Value}
theorem n_newa (C : x_C p s m args meth c O cc nL own ret) (hQ : x_Q2 O (x_kl K a ks) F (x_hs h a w g) H (a + w)) (hS : va_S (oA O) s.heap H locs) (hw : ks.length = w) (hg : ∀ k, g.1 w k = 0 ∧ g.2 w k = 0) {atype : ArrayType} {v : Int32} {N : Nat} (kd : Nat) (hkd : (atype = .int ∧ kd = 14) ∨ (atype = .byte ∧ kd = 15) ∨ (atype = .long ∧ kd = 18)) (harr : Cond.arrayClass (newarray.typeOf atype) ∈ TB) (hv : ¬ v < 0) (hN : v.toNatClampNeg = N) (hbytes : N * componentBytes (newarray.typeOf atype) ≤ 536870912) (hcells : cells + 1 ≤ R.cells) (hslots : slots + N ≤ R.slots) (hd : decode cc pc = .ok (.newarray atype, 2))
    (kk : ∀ H1 : Heap, x_Q2 O (x_kl K a (ks ++ [(kd, N)])) F (x_hs h a (w + 1) g) H1 (a + (w + 1)) → va_S (oA O) s.heap H1 locs → W p l e R s m args below meth c H1 locs (cells + 1) (slots + N) Q (F0 m (pc + 2) ls (.ref (a + w) :: rest))) : W p l e R s m args below meth c H locs cells slots Q (F0 m pc ls (.int v :: rest)) :=
  r_newa C hQ hS hkd harr hv hN hbytes hcells hslots hd fun H1 q1 q2 => kk H1 (by rw [x_kl_snoc hw, x_hs_zr hg] at q1; exact q1) q2
theorem n_anew (C : x_C p s m args meth c O cc nL own ret) (hQ : x_Q2 O (x_kl K a ks) F (x_hs h a w g) H (a + w)) (hS : va_S (oA O) s.heap H locs) (hw : ks.length = w) (hg : ∀ k, g.1 w k = 0 ∧ g.2 w k = 0) {Cn : String} {v : Int32} {N idx : Nat} (kd : Nat) (hkd : (Cn = RX2 ∧ kd = 19) ∨ (Cn = RX10 ∧ kd = 17)) (hcl : Cond.classLink own idx Cn ∈ TB) (hv : ¬ v < 0) (hN : v.toNatClampNeg = N) (hbytes : N * 4 ≤ 536870912) (hcells : cells + 1 ≤ R.cells) (hslots : slots + N ≤ R.slots) (hd : decode cc pc = .ok (.anewarray idx, 3))
    (kk : ∀ H1 : Heap, x_Q2 O (x_kl K a (ks ++ [(kd, N)])) F (x_hs h a (w + 1) g) H1 (a + (w + 1)) → va_S (oA O) s.heap H1 locs → W p l e R s m args below meth c H1 locs (cells + 1) (slots + N) Q (F0 m (pc + 3) ls (.ref (a + w) :: rest))) : W p l e R s m args below meth c H locs cells slots Q (F0 m pc ls (.int v :: rest)) :=
  r_anew C hQ hS hkd hcl hv hN hbytes hcells hslots hd fun H1 q1 q2 => kk H1 (by rw [x_kl_snoc hw, x_hs_zr hg] at q1; exact q1) q2
theorem n_put (C : x_C p s m args meth c O cc nL own ret) {n ci : Nat} (hQ : x_Q2 O (x_kl K a ((ci + 20, 0) :: ks)) (x_fu F a D) h H n) (hS : va_S (oA O) s.heap H locs) {Cn : String} {T : u_T} {N : Nat} (hc : vwCl[ci]? = some (Cn, T, N)) (hin : ∀ w ∈ u_ws Cn T N, w ∈ TB)
    (ty0 : Nat → FieldType) (hty : ∀ k, k < N → parseFieldDescriptor (T k).2.2.1 = some (ty0 k)) (hnm : ∀ a, a < N → ∀ b, b < N → a ≠ b → (T a).2.1 ≠ (T b).2.1) (k : Nat) (hkN : k < N) {idx : Nat}
    (hlink : Cond.fieldLink own idx (T k).1 (T k).2.1 (T k).2.2.1 ∈ TB) (hfin : (T k).2.2.2 = false ∨ ((T k).2.2.2 = true ∧ meth.name = "<init>" ∧ (T k).1 = own)) {v : Value} (hn : narrow (ty0 k) v = v) (hfit : fits (ty0 k) v = true) (hl : k < D.length) (hd : decode cc pc = .ok (.putfield idx, 3))
    (kk : ∀ (H1 : Heap) (locs1 : List Loc), x_Q2 O (x_kl K a ((ci + 20, 0) :: ks)) (x_fu F a (D.set k v)) h H1 n → va_S (oA O) s.heap H1 locs1 → W p l e R s m args below meth c H1 locs1 cells slots Q (F0 m (pc + 3) ls rest)) (hz : n = s.heap.size + cells := by omega) : W p l e R s m args below meth c H locs cells slots Q (F0 m pc ls (v :: .ref a :: rest)) :=
  r_put C hQ hS (ci := ci) (by rw [x_kl_at]) hc hin ty0 hty hnm k hkN hlink hfin hn hfit (by rw [x_fu_at]; exact hl) hd (fun H1 locs1 q1 q2 => kk H1 locs1 (by rw [x_fu_at, x_fu_fu] at q1; exact q1) q2) hz
theorem n_get (C : x_C p s m args meth c O cc nL own ret) {n ci : Nat} (hQ : x_Q2 O (x_kl K a ((ci + 20, 0) :: ks)) (x_fu F a D) h H n) {Cn : String} {T : u_T} {N : Nat} (hc : vwCl[ci]? = some (Cn, T, N)) (hin : ∀ w ∈ u_ws Cn T N, w ∈ TB) (k : Nat) (hkN : k < N) {idx : Nat}
    (hlink : Cond.fieldLink own idx (T k).1 (T k).2.1 (T k).2.2.1 ∈ TB) {v : Value} (hv : D[k]? = some v) (hd : decode cc pc = .ok (.getfield idx, 3))
    (kk : W p l e R s m args below meth c H locs cells slots Q (F0 m (pc + 3) ls (v :: rest))) : W p l e R s m args below meth c H locs cells slots Q (F0 m pc ls (.ref a :: rest)) :=
  r_get C hQ (ci := ci) (by rw [x_kl_at]) hc hin k hkN hlink (by rw [x_fu_at]; exact hv) hd kk
end XY
