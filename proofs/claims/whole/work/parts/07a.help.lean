theorem x_so {K : XK} {a : Nat} {q : Nat × Nat} (h : K a = q) : ∀ r, some a = some r → K r = q := fun r e => by cases e; exact h
theorem x_nz {x k : Int32} {z : Int} (h : ¬ x = k) (hz : Int32.ofInt z = k) : ¬ z = x.toInt := fun e => h (by rw [← hz, e]; simp)
theorem x_lk {a o : Int} {r : List (Int × Int)} {dflt k v : Int} (h : ¬ a = k) (h2 : Op.lookupswitch.offset r dflt k = v) : Op.lookupswitch.offset ((a, o) :: r) dflt k = v := by
  rw [Op.lookupswitch.offset_cons, if_neg h]
  exact h2
theorem x_on {α β : Type} {n r : β} {f : α → β} (h : x_opt none n f = r) : n = r := h
theorem x_os {α β : Type} {n r : β} {f : α → β} {a : α} (h : x_opt (some a) n f = r) : f a = r := h
theorem x_tab (x : Int32) {lo hi : Int} (h : ∀ z : Int, lo ≤ z → z ≤ hi → ¬ x = Int32.ofInt z) : x.toInt < lo ∨ hi < x.toInt := by
  by_cases h1 : x.toInt < lo
  · exact Or.inl h1
  · by_cases h2 : hi < x.toInt
    · exact Or.inr h2
    · exact absurd (by simp) (h x.toInt (by omega) (by omega))
/-- a body's beginning, for a method of a class with natives of its own, none of them this one -/
theorem x_enterF {l : Launch} {O : XO} {K : XK} {h : XH} {cc : ByteArray} {nL : Nat} {ret : Option FieldType} {y : MethodName} {f lo : Nat} {av : List Value} {r : Option Value} {h' : XH} (hy : plainFor y = true) (hn : (lg_sl av).length ≤ nL)
    (body : ∀ (p : Program) (e : Env) (s : State) (m : MethodId) (args : Array Value) (below : List Frame) (meth : Method) (c : Code), x_C p s m args meth c O cc nL y.cls ret → x_R O K h s.heap → ∀ ls : Array Slot, lv_has ls nL (lv_args 0 av) →
      W p l e (x_rm f lo) s m args below meth c s.heap [] 0 0 (MQ below (x_Qc O K h' r) args s 0 0 (oA O)) (F0 m 0 ls [])) : x_M l O K y cc nL ret f lo h av r h' := by
  unfold x_M Met
  refine MetFree.of_bodySF (code := cc) (maxLocals := nL) (ret := ret) hy ?_ ?_
  · intro args s m h hn
    obtain ⟨meth, c, h1, h2, h3, h4, h5, h6, -, -⟩ := Cond.code_spec hn (atoms_spec (ws := (Cond.code y cc nL ret :: TB)) h _ List.mem_cons_self)
    exact ⟨meth, c, h1, h2, h3, h4, h5, h6⟩
  · intro p e s m args below meth c s₁ B hml hv _
    have hh0 : s₁.heap = s.heap := by rw [B.state]; rfl
    obtain ⟨rfl, hE, hR⟩ := hv
    have ht : ∀ x ∈ c.exceptionTable.toList, False := by
      obtain ⟨meth9, c9, h1, h2, -, -, -, -, h7, -⟩ := Cond.code_spec B.named (atoms_spec (ws := (Cond.code y cc nL ret :: TB)) B.pre _ List.mem_cons_self)
      cases Option.some.inj (h1.symm.trans B.method)
      cases Option.some.inj (h2.symm.trans (Stand.of_body B).code)
      intro x hx
      rw [Array.isEmpty_iff.mp h7] at hx
      cases hx
    have hts := atoms_spec (ws := (Cond.code y cc nL ret :: TB)) B.pre
    have K9 := body p e s m _ below meth c ⟨B.exec, B.bytes, hml, findClass_of_methodNamed B.named, fun w hw => hts w (List.mem_cons_of_mem _ hw), B.notSynchronized, Or.inl ht, B.returns, hE⟩ hR _ (lv_entry av hn)
    rw [← lg_entry_eq] at K9
    obtain ⟨t, a1, o, b1, b2, b3⟩ := K9 s₁ hh0 (Stand.of_body B)
    exact ⟨t, o, a1, b1, b2, ⟨b3.1, b3.2⟩⟩
section XW
variable {p : Program} {l : Launch} {e : Env} {R : Room} {s : State} {m : MethodId} {args : Array Value} {below : List Frame} {meth : Method} {c : Code} {H : Heap} {locs : List Loc} {cells slots : Nat} {Q : State → Prop}
variable {O : XO} {K : XK} {h : XH} {cc : ByteArray} {nL : Nat} {own : String} {ret : Option FieldType} {pc : Nat} {ls : Array Slot} {rest : List Value}
/-- a call with up to 16 words below its arguments -/
theorem x_callVw (C : x_C p s m args meth c O cc nL own ret) (hR : x_R O K h H) (hS : va_S (oA O) s.heap H locs) {y : MethodName} {bytes : ByteArray} {maxL : Nat} {ret' : Option FieldType} {f lo n : Nat} {b : Nat} {As : List Value} {r : Option Value} {h' : XH}
    (M : x_M l O K y bytes maxL ret' f lo h (.ref b :: As) r h') {ci : Nat} (hb : (K b).1 = ci + 1) (hci : ci < 13) {T : u_T} {N : Nat} (hc : vwCl[ci]? = some (y.cls, T, N)) (hm : x_MV y bytes maxL ret' n) {idx : Nat} (hl : Cond.methodLink own idx y ∈ TB)
    (hF : f + 1 ≤ R.frames) (hL : 16 + (maxL + 11) + lo ≤ R.locals) (hn : As.length = n) (hsz : ls.size = nL) (hst : (rest.map fun v => v.category).sum ≤ 16) (hd : decode cc pc = .ok (.invokevirtual idx, 3)) (hcs : cells ≤ R.cells ∧ slots ≤ R.slots)
    {st0 : List Value} (hst0 : st0 = As.reverse ++ .ref b :: rest)
    (kk : ∀ (H1 : Heap) (locs1 : List Loc), x_R O K h' H1 → va_S (oA O) s.heap H1 locs1 → W p l e R s m args below meth c H1 locs1 cells slots Q (F0 m (pc + 3) ls (r.toList ++ rest))) : W p l e R s m args below meth c H locs cells slots Q (F0 m pc ls st0) := by
  obtain ⟨m1, m2, m3, m4, m5, m6, m7⟩ := hm
  have hts := C.2.2.2.2.1
  have hrecv : ∃ cellB : Cell, H[b]? = some cellB ∧ cellB.vm.isStatics = false ∧ s.vm.findClass y.cls = some cellB.cls := by
    obtain ⟨L, hL, hP, hD, hT⟩ := id hR
    obtain ⟨q0, hq⟩ := va_pl_get (X := []) (f := x_cell (oX O) (oC O) K h) ((hL b).mpr (by omega))
    rw [x_cell_obj hb hci] at hq
    exact va_recv (x_K C) hP hc hq
  have hK : Back l R p e below s args y 3 16 (PreOf R 0 0 (x_Pc O K h (.ref b :: As))) (PostOf (x_Qc O K h' r) 0 0 (oA O)) := back_of M x_blind rfl rfl hF hL (pay_in hts (TB_cons m1)) List.mem_cons_self (fun a' U hW => word_at hW (TB_good _ m4).2 (hts _ m4))
  have hrun : va_Run p l e R s m args below meth c H locs cells slots 0 0 (F0 m pc ls st0) rest (x_Qc O K h' r (Value.ref b :: As).toArray) (oA O) := by
    obtain ⟨cellB, hcB, hoB, hclB⟩ := hrecv
    intro T hT X
    have hlen : ∀ sig, parseMethodDescriptor y.desc = some sig → n = sig.parameters.length := fun sig h => by
      rw [h] at m7
      exact (Option.some.inj m7).symm
    obtain ⟨v, vm₁, ⟨U', l2, c2, s2⟩, hW₁, X', ⟨g', mk, t, L, e1, e2, hq, h1, hL, h2, h3⟩, st⟩ := callV X C.1 (C := y.cls) (bytes := bytes) (maxL := maxL) (ret := ret') C.2.2.2.1 (hts _ hl) (hts _ m2) (hts _ m3) (hts _ m1) ⟨m5, m6⟩ hK (by rw [hT]; exact hcB) hoB hclB (g := F0 m pc ls st0) rfl (hsz.trans C.2.2.1.symm) (argsL := As) (rest := rest) (fun sig h => hn.trans (hlen sig h)) hst0 (show 2 * (F0 m pc ls st0).monitorRoom + (rest.map fun v => v.category).sum ≤ 16 by
        have e0 : (F0 m pc ls st0).monitorRoom = 0 := by
          have h0 := lv_room (m := m) (pc := pc) (ls := ls) (rest := st0) (st := List.replicate 8 (.int 0)) (by decide)
          have h1 : ((List.replicate 8 (Value.int 0)).map fun v => v.category).sum = 8 := by decide
          omega
        omega) (by rw [C.2.1]; exact hd)
      (fun vm₁ hW₁ => ⟨hcs.1, hcs.2, x_pre C hR hS (T.setVm vm₁) hT hW₁⟩)
    dsimp only [Pt.U, Pt.locs, Pt.cells, Pt.slots] at X' e1 e2 h1 h2 h3 st
    subst h1; subst h2; subst h3
    exact ⟨v, (T.setVm vm₁).calling g' mk (Value.ref b :: As).toArray, t, U', L, hT, X', hL, e1, e2, hq, st⟩
  exact x_back (mc := 0) (ms := 0) hrun hS kk
theorem x_nmi {x y : Int32} (h : y = x) (kk : W p l e R s m args below meth c H locs cells slots Q (F0 m pc ls (.int y :: rest))) : W p l e R s m args below meth c H locs cells slots Q (F0 m pc ls (.int x :: rest)) := h ▸ kk
theorem x_nml {x y : Int64} (h : y = x) (kk : W p l e R s m args below meth c H locs cells slots Q (F0 m pc ls (.long y :: rest))) : W p l e R s m args below meth c H locs cells slots Q (F0 m pc ls (.long x :: rest)) := h ▸ kk
theorem x_cat1 (o : Option Nat) : (va_rf o).category = 1 := by cases o <;> rfl
theorem x_cVi2w (C : x_C p s m args meth c O cc nL own ret) (hR : x_R O K h H) (hS : va_S (oA O) s.heap H locs) {y : MethodName} {bytes : ByteArray} {maxL : Nat} {ret' : Option FieldType} {f lo b : Nat} {A1 A2 : Value} {r : Int32} {h' : XH} (M : x_M l O K y bytes maxL ret' f lo h [.ref b, A1, A2] (some (.int r)) h') {ci : Nat} (hb : K b = (ci + 1, 0)) (hci : ci < 13) {T : u_T} {N : Nat} (hc : vwCl[ci]? = some (y.cls, T, N)) (hm : x_MV y bytes maxL ret' 2) {idx : Nat} (hl : Cond.methodLink own idx y ∈ TB) (hF : f + 1 ≤ R.frames) (hL : 16 + (maxL + 11) + lo ≤ R.locals) (hsz : ls.size = nL) (hst : (rest.map fun v => v.category).sum ≤ 16) (hd : decode cc pc = .ok (.invokevirtual idx, 3)) (hcs : cells ≤ R.cells ∧ slots ≤ R.slots) (kk : ∀ (H1 : Heap) (locs1 : List Loc), x_R O K h' H1 → va_S (oA O) s.heap H1 locs1 → W p l e R s m args below meth c H1 locs1 cells slots Q (F0 m (pc + 3) ls (.int r :: rest))) : W p l e R s m args below meth c H locs cells slots Q (F0 m pc ls (A2 :: A1 :: .ref b :: rest)) := x_callVw (As := [A1, A2]) C hR hS M (x_k1 hb) hci hc hm hl hF hL rfl hsz hst hd hcs rfl kk
theorem x_cVv9 (C : x_C p s m args meth c O cc nL own ret) (hR : x_R O K h H) (hS : va_S (oA O) s.heap H locs) {y : MethodName} {bytes : ByteArray} {maxL : Nat} {ret' : Option FieldType} {f lo b : Nat} {A1 A2 A3 A4 A5 A6 A7 A8 A9 : Value} {h' : XH} (M : x_M l O K y bytes maxL ret' f lo h [.ref b, A1, A2, A3, A4, A5, A6, A7, A8, A9] none h') {ci : Nat} (hb : K b = (ci + 1, 0)) (hci : ci < 13) {T : u_T} {N : Nat} (hc : vwCl[ci]? = some (y.cls, T, N)) (hm : x_MV y bytes maxL ret' 9) {idx : Nat} (hl : Cond.methodLink own idx y ∈ TB) (hF : f + 1 ≤ R.frames) (hL : 8 + (maxL + 11) + lo ≤ R.locals) (hsz : ls.size = nL) (hst : (rest.map fun v => v.category).sum ≤ 8) (hd : decode cc pc = .ok (.invokevirtual idx, 3)) (hcs : cells ≤ R.cells ∧ slots ≤ R.slots) (kk : ∀ (H1 : Heap) (locs1 : List Loc), x_R O K h' H1 → va_S (oA O) s.heap H1 locs1 → W p l e R s m args below meth c H1 locs1 cells slots Q (F0 m (pc + 3) ls rest)) : W p l e R s m args below meth c H locs cells slots Q (F0 m pc ls (A9 :: A8 :: A7 :: A6 :: A5 :: A4 :: A3 :: A2 :: A1 :: .ref b :: rest)) := x_callV (As := [A1, A2, A3, A4, A5, A6, A7, A8, A9]) C hR hS M (x_k1 hb) hci hc hm hl hF hL rfl hsz hst hd hcs rfl kk
end XW
theorem x_str {p : Program} {s : State} {m : MethodId} {args : Array Value} {meth : Method} {c : Code} {O : XO} {cc : ByteArray} {nL : Nat} {own : String} {ret : Option FieldType} (C : x_C p s m args meth c O cc nL own ret) (j : Nat) {q : String × Nat × String × Nat} (hq : x_sr[j]? = some q) : vk_R q.1 q.2.1 q.2.2.1 (oK O q.2.2.2) s := C.2.2.2.2.2.2.2.2.2.2.1 q (List.mem_of_getElem? hq)
