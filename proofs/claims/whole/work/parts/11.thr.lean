/-! ===== methods that throw ===== -/
def x_en : Nat → String
  | 0 => "java/lang/IndexOutOfBoundsException"
  | 1 => "java/lang/IllegalArgumentException"
  | 2 => "java/lang/IllegalStateException"
  | 3 => "java/lang/UnsupportedOperationException"
  | _ => "java/util/NoSuchElementException"
def ex_nm : List String := ["java/lang/RuntimeException", "java/lang/Exception"]
def x_xb {α β : Type} (o : Option ((Nat ⊕ α) × XH)) (k : α → XH → Option ((Nat ⊕ β) × XH)) : Option ((Nat ⊕ β) × XH) := match o with
  | none => none
  | some (.inl e, h) => some (.inl e, h)
  | some (.inr v, h) => k v h
theorem x_xbd {α β : Type} {o : Option ((Nat ⊕ α) × XH)} {k : α → XH → Option ((Nat ⊕ β) × XH)} {rr : Nat ⊕ β} {h' : XH} (hf : x_xb o k = some (rr, h')) : ∃ (s1 : Nat ⊕ α) (h1 : XH), o = some (s1, h1) ∧ (∀ e, s1 = .inl e → rr = .inl e ∧ h' = h1) ∧ (∀ v, s1 = .inr v → k v h1 = some (rr, h')) := by
  cases o with
  | none => cases hf
  | some q =>
    obtain ⟨s1, h1⟩ := q
    cases s1 with
    | inl e =>
      have hf : some ((Sum.inl e : Nat ⊕ β), h1) = some (rr, h') := hf
      cases hf
      exact ⟨.inl e, _, rfl, fun e' he => ⟨by cases he; rfl, rfl⟩, fun v hv => by cases hv⟩
    | inr v => exact ⟨.inr v, _, rfl, fun e he => (by cases he), fun w hw => by cases hw; exact hf⟩
def x_rv {α : Type} (g : α → Option Value) : Nat ⊕ α → Nat ⊕ Option Value
  | .inl e => .inl e
  | .inr v => .inr (g v)
abbrev x_gi : Int32 → Option Value := fun v => some (.int v)
abbrev x_gl : Int64 → Option Value := fun v => some (.long v)
abbrev x_gv : Unit → Option Value := fun _ => none
theorem x_rv_inl {α : Type} {g : α → Option Value} {s1 : Nat ⊕ α} {e : Nat} (h : x_rv g s1 = .inl e) : s1 = .inl e := by
  cases s1 with
  | inl a => cases h; rfl
  | inr v => cases h
theorem x_rv_inr {α : Type} {g : α → Option Value} {s1 : Nat ⊕ α} {r : Option Value} (h : x_rv g s1 = .inr r) : ∃ v, s1 = .inr v ∧ r = g v := by
  cases s1 with
  | inl a => cases h
  | inr v => cases h; exact ⟨v, rfl, rfl⟩
def x_XQ (O : XO) (K : XK) (h' : XH) (res : Nat ⊕ Option Value) : Array Value → State → Outcome → State → Prop := fun _ st oc t => ∃ r, res = .inr r ∧ oc = .returned r ∧ x_R O K h' t.heap ∧ va_F (oA O) st t
def x_XX (O : XO) (K : XK) (h' : XH) (res : Nat ⊕ Option Value) : String → State → State → Prop := fun E st t => ∃ e, res = .inl e ∧ E = x_en e ∧ x_R O K h' t.heap ∧ va_F (oA O) st t
abbrev x_rmX (f lo mc ms : Nat) : Room := { frames := f, cells := mc, slots := ms, locals := lo }
/-- the contract of a method that may throw -/
def x_MX (l : Launch) (O : XO) (K : XK) (y : MethodName) (cc : ByteArray) (nL : Nat) (ret : Option FieldType) (f lo mc ms : Nat) (h : XH) (av : List Value) (res : Nat ⊕ Option Value) (h' : XH) : Prop :=
  vx_Met l y (.code y cc nL ret :: TB) (x_rmX f lo mc ms) (x_Pc O K h av) (x_XQ O K h' res) (x_XX O K h' res) mc ms (oA O)
/-- the words of a throw -/
def x_TF (e0 ic ik : Nat) : Prop := Cond.classLink RX11 ik (x_en e0) ∈ TB ∧ Cond.initialized (x_en e0) ∈ TB ∧ (∀ w ∈ vx_atS RX11 ic (x_en e0) ex_nm, (w ∈ lw_tbl ∧ (goodWord w || x_nwk w) = true)) ∧ Bundle.fit (x_en e0) = true
theorem x_hat {p : Program} {s : State} {m : MethodId} {args : Array Value} {meth : Method} {c : Code} {O : XO} {cc : ByteArray} {nL : Nat} {own : String} {ret : Option FieldType} (C : x_C p s m args meth c O cc nL own ret) {w : Cond} (hw : w ∈ lw_tbl) (hg : (goodWord w || x_nwk w) = true) : w.before args s = true := by
  rcases (Bool.or_eq_true _ _).mp hg with g | g
  · exact C.2.2.2.2.1 w (TB_of hw g)
  · exact va_Nw.use (x_nwk_ot g) (C.2.2.2.2.2.2.2.2.2.2.2.2.2.2.2.2.2.1 w hw g)
theorem x_ot_of {w : Cond} (hg : (goodWord w || x_nwk w) = true) : vx_ot w = true := by
  rcases (Bool.or_eq_true _ _).mp hg with g | g
  · simp [vx_ot, g]
  · simp [vx_ot, x_nwk_ot g]
section XT
variable {p : Program} {l : Launch} {e : Env} {R : Room} {s : State} {m : MethodId} {args : Array Value} {below : List Frame} {meth : Method} {c : Code} {H : Heap} {locs : List Loc} {cells slots mc ms : Nat} {Q : State → Prop}
variable {O : XO} {K : XK} {h h' : XH} {cc : ByteArray} {nL : Nat} {own : String} {ret : Option FieldType} {pc : Nat} {ls : Array Slot} {rest : List Value} {res : Nat ⊕ Option Value}
theorem x_enterX {y : MethodName} {f lo : Nat} {av : List Value} (hy : plainName y.cls = true) (hn : (lg_sl av).length ≤ nL)
    (body : ∀ (p : Program) (e : Env) (s : State) (m : MethodId) (args : Array Value) (below : List Frame) (meth : Method) (c : Code), x_C p s m args meth c O cc nL y.cls ret → x_R O K h s.heap → ∀ ls : Array Slot, lv_has ls nL (lv_args 0 av) →
      W p l e (x_rmX f lo mc ms) s m args below meth c s.heap [] 0 0 (vx_MQ below (x_XQ O K h' res) (x_XX O K h' res) args s mc ms (oA O)) (F0 m 0 ls [])) : x_MX l O K y cc nL ret f lo mc ms h av res h' := by
  refine vx_ofW (cc := cc) (maxL := nL) (ret := ret) hy rfl ?_
  intro p e s m args below meth c s₁ B hml ht hv
  obtain ⟨rfl, hE, hR⟩ := hv
  have hts := atoms_spec (ws := (Cond.code y cc nL ret :: TB)) B.pre
  rw [lg_entry_eq]
  exact body p e s m _ below meth c ⟨B.exec, B.bytes, hml, findClass_of_methodNamed B.named, fun w hw => hts w (List.mem_cons_of_mem _ hw), B.notSynchronized, Or.inl ht, B.returns, hE⟩ hR _ (lv_entry av hn)
theorem xx_iret {XC : String → State → State → Prop} (C : x_C p s m args meth c O cc nL own (some .int)) (hR : x_R O K h H) (hS : va_S (oA O) s.heap H locs) {v : Int32} (hc : cells ≤ mc) (hs : slots ≤ ms) (hd : decode cc pc = .ok (.ireturn, 1)) :
    W p l e R s m args below meth c H locs cells slots (vx_MQ below (x_XQ O K h (.inr (some (.int v)))) XC args s mc ms (oA O)) (F0 m pc ls [.int v]) :=
  W.widen hc hs (vx_ret (W.iret C.1 C.2.1 C.2.2.2.2.2.2.2.1 (fun t ht _ => ⟨_, rfl, rfl, by rw [ht]; exact hR, hS.F ht⟩) hS.2.2 hd C.2.2.2.2.2.1))
theorem xx_lret {XC : String → State → State → Prop} (C : x_C p s m args meth c O cc nL own (some .long)) (hR : x_R O K h H) (hS : va_S (oA O) s.heap H locs) {v : Int64} (hc : cells ≤ mc) (hs : slots ≤ ms) (hd : decode cc pc = .ok (.lreturn, 1)) :
    W p l e R s m args below meth c H locs cells slots (vx_MQ below (x_XQ O K h (.inr (some (.long v)))) XC args s mc ms (oA O)) (F0 m pc ls [.long v]) :=
  W.widen hc hs (vx_ret (W.lret C.1 C.2.1 C.2.2.2.2.2.2.2.1 (fun t ht _ => ⟨_, rfl, rfl, by rw [ht]; exact hR, hS.F ht⟩) hS.2.2 hd C.2.2.2.2.2.1))
theorem xx_vret {XC : String → State → State → Prop} (C : x_C p s m args meth c O cc nL own none) (hR : x_R O K h H) (hS : va_S (oA O) s.heap H locs) (hc : cells ≤ mc) (hs : slots ≤ ms) (hd : decode cc pc = .ok (.return_, 1)) :
    W p l e R s m args below meth c H locs cells slots (vx_MQ below (x_XQ O K h (.inr none)) XC args s mc ms (oA O)) (F0 m pc ls []) :=
  W.widen hc hs (vx_ret (W.vret C.1 C.2.1 C.2.2.2.2.2.2.2.1 (fun t ht _ => ⟨_, rfl, rfl, by rw [ht]; exact hR, hS.F ht⟩) hS.2.2 hd C.2.2.2.2.2.1))
theorem x_XX_of (hR : x_R O K h H) (hS : va_S (oA O) s.heap H locs) {e0 : Nat} (t : State) (h1 : H.size ≤ t.heap.size) (h2 : ∀ q : Nat, q < H.size → t.heap[q]? = H[q]?) : x_XX O K h (.inl e0) (x_en e0) s t := by
  refine ⟨e0, rfl, rfl, ?_, Nat.le_trans hS.1 h1, fun q hq ha => ?_⟩
  · obtain ⟨L, hL, hP, hD, hT⟩ := hR
    exact ⟨L, hL, hP.kept (fun k x hx => h2 x.1 ((hP k x hx).lt)), hD, hT⟩
  · rw [h2 q (Nat.lt_of_lt_of_le hq hS.1)]
    exact hS.2.1 q hq ha
theorem x_thr {e0 ic ik : Nat} (F : x_TF e0 ic ik) (C : x_C p s m args meth c O cc nL RX11 ret) (hR : x_R O K h H) (hS : va_S (oA O) s.heap H locs) (hst : l.stackTraces = false) (hsz : ls.size = nL) {is sa : Nat} {text : String} (hstr : vk_R RX11 is text sa s)
    (d0 : decode cc pc = .ok (.new ik, 3)) (d3 : decode cc (pc + 3) = .ok (.dup, 1)) (d4 : decode cc (pc + 4) = .ok (.ldc is, 2)) (d6 : decode cc (pc + 6) = .ok (.invokespecial ic, 3)) (d9 : decode cc (pc + 9) = .ok (.athrow, 1))
    (hF : 5 < R.frames) (hL : (rest.map fun v => v.category).sum + 82 ≤ R.locals) (hRc : cells + 1 ≤ R.cells) (hRs : slots + 6 ≤ R.slots) (hc : cells + 1 ≤ mc) (hs : slots + 6 ≤ ms) :
    W p l e R s m args below meth c H locs cells slots (vx_MQ below (x_XQ O K h (.inl e0)) (x_XX O K h (.inl e0)) args s mc ms (oA O)) (F0 m pc ls rest) := by
  obtain ⟨f1, f2, f3, f4⟩ := F
  have hE := C.2.2.2.2.2.2.2.2
  exact vx_throwS C.1 C.2.1 hst C.2.2.2.1 f4 (by decide) (C.2.2.2.2.1 _ f1) (C.2.2.2.2.1 _ f2) hstr (fun w hw => x_hat C (f3 w hw).1 (f3 w hw).2)
    (fun w hw => by
      rcases List.mem_cons.mp hw with e | hw
      · rw [e]; exact x_ot_of (by rw [(List.mem_filter.mp f1).2]; rfl)
      · rcases List.mem_cons.mp hw with e | hw
        · rw [e]; exact x_ot_of (by rw [(List.mem_filter.mp f2).2]; rfl)
        · exact x_ot_of (f3 w hw).2)
    hE.2.2.2.2.2.2.2.1 hE.2.2.2.2.2.2.2.2.1 hS (hsz.trans C.2.2.1.symm) d0 d3 d4 d6 d9 (fun x hx => ((C.2.2.2.2.2.2.1.resolve_right (by decide)) x hx).elim) hF hL hRc hRs C.2.2.2.2.2.1
    (fun t _ h1 h2 => x_XX_of hR hS t h1 h2) hS.2.2 hc hs
theorem x_thrW {e0 ic ik : Nat} (F : x_TF e0 ic ik) (C : x_C p s m args meth c O cc nL RX11 ret) (hR : x_R O K h H) (hS : va_S (oA O) s.heap H locs) (hst : l.stackTraces = false) (hsz : ls.size = nL) {is sa : Nat} {text : String} (hstr : vk_R RX11 is text sa s)
    (d0 : decode cc pc = .ok (.new ik, 3)) (d3 : decode cc (pc + 3) = .ok (.dup, 1)) (d4 : decode cc (pc + 4) = .ok (.ldc_w is, 3)) (d6 : decode cc (pc + 7) = .ok (.invokespecial ic, 3)) (d9 : decode cc (pc + 10) = .ok (.athrow, 1))
    (hF : 5 < R.frames) (hL : (rest.map fun v => v.category).sum + 82 ≤ R.locals) (hRc : cells + 1 ≤ R.cells) (hRs : slots + 6 ≤ R.slots) (hc : cells + 1 ≤ mc) (hs : slots + 6 ≤ ms) :
    W p l e R s m args below meth c H locs cells slots (vx_MQ below (x_XQ O K h (.inl e0)) (x_XX O K h (.inl e0)) args s mc ms (oA O)) (F0 m pc ls rest) := by
  obtain ⟨f1, f2, f3, f4⟩ := F
  have hE := C.2.2.2.2.2.2.2.2
  exact vx_throwSW C.1 C.2.1 hst C.2.2.2.1 f4 (by decide) (C.2.2.2.2.1 _ f1) (C.2.2.2.2.1 _ f2) hstr (fun w hw => x_hat C (f3 w hw).1 (f3 w hw).2)
    (fun w hw => by
      rcases List.mem_cons.mp hw with e | hw
      · rw [e]; exact x_ot_of (by rw [(List.mem_filter.mp f1).2]; rfl)
      · rcases List.mem_cons.mp hw with e | hw
        · rw [e]; exact x_ot_of (by rw [(List.mem_filter.mp f2).2]; rfl)
        · exact x_ot_of (f3 w hw).2)
    hE.2.2.2.2.2.2.2.1 hE.2.2.2.2.2.2.2.2.1 hS (hsz.trans C.2.2.1.symm) d0 d3 d4 d6 d9 (fun x hx => ((C.2.2.2.2.2.2.1.resolve_right (by decide)) x hx).elim) hF hL hRc hRs C.2.2.2.2.2.1
    (fun t _ h1 h2 => x_XX_of hR hS t h1 h2) hS.2.2 hc hs
/-- a call of a method that may throw, by one without handlers -/
theorem x_xcallV (C : x_C p s m args meth c O cc nL RX11 ret) (hR : x_R O K h H) (hS : va_S (oA O) s.heap H locs) {y : MethodName} {bytes : ByteArray} {maxL : Nat} {ret' : Option FieldType} {f lo n mc' ms' : Nat} {b : Nat} {As : List Value} {res1 : Nat ⊕ Option Value} {h1 : XH}
    (M : x_MX l O K y bytes maxL ret' f lo mc' ms' h (.ref b :: As) res1 h1) {ci : Nat} (hb : (K b).1 = ci + 1) (hci : ci < 13) {T : u_T} {N : Nat} (hc : vwCl[ci]? = some (y.cls, T, N)) (hm : x_MV y bytes maxL ret' n) {idx : Nat} (hl : Cond.methodLink RX11 idx y ∈ TB)
    (hF : f + 1 ≤ R.frames) (hL : 8 + (maxL + 11) + lo ≤ R.locals) (hn : As.length = n) (hsz : ls.size = nL) (hst : (rest.map fun v => v.category).sum ≤ 8) (hd : decode cc pc = .ok (.invokevirtual idx, 3)) (hcs : cells + mc' ≤ R.cells ∧ slots + ms' ≤ R.slots)
    (hthr : ∀ e, res1 = .inl e → res = .inl e ∧ h' = h1) (hcm : cells + mc' ≤ mc) (hsm : slots + ms' ≤ ms) {st0 : List Value} (hst0 : st0 = As.reverse ++ .ref b :: rest)
    (kk : ∀ r, res1 = .inr r → ∀ (H1 : Heap) (locs1 : List Loc), x_R O K h1 H1 → va_S (oA O) s.heap H1 locs1 → W p l e R s m args below meth c H1 locs1 (cells + mc') (slots + ms') (vx_MQ below (x_XQ O K h' res) (x_XX O K h' res) args s mc ms (oA O)) (F0 m (pc + 3) ls (r.toList ++ rest))) :
    W p l e R s m args below meth c H locs cells slots (vx_MQ below (x_XQ O K h' res) (x_XX O K h' res) args s mc ms (oA O)) (F0 m pc ls st0) := by
  obtain ⟨m1, m2, m3, m4, m5, m6, m7⟩ := hm
  have hts := C.2.2.2.2.1
  have hrecv : ∃ cellB : Cell, H[b]? = some cellB ∧ cellB.vm.isStatics = false ∧ s.vm.findClass y.cls = some cellB.cls := by
    obtain ⟨L, hL, hP, hD, hT⟩ := id hR
    obtain ⟨q0, hq⟩ := va_pl_get (X := []) (f := x_cell (oX O) (oC O) K h) ((hL b).mpr (by omega))
    rw [x_cell_obj hb hci] at hq
    exact va_recv (x_K C) hP hc hq
  intro T hT X
  rcases vx_runV (As := As) (b := b) (C := y.cls) (Ts := TB) ⟨C.1, C.2.1, C.2.2.1, C.2.2.2.1, hts⟩ M ⟨callB_of n hts (TB_cons m1) rfl rfl rfl (hts _ m4) (hts _ hl) ⟨m5, m6, m7⟩ ⟨hF, hL⟩, hts _ m2, hts _ m3⟩ ⟨x_blind, hrecv, x_pre C hR hS⟩ rfl hn hsz hst0 (lv_room hst) hd hcs T hT X with ⟨v, st₀, t, T', L, h0, X', hL, e1, e2, ⟨r, hr, hv, hp, hFF⟩, st⟩ | ⟨q, st₀, t, T', L, E, ce, h0, X', hL, e1, e2, ⟨e9, he, hE9, hp, hFF⟩, hce, hcv, hcl, st⟩
  · cases hv
    obtain ⟨k1, k2, k3⟩ := vx_keep h0 e1 hS (fun _ _ hq => hq) (fun _ hq => hq) hL hFF
    obtain ⟨t2, a1, b1⟩ := kk _ hr T'.heap (locs ++ L) (by rw [e1]; exact hp) k3 T' rfl X'
    exact ⟨t2, st t2 a1, b1⟩
  · obtain ⟨k1, k2, k3⟩ := vx_keep h0 e1 hS (fun _ _ hq => hq) (fun _ hq => hq) hL hFF
    obtain ⟨hr1, hr2⟩ := hthr e9 he
    have hE' : s.vm.findClass (x_en e9) = some ce.cls := hE9 ▸ hcl
    have hout : vx_W p l e R s m args below meth c T'.heap (locs ++ L) (cells + mc') (slots + ms') (vx_MQ below (x_XQ O K h' res) (x_XX O K h' res) args s mc ms (oA O)) (F0 m pc ls rest) q :=
      vx_out (E := x_en e9) (fun x hx => ((C.2.2.2.2.2.2.1.resolve_right (by decide)) x hx).elim) C.2.2.2.2.2.1 (by rw [e1]; exact hce) hcv hE'
        (fun t9 ht9 _ => ⟨e9, hr1, rfl, by rw [ht9, e1, hr2]; exact hp, by
          refine ⟨?_, ?_⟩
          · rw [ht9]; exact k3.1
          · intro q1 hq1 ha1
            rw [ht9]; exact k3.2.1 q1 hq1 ha1⟩) k3.2.2 hcm hsm
    obtain ⟨t2, a1, b1⟩ := hout T' rfl X'
    exact ⟨t2, st.trans a1, b1⟩
end XT
set_option maxHeartbeats 1000000 in
theorem ctorThrowSX {p : Program} {l : Launch} {e : Env} {R : Room} {s : State} {m₀ : MethodId} {args : Array Value} {below : List Frame} {meth : Method} {c : Code} {W : State} {locs : List Loc} {cells slots : Nat} {ix : Nat} {rx : ByteArray} (x0 : decode rx 0 = .ok (.aload_n 0, 1)) (x1 : decode rx 1 = .ok (.aload_n 1, 1)) (x2 : decode rx 2 = .ok (.invokespecial ix, 3)) (x5 : decode rx 5 = .ok (.return_, 1)) (X : Stand p l e R s m₀ args below meth c W locs cells slots) (hexec : p.tables.exec = Jvm.exec) (htr : e.platform.stackTraces = false) {own cls : String} {names : List String} {ic : Nat}
    (hown : s.vm.findClass own = some m₀.cls) (hcls : Bundle.fit cls = true) (hnames : ∀ n ∈ names, Bundle.fit n = true)
    (h : ∀ a ∈ Bundle.ownAtomsX own ic cls ix rx names, a.before args s = true)
    (hlocs : ∀ x ∈ locs, ∀ cell, s.heap[x.base]? = some cell → cell.vm.isStatics = false)
    {a : Addr} {cX : ClassId} {kX : Class} (hfoundX : s.vm.findClass cls = some cX) (hkX : s.vm.classes[cX]? = some kX) (hcell : W.heap[a]? = some (freshCell cX kX)) (hnew : s.heap.size ≤ a)
    {msg : Value} (hmsg : msg.isRef = true)
    {g : JFrame} (hg : g.method = m₀) (hsize : g.locals.size = c.maxLocals) (hlocked : g.locked = none) (hentered : g.entered = []) {rest : List Value} (hstack : g.stack = msg :: .ref a :: .ref a :: rest)
    (hd6 : decode c.code g.pc = .ok (.invokespecial ic, 3)) (hd9 : decode c.code (g.pc + 3) = .ok (.athrow, 1)) (hout : ∀ x ∈ c.exceptionTable.toList, covers x (g.pc + 3) = false)
    (hRframes : names.length + 3 < R.frames) (hRlocals : 2 * g.monitorRoom + ((Value.ref a :: rest).map fun v => v.category).sum + (13 * (names.length + 1) + 42) ≤ R.locals) (hlocks : meth.locks = false := by first | assumption | exact BodyLoose.notSynchronized (by assumption) | exact Body.notSynchronized (by assumption)) :
    ∃ U : State, Steps p.tables e below (W.setTop g) U ∧ U.status = .running ∧ Ended U below (.threw a) ∧ s.WarmedH U.vm ∧ s.sameButNew ({ U with vm := s.vm } : State) locs cells slots ∧
      ∃ ce, U.heap[a]? = some ce ∧ Bundle.OwnCell args s cls a msg ce := by
  have howns : e.platform.frameOwnsMonitors = true := by rw [X.admits.platform]
  have hfin : e.platform.finalization = false := by rw [X.admits.platform]
  have hpl : e.platform.magicAccessors = ({} : Platform).magicAccessors := by rw [X.admits.platform]
  have a' : ∀ x, x ∈ Bundle.ownAtomsX own ic cls ix rx names → x.holds args s none s [] = true := fun x hx => h x hx
  obtain ⟨T, Z0, L, -, Y⟩ := ThrowableC.of_atoms (args := args) howns hfin hpl (fun x hx => h x (by simp [Bundle.ownAtomsX, hx]))
  obtain ⟨Z, M, LZ, LM, hnZ⟩ := Init0T.ofS_atoms (args := args) hpl L Y (fun x hx => h x (by simp [Bundle.ownAtomsX, hx]))
  obtain ⟨P1, Ps, hlen, L1, hL, hP1m, hlink1, hlink⟩ := Bundle.chainSX (args := args) hpl hnZ x0 x1 x2 x5 names cls hcls hnames (fun x hx => h x (by simp [Bundle.ownAtomsX, hx]))
  have hfound : s.vm.findClass cls = some P1.m.cls := findClass_of_methodNamed hP1m
  cases Option.some.inj (hfoundX.symm.trans hfound)
  obtain ⟨c1, kX', hc1, hk, hord, -, -, hn6⟩ := Cond.instantiable_spec (a' (.instantiable cls 6) (by simp [Bundle.ownAtomsX]))
  cases Option.some.inj (hc1.symm.trans hfound)
  cases Option.some.inj (hkX.symm.trans hk)
  have hsel0 : selectMethod e.platform s.vm P1.m.cls T.fill0 = .method T.fill0 := by
    obtain ⟨c2, r2, m2, q1, q2, q3, q4, -⟩ := Cond.selects_spec (a' (.selects cls Bundle.tFill0 Bundle.tFill0) (by simp [Bundle.ownAtomsX]))
    cases Option.some.inj (q1.symm.trans hfound)
    cases Option.some.inj (q2.symm.trans (State.methodFound?_of_named Y.fill0 (by decide)))
    cases Option.some.inj (q3.symm.trans Y.fill0)
    rw [Launch.admits_selectMethod X.admits]; exact q4
  have hselF : selectMethod e.platform s.vm P1.m.cls T.fill = .method T.fill := by
    obtain ⟨c2, r2, m2, q1, q2, q3, q4, -⟩ := Cond.selects_spec (a' (.selects cls Bundle.tFill Bundle.tFill) (by simp [Bundle.ownAtomsX]))
    cases Option.some.inj (q1.symm.trans hfound)
    cases Option.some.inj (q2.symm.trans (State.methodFound?_of_named Y.fill (by decide)))
    cases Option.some.inj (q3.symm.trans Y.fill)
    rw [Launch.admits_selectMethod X.admits]; exact q4
  obtain ⟨cellS0, hcS0, hiss⟩ := Y.statics
  obtain ⟨u0, hu0⟩ := Cond.staticRefV Y.unassigned L.unassignedStatic L.statics hcS0 hiss (a' (.isRef (.static Bundle.tN "UNASSIGNED_STACK" Bundle.steD)) (by simp [Bundle.ownAtomsX]))
  obtain ⟨sen, hsen⟩ := Cond.staticRefV Y.sentinel L.sentinelStatic L.statics hcS0 hiss (a' (.isRef (.static Bundle.tN "SUPPRESSED_SENTINEL" Bundle.listD)) (by simp [Bundle.ownAtomsX]))
  obtain ⟨ci198, i198, fB, hk198, hg198, ha198, hsB, -, hnB, htB, hffB⟩ := Cond.ownField (t := .object "java/lang/Object") Y.found L.cls (by decide +kernel) (a' (.fieldLink Bundle.tN 198 Bundle.tN "backtrace" "Ljava/lang/Object;") (by simp [Bundle.ownAtomsX])) (a' (.lays Bundle.tN Bundle.tN "backtrace" "Ljava/lang/Object;") (by simp [Bundle.ownAtomsX])) e.platform hpl
  obtain ⟨cellS, hcS', heS, -, hkeep⟩ := X.same.2.2.2.2.2 T.aS cellS0 hcS0
  have hcellS : W.heap[T.aS]? = some cellS := hcS'
  have hout' : ∀ i, (⟨T.aS, i⟩ : Loc) ∉ locs := fun i hmem => by
    have := hlocs _ hmem cellS0 hcS0
    rw [hiss] at this; cases this
  have hknownS : cellS.vm ≠ .unknown := by
    rw [heS]; intro hu
    rw [show cellS0.vm = .unknown from hu] at hiss
    cases hiss
  have hneS : T.aS ≠ a := Nat.ne_of_lt (Nat.lt_of_lt_of_le (Array.getElem?_eq_some_iff.mp hcS0).1 hnew)
  obtain ⟨iM, hffM⟩ := Y.msg
  obtain ⟨tyC, dC, hdC, hdnC⟩ := Cond.laysAt hfound hk Y.cause (a' (.lays cls Bundle.tN "cause" "Ljava/lang/Throwable;") (by simp [Bundle.ownAtomsX]))
  obtain ⟨tyS, dS, hdS, hdnS⟩ := Cond.laysAt hfound hk Y.stack (a' (.lays cls Bundle.tN "stackTrace" Bundle.steD) (by simp [Bundle.ownAtomsX]))
  obtain ⟨tyP, dP, hdP, hdnP⟩ := Cond.laysAt hfound hk Y.supp (a' (.lays cls Bundle.tN "suppressedExceptions" Bundle.listD) (by simp [Bundle.ownAtomsX]))
  obtain ⟨tyM, dM, hdM, hdnM⟩ := Cond.laysAt hfound hk hffM (a' (.lays cls Bundle.tN "detailMessage" "Ljava/lang/String;") (by simp [Bundle.ownAtomsX]))
  obtain ⟨tyB, dB, hdB, hdnB⟩ := Cond.laysAt hfound hk hffB (a' (.lays cls Bundle.tN "backtrace" "Ljava/lang/Object;") (by simp [Bundle.ownAtomsX]))
  have bC := Cond.laysApart hdB hdC hdnB hdnC (by rw [hnB, Y.causeName]; decide)
  have bS := Cond.laysApart hdB hdS hdnB hdnS (by rw [hnB, Y.stackName]; decide)
  have bP := Cond.laysApart hdB hdP hdnB hdnP (by rw [hnB, Y.suppName]; decide)
  have hskip : SkipFacts T e.platform s (fun u => u) u0 ((preparedCellV T.toThrowableT (freshCell P1.m.cls kX) a u0 sen).withEntry W.cur) :=
    ⟨{ ci198 := ci198, i198 := i198, fBack := fB }, ⟨hk198, hg198, ha198, hsB⟩, by
      have := fresh_default (c := P1.m.cls) tyB
      rw [htB] at this
      simpa [preparedCellV, Cell.setSlot, Cell.withEntry, Array.getElem?_setIfInBounds, bC, bS, bP, bC.symm, bS.symm, bP.symm, defaultValue] using this, fun _ _ => rfl⟩
  obtain ⟨tm, methC, cdC, kC, vm₁, hnC, -, -, -, -, -, -, -, hW₁, st1⟩ := Steps.initColdS (tb := p.tables) (e := e) (below := below) (s := s) (U := W) X.here hexec X.warmed hpl hown (t := Bundle.initS cls) rfl rfl (Bundle.fit_spec hcls).2
    (a' (.methodLink own ic (Bundle.initS cls)) (by simp [Bundle.ownAtomsX])) (h (.instanceMethod (Bundle.initS cls)) (by cases names <;> simp [Bundle.ownAtomsX, Bundle.chainSAtomsX, Bundle.passSAtoms])) (bytes := rx) (maxL := 2) (h (.code (Bundle.initS cls) rx 2 none) (by cases names <;> simp [Bundle.ownAtomsX, Bundle.chainSAtomsX, Bundle.passSAtoms]))
    (f := g) hg (a := a) (msg := msg) (rest := .ref a :: rest) hstack hd6
  cases Option.some.inj (hnC.symm.trans hP1m)
  have X₁ := X.noted hW₁
  obtain ⟨vm₂, X₂, st2⟩ := X₁.ctorMessageOffV hexec (g := { g with stack := .ref a :: rest }) hg hsize T L Z LZ M LM (P1 :: Ps)
    (fun P hP => by rcases List.mem_cons.mp hP with rfl | hP; exact L1; exact hL P hP) ⟨hlink1, hlink⟩ (u0 := u0) (sen := sen) (self := a) hmsg (cell := freshCell P1.m.cls kX) (cellS := cellS)
    hcell (fun _ => by simp) (by simp) rfl rfl hsel0 hselF hcellS hneS hknownS (by rw [hkeep _ (hout' _)]; exact hu0) (by rw [hkeep _ (hout' _)]; exact hsen)
    (Takes.of_laid hk hord tyC (by rw [Y.causeType]; rfl)) (Takes.of_laid hk hord tyS (by rw [Y.stackType]; exact fits_refV_array _ u0)) (Takes.of_laid hk hord tyP (by rw [Y.suppType]; exact fits_refV_object _ sen))
    (Takes.of_laid hk hord tyM (by rw [Y.msgType]; exact fits_refV_object _ ⟨msg, hmsg⟩)) Y.objLocals hskip htr [] hd6
    (by simp only [List.length_cons, hlen]; omega) (by simp only [List.length_cons, hlen]; exact hRlocals)
  obtain ⟨hwalk, hrun, hended, hWU, hsame⟩ := X₂.athrowLeaves hexec (g := { g with stack := .ref a :: rest, pc := g.pc + 3 }) hg hlocked hentered hout (a := a) (rest := rest) rfl hd9
  obtain ⟨c3, c4, hc3, hc4, hasg⟩ := Cond.castable_spec (a' (.castable cls cls) (by simp [Bundle.ownAtomsX]))
  cases Option.some.inj (hc3.symm.trans hfound)
  cases Option.some.inj (hc4.symm.trans hfound)
  have hlt : a < ((W.setVm vm₁).setVm vm₂).heap.size := (Array.getElem?_eq_some_iff.mp hcell).1
  have hU := heapAt_setCell_self (s := (W.setVm vm₁).setVm vm₂) (plainBareV T.toThrowableT (freshCell P1.m.cls kX) a u0 sen msg) hlt
  have hnM : T.fMsg.name = "detailMessage" := (State.fieldFound?_type hffM (t := .object "java/lang/String") (by decide +kernel)).1
  have nCS := Cond.laysApart hdC hdS hdnC hdnS (by rw [Y.causeName, Y.stackName]; decide)
  have nCP := Cond.laysApart hdC hdP hdnC hdnP (by rw [Y.causeName, Y.suppName]; decide)
  have nCM := Cond.laysApart hdC hdM hdnC hdnM (by rw [Y.causeName, hnM]; decide)
  have nSP := Cond.laysApart hdS hdP hdnS hdnP (by rw [Y.stackName, Y.suppName]; decide)
  have nSM := Cond.laysApart hdS hdM hdnS hdnM (by rw [Y.stackName, hnM]; decide)
  have nPM := Cond.laysApart hdP hdM hdnP hdnM (by rw [Y.suppName, hnM]; decide)
  have lC : T.fCause.slot < kX.instanceTypes.size := (Array.getElem?_eq_some_iff.mp tyC).1
  have lS : T.fStack.slot < kX.instanceTypes.size := (Array.getElem?_eq_some_iff.mp tyS).1
  have lP : T.fSupp.slot < kX.instanceTypes.size := (Array.getElem?_eq_some_iff.mp tyP).1
  have lM : T.fMsg.slot < kX.instanceTypes.size := (Array.getElem?_eq_some_iff.mp tyM).1
  have evU : ∀ o, (Term.static Bundle.tN "UNASSIGNED_STACK" Bundle.steD).eval args s o [] s = some u0.v := by
    intro o
    simp [Term.eval, State.fieldNamed?, Y.unassigned, L.unassignedStatic, L.statics, hcS0, hiss, hu0]
  have evS : ∀ o, (Term.static Bundle.tN "SUPPRESSED_SENTINEL" Bundle.listD).eval args s o [] s = some sen.v := by
    intro o
    simp [Term.eval, State.fieldNamed?, Y.sentinel, L.sentinelStatic, L.statics, hcS0, hiss, hsen]
  refine ⟨_, st1 _ (fun acts => ?_), hrun, hended, hWU, hsame.weaken (fun y hy hlt' => ?_) (Nat.le_refl _) (Nat.le_refl _), _, hU, ?_⟩
  · rw [doInvoke_state]
    exact st2 _ hwalk
  · rcases List.mem_append.mp hy with h1 | h1
    · exact h1
    · exfalso
      have hb : y.base = a := by
        simp only [List.mem_cons, List.not_mem_nil, or_false] at h1
        rcases h1 with rfl | rfl | rfl | rfl | rfl <;> rfl
      rw [hb] at hlt'
      exact Nat.not_lt.mpr hnew hlt'
  · exact { cls := hfound, self := hasg, monitor := rfl, hash := rfl, vm := rfl, size := by simp [plainBareV, preparedCellV, Cell.setSlot, hn6]
            cause := ⟨_, _, _, _, Y.cause, by simp [plainBareV, preparedCellV, Cell.setSlot, nCS.symm, nCP.symm, nCM.symm, lC]⟩
            stack := ⟨_, _, _, _, u0, Y.stack, by simp [plainBareV, preparedCellV, Cell.setSlot, nSM.symm, lS], evU⟩
            supp := ⟨_, _, _, _, sen, Y.supp, by simp [plainBareV, preparedCellV, Cell.setSlot, nSP, nPM.symm, lP], evS⟩
            msg := ⟨_, _, _, _, hffM, by simp [plainBareV, preparedCellV, Cell.setSlot, lM]⟩
            other := fun O f d c k i fd hf hy n1 n2 n3 n4 => by
              obtain ⟨ty, dd, hdd, hddn⟩ := Cond.laysAt hfound hk hf hy
              have m1 := Cond.laysApart hdd hdC hddn hdnC (by rw [Y.causeName]; exact n1)
              have m2 := Cond.laysApart hdd hdS hddn hdnS (by rw [Y.stackName]; exact n2)
              have m3 := Cond.laysApart hdd hdP hddn hdnP (by rw [Y.suppName]; exact n3)
              have m4 := Cond.laysApart hdd hdM hddn hdnM (by rw [hnM]; exact n4)
              have := fresh_default (c := P1.m.cls) ty
              simpa [plainBareV, preparedCellV, Cell.setSlot, Array.getElem?_setIfInBounds, m1, m2, m3, m4, m1.symm, m2.symm, m3.symm, m4.symm] using this }
def vx_atSX (own : String) (ic : Nat) (X : String) (ix : Nat) (rx : ByteArray) (names : List String) : List Cond := (Bundle.ownAtomsX own ic X ix rx names).filter vx_no
theorem vx_throwSWX {p : Program} {l : Launch} {e : Env} {R : Room} {s : State} {m : MethodId} {args : Array Value} {below : List Frame} {meth : Method} {c : Code} {H : Heap} {locs : List Loc} {cells slots : Nat} {ls : Array Slot} {rest : List Value} {free : Addr → Prop} {Qc : Array Value → State → Outcome → State → Prop} {XC : String → State → State → Prop} {ix : Nat} {rx : ByteArray} (x0 : decode rx 0 = .ok (.aload_n 0, 1)) (x1 : decode rx 1 = .ok (.aload_n 1, 1)) (x2 : decode rx 2 = .ok (.invokespecial ix, 3)) (x5 : decode rx 5 = .ok (.return_, 1)) {cc : ByteArray} {pc : Nat} (hexec : p.tables.exec = Jvm.exec) (hb : c.code = cc) (hl : l.stackTraces = false) {own cls text : String} {names : List String} {ik is ic mc ms sa : Nat} {A : Nat → Prop}
    (hown : s.vm.findClass own = some m.cls) (hcls : Bundle.fit cls = true) (hnames : ∀ n ∈ names, Bundle.fit n = true)
    (hk : (Cond.classLink own ik cls).before args s = true) (hini : (Cond.initialized cls).before args s = true) (hstr : vk_R own is text sa s) (hat : ∀ w ∈ vx_atSX own ic cls ix rx names, w.before args s = true)
    (hgood : ∀ w ∈ Cond.classLink own ik cls :: Cond.initialized cls :: vx_atSX own ic cls ix rx names, vx_ot w = true)
    (hU : vx_Zq Bundle.tN "UNASSIGNED_STACK" Bundle.steD A s s.heap) (hN : vx_Zq Bundle.tN "SUPPRESSED_SENTINEL" Bundle.listD A s s.heap) (hS : va_S A s.heap H locs) (hsize : ls.size = c.maxLocals)
    (d0 : decode cc pc = .ok (.new ik, 3)) (d3 : decode cc (pc + 3) = .ok (.dup, 1)) (d4 : decode cc (pc + 4) = .ok (.ldc_w is, 3)) (d7 : decode cc (pc + 7) = .ok (.invokespecial ic, 3)) (d10 : decode cc (pc + 10) = .ok (.athrow, 1))
    (hout : ∀ x ∈ c.exceptionTable.toList, covers x (pc + 10) = false)
    (hRframes : names.length + 3 < R.frames) (hRlocals : (rest.map fun v => v.category).sum + (13 * (names.length + 1) + 43) ≤ R.locals) (hRcells : cells + 1 ≤ R.cells) (hRslots : slots + 6 ≤ R.slots) (hlocks : meth.locks = false)
    (hx : ∀ t : State, s.vm.Alike t.vm → H.size ≤ t.heap.size → (∀ q : Nat, q < H.size → t.heap[q]? = H[q]?) → XC cls s t)
    (hf : ∀ z ∈ locs, free z.base) (hc : cells + 1 ≤ mc) (hs : slots + 6 ≤ ms) :
    W p l e R s m args below meth c H locs cells slots (vx_MQ below Qc XC args s mc ms free) (F0 m pc ls rest) := by
  intro T hT X
  have htr : e.platform.stackTraces = false := (show e.platform.stackTraces = l.stackTraces by rw [X.admits.platform]).trans hl
  have Y := vx_rebase X (R' := { frames := R.frames, locals := R.locals, cells := 1, slots := 6 }) (Nat.le_refl _) (Nat.le_refl _) hRcells hRslots
  obtain ⟨s', hA⟩ : ∃ z, z = (T.setVm s.vm).setFrames (.invoking m args :: below) := ⟨_, rfl⟩
  rw [← hA] at Y
  have hvm : s'.vm = s.vm := by rw [hA]; rfl
  have hhp : s'.heap = H := by rw [hA]; exact hT
  have hW0 : s.WarmedH s'.vm := by rw [hvm]; exact State.WarmedH.refl s
  have hat' : ∀ w ∈ vx_atSX own ic cls ix rx names, w.before args s' = true := fun w hw => vx_ot_at hW0 hvm.symm (hgood w (List.mem_cons_of_mem _ (List.mem_cons_of_mem _ hw))) (hat w hw)
  have hk' : (Cond.classLink own ik cls).before args s' = true := vx_ot_at hW0 hvm.symm (hgood _ List.mem_cons_self) hk
  have hini' : (Cond.initialized cls).before args s' = true := vx_ot_at hW0 hvm.symm (hgood _ (List.mem_cons_of_mem _ List.mem_cons_self)) hini
  have hU' : vx_Zq Bundle.tN "UNASSIGNED_STACK" Bundle.steD A s' s'.heap := by rw [hhp]; exact vx_Zq.moved hW0.alike (hU.kept hS.2.1)
  have hN' : vx_Zq Bundle.tN "SUPPRESSED_SENTINEL" Bundle.listD A s' s'.heap := by rw [hhp]; exact vx_Zq.moved hW0.alike (hN.kept hS.2.1)
  have h : ∀ w ∈ Bundle.ownAtomsX own ic cls ix rx names, w.before args s' = true := vx_own hat' (vx_isRefq hU'.1) (vx_isRefq hN'.1) hU'.2.word hN'.2.word
  have hown' : s'.vm.findClass own = some m.cls := by rw [hvm]; exact hown
  have hins : (Cond.instantiable cls 6).before args s' = true := h _ (by simp [Bundle.ownAtomsX])
  obtain ⟨vm₁, cX, kX, hfX, hkX, -, -, X₁, st1⟩ := Y.newCold hexec (own := own) (C := cls) (index := ik) (n := 6) hown' hk' hins hini'
    (g := F0 m pc ls rest) rfl (by rw [hb]; exact d0) (Nat.le_refl _) (Nat.le_refl _)
  generalize hT1 : (T.setVm vm₁).pushCell { cls := cX, slots := kX.instanceTypes.map defaultValue, vm := .none } = T1 at X₁ st1
  have hcat : (Value.ref T.heap.size).category = 1 := rfl
  have hcellA : T1.heap[T.heap.size]? = some (freshCell cX kX) := by rw [← hT1]; exact State.heap_pushCell_size _ _
  have d3' : decode c.code (pc + 3) = .ok (.dup, 1) := by rw [hb]; exact d3
  have d4' : decode c.code (pc + 4) = .ok (.ldc_w is, 3) := by rw [hb]; exact d4
  have hstr' : vk_R own is text sa s' := vk_R.warm hW0 hstr
  obtain ⟨U, hsteps, hrun, hend, hW, hsame, ce, hce, hO⟩ := ctorThrowSX x0 x1 x2 x5 X₁ hexec htr (own := own) (cls := cls) (names := names) (ic := ic) hown' hcls hnames h (fun x hx => nomatch hx) hfX hkX hcellA (by rw [hhp, hT]; exact Nat.le_refl _) (msg := .ref sa) rfl
    (g := { method := m, pc := pc + 7, locals := ls, stack := .ref sa :: .ref T.heap.size :: .ref T.heap.size :: rest, locked := none }) rfl hsize rfl rfl (rest := rest) rfl
    (by rw [hb]; exact d7) (by rw [hb]; exact d10) hout hRframes (by simp only [List.map_cons, List.sum_cons, hcat]; omega) hlocks
  obtain ⟨f1, f2⟩ := vx_frame hsame
  rw [hhp] at f1 f2
  have hWs : s.WarmedH U.vm := State.WarmedH.trans hW0 hW
  have hcl : s.vm.findClass cls = some ce.cls := by
    have h9 := hO.cls
    rw [hvm] at h9
    exact h9
  have hall : s.sameButNew ({ U with vm := s.vm } : State) locs mc ms := by
    subst hA
    obtain ⟨e1, e2⟩ := hsame
    rw [State.setFrames_setFrames] at e1
    have h2 : (T.setVm s.vm).sameButNew ({ U with vm := s.vm } : State) [] (0 + 1) (0 + 6) := ⟨e1, e2⟩
    have h3 := X.same.trans h2
    rw [List.append_nil] at h3
    exact h3.mono hc hs
  refine ⟨U, ?_, .threw T.heap.size, hrun, hend, Or.inr ⟨T.heap.size, rfl, cls, ce, locs, hx U hWs.alike f1 (fun q hq => f2 q hq (fun z hz => nomatch hz)), hce, hO.vm, hcl, hWs, hall, hf⟩⟩
  refine st1 _ ?_
  show Steps p.tables e below (T1.setTop { method := m, pc := pc + 3, locals := ls, stack := .ref T.heap.size :: rest, locked := none }) _
  jvm_step X₁.here [X₁.here.top, hexec, d3', Value.category]
  exact X₁.ldcStringW hexec (own := own) (text := text) (index := is) (a := sa) hown' hstr'.1 hstr'.2
    (g := { method := m, pc := pc + 4, locals := ls, stack := .ref T.heap.size :: .ref T.heap.size :: rest, locked := none }) rfl d4' _ hsteps
theorem x_thx {α : Type} {g : α → Option Value} {β : Type} {s1 : Nat ⊕ β} {rr : Nat ⊕ α} {h' h1 : XH} (ht : ∀ e, s1 = .inl e → rr = .inl e ∧ h' = h1) : ∀ e, s1 = .inl e → x_rv g rr = .inl e ∧ h' = h1 := fun e he => ⟨by rw [(ht e he).1]; rfl, (ht e he).2⟩
def x_TF4 (ic ik ix : Nat) (rx : ByteArray) : Prop := Cond.classLink RX11 ik (x_en 4) ∈ TB ∧ Cond.initialized (x_en 4) ∈ TB ∧ (∀ w ∈ vx_atSX RX11 ic (x_en 4) ix rx ex_nm, (w ∈ lw_tbl ∧ (goodWord w || x_nwk w) = true)) ∧ Bundle.fit (x_en 4) = true ∧ decode rx 0 = .ok (.aload_n 0, 1) ∧ decode rx 1 = .ok (.aload_n 1, 1) ∧ decode rx 2 = .ok (.invokespecial ix, 3) ∧ decode rx 5 = .ok (.return_, 1)
theorem x_thr4W {p : Program} {l : Launch} {e : Env} {R : Room} {s : State} {m : MethodId} {args : Array Value} {below : List Frame} {meth : Method} {c : Code} {H : Heap} {locs : List Loc} {cells slots mc ms : Nat} {O : XO} {K : XK} {h : XH} {cc : ByteArray} {nL : Nat} {ret : Option FieldType} {pc : Nat} {ls : Array Slot} {rest : List Value}
    {ic ik ix : Nat} {rx : ByteArray} (F : x_TF4 ic ik ix rx) (C : x_C p s m args meth c O cc nL RX11 ret) (hR : x_R O K h H) (hS : va_S (oA O) s.heap H locs) (hst : l.stackTraces = false) (hsz : ls.size = nL) {is sa : Nat} {text : String} (hstr : vk_R RX11 is text sa s)
    (d0 : decode cc pc = .ok (.new ik, 3)) (d3 : decode cc (pc + 3) = .ok (.dup, 1)) (d4 : decode cc (pc + 4) = .ok (.ldc_w is, 3)) (d6 : decode cc (pc + 7) = .ok (.invokespecial ic, 3)) (d9 : decode cc (pc + 10) = .ok (.athrow, 1))
    (hF : 5 < R.frames) (hL : (rest.map fun v => v.category).sum + 82 ≤ R.locals) (hRc : cells + 1 ≤ R.cells) (hRs : slots + 6 ≤ R.slots) (hc : cells + 1 ≤ mc) (hs : slots + 6 ≤ ms) :
    W p l e R s m args below meth c H locs cells slots (vx_MQ below (x_XQ O K h (.inl 4)) (x_XX O K h (.inl 4)) args s mc ms (oA O)) (F0 m pc ls rest) := by
  obtain ⟨f1, f2, f3, f4, x0, x1, x2, x5⟩ := F
  have hE := C.2.2.2.2.2.2.2.2
  exact vx_throwSWX x0 x1 x2 x5 C.1 C.2.1 hst C.2.2.2.1 f4 (by decide) (C.2.2.2.2.1 _ f1) (C.2.2.2.2.1 _ f2) hstr (fun w hw => x_hat C (f3 w hw).1 (f3 w hw).2)
    (fun w hw => by
      rcases List.mem_cons.mp hw with e | hw
      · rw [e]; exact x_ot_of (by rw [(List.mem_filter.mp f1).2]; rfl)
      · rcases List.mem_cons.mp hw with e | hw
        · rw [e]; exact x_ot_of (by rw [(List.mem_filter.mp f2).2]; rfl)
        · exact x_ot_of (f3 w hw).2)
    hE.2.2.2.2.2.2.2.1 hE.2.2.2.2.2.2.2.2.1 hS (hsz.trans C.2.2.1.symm) d0 d3 d4 d6 d9 (fun x hx => ((C.2.2.2.2.2.2.1.resolve_right (by decide)) x hx).elim) hF hL hRc hRs C.2.2.2.2.2.1
    (fun t _ h1 h2 => x_XX_of hR hS t h1 h2) hS.2.2 hc hs
theorem tw_at0 : ∀ w ∈ vx_atS RX11 128 (x_en 0) ex_nm, (w ∈ lw_tbl ∧ (goodWord w || x_nwk w) = true) := by decide +kernel
theorem tf_0 : x_TF 0 128 124 := ⟨tw_883, tw_131, tw_at0, by decide⟩
theorem tw_at1 : ∀ w ∈ vx_atS RX11 96 (x_en 1) ex_nm, (w ∈ lw_tbl ∧ (goodWord w || x_nwk w) = true) := by decide +kernel
theorem tf_1 : x_TF 1 96 92 := ⟨tw_781, tw_129, tw_at1, by decide⟩
theorem tw_at2 : ∀ w ∈ vx_atS RX11 193 (x_en 2) ex_nm, (w ∈ lw_tbl ∧ (goodWord w || x_nwk w) = true) := by decide +kernel
theorem tf_2 : x_TF 2 193 189 := ⟨tw_974, tw_132, tw_at2, by decide⟩
theorem tw_at3 : ∀ w ∈ vx_atS RX11 106 (x_en 3) ex_nm, (w ∈ lw_tbl ∧ (goodWord w || x_nwk w) = true) := by decide +kernel
theorem tf_3 : x_TF 3 106 102 := ⟨tw_850, tw_130, tw_at3, by decide⟩
def x_six13 : ByteArray := ⟨#[0x2a, 0x2b, 0xb7, 0x00, 0x0d, 0xb1]⟩
theorem tw_at4 : ∀ w ∈ vx_atSX RX11 272 (x_en 4) 13 x_six13 ex_nm, (w ∈ lw_tbl ∧ (goodWord w || x_nwk w) = true) := by decide +kernel
theorem tf_4 : x_TF4 272 268 13 x_six13 := ⟨tw_1079, tw_133, tw_at4, by decide, by decide +kernel, by decide +kernel, by decide +kernel, by decide +kernel⟩
theorem x_xVv0 {p : Program} {l : Launch} {e : Env} {R : Room} {s : State} {m : MethodId} {args : Array Value} {below : List Frame} {meth : Method} {c : Code} {H : Heap} {locs : List Loc} {cells slots mc ms : Nat} {O : XO} {K : XK} {h h' : XH} {cc : ByteArray} {nL : Nat} {ret : Option FieldType} {pc : Nat} {ls : Array Slot} {rest : List Value} {res : Nat ⊕ Option Value} (C : x_C p s m args meth c O cc nL RX11 ret) (hR : x_R O K h H) (hS : va_S (oA O) s.heap H locs) {y : MethodName} {bytes : ByteArray} {maxL : Nat} {ret' : Option FieldType} {f lo mc' ms' b : Nat} {s1 : Nat ⊕ Unit} {h1 : XH} (M : x_MX l O K y bytes maxL ret' f lo mc' ms' h [.ref b] (x_rv x_gv s1) h1) {ci : Nat} (hb : K b = (ci + 1, 0)) (hci : ci < 13) {T : u_T} {N : Nat} (hc : vwCl[ci]? = some (y.cls, T, N)) (hm : x_MV y bytes maxL ret' 0) {idx : Nat} (hl : Cond.methodLink RX11 idx y ∈ TB) (hF : f + 1 ≤ R.frames) (hL : 8 + (maxL + 11) + lo ≤ R.locals) (hsz : ls.size = nL) (hst : (rest.map fun v => v.category).sum ≤ 8) (hd : decode cc pc = .ok (.invokevirtual idx, 3)) (hcs : cells + mc' ≤ R.cells ∧ slots + ms' ≤ R.slots) (hthr : ∀ e, s1 = .inl e → res = .inl e ∧ h' = h1) (hcm : cells + mc' ≤ mc) (hsm : slots + ms' ≤ ms) (kk : s1 = .inr () → ∀ (H1 : Heap) (locs1 : List Loc), x_R O K h1 H1 → va_S (oA O) s.heap H1 locs1 → W p l e R s m args below meth c H1 locs1 (cells + mc') (slots + ms') (vx_MQ below (x_XQ O K h' res) (x_XX O K h' res) args s mc ms (oA O)) (F0 m (pc + 3) ls rest)) : W p l e R s m args below meth c H locs cells slots (vx_MQ below (x_XQ O K h' res) (x_XX O K h' res) args s mc ms (oA O)) (F0 m pc ls (.ref b :: rest)) := x_xcallV (As := []) C hR hS M (x_k1 hb) hci hc hm hl hF hL rfl hsz hst hd hcs (fun e he => hthr e (x_rv_inl he)) hcm hsm rfl (fun r hr H1 locs1 => by obtain ⟨v, hv, rfl⟩ := x_rv_inr hr; exact kk hv H1 locs1)
theorem x_xVv1 {p : Program} {l : Launch} {e : Env} {R : Room} {s : State} {m : MethodId} {args : Array Value} {below : List Frame} {meth : Method} {c : Code} {H : Heap} {locs : List Loc} {cells slots mc ms : Nat} {O : XO} {K : XK} {h h' : XH} {cc : ByteArray} {nL : Nat} {ret : Option FieldType} {pc : Nat} {ls : Array Slot} {rest : List Value} {res : Nat ⊕ Option Value} (C : x_C p s m args meth c O cc nL RX11 ret) (hR : x_R O K h H) (hS : va_S (oA O) s.heap H locs) {y : MethodName} {bytes : ByteArray} {maxL : Nat} {ret' : Option FieldType} {f lo mc' ms' b : Nat} {A1 : Value} {s1 : Nat ⊕ Unit} {h1 : XH} (M : x_MX l O K y bytes maxL ret' f lo mc' ms' h [.ref b, A1] (x_rv x_gv s1) h1) {ci : Nat} (hb : K b = (ci + 1, 0)) (hci : ci < 13) {T : u_T} {N : Nat} (hc : vwCl[ci]? = some (y.cls, T, N)) (hm : x_MV y bytes maxL ret' 1) {idx : Nat} (hl : Cond.methodLink RX11 idx y ∈ TB) (hF : f + 1 ≤ R.frames) (hL : 8 + (maxL + 11) + lo ≤ R.locals) (hsz : ls.size = nL) (hst : (rest.map fun v => v.category).sum ≤ 8) (hd : decode cc pc = .ok (.invokevirtual idx, 3)) (hcs : cells + mc' ≤ R.cells ∧ slots + ms' ≤ R.slots) (hthr : ∀ e, s1 = .inl e → res = .inl e ∧ h' = h1) (hcm : cells + mc' ≤ mc) (hsm : slots + ms' ≤ ms) (kk : s1 = .inr () → ∀ (H1 : Heap) (locs1 : List Loc), x_R O K h1 H1 → va_S (oA O) s.heap H1 locs1 → W p l e R s m args below meth c H1 locs1 (cells + mc') (slots + ms') (vx_MQ below (x_XQ O K h' res) (x_XX O K h' res) args s mc ms (oA O)) (F0 m (pc + 3) ls rest)) : W p l e R s m args below meth c H locs cells slots (vx_MQ below (x_XQ O K h' res) (x_XX O K h' res) args s mc ms (oA O)) (F0 m pc ls (A1 :: .ref b :: rest)) := x_xcallV (As := [A1]) C hR hS M (x_k1 hb) hci hc hm hl hF hL rfl hsz hst hd hcs (fun e he => hthr e (x_rv_inl he)) hcm hsm rfl (fun r hr H1 locs1 => by obtain ⟨v, hv, rfl⟩ := x_rv_inr hr; exact kk hv H1 locs1)
theorem x_xVv2 {p : Program} {l : Launch} {e : Env} {R : Room} {s : State} {m : MethodId} {args : Array Value} {below : List Frame} {meth : Method} {c : Code} {H : Heap} {locs : List Loc} {cells slots mc ms : Nat} {O : XO} {K : XK} {h h' : XH} {cc : ByteArray} {nL : Nat} {ret : Option FieldType} {pc : Nat} {ls : Array Slot} {rest : List Value} {res : Nat ⊕ Option Value} (C : x_C p s m args meth c O cc nL RX11 ret) (hR : x_R O K h H) (hS : va_S (oA O) s.heap H locs) {y : MethodName} {bytes : ByteArray} {maxL : Nat} {ret' : Option FieldType} {f lo mc' ms' b : Nat} {A1 A2 : Value} {s1 : Nat ⊕ Unit} {h1 : XH} (M : x_MX l O K y bytes maxL ret' f lo mc' ms' h [.ref b, A1, A2] (x_rv x_gv s1) h1) {ci : Nat} (hb : K b = (ci + 1, 0)) (hci : ci < 13) {T : u_T} {N : Nat} (hc : vwCl[ci]? = some (y.cls, T, N)) (hm : x_MV y bytes maxL ret' 2) {idx : Nat} (hl : Cond.methodLink RX11 idx y ∈ TB) (hF : f + 1 ≤ R.frames) (hL : 8 + (maxL + 11) + lo ≤ R.locals) (hsz : ls.size = nL) (hst : (rest.map fun v => v.category).sum ≤ 8) (hd : decode cc pc = .ok (.invokevirtual idx, 3)) (hcs : cells + mc' ≤ R.cells ∧ slots + ms' ≤ R.slots) (hthr : ∀ e, s1 = .inl e → res = .inl e ∧ h' = h1) (hcm : cells + mc' ≤ mc) (hsm : slots + ms' ≤ ms) (kk : s1 = .inr () → ∀ (H1 : Heap) (locs1 : List Loc), x_R O K h1 H1 → va_S (oA O) s.heap H1 locs1 → W p l e R s m args below meth c H1 locs1 (cells + mc') (slots + ms') (vx_MQ below (x_XQ O K h' res) (x_XX O K h' res) args s mc ms (oA O)) (F0 m (pc + 3) ls rest)) : W p l e R s m args below meth c H locs cells slots (vx_MQ below (x_XQ O K h' res) (x_XX O K h' res) args s mc ms (oA O)) (F0 m pc ls (A2 :: A1 :: .ref b :: rest)) := x_xcallV (As := [A1, A2]) C hR hS M (x_k1 hb) hci hc hm hl hF hL rfl hsz hst hd hcs (fun e he => hthr e (x_rv_inl he)) hcm hsm rfl (fun r hr H1 locs1 => by obtain ⟨v, hv, rfl⟩ := x_rv_inr hr; exact kk hv H1 locs1)
theorem x_xVv3 {p : Program} {l : Launch} {e : Env} {R : Room} {s : State} {m : MethodId} {args : Array Value} {below : List Frame} {meth : Method} {c : Code} {H : Heap} {locs : List Loc} {cells slots mc ms : Nat} {O : XO} {K : XK} {h h' : XH} {cc : ByteArray} {nL : Nat} {ret : Option FieldType} {pc : Nat} {ls : Array Slot} {rest : List Value} {res : Nat ⊕ Option Value} (C : x_C p s m args meth c O cc nL RX11 ret) (hR : x_R O K h H) (hS : va_S (oA O) s.heap H locs) {y : MethodName} {bytes : ByteArray} {maxL : Nat} {ret' : Option FieldType} {f lo mc' ms' b : Nat} {A1 A2 A3 : Value} {s1 : Nat ⊕ Unit} {h1 : XH} (M : x_MX l O K y bytes maxL ret' f lo mc' ms' h [.ref b, A1, A2, A3] (x_rv x_gv s1) h1) {ci : Nat} (hb : K b = (ci + 1, 0)) (hci : ci < 13) {T : u_T} {N : Nat} (hc : vwCl[ci]? = some (y.cls, T, N)) (hm : x_MV y bytes maxL ret' 3) {idx : Nat} (hl : Cond.methodLink RX11 idx y ∈ TB) (hF : f + 1 ≤ R.frames) (hL : 8 + (maxL + 11) + lo ≤ R.locals) (hsz : ls.size = nL) (hst : (rest.map fun v => v.category).sum ≤ 8) (hd : decode cc pc = .ok (.invokevirtual idx, 3)) (hcs : cells + mc' ≤ R.cells ∧ slots + ms' ≤ R.slots) (hthr : ∀ e, s1 = .inl e → res = .inl e ∧ h' = h1) (hcm : cells + mc' ≤ mc) (hsm : slots + ms' ≤ ms) (kk : s1 = .inr () → ∀ (H1 : Heap) (locs1 : List Loc), x_R O K h1 H1 → va_S (oA O) s.heap H1 locs1 → W p l e R s m args below meth c H1 locs1 (cells + mc') (slots + ms') (vx_MQ below (x_XQ O K h' res) (x_XX O K h' res) args s mc ms (oA O)) (F0 m (pc + 3) ls rest)) : W p l e R s m args below meth c H locs cells slots (vx_MQ below (x_XQ O K h' res) (x_XX O K h' res) args s mc ms (oA O)) (F0 m pc ls (A3 :: A2 :: A1 :: .ref b :: rest)) := x_xcallV (As := [A1, A2, A3]) C hR hS M (x_k1 hb) hci hc hm hl hF hL rfl hsz hst hd hcs (fun e he => hthr e (x_rv_inl he)) hcm hsm rfl (fun r hr H1 locs1 => by obtain ⟨v, hv, rfl⟩ := x_rv_inr hr; exact kk hv H1 locs1)
