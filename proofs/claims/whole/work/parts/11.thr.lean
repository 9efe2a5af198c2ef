/-! ===== methods that throw ===== -/
def x_en : Nat → String
  | 0 => "java/lang/IndexOutOfBoundsException"
  | 1 => "java/lang/IllegalArgumentException"
  | 2 => "java/lang/IllegalStateException"
  | 3 => "java/lang/UnsupportedOperationException"
  | _ => "java/util/NoSuchElementException"
def ex_nm : List String := ["java/lang/RuntimeException", "java/lang/Exception"]
def x_xb {α β : Type} (o : Option ((Nat ⊕ α) × XH)) (k : α → XH → Option ((Nat ⊕ β) × XH)) : Option ((Nat ⊕ β) × XH) := match o with
  | none => none
  | some (.inl e, h) => some (.inl e, h)
  | some (.inr v, h) => k v h
theorem x_xbd {α β : Type} {o : Option ((Nat ⊕ α) × XH)} {k : α → XH → Option ((Nat ⊕ β) × XH)} {rr : Nat ⊕ β} {h' : XH} (hf : x_xb o k = some (rr, h')) : ∃ (s1 : Nat ⊕ α) (h1 : XH), o = some (s1, h1) ∧ (∀ e, s1 = .inl e → rr = .inl e ∧ h' = h1) ∧ (∀ v, s1 = .inr v → k v h1 = some (rr, h')) := by
  cases o with
  | none => cases hf
  | some q =>
    obtain ⟨s1, h1⟩ := q
    cases s1 with
    | inl e =>
      have hf : some ((Sum.inl e : Nat ⊕ β), h1) = some (rr, h') := hf
      cases hf
      exact ⟨.inl e, _, rfl, fun e' he => ⟨by cases he; rfl, rfl⟩, fun v hv => by cases hv⟩
    | inr v => exact ⟨.inr v, _, rfl, fun e he => (by cases he), fun w hw => by cases hw; exact hf⟩
def x_rv {α : Type} (g : α → Option Value) : Nat ⊕ α → Nat ⊕ Option Value
  | .inl e => .inl e
  | .inr v => .inr (g v)
abbrev x_gi : Int32 → Option Value := fun v => some (.int v)
abbrev x_gl : Int64 → Option Value := fun v => some (.long v)
abbrev x_gv : Unit → Option Value := fun _ => none
theorem x_rv_inl {α : Type} {g : α → Option Value} {s1 : Nat ⊕ α} {e : Nat} (h : x_rv g s1 = .inl e) : s1 = .inl e := by
  cases s1 with
  | inl a => cases h; rfl
  | inr v => cases h
theorem x_rv_inr {α : Type} {g : α → Option Value} {s1 : Nat ⊕ α} {r : Option Value} (h : x_rv g s1 = .inr r) : ∃ v, s1 = .inr v ∧ r = g v := by
  cases s1 with
  | inl a => cases h
  | inr v => cases h; exact ⟨v, rfl, rfl⟩
def x_XQ (O : XO) (K : XK) (h' : XH) (res : Nat ⊕ Option Value) : Array Value → State → Outcome → State → Prop := fun _ st oc t => ∃ r, res = .inr r ∧ oc = .returned r ∧ x_R O K h' t.heap ∧ va_F (oA O) st t
def x_XX (O : XO) (K : XK) (h' : XH) (res : Nat ⊕ Option Value) : String → State → State → Prop := fun E st t => ∃ e, res = .inl e ∧ E = x_en e ∧ x_R O K h' t.heap ∧ va_F (oA O) st t
abbrev x_rmX (f lo mc ms : Nat) : Room := { frames := f, cells := mc, slots := ms, locals := lo }
/-- the contract of a method that may throw -/
def x_MX (l : Launch) (O : XO) (K : XK) (y : MethodName) (cc : ByteArray) (nL : Nat) (ret : Option FieldType) (f lo mc ms : Nat) (h : XH) (av : List Value) (res : Nat ⊕ Option Value) (h' : XH) : Prop :=
  vx_Met l y (.code y cc nL ret :: TB) (x_rmX f lo mc ms) (x_Pc O K h av) (x_XQ O K h' res) (x_XX O K h' res) mc ms (oA O)
/-- the words of a throw -/
def x_TF (e0 ic ik : Nat) : Prop := Cond.classLink RX11 ik (x_en e0) ∈ TB ∧ Cond.initialized (x_en e0) ∈ TB ∧ (∀ w ∈ vx_atS RX11 ic (x_en e0) ex_nm, (w ∈ lw_tbl ∧ (goodWord w || x_nwk w) = true)) ∧ Bundle.fit (x_en e0) = true
theorem x_hat {p : Program} {s : State} {m : MethodId} {args : Array Value} {meth : Method} {c : Code} {O : XO} {cc : ByteArray} {nL : Nat} {own : String} {ret : Option FieldType} (C : x_C p s m args meth c O cc nL own ret) {w : Cond} (hw : w ∈ lw_tbl) (hg : (goodWord w || x_nwk w) = true) : w.before args s = true := by
  rcases (Bool.or_eq_true _ _).mp hg with g | g
  · exact C.2.2.2.2.1 w (TB_of hw g)
  · exact va_Nw.use (x_nwk_ot g) (C.2.2.2.2.2.2.2.2.2.2.2.2.2.2.2.2.2.1 w hw g)
theorem x_ot_of {w : Cond} (hg : (goodWord w || x_nwk w) = true) : vx_ot w = true := by
  rcases (Bool.or_eq_true _ _).mp hg with g | g
  · simp [vx_ot, g]
  · simp [vx_ot, x_nwk_ot g]
section XT
variable {p : Program} {l : Launch} {e : Env} {R : Room} {s : State} {m : MethodId} {args : Array Value} {below : List Frame} {meth : Method} {c : Code} {H : Heap} {locs : List Loc} {cells slots mc ms : Nat} {Q : State → Prop}
variable {O : XO} {K : XK} {h h' : XH} {cc : ByteArray} {nL : Nat} {own : String} {ret : Option FieldType} {pc : Nat} {ls : Array Slot} {rest : List Value} {res : Nat ⊕ Option Value}
theorem x_enterX {y : MethodName} {f lo : Nat} {av : List Value} (hy : plainName y.cls = true) (hn : (lg_sl av).length ≤ nL)
    (body : ∀ (p : Program) (e : Env) (s : State) (m : MethodId) (args : Array Value) (below : List Frame) (meth : Method) (c : Code), x_C p s m args meth c O cc nL y.cls ret → x_R O K h s.heap → ∀ ls : Array Slot, lv_has ls nL (lv_args 0 av) →
      W p l e (x_rmX f lo mc ms) s m args below meth c s.heap [] 0 0 (vx_MQ below (x_XQ O K h' res) (x_XX O K h' res) args s mc ms (oA O)) (F0 m 0 ls [])) : x_MX l O K y cc nL ret f lo mc ms h av res h' := by
  refine vx_ofW (cc := cc) (maxL := nL) (ret := ret) hy rfl ?_
  intro p e s m args below meth c s₁ B hml ht hv
  obtain ⟨rfl, hE, hR⟩ := hv
  have hts := atoms_spec (ws := (Cond.code y cc nL ret :: TB)) B.pre
  rw [lg_entry_eq]
  exact body p e s m _ below meth c ⟨B.exec, B.bytes, hml, findClass_of_methodNamed B.named, fun w hw => hts w (List.mem_cons_of_mem _ hw), B.notSynchronized, Or.inl ht, B.returns, hE⟩ hR _ (lv_entry av hn)
theorem xx_iret {XC : String → State → State → Prop} (C : x_C p s m args meth c O cc nL own (some .int)) (hR : x_R O K h H) (hS : va_S (oA O) s.heap H locs) {v : Int32} (hc : cells ≤ mc) (hs : slots ≤ ms) (hd : decode cc pc = .ok (.ireturn, 1)) :
    W p l e R s m args below meth c H locs cells slots (vx_MQ below (x_XQ O K h (.inr (some (.int v)))) XC args s mc ms (oA O)) (F0 m pc ls [.int v]) :=
  W.widen hc hs (vx_ret (W.iret C.1 C.2.1 C.2.2.2.2.2.2.2.1 (fun t ht _ => ⟨_, rfl, rfl, by rw [ht]; exact hR, hS.F ht⟩) hS.2.2 hd C.2.2.2.2.2.1))
theorem xx_lret {XC : String → State → State → Prop} (C : x_C p s m args meth c O cc nL own (some .long)) (hR : x_R O K h H) (hS : va_S (oA O) s.heap H locs) {v : Int64} (hc : cells ≤ mc) (hs : slots ≤ ms) (hd : decode cc pc = .ok (.lreturn, 1)) :
    W p l e R s m args below meth c H locs cells slots (vx_MQ below (x_XQ O K h (.inr (some (.long v)))) XC args s mc ms (oA O)) (F0 m pc ls [.long v]) :=
  W.widen hc hs (vx_ret (W.lret C.1 C.2.1 C.2.2.2.2.2.2.2.1 (fun t ht _ => ⟨_, rfl, rfl, by rw [ht]; exact hR, hS.F ht⟩) hS.2.2 hd C.2.2.2.2.2.1))
theorem xx_vret {XC : String → State → State → Prop} (C : x_C p s m args meth c O cc nL own none) (hR : x_R O K h H) (hS : va_S (oA O) s.heap H locs) (hc : cells ≤ mc) (hs : slots ≤ ms) (hd : decode cc pc = .ok (.return_, 1)) :
    W p l e R s m args below meth c H locs cells slots (vx_MQ below (x_XQ O K h (.inr none)) XC args s mc ms (oA O)) (F0 m pc ls []) :=
  W.widen hc hs (vx_ret (W.vret C.1 C.2.1 C.2.2.2.2.2.2.2.1 (fun t ht _ => ⟨_, rfl, rfl, by rw [ht]; exact hR, hS.F ht⟩) hS.2.2 hd C.2.2.2.2.2.1))
theorem x_XX_of (hR : x_R O K h H) (hS : va_S (oA O) s.heap H locs) {e0 : Nat} (t : State) (h1 : H.size ≤ t.heap.size) (h2 : ∀ q : Nat, q < H.size → t.heap[q]? = H[q]?) : x_XX O K h (.inl e0) (x_en e0) s t := by
  refine ⟨e0, rfl, rfl, ?_, Nat.le_trans hS.1 h1, fun q hq ha => ?_⟩
  · obtain ⟨L, hL, hP, hD, hT⟩ := hR
    exact ⟨L, hL, hP.kept (fun k x hx => h2 x.1 ((hP k x hx).lt)), hD, hT⟩
  · rw [h2 q (Nat.lt_of_lt_of_le hq hS.1)]
    exact hS.2.1 q hq ha
theorem x_thr {e0 ic ik : Nat} (F : x_TF e0 ic ik) (C : x_C p s m args meth c O cc nL RX11 ret) (hR : x_R O K h H) (hS : va_S (oA O) s.heap H locs) (hst : l.stackTraces = false) (hsz : ls.size = nL) {is sa : Nat} {text : String} (hstr : vk_R RX11 is text sa s)
    (d0 : decode cc pc = .ok (.new ik, 3)) (d3 : decode cc (pc + 3) = .ok (.dup, 1)) (d4 : decode cc (pc + 4) = .ok (.ldc is, 2)) (d6 : decode cc (pc + 6) = .ok (.invokespecial ic, 3)) (d9 : decode cc (pc + 9) = .ok (.athrow, 1))
    (hF : 5 < R.frames) (hL : (rest.map fun v => v.category).sum + 82 ≤ R.locals) (hRc : cells + 1 ≤ R.cells) (hRs : slots + 6 ≤ R.slots) (hc : cells + 1 ≤ mc) (hs : slots + 6 ≤ ms) :
    W p l e R s m args below meth c H locs cells slots (vx_MQ below (x_XQ O K h (.inl e0)) (x_XX O K h (.inl e0)) args s mc ms (oA O)) (F0 m pc ls rest) := by
  obtain ⟨f1, f2, f3, f4⟩ := F
  have hE := C.2.2.2.2.2.2.2.2
  exact vx_throwS C.1 C.2.1 hst C.2.2.2.1 f4 (by decide) (C.2.2.2.2.1 _ f1) (C.2.2.2.2.1 _ f2) hstr (fun w hw => x_hat C (f3 w hw).1 (f3 w hw).2)
    (fun w hw => by
      rcases List.mem_cons.mp hw with e | hw
      · rw [e]; exact x_ot_of (by rw [(List.mem_filter.mp f1).2]; rfl)
      · rcases List.mem_cons.mp hw with e | hw
        · rw [e]; exact x_ot_of (by rw [(List.mem_filter.mp f2).2]; rfl)
        · exact x_ot_of (f3 w hw).2)
    hE.2.2.2.2.2.2.2.1 hE.2.2.2.2.2.2.2.2.1 hS (hsz.trans C.2.2.1.symm) d0 d3 d4 d6 d9 (fun x hx => ((C.2.2.2.2.2.2.1.resolve_right (by decide)) x hx).elim) hF hL hRc hRs C.2.2.2.2.2.1
    (fun t _ h1 h2 => x_XX_of hR hS t h1 h2) hS.2.2 hc hs
theorem x_thrW {e0 ic ik : Nat} (F : x_TF e0 ic ik) (C : x_C p s m args meth c O cc nL RX11 ret) (hR : x_R O K h H) (hS : va_S (oA O) s.heap H locs) (hst : l.stackTraces = false) (hsz : ls.size = nL) {is sa : Nat} {text : String} (hstr : vk_R RX11 is text sa s)
    (d0 : decode cc pc = .ok (.new ik, 3)) (d3 : decode cc (pc + 3) = .ok (.dup, 1)) (d4 : decode cc (pc + 4) = .ok (.ldc_w is, 3)) (d6 : decode cc (pc + 7) = .ok (.invokespecial ic, 3)) (d9 : decode cc (pc + 10) = .ok (.athrow, 1))
    (hF : 5 < R.frames) (hL : (rest.map fun v => v.category).sum + 82 ≤ R.locals) (hRc : cells + 1 ≤ R.cells) (hRs : slots + 6 ≤ R.slots) (hc : cells + 1 ≤ mc) (hs : slots + 6 ≤ ms) :
    W p l e R s m args below meth c H locs cells slots (vx_MQ below (x_XQ O K h (.inl e0)) (x_XX O K h (.inl e0)) args s mc ms (oA O)) (F0 m pc ls rest) := by
  obtain ⟨f1, f2, f3, f4⟩ := F
  have hE := C.2.2.2.2.2.2.2.2
  exact vx_throwSW C.1 C.2.1 hst C.2.2.2.1 f4 (by decide) (C.2.2.2.2.1 _ f1) (C.2.2.2.2.1 _ f2) hstr (fun w hw => x_hat C (f3 w hw).1 (f3 w hw).2)
    (fun w hw => by
      rcases List.mem_cons.mp hw with e | hw
      · rw [e]; exact x_ot_of (by rw [(List.mem_filter.mp f1).2]; rfl)
      · rcases List.mem_cons.mp hw with e | hw
        · rw [e]; exact x_ot_of (by rw [(List.mem_filter.mp f2).2]; rfl)
        · exact x_ot_of (f3 w hw).2)
    hE.2.2.2.2.2.2.2.1 hE.2.2.2.2.2.2.2.2.1 hS (hsz.trans C.2.2.1.symm) d0 d3 d4 d6 d9 (fun x hx => ((C.2.2.2.2.2.2.1.resolve_right (by decide)) x hx).elim) hF hL hRc hRs C.2.2.2.2.2.1
    (fun t _ h1 h2 => x_XX_of hR hS t h1 h2) hS.2.2 hc hs
/-- a call of a method that may throw, by one without handlers -/
theorem x_xcallV (C : x_C p s m args meth c O cc nL RX11 ret) (hR : x_R O K h H) (hS : va_S (oA O) s.heap H locs) {y : MethodName} {bytes : ByteArray} {maxL : Nat} {ret' : Option FieldType} {f lo n mc' ms' : Nat} {b : Nat} {As : List Value} {res1 : Nat ⊕ Option Value} {h1 : XH}
    (M : x_MX l O K y bytes maxL ret' f lo mc' ms' h (.ref b :: As) res1 h1) {ci : Nat} (hb : (K b).1 = ci + 1) (hci : ci < 13) {T : u_T} {N : Nat} (hc : vwCl[ci]? = some (y.cls, T, N)) (hm : x_MV y bytes maxL ret' n) {idx : Nat} (hl : Cond.methodLink RX11 idx y ∈ TB)
    (hF : f + 1 ≤ R.frames) (hL : 8 + (maxL + 11) + lo ≤ R.locals) (hn : As.length = n) (hsz : ls.size = nL) (hst : (rest.map fun v => v.category).sum ≤ 8) (hd : decode cc pc = .ok (.invokevirtual idx, 3)) (hcs : cells + mc' ≤ R.cells ∧ slots + ms' ≤ R.slots)
    (hthr : ∀ e, res1 = .inl e → res = .inl e ∧ h' = h1) (hcm : cells + mc' ≤ mc) (hsm : slots + ms' ≤ ms) {st0 : List Value} (hst0 : st0 = As.reverse ++ .ref b :: rest)
    (kk : ∀ r, res1 = .inr r → ∀ (H1 : Heap) (locs1 : List Loc), x_R O K h1 H1 → va_S (oA O) s.heap H1 locs1 → W p l e R s m args below meth c H1 locs1 (cells + mc') (slots + ms') (vx_MQ below (x_XQ O K h' res) (x_XX O K h' res) args s mc ms (oA O)) (F0 m (pc + 3) ls (r.toList ++ rest))) :
    W p l e R s m args below meth c H locs cells slots (vx_MQ below (x_XQ O K h' res) (x_XX O K h' res) args s mc ms (oA O)) (F0 m pc ls st0) := by
  obtain ⟨m1, m2, m3, m4, m5, m6, m7⟩ := hm
  have hts := C.2.2.2.2.1
  have hrecv : ∃ cellB : Cell, H[b]? = some cellB ∧ cellB.vm.isStatics = false ∧ s.vm.findClass y.cls = some cellB.cls := by
    obtain ⟨L, hL, hP, hD, hT⟩ := id hR
    obtain ⟨q0, hq⟩ := va_pl_get (X := []) (f := x_cell (oX O) (oC O) K h) ((hL b).mpr (by omega))
    rw [x_cell_obj hb hci] at hq
    exact va_recv (x_K C) hP hc hq
  intro T hT X
  rcases vx_runV (As := As) (b := b) (C := y.cls) (Ts := TB) ⟨C.1, C.2.1, C.2.2.1, C.2.2.2.1, hts⟩ M ⟨callB_of n hts (TB_cons m1) rfl rfl rfl (hts _ m4) (hts _ hl) ⟨m5, m6, m7⟩ ⟨hF, hL⟩, hts _ m2, hts _ m3⟩ ⟨x_blind, hrecv, x_pre C hR hS⟩ rfl hn hsz hst0 (lv_room hst) hd hcs T hT X with ⟨v, st₀, t, T', L, h0, X', hL, e1, e2, ⟨r, hr, hv, hp, hFF⟩, st⟩ | ⟨q, st₀, t, T', L, E, ce, h0, X', hL, e1, e2, ⟨e9, he, hE9, hp, hFF⟩, hce, hcv, hcl, st⟩
  · cases hv
    obtain ⟨k1, k2, k3⟩ := vx_keep h0 e1 hS (fun _ _ hq => hq) (fun _ hq => hq) hL hFF
    obtain ⟨t2, a1, b1⟩ := kk _ hr T'.heap (locs ++ L) (by rw [e1]; exact hp) k3 T' rfl X'
    exact ⟨t2, st t2 a1, b1⟩
  · obtain ⟨k1, k2, k3⟩ := vx_keep h0 e1 hS (fun _ _ hq => hq) (fun _ hq => hq) hL hFF
    obtain ⟨hr1, hr2⟩ := hthr e9 he
    have hE' : s.vm.findClass (x_en e9) = some ce.cls := hE9 ▸ hcl
    have hout : vx_W p l e R s m args below meth c T'.heap (locs ++ L) (cells + mc') (slots + ms') (vx_MQ below (x_XQ O K h' res) (x_XX O K h' res) args s mc ms (oA O)) (F0 m pc ls rest) q :=
      vx_out (E := x_en e9) (fun x hx => ((C.2.2.2.2.2.2.1.resolve_right (by decide)) x hx).elim) C.2.2.2.2.2.1 (by rw [e1]; exact hce) hcv hE'
        (fun t9 ht9 _ => ⟨e9, hr1, rfl, by rw [ht9, e1, hr2]; exact hp, by
          refine ⟨?_, ?_⟩
          · rw [ht9]; exact k3.1
          · intro q1 hq1 ha1
            rw [ht9]; exact k3.2.1 q1 hq1 ha1⟩) k3.2.2 hcm hsm
    obtain ⟨t2, a1, b1⟩ := hout T' rfl X'
    exact ⟨t2, st.trans a1, b1⟩
end XT
/-! ===== throw new NoSuchElementException(text): its constructor reaches its superclass' by another entry of the pool than the others do ===== -/
def x_nsW (own : String) (ic : Nat) (X : String) (ix : Nat) (rx : ByteArray) (names : List String) : List Cond := (Bundle.ownAtomsX own ic X ix rx names).filter vx_no
/-- a field that a fresh object of the class has in its own slot -/
def x_nsF (s : State) (cX : ClassId) (kX : Class) (f : Field) : Prop := kX.instanceTypes[f.slot]? = some f.type ∧ ∃ d, Jmm.declares? s.vm f.slot (cX + 1) cX = some d ∧ d.2.name = f.name
theorem x_nsF.ne {s : State} {cX : ClassId} {kX : Class} {f g : Field} (hf : x_nsF s cX kX f) (hg : x_nsF s cX kX g) (hn : f.name ≠ g.name) : f.slot ≠ g.slot := by
  obtain ⟨-, d, hd, hdn⟩ := hf
  obtain ⟨-, d', hd', hdn'⟩ := hg
  exact Cond.laysApart hd hd' hdn hdn' hn
section NS
variable {p : Program} {l : Launch} {e : Env} {R : Room} {s : State} {m : MethodId} {args : Array Value} {below : List Frame} {meth : Method} {c : Code} {T : State} {locs : List Loc} {cells slots : Nat}
theorem x_nsSel (X : Stand p l e R s m args below meth c T locs cells slots) {cls : String} {cX : ClassId} (hX : s.vm.findClass cls = some cX) {t : MethodName} {k : MethodId} (hk : s.methodNamed? t = some k)
    (ht : t.cls ≠ "java/lang/invoke/MethodHandle" ∧ t.cls ≠ "java/lang/invoke/VarHandle") (hw : (Cond.selects cls t t).holds args s none s [] = true) : selectMethod e.platform s.vm cX k = .method k := by
  obtain ⟨c1, r, k1, h1, h2, h3, h4, -⟩ := Cond.selects_spec hw
  have e1 : c1 = cX := Option.some.inj (h1.symm.trans hX)
  have e2 : r = k := Option.some.inj (h2.symm.trans (State.methodFound?_of_named hk ht))
  have e3 : k1 = k := Option.some.inj (h3.symm.trans hk)
  rw [e1, e2, e3] at h4
  exact (Launch.admits_selectMethod X.admits _ _ _).trans h4
set_option maxHeartbeats 1000000 in
/-- from the constructor's call, the new object twice on the stack below the text, to the throw out of the body -/
theorem x_nsGo (X : Stand p l e R s m args below meth c T [] cells slots) (hexec : p.tables.exec = Jvm.exec) (htr : e.platform.stackTraces = false) {own cls : String} {names : List String} {ic ix : Nat} {rx : ByteArray}
    (x0 : decode rx 0 = .ok (.aload_n 0, 1)) (x1 : decode rx 1 = .ok (.aload_n 1, 1)) (x2 : decode rx 2 = .ok (.invokespecial ix, 3)) (x5 : decode rx 5 = .ok (.return_, 1))
    (hown : s.vm.findClass own = some m.cls) (hcls : Bundle.fit cls = true) (hnames : ∀ n ∈ names, Bundle.fit n = true) (h : ∀ w ∈ Bundle.ownAtomsX own ic cls ix rx names, w.before args s = true)
    {a : Addr} {cX : ClassId} {kX : Class} (hX : s.vm.findClass cls = some cX) (hkX : s.vm.classes[cX]? = some kX) (hcell : T.heap[a]? = some (freshCell cX kX)) (hnew : s.heap.size ≤ a) {sa : Nat}
    {pc : Nat} {ls : Array Slot} {rest : List Value} (hsize : ls.size = c.maxLocals) (d6 : decode c.code pc = .ok (.invokespecial ic, 3)) (d9 : decode c.code (pc + 3) = .ok (.athrow, 1)) (hout : ∀ x ∈ c.exceptionTable.toList, covers x (pc + 3) = false)
    (hRf : names.length + 3 < R.frames) (hRl : (rest.map fun v => v.category).sum + (13 * (names.length + 1) + 43) ≤ R.locals) (hlocks : meth.locks = false) :
    ∃ U : State, Steps p.tables e below (T.setTop (F0 m pc ls (.ref sa :: .ref a :: .ref a :: rest))) U ∧ U.status = .running ∧ Ended U below (.threw a) ∧ s.WarmedH U.vm ∧ s.sameButNew ({ U with vm := s.vm } : State) [] cells slots ∧ ∃ ce, U.heap[a]? = some ce ∧ ce.cls = cX ∧ ce.vm = .none := by
  have hp := X.admits.platform
  have hpl : e.platform.magicAccessors = ({} : Platform).magicAccessors := by rw [hp]
  have hA : ∀ w, w ∈ Bundle.ownAtomsX own ic cls ix rx names → w.holds args s none s [] = true := h
  have hA1 : ∀ w, w ∈ Bundle.chainSAtomsX cls ix rx names → w.before args s = true := fun w hw => h w (by simp [Bundle.ownAtomsX, hw])
  obtain ⟨Th, Z0, L, -, Y⟩ := ThrowableC.of_atoms (args := args) (s := s) (pl := e.platform) (by rw [hp]) (by rw [hp]) hpl (fun w hw => h w (by simp [Bundle.ownAtomsX, hw]))
  obtain ⟨Z, M, LZ, LM, hZ⟩ := Init0T.ofS_atoms (args := args) hpl L Y (fun w hw => h w (by simp [Bundle.ownAtomsX, hw]))
  obtain ⟨P, Ps, hlen, LP, LPs, hPm, hP1, hP2⟩ := Bundle.chainSX (args := args) hpl hZ x0 x1 x2 x5 names cls hcls hnames hA1
  have hcX : cX = P.m.cls := Option.some.inj (hX.symm.trans (findClass_of_methodNamed hPm))
  have hord : kX.kind = .ordinary := by
    obtain ⟨c1, k1, g1, g2, g3, -⟩ := Cond.instantiable_spec (hA (.instantiable cls 6) (by simp [Bundle.ownAtomsX]))
    have e1 : c1 = cX := Option.some.inj (g1.symm.trans hX)
    rw [e1] at g2
    rw [Option.some.inj (hkX.symm.trans g2)]
    exact g3
  -- the fields
  have fld : ∀ {n d : String} {c' i : Nat} {k' : Class} {f : Field}, s.fieldFound? Bundle.tN n d = some (c', k', i, f) → (Cond.lays cls Bundle.tN n d) ∈ Bundle.ownAtomsX own ic cls ix rx names → x_nsF s cX kX f := fun hf hw => Cond.laysAt hX hkX hf (hA _ hw)
  obtain ⟨iM, hMf⟩ := Y.msg
  obtain ⟨ci, iB, fB, b1, b2, b3, b4, -, bn, bt, bf⟩ := Cond.ownField (t := .object "java/lang/Object") Y.found L.cls (by decide +kernel) (hA (.fieldLink Bundle.tN 198 Bundle.tN "backtrace" "Ljava/lang/Object;") (by simp [Bundle.ownAtomsX])) (hA (.lays Bundle.tN Bundle.tN "backtrace" "Ljava/lang/Object;") (by simp [Bundle.ownAtomsX])) e.platform hpl
  have fC := fld Y.cause (by simp [Bundle.ownAtomsX])
  have fS := fld Y.stack (by simp [Bundle.ownAtomsX])
  have fP := fld Y.supp (by simp [Bundle.ownAtomsX])
  have fM := fld hMf (by simp [Bundle.ownAtomsX])
  have fBk := fld bf (by simp [Bundle.ownAtomsX])
  -- the statics of Throwable
  obtain ⟨cS0, hS0, hSs⟩ := Y.statics
  obtain ⟨u, hu⟩ := Cond.staticRefV Y.unassigned L.unassignedStatic L.statics hS0 hSs (hA (.isRef (.static Bundle.tN "UNASSIGNED_STACK" Bundle.steD)) (by simp [Bundle.ownAtomsX]))
  obtain ⟨z, hz⟩ := Cond.staticRefV Y.sentinel L.sentinelStatic L.statics hS0 hSs (hA (.isRef (.static Bundle.tN "SUPPRESSED_SENTINEL" Bundle.listD)) (by simp [Bundle.ownAtomsX]))
  obtain ⟨cS, hS1, hS2, -, hS3⟩ := X.same.2.2.2.2.2 Th.aS cS0 hS0
  have hkn : cS.vm ≠ .unknown := by
    rw [hS2]
    intro hv
    have hv : cS0.vm = .unknown := hv
    rw [hv] at hSs
    cases hSs
  have hne : Th.aS ≠ a := by
    have := (Array.getElem?_eq_some_iff.mp hS0).1
    intro e9
    rw [e9] at this
    exact absurd this (Nat.not_lt.mpr hnew)
  -- the back trace is null still
  have hskip : SkipFacts Th e.platform s (fun v => v) u ((preparedCellV Th.toThrowableT (freshCell cX kX) a u z).withEntry T.cur) := by
    refine ⟨⟨ci, iB, fB⟩, ⟨b1, b2, b3, b4⟩, ?_, fun _ _ => rfl⟩
    have n1 := fBk.ne fC (by rw [bn, Y.causeName]; decide)
    have n2 := fBk.ne fS (by rw [bn, Y.stackName]; decide)
    have n3 := fBk.ne fP (by rw [bn, Y.suppName]; decide)
    have hd := fresh_default (c := cX) fBk.1
    rw [bt] at hd
    simpa [preparedCellV, Cell.setSlot, Cell.withEntry, Array.getElem?_setIfInBounds, n1, n2, n3, n1.symm, n2.symm, n3.symm, defaultValue] using hd
  -- the walk
  obtain ⟨tm, mC, cd, kC, vm1, hn1, -, -, -, -, -, -, -, hW1, st1⟩ := Steps.initColdS (tb := p.tables) (e := e) (below := below) (s := s) (U := T) X.here hexec X.warmed hpl hown (t := Bundle.initS cls) rfl rfl (Bundle.fit_spec hcls).2
    (hA (.methodLink own ic (Bundle.initS cls)) (by simp [Bundle.ownAtomsX])) (hA1 (.instanceMethod (Bundle.initS cls)) (by cases names <;> simp [Bundle.chainSAtomsX, Bundle.passSAtoms])) (bytes := rx) (maxL := 2) (hA1 (.code (Bundle.initS cls) rx 2 none) (by cases names <;> simp [Bundle.chainSAtomsX, Bundle.passSAtoms]))
    (f := F0 m pc ls (.ref sa :: .ref a :: .ref a :: rest)) rfl (a := a) (msg := .ref sa) (rest := .ref a :: rest) rfl d6
  have etm : tm = P.m := Option.some.inj (hn1.symm.trans hPm)
  rw [etm] at st1
  obtain ⟨vm2, X2, st2⟩ := (X.noted hW1).ctorMessageOffV hexec (g := F0 m pc ls (.ref a :: rest)) rfl hsize Th L Z LZ M LM (P :: Ps) (fun Q hQ => by
      rcases List.mem_cons.mp hQ with e9 | hQ
      · rw [e9]; exact LP
      · exact LPs Q hQ) ⟨hP1, hP2⟩ (u0 := u) (sen := z) (self := a) (msg := .ref sa) rfl (cell := freshCell cX kX) (cellS := cS) hcell (fun _ => by simp) (by simp) rfl rfl
    (x_nsSel X hX Y.fill0 (by decide) (hA (.selects cls Bundle.tFill0 Bundle.tFill0) (by simp [Bundle.ownAtomsX]))) (x_nsSel X hX Y.fill (by decide) (hA (.selects cls Bundle.tFill Bundle.tFill) (by simp [Bundle.ownAtomsX])))
    hS1 hne hkn (by rw [hS3 _ (fun q => nomatch q)]; exact hu) (by rw [hS3 _ (fun q => nomatch q)]; exact hz)
    (Takes.of_laid hkX hord fC.1 (by rw [Y.causeType]; rfl)) (Takes.of_laid hkX hord fS.1 (by rw [Y.stackType]; exact fits_refV_array _ u)) (Takes.of_laid hkX hord fP.1 (by rw [Y.suppType]; exact fits_refV_object _ z)) (Takes.of_laid hkX hord fM.1 (by rw [Y.msgType]; rfl))
    Y.objLocals hskip htr [] d6 (by rw [List.length_cons, hlen]; omega) (by
      rw [List.length_cons, hlen]
      have e0 : (F0 m pc ls (.ref a :: rest)).monitorRoom = 0 := rfl
      have e1 : (Value.ref a).category = 1 := rfl
      rw [e0]
      simp only [List.map_cons, List.sum_cons, e1]
      omega)
  obtain ⟨hgo, hrun, hend, hWU, hsame⟩ := X2.athrowLeaves hexec (g := F0 m (pc + 3) ls (.ref a :: rest)) rfl rfl rfl hout (a := a) (rest := rest) rfl d9 hlocks
  have hlt : a < ((T.setVm vm1).setVm vm2).heap.size := (Array.getElem?_eq_some_iff.mp hcell).1
  refine ⟨_, st1 _ (fun acts => ?_), hrun, hend, hWU, hsame.weaken (fun y hy hy2 => ?_) (Nat.le_refl _) (Nat.le_refl _), _, heapAt_setCell_self (s := (T.setVm vm1).setVm vm2) (plainBareV Th.toThrowableT (freshCell cX kX) a u z (.ref sa)) hlt, rfl, rfl⟩
  · rw [doInvoke_state]
    exact st2 _ hgo
  · exfalso
    have hy : y ∈ ([⟨a, Th.fCause.slot⟩, ⟨a, Th.fStack.slot⟩, ⟨a, Th.fSupp.slot⟩, ⟨a, Th.fStack.slot⟩, ⟨a, Th.fMsg.slot⟩] : List Loc) := hy
    have hb : y.base = a := by
      simp only [List.mem_cons, List.not_mem_nil, or_false] at hy
      rcases hy with e9 | e9 | e9 | e9 | e9 <;> rw [e9]
    rw [hb] at hy2
    exact Nat.not_lt.mpr hnew hy2
end NS
theorem x_thx {α : Type} {g : α → Option Value} {β : Type} {s1 : Nat ⊕ β} {rr : Nat ⊕ α} {h' h1 : XH} (ht : ∀ e, s1 = .inl e → rr = .inl e ∧ h' = h1) : ∀ e, s1 = .inl e → x_rv g rr = .inl e ∧ h' = h1 := fun e he => ⟨by rw [(ht e he).1]; rfl, (ht e he).2⟩
def x_TF4 (ic ik ix : Nat) (rx : ByteArray) : Prop := Cond.classLink RX11 ik (x_en 4) ∈ TB ∧ Cond.initialized (x_en 4) ∈ TB ∧ (∀ w ∈ x_nsW RX11 ic (x_en 4) ix rx ex_nm, (w ∈ lw_tbl ∧ (goodWord w || x_nwk w) = true)) ∧ Bundle.fit (x_en 4) = true ∧ decode rx 0 = .ok (.aload_n 0, 1) ∧ decode rx 1 = .ok (.aload_n 1, 1) ∧ decode rx 2 = .ok (.invokespecial ix, 3) ∧ decode rx 5 = .ok (.return_, 1)
set_option maxHeartbeats 1000000 in
theorem x_thr4W {p : Program} {l : Launch} {e : Env} {R : Room} {s : State} {m : MethodId} {args : Array Value} {below : List Frame} {meth : Method} {c : Code} {H : Heap} {locs : List Loc} {cells slots mc ms : Nat} {O : XO} {K : XK} {h : XH} {cc : ByteArray} {nL : Nat} {ret : Option FieldType} {pc : Nat} {ls : Array Slot} {rest : List Value}
    {ic ik ix : Nat} {rx : ByteArray} (F : x_TF4 ic ik ix rx) (C : x_C p s m args meth c O cc nL RX11 ret) (hR : x_R O K h H) (hS : va_S (oA O) s.heap H locs) (hst : l.stackTraces = false) (hsz : ls.size = nL) {is sa : Nat} {text : String} (hstr : vk_R RX11 is text sa s)
    (d0 : decode cc pc = .ok (.new ik, 3)) (d3 : decode cc (pc + 3) = .ok (.dup, 1)) (d4 : decode cc (pc + 4) = .ok (.ldc_w is, 3)) (d6 : decode cc (pc + 7) = .ok (.invokespecial ic, 3)) (d9 : decode cc (pc + 10) = .ok (.athrow, 1))
    (hF : 5 < R.frames) (hL : (rest.map fun v => v.category).sum + 82 ≤ R.locals) (hRc : cells + 1 ≤ R.cells) (hRs : slots + 6 ≤ R.slots) (hc : cells + 1 ≤ mc) (hs : slots + 6 ≤ ms) :
    W p l e R s m args below meth c H locs cells slots (vx_MQ below (x_XQ O K h (.inl 4)) (x_XX O K h (.inl 4)) args s mc ms (oA O)) (F0 m pc ls rest) := by
  obtain ⟨f1, f2, f3, f4, x0, x1, x2, x5⟩ := F
  have hE := C.2.2.2.2.2.2.2.2
  have hb := C.2.1
  intro T hT X
  have htr : e.platform.stackTraces = false := (show e.platform.stackTraces = l.stackTraces by rw [X.admits.platform]).trans hst
  -- from here: a state s2 with the heap as it is now, nothing made yet
  have Y := vx_rebase X (R' := { frames := R.frames, locals := R.locals, cells := 1, slots := 6 }) (Nat.le_refl _) (Nat.le_refl _) hRc hRs
  generalize hs2 : (T.setVm s.vm).setFrames (.invoking m args :: below) = s2 at Y
  have hvm : s2.vm = s.vm := by rw [← hs2]; rfl
  have hhp : s2.heap = H := by rw [← hs2]; exact hT
  have hW : s.WarmedH s2.vm := by rw [hvm]; exact State.WarmedH.refl s
  have up : ∀ {w : Cond}, w ∈ lw_tbl → (goodWord w || x_nwk w) = true → w.before args s2 = true := fun hw hg => vx_ot_at hW hvm.symm (x_ot_of hg) (x_hat C hw hg)
  have upT : ∀ {w : Cond}, w ∈ TB → w.before args s2 = true := fun hw => up (List.mem_filter.mp hw).1 (by rw [(List.mem_filter.mp hw).2]; rfl)
  have hU : vx_Zq Bundle.tN "UNASSIGNED_STACK" Bundle.steD (oA O) s2 s2.heap := by
    rw [hhp]; exact vx_Zq.moved hW.alike (hE.2.2.2.2.2.2.2.1.kept hS.2.1)
  have hN : vx_Zq Bundle.tN "SUPPRESSED_SENTINEL" Bundle.listD (oA O) s2 s2.heap := by
    rw [hhp]; exact vx_Zq.moved hW.alike (hE.2.2.2.2.2.2.2.2.1.kept hS.2.1)
  have hall : ∀ w ∈ Bundle.ownAtomsX RX11 ic (x_en 4) ix rx ex_nm, w.before args s2 = true := vx_own (fun w hw => up (f3 w hw).1 (f3 w hw).2) (vx_isRefq hU.1) (vx_isRefq hN.1) hU.2.word hN.2.word
  have hown : s2.vm.findClass RX11 = some m.cls := by rw [hvm]; exact C.2.2.2.1
  obtain ⟨vm1, cX, kX, hfX, hkX, -, -, X1, st1⟩ := Y.newCold C.1 (own := RX11) (C := x_en 4) (index := ik) (n := 6) hown (upT f1) (hall _ (by simp [Bundle.ownAtomsX])) (upT f2) (g := F0 m pc ls rest) rfl (by rw [hb]; exact d0) (Nat.le_refl _) (Nat.le_refl _)
  generalize hT1 : (T.setVm vm1).pushCell { cls := cX, slots := kX.instanceTypes.map defaultValue, vm := .none } = T1 at X1 st1
  have hcellA : T1.heap[T.heap.size]? = some (freshCell cX kX) := by rw [← hT1]; exact State.heap_pushCell_size _ _
  have hstr2 : vk_R RX11 is text sa s2 := vk_R.warm hW hstr
  obtain ⟨U, hsteps, hrun, hend, hWU, hsame, ce, hce, hcc, hcv⟩ := x_nsGo X1 C.1 htr (own := RX11) (cls := x_en 4) (names := ex_nm) (ic := ic) x0 x1 x2 x5 hown f4 (by decide) hall hfX hkX hcellA (by rw [hhp, hT]; exact Nat.le_refl _) (sa := sa)
    (pc := pc + 7) (ls := ls) (rest := rest) (hsz.trans C.2.2.1.symm) (by rw [hb]; exact d6) (by rw [hb]; exact d9) (fun x hx => ((C.2.2.2.2.2.2.1.resolve_right (by decide)) x hx).elim) hF hL C.2.2.2.2.2.1
  obtain ⟨g1, g2⟩ := vx_frame hsame
  rw [hhp] at g1 g2
  have hWs : s.WarmedH U.vm := State.WarmedH.trans hW hWU
  have hcl : s.vm.findClass (x_en 4) = some ce.cls := by
    rw [hvm] at hfX
    rw [hcc]
    exact hfX
  have hnew : s.sameButNew ({ U with vm := s.vm } : State) locs mc ms := by
    subst hs2
    obtain ⟨e1, e2⟩ := hsame
    rw [State.setFrames_setFrames] at e1
    have h2 : (T.setVm s.vm).sameButNew ({ U with vm := s.vm } : State) [] (0 + 1) (0 + 6) := ⟨e1, e2⟩
    have h3 := X.same.trans h2
    rw [List.append_nil] at h3
    exact h3.mono hc hs
  refine ⟨U, ?_, .threw T.heap.size, hrun, hend, Or.inr ⟨T.heap.size, rfl, x_en 4, ce, locs, x_XX_of hR hS U g1 (fun q hq => g2 q hq (fun z hz => nomatch hz)), hce, hcv, hcl, hWs, hnew, hS.2.2⟩⟩
  refine st1 _ ?_
  have d3' : decode c.code (pc + 3) = .ok (.dup, 1) := by rw [hb]; exact d3
  have d4' : decode c.code (pc + 4) = .ok (.ldc_w is, 3) := by rw [hb]; exact d4
  have hexec := C.1
  show Steps p.tables e below (T1.setTop { method := m, pc := pc + 3, locals := ls, stack := .ref T.heap.size :: rest, locked := none }) _
  jvm_step X1.here [X1.here.top, hexec, d3', Value.category]
  exact X1.ldcStringW C.1 (own := RX11) (text := text) (index := is) (a := sa) hown hstr2.1 hstr2.2 (g := { method := m, pc := pc + 4, locals := ls, stack := .ref T.heap.size :: .ref T.heap.size :: rest, locked := none }) rfl d4' _ hsteps
theorem tw_at0 : ∀ w ∈ vx_atS RX11 128 (x_en 0) ex_nm, (w ∈ lw_tbl ∧ (goodWord w || x_nwk w) = true) := by decide +kernel
theorem tf_0 : x_TF 0 128 124 := ⟨tw_883, tw_131, tw_at0, by decide⟩
theorem tw_at1 : ∀ w ∈ vx_atS RX11 96 (x_en 1) ex_nm, (w ∈ lw_tbl ∧ (goodWord w || x_nwk w) = true) := by decide +kernel
theorem tf_1 : x_TF 1 96 92 := ⟨tw_781, tw_129, tw_at1, by decide⟩
theorem tw_at2 : ∀ w ∈ vx_atS RX11 193 (x_en 2) ex_nm, (w ∈ lw_tbl ∧ (goodWord w || x_nwk w) = true) := by decide +kernel
theorem tf_2 : x_TF 2 193 189 := ⟨tw_974, tw_132, tw_at2, by decide⟩
theorem tw_at3 : ∀ w ∈ vx_atS RX11 106 (x_en 3) ex_nm, (w ∈ lw_tbl ∧ (goodWord w || x_nwk w) = true) := by decide +kernel
theorem tf_3 : x_TF 3 106 102 := ⟨tw_850, tw_130, tw_at3, by decide⟩
def x_six13 : ByteArray := ⟨#[0x2a, 0x2b, 0xb7, 0x00, 0x0d, 0xb1]⟩
theorem tw_at4 : ∀ w ∈ x_nsW RX11 272 (x_en 4) 13 x_six13 ex_nm, (w ∈ lw_tbl ∧ (goodWord w || x_nwk w) = true) := by decide +kernel
theorem tf_4 : x_TF4 272 268 13 x_six13 := ⟨tw_1079, tw_133, tw_at4, by decide, by decide +kernel, by decide +kernel, by decide +kernel, by decide +kernel⟩
theorem x_xVv0 {p : Program} {l : Launch} {e : Env} {R : Room} {s : State} {m : MethodId} {args : Array Value} {below : List Frame} {meth : Method} {c : Code} {H : Heap} {locs : List Loc} {cells slots mc ms : Nat} {O : XO} {K : XK} {h h' : XH} {cc : ByteArray} {nL : Nat} {ret : Option FieldType} {pc : Nat} {ls : Array Slot} {rest : List Value} {res : Nat ⊕ Option Value} (C : x_C p s m args meth c O cc nL RX11 ret) (hR : x_R O K h H) (hS : va_S (oA O) s.heap H locs) {y : MethodName} {bytes : ByteArray} {maxL : Nat} {ret' : Option FieldType} {f lo mc' ms' b : Nat} {s1 : Nat ⊕ Unit} {h1 : XH} (M : x_MX l O K y bytes maxL ret' f lo mc' ms' h [.ref b] (x_rv x_gv s1) h1) {ci : Nat} (hb : K b = (ci + 1, 0)) (hci : ci < 13) {T : u_T} {N : Nat} (hc : vwCl[ci]? = some (y.cls, T, N)) (hm : x_MV y bytes maxL ret' 0) {idx : Nat} (hl : Cond.methodLink RX11 idx y ∈ TB) (hF : f + 1 ≤ R.frames) (hL : 8 + (maxL + 11) + lo ≤ R.locals) (hsz : ls.size = nL) (hst : (rest.map fun v => v.category).sum ≤ 8) (hd : decode cc pc = .ok (.invokevirtual idx, 3)) (hcs : cells + mc' ≤ R.cells ∧ slots + ms' ≤ R.slots) (hthr : ∀ e, s1 = .inl e → res = .inl e ∧ h' = h1) (hcm : cells + mc' ≤ mc) (hsm : slots + ms' ≤ ms) (kk : s1 = .inr () → ∀ (H1 : Heap) (locs1 : List Loc), x_R O K h1 H1 → va_S (oA O) s.heap H1 locs1 → W p l e R s m args below meth c H1 locs1 (cells + mc') (slots + ms') (vx_MQ below (x_XQ O K h' res) (x_XX O K h' res) args s mc ms (oA O)) (F0 m (pc + 3) ls rest)) : W p l e R s m args below meth c H locs cells slots (vx_MQ below (x_XQ O K h' res) (x_XX O K h' res) args s mc ms (oA O)) (F0 m pc ls (.ref b :: rest)) := x_xcallV (As := []) C hR hS M (x_k1 hb) hci hc hm hl hF hL rfl hsz hst hd hcs (fun e he => hthr e (x_rv_inl he)) hcm hsm rfl (fun r hr H1 locs1 => by obtain ⟨v, hv, rfl⟩ := x_rv_inr hr; exact kk hv H1 locs1)
theorem x_xVv1 {p : Program} {l : Launch} {e : Env} {R : Room} {s : State} {m : MethodId} {args : Array Value} {below : List Frame} {meth : Method} {c : Code} {H : Heap} {locs : List Loc} {cells slots mc ms : Nat} {O : XO} {K : XK} {h h' : XH} {cc : ByteArray} {nL : Nat} {ret : Option FieldType} {pc : Nat} {ls : Array Slot} {rest : List Value} {res : Nat ⊕ Option Value} (C : x_C p s m args meth c O cc nL RX11 ret) (hR : x_R O K h H) (hS : va_S (oA O) s.heap H locs) {y : MethodName} {bytes : ByteArray} {maxL : Nat} {ret' : Option FieldType} {f lo mc' ms' b : Nat} {A1 : Value} {s1 : Nat ⊕ Unit} {h1 : XH} (M : x_MX l O K y bytes maxL ret' f lo mc' ms' h [.ref b, A1] (x_rv x_gv s1) h1) {ci : Nat} (hb : K b = (ci + 1, 0)) (hci : ci < 13) {T : u_T} {N : Nat} (hc : vwCl[ci]? = some (y.cls, T, N)) (hm : x_MV y bytes maxL ret' 1) {idx : Nat} (hl : Cond.methodLink RX11 idx y ∈ TB) (hF : f + 1 ≤ R.frames) (hL : 8 + (maxL + 11) + lo ≤ R.locals) (hsz : ls.size = nL) (hst : (rest.map fun v => v.category).sum ≤ 8) (hd : decode cc pc = .ok (.invokevirtual idx, 3)) (hcs : cells + mc' ≤ R.cells ∧ slots + ms' ≤ R.slots) (hthr : ∀ e, s1 = .inl e → res = .inl e ∧ h' = h1) (hcm : cells + mc' ≤ mc) (hsm : slots + ms' ≤ ms) (kk : s1 = .inr () → ∀ (H1 : Heap) (locs1 : List Loc), x_R O K h1 H1 → va_S (oA O) s.heap H1 locs1 → W p l e R s m args below meth c H1 locs1 (cells + mc') (slots + ms') (vx_MQ below (x_XQ O K h' res) (x_XX O K h' res) args s mc ms (oA O)) (F0 m (pc + 3) ls rest)) : W p l e R s m args below meth c H locs cells slots (vx_MQ below (x_XQ O K h' res) (x_XX O K h' res) args s mc ms (oA O)) (F0 m pc ls (A1 :: .ref b :: rest)) := x_xcallV (As := [A1]) C hR hS M (x_k1 hb) hci hc hm hl hF hL rfl hsz hst hd hcs (fun e he => hthr e (x_rv_inl he)) hcm hsm rfl (fun r hr H1 locs1 => by obtain ⟨v, hv, rfl⟩ := x_rv_inr hr; exact kk hv H1 locs1)
theorem x_xVv2 {p : Program} {l : Launch} {e : Env} {R : Room} {s : State} {m : MethodId} {args : Array Value} {below : List Frame} {meth : Method} {c : Code} {H : Heap} {locs : List Loc} {cells slots mc ms : Nat} {O : XO} {K : XK} {h h' : XH} {cc : ByteArray} {nL : Nat} {ret : Option FieldType} {pc : Nat} {ls : Array Slot} {rest : List Value} {res : Nat ⊕ Option Value} (C : x_C p s m args meth c O cc nL RX11 ret) (hR : x_R O K h H) (hS : va_S (oA O) s.heap H locs) {y : MethodName} {bytes : ByteArray} {maxL : Nat} {ret' : Option FieldType} {f lo mc' ms' b : Nat} {A1 A2 : Value} {s1 : Nat ⊕ Unit} {h1 : XH} (M : x_MX l O K y bytes maxL ret' f lo mc' ms' h [.ref b, A1, A2] (x_rv x_gv s1) h1) {ci : Nat} (hb : K b = (ci + 1, 0)) (hci : ci < 13) {T : u_T} {N : Nat} (hc : vwCl[ci]? = some (y.cls, T, N)) (hm : x_MV y bytes maxL ret' 2) {idx : Nat} (hl : Cond.methodLink RX11 idx y ∈ TB) (hF : f + 1 ≤ R.frames) (hL : 8 + (maxL + 11) + lo ≤ R.locals) (hsz : ls.size = nL) (hst : (rest.map fun v => v.category).sum ≤ 8) (hd : decode cc pc = .ok (.invokevirtual idx, 3)) (hcs : cells + mc' ≤ R.cells ∧ slots + ms' ≤ R.slots) (hthr : ∀ e, s1 = .inl e → res = .inl e ∧ h' = h1) (hcm : cells + mc' ≤ mc) (hsm : slots + ms' ≤ ms) (kk : s1 = .inr () → ∀ (H1 : Heap) (locs1 : List Loc), x_R O K h1 H1 → va_S (oA O) s.heap H1 locs1 → W p l e R s m args below meth c H1 locs1 (cells + mc') (slots + ms') (vx_MQ below (x_XQ O K h' res) (x_XX O K h' res) args s mc ms (oA O)) (F0 m (pc + 3) ls rest)) : W p l e R s m args below meth c H locs cells slots (vx_MQ below (x_XQ O K h' res) (x_XX O K h' res) args s mc ms (oA O)) (F0 m pc ls (A2 :: A1 :: .ref b :: rest)) := x_xcallV (As := [A1, A2]) C hR hS M (x_k1 hb) hci hc hm hl hF hL rfl hsz hst hd hcs (fun e he => hthr e (x_rv_inl he)) hcm hsm rfl (fun r hr H1 locs1 => by obtain ⟨v, hv, rfl⟩ := x_rv_inr hr; exact kk hv H1 locs1)
theorem x_xVv3 {p : Program} {l : Launch} {e : Env} {R : Room} {s : State} {m : MethodId} {args : Array Value} {below : List Frame} {meth : Method} {c : Code} {H : Heap} {locs : List Loc} {cells slots mc ms : Nat} {O : XO} {K : XK} {h h' : XH} {cc : ByteArray} {nL : Nat} {ret : Option FieldType} {pc : Nat} {ls : Array Slot} {rest : List Value} {res : Nat ⊕ Option Value} (C : x_C p s m args meth c O cc nL RX11 ret) (hR : x_R O K h H) (hS : va_S (oA O) s.heap H locs) {y : MethodName} {bytes : ByteArray} {maxL : Nat} {ret' : Option FieldType} {f lo mc' ms' b : Nat} {A1 A2 A3 : Value} {s1 : Nat ⊕ Unit} {h1 : XH} (M : x_MX l O K y bytes maxL ret' f lo mc' ms' h [.ref b, A1, A2, A3] (x_rv x_gv s1) h1) {ci : Nat} (hb : K b = (ci + 1, 0)) (hci : ci < 13) {T : u_T} {N : Nat} (hc : vwCl[ci]? = some (y.cls, T, N)) (hm : x_MV y bytes maxL ret' 3) {idx : Nat} (hl : Cond.methodLink RX11 idx y ∈ TB) (hF : f + 1 ≤ R.frames) (hL : 8 + (maxL + 11) + lo ≤ R.locals) (hsz : ls.size = nL) (hst : (rest.map fun v => v.category).sum ≤ 8) (hd : decode cc pc = .ok (.invokevirtual idx, 3)) (hcs : cells + mc' ≤ R.cells ∧ slots + ms' ≤ R.slots) (hthr : ∀ e, s1 = .inl e → res = .inl e ∧ h' = h1) (hcm : cells + mc' ≤ mc) (hsm : slots + ms' ≤ ms) (kk : s1 = .inr () → ∀ (H1 : Heap) (locs1 : List Loc), x_R O K h1 H1 → va_S (oA O) s.heap H1 locs1 → W p l e R s m args below meth c H1 locs1 (cells + mc') (slots + ms') (vx_MQ below (x_XQ O K h' res) (x_XX O K h' res) args s mc ms (oA O)) (F0 m (pc + 3) ls rest)) : W p l e R s m args below meth c H locs cells slots (vx_MQ below (x_XQ O K h' res) (x_XX O K h' res) args s mc ms (oA O)) (F0 m pc ls (A3 :: A2 :: A1 :: .ref b :: rest)) := x_xcallV (As := [A1, A2, A3]) C hR hS M (x_k1 hb) hci hc hm hl hF hL rfl hsz hst hd hcs (fun e he => hthr e (x_rv_inl he)) hcm hsm rfl (fun r hr H1 locs1 => by obtain ⟨v, hv, rfl⟩ := x_rv_inr hr; exact kk hv H1 locs1)
