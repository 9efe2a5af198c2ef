def R_law : String := "MemoryHouseLaw"
def lw_P (b : Addr) (xs : List Int32) (args : Array Value) (s : State) : Prop := args = #[.ref b] ∧ s.IntsAt b xs ∧ xs.length ≤ 3072 ∧ (Jvm.Cond.and given_1 narrow_1).before args s = true
def lw_Q (_ : Array Value) (s : State) (o : Outcome) (t : State) : Prop := o = .returned (some (.int 1)) ∧ Framed s o t [] room_1.cells room_1.slots
def lw_Z (below : List Frame) (a : Array Value) (s : State) : State → Prop := fun t => ∃ o, t.status = .running ∧ Ended t below o ∧ lw_Q a s o t
/-- the law's own end, with 1 on the stack, nothing written that was there before, its room as the claim has it -/
theorem lw_ret {p : Program} {l : Launch} {e : Env} {s : State} {m : MethodId} {below : List Frame} {meth : Method} {c : Code} {b : Nat} (hx : p.tables.exec = Jvm.exec) (hb : c.code = code) (hr : meth.sig.returnType = ret) (hlocks : meth.locks = false) {pc : Nat} {H : Heap} {ls : Array Slot} (hdg : decode code pc = .ok (.ireturn, 1)) : W p l e room_1 s m #[Value.ref b] below meth c H [] room_1.cells room_1.slots (lw_Z below #[Value.ref b] s) (F0 m pc ls [.int 1]) := by
  intro T hT X
  obtain ⟨fs, hret, hrun, hended, hW, hframe⟩ := X.leave (v := some (.int 1)) (hlocks := hlocks) (fun h => by rw [hr] at h; cases h)
  have hmeth' : T.vm.method? m = some meth := X.method'
  refine ⟨T.setFrames fs, ?_, .returned (some (.int 1)), hrun, hended, rfl, ⟨_, rfl⟩, hW, hframe⟩
  jvm_step X.here [X.here.top, hx, hb, hdg, hmeth', hr, ret, narrow_b1]
  (try refine ⟨rfl, ?_⟩); (try refine ⟨rfl, ?_⟩)
  first | (intro acts; rw [hret _ acts rfl rfl rfl]) | rw [hret _ _ rfl rfl rfl]
  exact Steps.refl _
/-- what holds at the law's entry: the machine, the code, the tables' words (any of lw_tbl by 'hts w (by decide +kernel)'), the script of L ints xs at the cell b, what the Statement gives of the start (any of its parts by flat_of_before) -/
def lw_At (p : Program) (s : State) (m : MethodId) (meth : Method) (c : Code) (b L : Nat) (xs : Nat → Int32) : Prop :=
  p.tables.exec = Jvm.exec ∧ c.code = code ∧ meth.sig.returnType = ret ∧ c.maxLocals = 8 ∧ s.vm.findClass R_law = some m.cls ∧ (∀ w ∈ lw_tbl, w.before #[Value.ref b] s = true) ∧ va_X b L xs s s.heap ∧ b < s.heap.size ∧ meth.locks = false ∧ (Jvm.Cond.and given_1 narrow_1).before #[Value.ref b] s = true
theorem Inv.start {x : Nat} {K : XK} {h : XH} (h1 : ∀ j k, j < 64 → h.1 (x + j) k = g_11.1 j k) (h2 : ∀ j k, j < 12 → h.1 (x + 64 + j) k = g_12.1 j k) (h3 : ∀ b k, h.2.2 b k = none) : Inv 0 x K h := by
  have w0 : ∀ k, wd x h k = 0 := fun k => by
    unfold wd
    rw [show x + 65 = x + 64 + 1 by omega, h2 1 k (by omega)]
    simp [g_12]
  have z0 : jI 0 = 0 := by decide
  refine ⟨⟨?_, ?_, ?_, ?_, ⟨?_, ?_, ?_, by omega, ?_⟩, ⟨?_, ?_⟩, ?_, ?_, ⟨?_, ?_⟩⟩, ⟨⟨?_, ?_, ?_, ?_, ?_, ?_, ?_, ?_⟩, ?_, ?_, ?_, ?_, ?_, ?_, ?_, ?_, ?_⟩, Or.inl ⟨h3 _ _, ?_⟩, 0, by omega, ?_, ?_, ?_, ?_⟩
  · unfold WC; simp only [w0]; omega
  · intro k hk; rw [w0]; omega
  · intro j hj; rw [w0] at hj; omega
  · intro j hj; rw [w0] at hj; omega
  · intro p q hp; rw [w0] at hp; omega
  · rw [w0, w0]; rfl
  · intro p hp; rw [w0] at hp; omega
  · intro p hp; rw [w0] at hp; omega
  · intro k hk; rw [w0] at hk; omega
  · intro k hk; rw [w0] at hk; omega
  · intro k hk; rw [w0] at hk; omega
  · intro k hk; rw [w0]; omega
  · intro k hk; rw [w0] at hk; omega
  · intro k hk; rw [w0] at hk; omega
  · rw [w0, h1 9 _ (by omega), z0]; rfl
  · rw [w0, h1 9 _ (by omega), z0]; rfl
  · rw [w0, h1 9 _ (by omega), z0]; rfl
  · rw [w0, h1 9 _ (by omega), z0]; rfl
  · rw [w0, h1 9 _ (by omega), z0]; rfl
  · rw [w0, h1 9 _ (by omega), z0]; rfl
  · rw [w0, h1 9 _ (by omega), z0]; rfl
  · rw [w0, h1 9 _ (by omega), z0]; rfl
  · intro k hk; rw [w0, show x + 9 + 1 = x + 10 by omega, h1 10 _ (by omega), z0]; simp [g_11]
  · intro j hj; rw [w0] at hj; omega
  · intro j hj; rw [w0] at hj; omega
  · intro j hj; rw [w0] at hj; omega
  · intro k hk; rw [w0, show x + 9 + 8 = x + 17 by omega, h1 17 _ (by omega), z0]; simp [g_11]
  · intro j hj; rw [w0] at hj; omega
  · intro j hj; rw [w0] at hj; omega
  · intro j hj; rw [w0] at hj; omega
  · intro p hp
    rw [show x + 9 + 10 + 3 * p = x + (19 + 3 * p) by omega, h1 _ _ (by omega)]
    rcases (show p = 0 ∨ p = 1 ∨ p = 2 ∨ p = 3 ∨ p = 4 ∨ p = 5 ∨ p = 6 ∨ p = 7 by omega) with e | e | e | e | e | e | e | e <;> subst e <;> rfl
  · exact h2 0 3 (by omega)
  · rw [h1 1 _ (by omega)]; rfl
  · exact h2 0 5 (by omega)
  · rw [h1 1 _ (by omega)]; exact h2 0 10 (by omega)
  · intro k hk; omega
set_option maxRecDepth 20000 in
theorem whole_open (PR : ∀ z, Rws_ z) {p : Program} {e : Env} {s : State} {m : MethodId} {below : List Frame} {meth : Method} {c : Code} (l : Launch) (hst : l.stackTraces = false) {b L : Nat} {xs : Nat → Int32} (hL : L ≤ 3072) (C0 : lw_At p s m meth c b L xs) : W p l e room_1 s m #[Value.ref b] below meth c s.heap [] 0 0 (lw_Z below #[Value.ref b] s) (entryFrame m ([Value.ref b] : List Value).toArray 8) := by
  obtain ⟨hx, hb, hr, hml, hown, hts, hX, hbl, hlocks, hgv⟩ := id C0
  obtain ⟨O, hO, hA0, hE⟩ := x_startE hts hgv
  have hA : ∀ q, oX O ≤ q → oA O q := fun q hq => (hA0 q).mpr (by rw [← hO]; exact hq)
  have hbA : ¬ oA O b := fun h9 => absurd ((hA0 b).mp h9) (Nat.not_le.mpr hbl)
  have C : x_C p s m #[Value.ref b] meth c O cL_law_ 8 RL (some .boolean) := ⟨hx, hb, hml, hown, fun w hw => hts w (List.mem_filter.mp hw).1, hlocks, Or.inr rfl, hr, hE⟩
  have hl := lv_entry ([.ref b]) (n := 8) (Nat.le_of_ble_eq_true rfl)
  rw [lg_entry_eq]
  generalize (lg_sl ([.ref b]) ++ List.replicate (8 - (lg_sl ([.ref b])).length) Slot.unset).toArray = ls at hl ⊢
  have hl : lv_has ls 8 [(0, .ref b)] := hl
  have hS : va_S (oA O) s.heap s.heap [] := va_S.rf
  have hQ : x_Q2 O (fun _ => (0, 0)) (fun _ => []) (fun _ _ => 0, fun _ _ => 0, fun _ _ => none) s.heap (oX O) := ⟨hO.symm, Nat.le_refl _, hA, [], fun a => by simp, fun k q h => by simp [va_pl] at h, ⟨fun i j p q h => by simp [va_pl] at h, fun k q h => by simp [va_pl] at h⟩⟩
  refine r_new C hQ hS (ci := 11) rfl inT_11 tyX11 tyX11_ok tw_135 tw_136 tw_106 (fs := [.null, .null, .null, .null, .null, .null, .null, .null, .null]) (by decide) (Nat.le_of_ble_eq_true rfl) (Nat.le_of_ble_eq_true rfl) dL_law__0 (fun H hQ hS => ?_)
  refine lv_dup hx hb dL_law__3 rfl ?_
  refine r_init C hQ hS S_X11_init mk_11 (host := "MemoryHouse") (As := []) (Or.inl tw_137) (Nat.le_of_ble_eq_true rfl) (Nat.le_of_ble_eq_true rfl) rfl hl.1 (Nat.le_of_ble_eq_true rfl) dL_law__4 ⟨Nat.le_of_ble_eq_true rfl, Nat.le_of_ble_eq_true rfl⟩ rfl (fun H locs hQ hS => ?_)
  refine lv_astore_n (lv' := [(1, .ref (oX O)), (0, .ref b)]) hx hb dL_law__7 rfl hl (Nat.le_of_ble_eq_true rfl) rfl (fun ls hl => ?_)
  refine r_new C hQ hS (ci := 12) rfl inT_12 tyX12 tyX12_ok tw_1537 tw_1538 tw_117 (fs := [.int 0, .null, .null, .int 0, .null, .int 0, .int 0, .int 0, .int 0, .int 0, .int 0, .null, .int 0, .int 0, .null, .null, .int 0, .null, .null, .null, .int 0, .int 0, .null, .null]) (by decide) (Nat.le_of_ble_eq_true rfl) (Nat.le_of_ble_eq_true rfl) dL_law__8 (fun H hQ hS => ?_)
  refine lv_dup hx hb dL_law__11 rfl ?_
  refine r_init C hQ hS (S_X12_init (a := oX O + 64)) mk_12 (host := "MemoryHouse") (As := []) (Or.inl tw_1539) (Nat.le_of_ble_eq_true rfl) (Nat.le_of_ble_eq_true rfl) rfl hl.1 (Nat.le_of_ble_eq_true rfl) dL_law__12 ⟨Nat.le_of_ble_eq_true rfl, Nat.le_of_ble_eq_true rfl⟩ rfl (fun H locs hQ hS => ?_)
  rw [x_kl_app (m := 64) rfl] at hQ
  refine lv_astore_n (lv' := [(2, .ref (oX O + 64)), (1, .ref (oX O)), (0, .ref b)]) hx hb dL_law__15 rfl hl (Nat.le_of_ble_eq_true rfl) rfl (fun ls hl => ?_)
  refine lv_iconst (v := 1) hx hb dL_law__16 rfl ?_
  refine r_newa C hQ hS (N := 1) (kd := 18) (Or.inr (Or.inr ⟨rfl, rfl⟩)) ac_long (by decide) (by decide) (by decide) (Nat.le_of_ble_eq_true rfl) (Nat.le_of_ble_eq_true rfl) dL_law__17 (fun H hQ hS => ?_)
  rw [show oX O + 64 + 12 = oX O + 76 by omega, x_kl_snoc (m := 76) rfl] at hQ
  have hQ : x_Q2 O (x_kl (fun _ => (0, 0)) (oX O) x_ks) (fun _ => []) (x_zr (x_hs (x_hs (fun _ _ => 0, fun _ _ => 0, fun _ _ => none) (oX O) 64 g_11) (oX O + 64) 12 g_12) (oX O + 76)) H (oX O + 77) := hQ
  refine lv_astore_n (lv' := [(3, .ref (oX O + 76)), (2, .ref (oX O + 64)), (1, .ref (oX O)), (0, .ref b)]) hx hb dL_law__19 rfl hl (Nat.le_of_ble_eq_true rfl) rfl (fun ls hl => ?_)
  refine lv_iconst (v := 0) hx hb dL_law__20 rfl ?_
  refine lv_istore (lv' := [(4, .int 0), (3, .ref (oX O + 76)), (2, .ref (oX O + 64)), (1, .ref (oX O)), (0, .ref b)]) hx hb dL_law__21 hl (Nat.le_of_ble_eq_true rfl) rfl (fun ls hl => ?_)
  have hr0 : ∀ b k, (x_zr (x_hs (x_hs (fun _ _ => 0, fun _ _ => 0, fun _ _ => none) (oX O) 64 g_11) (oX O + 64) 12 g_12) (oX O + 76)).2.2 b k = none := fun b k => by simp [x_zr, x_hs]
  have hR := hQ.toR (x_T.base hr0)
  have hI : Inv 0 (oX O) (x_kl (fun _ => (0, 0)) (oX O) x_ks) (x_zr (x_hs (x_hs (fun _ _ => 0, fun _ _ => 0, fun _ _ => none) (oX O) 64 g_11) (oX O + 64) 12 g_12) (oX O + 76)) := by
    refine Inv.start (fun j k hj => ?_) (fun j k hj => ?_) hr0
    · show (if oX O + j = oX O + 76 then (0 : Int32) else if oX O + j < oX O + 64 ∨ oX O + 64 + 12 ≤ oX O + j then (if oX O + j < oX O ∨ oX O + 64 ≤ oX O + j then (0 : Int32) else g_11.1 (oX O + j - oX O) k) else g_12.1 (oX O + j - (oX O + 64)) k) = _
      rw [if_neg (by omega), if_pos (by omega), if_neg (by omega), show oX O + j - oX O = j by omega]
    · show (if oX O + 64 + j = oX O + 76 then (0 : Int32) else if oX O + 64 + j < oX O + 64 ∨ oX O + 64 + 12 ≤ oX O + 64 + j then (if oX O + 64 + j < oX O ∨ oX O + 64 ≤ oX O + 64 + j then (0 : Int32) else g_11.1 (oX O + 64 + j - oX O) k) else g_12.1 (oX O + 64 + j - (oX O + 64)) k) = _
      rw [if_neg (by omega), if_neg (by omega), show oX O + 64 + j - (oX O + 64) = j by omega]
  refine law_loop C hst hA hX hbl hbA hL (PR _) (fun ls H locs cells slots hS hc hs => ?_) 513 0 _ _ ls H locs 0 _ _ (by omega) (by omega) (by omega) (Nat.le_of_ble_eq_true rfl) (Nat.le_of_ble_eq_true rfl) (lv_sub hl [4, 3, 2, 1, 0] rfl) hR hS hI
  refine lv_iconst (v := 1) hx hb dL_law__2940 rfl ?_
  refine va_forget (fun q hq => (hA0 _).mp (hS.2.2 q hq)) ?_
  refine W.widen (k := room_1.cells) (n := room_1.slots) hc hs ?_
  exact lw_ret hx hb hr hlocks dL_law__2941
