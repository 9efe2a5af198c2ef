/-! ===== rows of the script: what both sides answer ===== -/
theorem lb_v {α : Type} {v : α} {h : XH} {hs : List Nat} {k : α → XH → XH} : x_lb (some (.inr v, h)) hs k = some (0, k v h) := rfl
theorem lb_e {α : Type} {e : Nat} {h : XH} {hs : List Nat} {k : α → XH → XH} {j : Nat} (hj : hs.idxOf? e = some j) : x_lb (α := α) (some (.inl e, h)) hs k = some (nI (j + 1), h) := by
  simp [x_lb, hj]
theorem cmp_0 {a b : Int64} (h : a = b) : lg_cmp a b = 0 := by
  subst h
  simp [lg_cmp]
theorem tv_0 {x : Nat} {h : XH} {v2 : Int32} : f_X12_throwsIf x h 0 v2 = some (0, h) := by simp [f_X12_throwsIf, f_X12_throwsIf_9, x_isb]
theorem tv_1 {x : Nat} {h : XH} {v2 : Int32} : f_X12_throwsIf x h 1 v2 = some (1, x_i h (x + 64) 0 v2) := by simp [f_X12_throwsIf, f_X12_throwsIf_9, x_isb, x_let]
/-- fault -/
theorem P_row4 {gh : Nat} {x : Nat} {K : XK} {h : XH} (I : Inv gh x K h) : ∃ h', f_row4 x h = some h' ∧ Inv gh x K h' := by
  obtain ⟨hW, hS, hM, L, hL, t1, t2, t3, t4⟩ := id I
  refine ⟨x_i h (x + 64) 0 0, ?_, I.fr (Fr.m (by decide) (by decide) (by decide))⟩
  have e : h.1 (x + 64) 10 = h.1 (x + 1) 8 := t3
  simp [f_row4, f_X11_fault, f_X12_fault, x_let, gi_, e]
