/-! ===== what a line of a text tells: stacks of int32, the top first ===== -/
theorem xl_ {α β : Type} (a : α) (f : α → β) : x_let a f = f a := rfl
theorem jltT {a b : Int} (a1 : -2147483648 ≤ a) (b2 : b < 2147483648) (h : a < b) : (jI a < jI b) = True := eq_true ((jI_lt a1 (by omega) (by omega) b2).mpr h)
theorem jltF {a b : Int} (a2 : a < 2147483648) (b1 : -2147483648 ≤ b) (h : b ≤ a) : (jI a < jI b) = False := eq_false (fun q => by have := (jI_lt (by omega) a2 b1 (by omega)).mp q; omega)
theorem jleT {a b : Int} (a1 : -2147483648 ≤ a) (b2 : b < 2147483648) (h : a ≤ b) : (jI a ≤ jI b) = True := eq_true ((jI_le a1 (by omega) (by omega) b2).mpr h)
theorem jleF {a b : Int} (a2 : a < 2147483648) (b1 : -2147483648 ≤ b) (h : b < a) : (jI a ≤ jI b) = False := eq_false (fun q => by have := (jI_le (by omega) a2 b1 (by omega)).mp q; omega)
theorem jeqT {a b : Int} (h : a = b) : (jI a = jI b) = True := eq_true (by rw [h])
theorem jeqF {a b : Int} (a1 : -2147483648 ≤ a) (a2 : a < 2147483648) (b1 : -2147483648 ≤ b) (b2 : b < 2147483648) (h : a ≠ b) : (jI a = jI b) = False := eq_false (fun q => h ((jI_eq a1 a2 b1 b2).mp q))
theorem jM : (1040 : Int32) = jI 1040 ∧ (1045 : Int32) = jI 1045 ∧ (1043 : Int32) = jI 1043 ∧ (1044 : Int32) = jI 1044 ∧ (1143 : Int32) = jI 1143 ∧ (1160 : Int32) = jI 1160 ∧ (1000 : Int32) = jI 1000 ∧ (-1 : Int32) = jI (-1) ∧ (14 : Int32) = jI 14 ∧ (11 : Int32) = jI 11 ∧ (12 : Int32) = jI 12 ∧ (15 : Int32) = jI 15 ∧ (970 : Int32) = jI 970 ∧ (851 : Int32) = jI 851 := by decide
def sk_ (h : XH) (a : Nat) : List Int32 → Prop
  | [] => True
  | v :: V => h.1 a V.length = v ∧ sk_ h a V
theorem sk_u {h : XH} {a j : Nat} {v : Int32} : ∀ {V : List Int32}, V.length ≤ j → sk_ h a V → sk_ (x_i h a j v) a V := by
  intro V
  induction V with
  | nil => intro _ _; trivial
  | cons u V ih =>
    intro hj hs
    have hj : V.length + 1 ≤ j := hj
    exact ⟨by rw [gi_k (by omega)]; exact hs.1, ih (by omega) hs.2⟩
def ty_ : List Bool → List Int32 → Prop
  | [], [] => True
  | t :: T, v :: V => (t = true → v = 0 ∨ v = 1) ∧ ty_ T V
  | _, _ => False
theorem ty_l : ∀ {T : List Bool} {V : List Int32}, ty_ T V → T.length = V.length := by
  intro T
  induction T with
  | nil => intro V h; cases V with
    | nil => rfl
    | cons => exact h.elim
  | cons t T ih => intro V h; cases V with
    | nil => exact h.elim
    | cons v V => rw [List.length_cons, List.length_cons, ih h.2]
/-- one step on values; F: the facts by the reference's places -/
def es_ (F : Int → Int32) (s n : Int) (V : List Int32) : List Int32 :=
  if s = 10 then jI n :: V else if s < 10 then F s :: V else match V with
    | [] => []
    | [a] => [1 - a]
    | a :: b :: V' => if s = 14 then (1 - a) :: b :: V' else (if s = 11 then b + a else if s = 12 then (if a ≤ b then 0 else 1) else if s = 13 then (if b ≤ a then 0 else 1) else if s = 15 then (if b + a = 2 then 1 else 0) else (if b + a ≤ 0 then 0 else 1)) :: V'
def er_ (w : Nat → Int) (b : Nat) (F : Int → Int32) : Nat → Nat → List Int32 → List Int32
  | 0, _, V => V
  | n + 1, i, V => er_ w b F n (i + 1) (es_ F (w (b + 51 + 2 * i)) (w (b + 52 + 2 * i)) V)
def mt_ : List Int32 → Int32
  | v :: _ => if v = 0 then 0 else 1
  | [] => 1
/-- the kinds of step that are -/
theorem ts_k {ru : Bool} {s n : Int} {T T' : List Bool} (h : ts_ ru s n T = some T') :
    (s = 10 ∧ 0 ≤ n ∧ n < 1000 ∧ T.length < 17 ∧ T' = false :: T) ∨ (0 ≤ s ∧ s < (if ru then 4 else 8) ∧ T.length < 17 ∧ T' = false :: T) ∨ ((s = 8 ∨ (s = 9 ∧ ru = false)) ∧ T.length < 17 ∧ T' = true :: T) ∨
    (s = 14 ∧ ∃ T0, T = true :: T0 ∧ T' = true :: T0) ∨ (s = 11 ∧ ∃ T0, T = false :: false :: T0 ∧ T' = false :: T0) ∨ ((s = 12 ∨ s = 13) ∧ ∃ T0, T = false :: false :: T0 ∧ T' = true :: T0) ∨ ((s = 15 ∨ s = 16) ∧ ∃ T0, T = true :: true :: T0 ∧ T' = true :: T0) := by
  unfold ts_ at h
  by_cases a1 : s = 10
  · rw [if_pos a1] at h
    by_cases a2 : 0 ≤ n ∧ n < 1000 ∧ T.length < 17
    · rw [if_pos a2] at h
      cases h
      exact Or.inl ⟨a1, a2.1, a2.2.1, a2.2.2, rfl⟩
    · rw [if_neg a2] at h
      cases h
  rw [if_neg a1] at h
  by_cases a2 : 0 ≤ s ∧ s < (if ru then 4 else 8)
  · rw [if_pos a2] at h
    by_cases a3 : T.length < 17
    · rw [if_pos a3] at h
      cases h
      exact Or.inr (Or.inl ⟨a2.1, a2.2, a3, rfl⟩)
    · rw [if_neg a3] at h
      cases h
  rw [if_neg a2] at h
  by_cases a3 : s = 8 ∨ (s = 9 ∧ ru = false)
  · rw [if_pos a3] at h
    by_cases a4 : T.length < 17
    · rw [if_pos a4] at h
      cases h
      exact Or.inr (Or.inr (Or.inl ⟨a3, a4, rfl⟩))
    · rw [if_neg a4] at h
      cases h
  rw [if_neg a3] at h
  match T, h with
  | [], h => cases h
  | [a], h =>
    have h : (if s = 14 ∧ a = true then some [true] else none) = some T' := h
    by_cases a4 : s = 14 ∧ a = true
    · rw [if_pos a4] at h
      cases h
      exact Or.inr (Or.inr (Or.inr (Or.inl ⟨a4.1, [], by rw [a4.2], rfl⟩)))
    · rw [if_neg a4] at h
      cases h
  | a :: b :: T0, h =>
    have h : (if s = 14 ∧ a = true then some (true :: b :: T0) else if s = 11 ∧ a = false ∧ b = false then some (false :: T0) else if (s = 12 ∨ s = 13) ∧ a = false ∧ b = false then some (true :: T0) else if (s = 15 ∨ s = 16) ∧ a = true ∧ b = true then some (true :: T0) else none) = some T' := h
    by_cases a4 : s = 14 ∧ a = true
    · rw [if_pos a4] at h
      cases h
      exact Or.inr (Or.inr (Or.inr (Or.inl ⟨a4.1, b :: T0, by rw [a4.2], rfl⟩)))
    rw [if_neg a4] at h
    by_cases a5 : s = 11 ∧ a = false ∧ b = false
    · rw [if_pos a5] at h
      cases h
      exact Or.inr (Or.inr (Or.inr (Or.inr (Or.inl ⟨a5.1, T0, by rw [a5.2.1, a5.2.2], rfl⟩))))
    rw [if_neg a5] at h
    by_cases a6 : (s = 12 ∨ s = 13) ∧ a = false ∧ b = false
    · rw [if_pos a6] at h
      cases h
      exact Or.inr (Or.inr (Or.inr (Or.inr (Or.inr (Or.inl ⟨a6.1, T0, by rw [a6.2.1, a6.2.2], rfl⟩)))))
    rw [if_neg a6] at h
    by_cases a7 : (s = 15 ∨ s = 16) ∧ a = true ∧ b = true
    · rw [if_pos a7] at h
      cases h
      exact Or.inr (Or.inr (Or.inr (Or.inr (Or.inr (Or.inr ⟨a7.1, T0, by rw [a7.2.1, a7.2.2], rfl⟩)))))
    · rw [if_neg a7] at h
      cases h
theorem bo_n {v : Int32} (h : v = 0 ∨ v = 1) : (1 - v = 0 ∨ 1 - v = 1) := by rcases h with h | h <;> subst h <;> decide
theorem bo_a {u v : Int32} (hu : u = 0 ∨ u = 1) (hv : v = 0 ∨ v = 1) : u &&& v = if u + v = 2 then 1 else 0 := by rcases hu with h | h <;> rcases hv with g | g <;> subst h <;> subst g <;> decide
theorem bo_o {u v : Int32} (hu : u = 0 ∨ u = 1) (hv : v = 0 ∨ v = 1) : u ||| v = if u + v ≤ 0 then 0 else 1 := by rcases hu with h | h <;> rcases hv with g | g <;> subst h <;> subst g <;> decide
theorem bo_i {c : Prop} [Decidable c] {a b : Int32} (ha : a = 0 ∨ a = 1) (hb : b = 0 ∨ b = 1) : (if c then a else b) = 0 ∨ (if c then a else b) = 1 := by split <;> assumption

theorem CTx.cell {x r b i : Nat} {K : XK} {h : XH} {w : Nat → Int} {ru : Bool} (c : CTx x K h r w b ru) (hi : i < (K (r + 4)).2) : h.1 (r + 4) i = jI (mu_ ru (w (b + 51 + 2 * i)) (w (b + 52 + 2 * i))) := c.2.2.2.2.2.2.2.2 i hi
set_option maxRecDepth 20000 in
theorem st_num {x r e i m l : Nat} {K : XK} {h : XH} (hi : i < e) (he : e ≤ (K (r + 4)).2) (hK : (K (r + 4)).2 ≤ 400) {z : Int} (hz : 0 ≤ z ∧ z < 1000) (hl : l < 17) (hc : h.1 (r + 4) i = jI z) : f_X9_isMet_6 K x (m + 1) h (some r) (jI (e : Int)) (jI ((l : Nat) : Int)) (jI (i : Int)) = f_X9_isMet_6 K x m (x_i h (x + 45) l (jI z)) (some r) (jI (e : Int)) (jI ((l + 1 : Nat) : Int)) (jI ((i + 1 : Nat) : Int)) := by
  have hN : nI (K (r + 4)).2 = jI ((K (r + 4)).2 : Int) := jI_nI _
  have ci : ((i + 1 : Nat) : Int) = (i : Int) + 1 := rfl
  have cl : ((l + 1 : Nat) : Int) = (l : Int) + 1 := rfl
  have cm : ((l + 1 + 1 : Nat) : Int) = (l : Int) + 1 + 1 := rfl
  rw [f_X9_isMet_6]
  simp (disch := omega) only [f_X9_isMet_78, f_X9_isMet_90, f_X9_isMet_304, hN, hc, ↓xl_, ↓Option.bind_some, ↓reduceIte, jL, jM, jJ, jltT, jltF, jleT, jleF, jeqT, jeqF, jI_nat, jBt, jBo, Int.toNat_zero, Int.toNat_natCast, isb0, isb1, ci, cl]
set_option maxRecDepth 20000 in
theorem st_fact {x r e i m l : Nat} {K : XK} {h : XH} (hi : i < e) (he : e ≤ (K (r + 4)).2) (hK : (K (r + 4)).2 ≤ 400) {z : Int} {v : Int32} (hz : 0 ≤ z ∧ z < 10) (hl : l < 17) (hc : h.1 (r + 4) i = jI (1000 + z)) (hv : h.1 (x + 44) z.toNat = v) : f_X9_isMet_6 K x (m + 1) h (some r) (jI (e : Int)) (jI ((l : Nat) : Int)) (jI (i : Int)) = f_X9_isMet_6 K x m (x_i h (x + 45) l (v)) (some r) (jI (e : Int)) (jI ((l + 1 : Nat) : Int)) (jI ((i + 1 : Nat) : Int)) := by
  have hN : nI (K (r + 4)).2 = jI ((K (r + 4)).2 : Int) := jI_nI _
  have ci : ((i + 1 : Nat) : Int) = (i : Int) + 1 := rfl
  have cl : ((l + 1 : Nat) : Int) = (l : Int) + 1 := rfl
  have cm : ((l + 1 + 1 : Nat) : Int) = (l : Int) + 1 + 1 := rfl
  have e1 : (1000 + z - 1000 : Int) = z := by omega
  rw [f_X9_isMet_6]
  simp (disch := omega) only [f_X9_isMet_78, f_X9_isMet_90, f_X9_isMet_304, hN, hc, ↓xl_, ↓Option.bind_some, ↓reduceIte, jL, jM, jJ, jltT, jltF, jleT, jleF, jeqT, jeqF, jI_nat, jBt, jBo, Int.toNat_zero, Int.toNat_natCast, isb0, isb1, ci, cl, e1, hv]
set_option maxRecDepth 20000 in
theorem st_not {x r e i m l : Nat} {K : XK} {h : XH} (hi : i < e) (he : e ≤ (K (r + 4)).2) (hK : (K (r + 4)).2 ≤ 400) {v : Int32} (hl : l < 17) (hc : h.1 (r + 4) i = jI 1045) (hv : h.1 (x + 45) l = v) : f_X9_isMet_6 K x (m + 1) h (some r) (jI (e : Int)) (jI ((l + 1 : Nat) : Int)) (jI (i : Int)) = f_X9_isMet_6 K x m (x_i h (x + 45) l (1 - v)) (some r) (jI (e : Int)) (jI ((l + 1 : Nat) : Int)) (jI ((i + 1 : Nat) : Int)) := by
  have hN : nI (K (r + 4)).2 = jI ((K (r + 4)).2 : Int) := jI_nI _
  have ci : ((i + 1 : Nat) : Int) = (i : Int) + 1 := rfl
  have cl : ((l + 1 : Nat) : Int) = (l : Int) + 1 := rfl
  have cm : ((l + 1 + 1 : Nat) : Int) = (l : Int) + 1 + 1 := rfl
  have e1 : ((l : Int) + 1 - 1) = l := by omega
  rw [f_X9_isMet_6]
  simp (disch := omega) only [f_X9_isMet_304, hN, hc, ↓xl_, ↓Option.bind_some, ↓reduceIte, jL, jM, jJ, jltT, jltF, jleT, jleF, jeqT, jeqF, jI_nat, jBt, jBo, Int.toNat_zero, Int.toNat_natCast, isb0, isb1, ci, cl, e1, hv]
theorem l1045 : (1045 : Int32) = jI 1045 := by decide
theorem l1040 : (1040 : Int32) = jI 1040 := by decide
theorem l1043 : (1043 : Int32) = jI 1043 := by decide
theorem l1044 : (1044 : Int32) = jI 1044 := by decide
theorem l1143 : (1143 : Int32) = jI 1143 := by decide
theorem l1160 : (1160 : Int32) = jI 1160 := by decide
theorem l1_ : (1 : Int32) = jI 1 := by decide
theorem l2_ : (2 : Int32) = jI 2 := by decide
theorem nat_ {n : Nat} (hn : n < 2147483648) : (jI (n : Int)).toNatClampNeg = n := by rw [jI_nat (by omega) (by omega)]; exact Int.toNat_natCast n
theorem st_add {x r e i m l : Nat} {K : XK} {h : XH} (hi : i < e) (he : e ≤ (K (r + 4)).2) (hK : (K (r + 4)).2 ≤ 400) {u v : Int32} (hl : l < 16) (hc : h.1 (r + 4) i = jI 1143) (hv : h.1 (x + 45) (l + 1) = v) (hu : h.1 (x + 45) l = u) : f_X9_isMet_6 K x (m + 1) h (some r) (jI (e : Int)) (jI ((l + 1 + 1 : Nat) : Int)) (jI (i : Int)) = f_X9_isMet_6 K x m (x_i h (x + 45) l (u + v)) (some r) (jI (e : Int)) (jI ((l + 1 : Nat) : Int)) (jI ((i + 1 : Nat) : Int)) := by
  have hN : nI (K (r + 4)).2 = jI ((K (r + 4)).2 : Int) := jI_nI _
  have d0 : jI (i : Int) + 1 = jI ((i + 1 : Nat) : Int) := by rw [l1_, jI_add]; rfl
  have d1 : jI ((l + 1 + 1 : Nat) : Int) + -1 = jI ((l + 1 : Nat) : Int) := by rw [m1_, jI_add]; congr 1; omega
  have d2 : jI ((l + 1 : Nat) : Int) - 1 = jI (l : Int) := by rw [l1_, jI_sub]; congr 1; omega
  have k5 : ¬ jI 1143 = (1045 : Int32) := by decide
  have k0 : (1040 : Int32) ≤ jI 1143 := by decide
  have b1 : ¬ jI (e : Int) ≤ jI (i : Int) := of_eq_false (jleF (by omega) (by omega) (by omega))
  have b2 : ¬ jI ((K (r + 4)).2 : Int) ≤ jI (i : Int) := of_eq_false (jleF (by omega) (by omega) (by omega))
  have b3 : x_b (jI (i : Int)) (K (r + 4)).2 = true := jI_b (by omega) (by omega) (by omega)
  have b4 : ¬ jI ((l + 1 + 1 : Nat) : Int) < 2 := by rw [l2_]; exact of_eq_false (jltF (by omega) (by omega) (by omega))
  have b5 : x_b (jI ((l + 1 : Nat) : Int)) 20 = true := jI_b (by omega) (by omega) (by omega)
  have b6 : x_b (jI (l : Int)) 20 = true := jI_b (by omega) (by omega) (by omega)
  have n1 : (jI (i : Int)).toNatClampNeg = i := nat_ (by omega)
  have n2 : (jI (l : Int)).toNatClampNeg = l := nat_ (by omega)
  have n3 : (jI ((l + 1 : Nat) : Int)).toNatClampNeg = l + 1 := nat_ (by omega)
  rw [f_X9_isMet_6]
  generalize f_X9_isMet_6 K x m = kf
  rw [if_neg b1, Option.bind_some, hN, if_neg b2, Option.bind_some, if_pos b3, xl_, n1, hc, if_pos k0, if_neg k5, if_neg b4, d1, d2, if_pos b6, xl_, n2, hu, if_pos b5, xl_, n3, hv]
  rw [if_neg (by decide : ¬ jI 1143 = (1043 : Int32))]
  rw [if_neg (by decide : ¬ jI 1143 = (1044 : Int32))]
  rw [if_pos (by decide : jI 1143 = (1143 : Int32))]
  rw [if_pos b6, xl_, f_X9_isMet_304, d0]
theorem st_lt {x r e i m l : Nat} {K : XK} {h : XH} (hi : i < e) (he : e ≤ (K (r + 4)).2) (hK : (K (r + 4)).2 ≤ 400) {u v : Int32} (hl : l < 16) (hc : h.1 (r + 4) i = jI 1160) (hv : h.1 (x + 45) (l + 1) = v) (hu : h.1 (x + 45) l = u) : f_X9_isMet_6 K x (m + 1) h (some r) (jI (e : Int)) (jI ((l + 1 + 1 : Nat) : Int)) (jI (i : Int)) = f_X9_isMet_6 K x m (x_i h (x + 45) l (if v ≤ u then 0 else 1)) (some r) (jI (e : Int)) (jI ((l + 1 : Nat) : Int)) (jI ((i + 1 : Nat) : Int)) := by
  have hN : nI (K (r + 4)).2 = jI ((K (r + 4)).2 : Int) := jI_nI _
  have d0 : jI (i : Int) + 1 = jI ((i + 1 : Nat) : Int) := by rw [l1_, jI_add]; rfl
  have d1 : jI ((l + 1 + 1 : Nat) : Int) + -1 = jI ((l + 1 : Nat) : Int) := by rw [m1_, jI_add]; congr 1; omega
  have d2 : jI ((l + 1 : Nat) : Int) - 1 = jI (l : Int) := by rw [l1_, jI_sub]; congr 1; omega
  have k5 : ¬ jI 1160 = (1045 : Int32) := by decide
  have k0 : (1040 : Int32) ≤ jI 1160 := by decide
  have b1 : ¬ jI (e : Int) ≤ jI (i : Int) := of_eq_false (jleF (by omega) (by omega) (by omega))
  have b2 : ¬ jI ((K (r + 4)).2 : Int) ≤ jI (i : Int) := of_eq_false (jleF (by omega) (by omega) (by omega))
  have b3 : x_b (jI (i : Int)) (K (r + 4)).2 = true := jI_b (by omega) (by omega) (by omega)
  have b4 : ¬ jI ((l + 1 + 1 : Nat) : Int) < 2 := by rw [l2_]; exact of_eq_false (jltF (by omega) (by omega) (by omega))
  have b5 : x_b (jI ((l + 1 : Nat) : Int)) 20 = true := jI_b (by omega) (by omega) (by omega)
  have b6 : x_b (jI (l : Int)) 20 = true := jI_b (by omega) (by omega) (by omega)
  have n1 : (jI (i : Int)).toNatClampNeg = i := nat_ (by omega)
  have n2 : (jI (l : Int)).toNatClampNeg = l := nat_ (by omega)
  have n3 : (jI ((l + 1 : Nat) : Int)).toNatClampNeg = l + 1 := nat_ (by omega)
  rw [f_X9_isMet_6]
  generalize f_X9_isMet_6 K x m = kf
  rw [if_neg b1, Option.bind_some, hN, if_neg b2, Option.bind_some, if_pos b3, xl_, n1, hc, if_pos k0, if_neg k5, if_neg b4, d1, d2, if_pos b6, xl_, n2, hu, if_pos b5, xl_, n3, hv]
  rw [if_neg (by decide : ¬ jI 1160 = (1043 : Int32))]
  rw [if_neg (by decide : ¬ jI 1160 = (1044 : Int32))]
  rw [if_neg (by decide : ¬ jI 1160 = (1143 : Int32))]
  rw [if_pos (by decide : jI 1160 = (1160 : Int32))]
  rw [if_pos b6, xl_, f_X9_isMet_304, d0]
theorem st_gt {x r e i m l : Nat} {K : XK} {h : XH} (hi : i < e) (he : e ≤ (K (r + 4)).2) (hK : (K (r + 4)).2 ≤ 400) {u v : Int32} (hl : l < 16) (hc : h.1 (r + 4) i = jI 1162) (hv : h.1 (x + 45) (l + 1) = v) (hu : h.1 (x + 45) l = u) : f_X9_isMet_6 K x (m + 1) h (some r) (jI (e : Int)) (jI ((l + 1 + 1 : Nat) : Int)) (jI (i : Int)) = f_X9_isMet_6 K x m (x_i h (x + 45) l (if u ≤ v then 0 else 1)) (some r) (jI (e : Int)) (jI ((l + 1 : Nat) : Int)) (jI ((i + 1 : Nat) : Int)) := by
  have hN : nI (K (r + 4)).2 = jI ((K (r + 4)).2 : Int) := jI_nI _
  have d0 : jI (i : Int) + 1 = jI ((i + 1 : Nat) : Int) := by rw [l1_, jI_add]; rfl
  have d1 : jI ((l + 1 + 1 : Nat) : Int) + -1 = jI ((l + 1 : Nat) : Int) := by rw [m1_, jI_add]; congr 1; omega
  have d2 : jI ((l + 1 : Nat) : Int) - 1 = jI (l : Int) := by rw [l1_, jI_sub]; congr 1; omega
  have k5 : ¬ jI 1162 = (1045 : Int32) := by decide
  have k0 : (1040 : Int32) ≤ jI 1162 := by decide
  have b1 : ¬ jI (e : Int) ≤ jI (i : Int) := of_eq_false (jleF (by omega) (by omega) (by omega))
  have b2 : ¬ jI ((K (r + 4)).2 : Int) ≤ jI (i : Int) := of_eq_false (jleF (by omega) (by omega) (by omega))
  have b3 : x_b (jI (i : Int)) (K (r + 4)).2 = true := jI_b (by omega) (by omega) (by omega)
  have b4 : ¬ jI ((l + 1 + 1 : Nat) : Int) < 2 := by rw [l2_]; exact of_eq_false (jltF (by omega) (by omega) (by omega))
  have b5 : x_b (jI ((l + 1 : Nat) : Int)) 20 = true := jI_b (by omega) (by omega) (by omega)
  have b6 : x_b (jI (l : Int)) 20 = true := jI_b (by omega) (by omega) (by omega)
  have n1 : (jI (i : Int)).toNatClampNeg = i := nat_ (by omega)
  have n2 : (jI (l : Int)).toNatClampNeg = l := nat_ (by omega)
  have n3 : (jI ((l + 1 : Nat) : Int)).toNatClampNeg = l + 1 := nat_ (by omega)
  rw [f_X9_isMet_6]
  generalize f_X9_isMet_6 K x m = kf
  rw [if_neg b1, Option.bind_some, hN, if_neg b2, Option.bind_some, if_pos b3, xl_, n1, hc, if_pos k0, if_neg k5, if_neg b4, d1, d2, if_pos b6, xl_, n2, hu, if_pos b5, xl_, n3, hv]
  rw [if_neg (by decide : ¬ jI 1162 = (1043 : Int32))]
  rw [if_neg (by decide : ¬ jI 1162 = (1044 : Int32))]
  rw [if_neg (by decide : ¬ jI 1162 = (1143 : Int32))]
  rw [if_neg (by decide : ¬ jI 1162 = (1160 : Int32))]
  rw [if_pos b6, xl_, f_X9_isMet_304, d0]
theorem st_and {x r e i m l : Nat} {K : XK} {h : XH} (hi : i < e) (he : e ≤ (K (r + 4)).2) (hK : (K (r + 4)).2 ≤ 400) {u v : Int32} (hl : l < 16) (hc : h.1 (r + 4) i = jI 1043) (hv : h.1 (x + 45) (l + 1) = v) (hu : h.1 (x + 45) l = u) : f_X9_isMet_6 K x (m + 1) h (some r) (jI (e : Int)) (jI ((l + 1 + 1 : Nat) : Int)) (jI (i : Int)) = f_X9_isMet_6 K x m (x_i h (x + 45) l (u &&& v)) (some r) (jI (e : Int)) (jI ((l + 1 : Nat) : Int)) (jI ((i + 1 : Nat) : Int)) := by
  have hN : nI (K (r + 4)).2 = jI ((K (r + 4)).2 : Int) := jI_nI _
  have d0 : jI (i : Int) + 1 = jI ((i + 1 : Nat) : Int) := by rw [l1_, jI_add]; rfl
  have d1 : jI ((l + 1 + 1 : Nat) : Int) + -1 = jI ((l + 1 : Nat) : Int) := by rw [m1_, jI_add]; congr 1; omega
  have d2 : jI ((l + 1 : Nat) : Int) - 1 = jI (l : Int) := by rw [l1_, jI_sub]; congr 1; omega
  have k5 : ¬ jI 1043 = (1045 : Int32) := by decide
  have k0 : (1040 : Int32) ≤ jI 1043 := by decide
  have b1 : ¬ jI (e : Int) ≤ jI (i : Int) := of_eq_false (jleF (by omega) (by omega) (by omega))
  have b2 : ¬ jI ((K (r + 4)).2 : Int) ≤ jI (i : Int) := of_eq_false (jleF (by omega) (by omega) (by omega))
  have b3 : x_b (jI (i : Int)) (K (r + 4)).2 = true := jI_b (by omega) (by omega) (by omega)
  have b4 : ¬ jI ((l + 1 + 1 : Nat) : Int) < 2 := by rw [l2_]; exact of_eq_false (jltF (by omega) (by omega) (by omega))
  have b5 : x_b (jI ((l + 1 : Nat) : Int)) 20 = true := jI_b (by omega) (by omega) (by omega)
  have b6 : x_b (jI (l : Int)) 20 = true := jI_b (by omega) (by omega) (by omega)
  have n1 : (jI (i : Int)).toNatClampNeg = i := nat_ (by omega)
  have n2 : (jI (l : Int)).toNatClampNeg = l := nat_ (by omega)
  have n3 : (jI ((l + 1 : Nat) : Int)).toNatClampNeg = l + 1 := nat_ (by omega)
  rw [f_X9_isMet_6]
  generalize f_X9_isMet_6 K x m = kf
  rw [if_neg b1, Option.bind_some, hN, if_neg b2, Option.bind_some, if_pos b3, xl_, n1, hc, if_pos k0, if_neg k5, if_neg b4, d1, d2, if_pos b6, xl_, n2, hu, if_pos b5, xl_, n3, hv]
  rw [if_pos (by decide : jI 1043 = (1043 : Int32))]
  rw [if_pos b6, xl_, f_X9_isMet_304, d0]
theorem st_or {x r e i m l : Nat} {K : XK} {h : XH} (hi : i < e) (he : e ≤ (K (r + 4)).2) (hK : (K (r + 4)).2 ≤ 400) {u v : Int32} (hl : l < 16) (hc : h.1 (r + 4) i = jI 1044) (hv : h.1 (x + 45) (l + 1) = v) (hu : h.1 (x + 45) l = u) : f_X9_isMet_6 K x (m + 1) h (some r) (jI (e : Int)) (jI ((l + 1 + 1 : Nat) : Int)) (jI (i : Int)) = f_X9_isMet_6 K x m (x_i h (x + 45) l (u ||| v)) (some r) (jI (e : Int)) (jI ((l + 1 : Nat) : Int)) (jI ((i + 1 : Nat) : Int)) := by
  have hN : nI (K (r + 4)).2 = jI ((K (r + 4)).2 : Int) := jI_nI _
  have d0 : jI (i : Int) + 1 = jI ((i + 1 : Nat) : Int) := by rw [l1_, jI_add]; rfl
  have d1 : jI ((l + 1 + 1 : Nat) : Int) + -1 = jI ((l + 1 : Nat) : Int) := by rw [m1_, jI_add]; congr 1; omega
  have d2 : jI ((l + 1 : Nat) : Int) - 1 = jI (l : Int) := by rw [l1_, jI_sub]; congr 1; omega
  have k5 : ¬ jI 1044 = (1045 : Int32) := by decide
  have k0 : (1040 : Int32) ≤ jI 1044 := by decide
  have b1 : ¬ jI (e : Int) ≤ jI (i : Int) := of_eq_false (jleF (by omega) (by omega) (by omega))
  have b2 : ¬ jI ((K (r + 4)).2 : Int) ≤ jI (i : Int) := of_eq_false (jleF (by omega) (by omega) (by omega))
  have b3 : x_b (jI (i : Int)) (K (r + 4)).2 = true := jI_b (by omega) (by omega) (by omega)
  have b4 : ¬ jI ((l + 1 + 1 : Nat) : Int) < 2 := by rw [l2_]; exact of_eq_false (jltF (by omega) (by omega) (by omega))
  have b5 : x_b (jI ((l + 1 : Nat) : Int)) 20 = true := jI_b (by omega) (by omega) (by omega)
  have b6 : x_b (jI (l : Int)) 20 = true := jI_b (by omega) (by omega) (by omega)
  have n1 : (jI (i : Int)).toNatClampNeg = i := nat_ (by omega)
  have n2 : (jI (l : Int)).toNatClampNeg = l := nat_ (by omega)
  have n3 : (jI ((l + 1 : Nat) : Int)).toNatClampNeg = l + 1 := nat_ (by omega)
  rw [f_X9_isMet_6]
  generalize f_X9_isMet_6 K x m = kf
  rw [if_neg b1, Option.bind_some, hN, if_neg b2, Option.bind_some, if_pos b3, xl_, n1, hc, if_pos k0, if_neg k5, if_neg b4, d1, d2, if_pos b6, xl_, n2, hu, if_pos b5, xl_, n3, hv]
  rw [if_neg (by decide : ¬ jI 1044 = (1043 : Int32))]
  rw [if_pos (by decide : jI 1044 = (1044 : Int32))]
  rw [if_pos b6, xl_, f_X9_isMet_304, d0]
/-- the component's walk over a line's steps -/
theorem c_met {x r b e : Nat} {K : XK} {h0 : XH} {w : Nat → Int} {ru : Bool} {F : Int → Int32} (c : CTx x K h0 r w b ru) (hK : e ≤ (K (r + 4)).2) (hF : ∀ s : Int, 0 ≤ s → s < 10 → (ru = true → s = 8 ∨ s < 4) → h0.1 (x + 44) (if ru = true ∧ s = 8 then 4 else s).toNat = F s) (hG : (F 8 = 0 ∨ F 8 = 1) ∧ (ru = false → F 9 = 0 ∨ F 9 = 1)) :
    ∀ (k i m : Nat), i + k = e → k < m → ∀ (h1 : XH) (V : List Int32) (T : List Bool), (∀ a, a ≠ x + 45 → h1.1 a = h0.1 a) → h1.2 = h0.2 → sk_ h1 (x + 45) V → ty_ T V → T.length ≤ 17 → tr_ w b ru k i T = some [true] →
      ∃ h2, f_X9_isMet_6 K x m h1 (some r) (jI (e : Int)) (jI (V.length : Int)) (jI (i : Int)) = some (mt_ (er_ w b F k i V), h2) ∧ (∀ a, a ≠ x + 45 → h2.1 a = h0.1 a) ∧ h2.2 = h0.2 := by
  have hr := c.1
  have h400 := c.2.2.2.2.2.2.1
  intro k
  induction k with
  | zero =>
    intro i m hi hm h1 V T s1 s2 hs ht hT htr
    obtain ⟨m, rfl⟩ : ∃ m', m = m' + 1 := ⟨m - 1, by omega⟩
    cases htr
    match V, ht with
    | [v], ht =>
      have hs0 : h1.1 (x + 45) 0 = v := hs.1
      refine ⟨h1, ?_, s1, s2⟩
      have l1 : (([v] : List Int32).length : Int) = 1 := rfl
      rw [l1, f_X9_isMet_6]
      simp (disch := omega) only [f_X9_isMet_310, ↓xl_, ↓Option.bind_some, ↓reduceIte, jL, jM, jJ, jltT, jltF, jleT, jleF, jeqT, jeqF, jI_nat, jBt, jBo, Int.toNat_zero, Int.toNat_natCast, isb0, isb1, hs0]
      simp only [er_, mt_, jL]
  | succ k ih =>
    intro i m hi hm h1 V T s1 s2 hs ht hT htr0
    obtain ⟨m, rfl⟩ : ∃ m', m = m' + 1 := ⟨m - 1, by omega⟩
    have hl := ty_l ht
    have hcell : h1.1 (r + 4) i = jI (mu_ ru (w (b + 51 + 2 * i)) (w (b + 52 + 2 * i))) := by
      rw [s1 _ (by omega)]
      exact c.cell (by omega)
    have htr1 : Option.bind (ts_ ru (w (b + 51 + 2 * i)) (w (b + 52 + 2 * i)) T) (fun T' => tr_ w b ru k (i + 1) T') = some [true] := htr0
    have her : er_ w b F (k + 1) i V = er_ w b F k (i + 1) (es_ F (w (b + 51 + 2 * i)) (w (b + 52 + 2 * i)) V) := rfl
    rw [her]
    clear her htr0
    generalize w (b + 51 + 2 * i) = s at hcell htr1 ⊢
    generalize w (b + 52 + 2 * i) = n at hcell htr1 ⊢
    have nx := ih (i + 1) m (by omega) (by omega)
    have sx : ∀ (j : Nat) (v : Int32), ∀ a, a ≠ x + 45 → (x_i h1 (x + 45) j v).1 a = h0.1 a := fun j v a ha => by rw [x_i_ne ha]; exact s1 a ha
    cases hts : ts_ ru s n T with
    | none => rw [hts] at htr1; cases htr1
    | some T' =>
      rw [hts] at htr1
      have htr2 : tr_ w b ru k (i + 1) T' = some [true] := htr1
      clear htr1
      rcases ts_k hts with ⟨q1, q2, q3, q4, q5⟩ | ⟨q1, q2, q3, q4⟩ | ⟨q1, q2, q3⟩ | ⟨q1, T0, q2, q3⟩ | ⟨q1, T0, q2, q3⟩ | ⟨q1, T0, q2, q3⟩ | ⟨q1, T0, q2, q3⟩
      · -- a number
        have hmu : mu_ ru s n = n := by rw [q1]; simp [mu_]
        have hes : es_ F s n V = jI n :: V := by rw [q1]; simp [es_]
        rw [hmu] at hcell
        rw [q5] at htr2
        rw [hes, st_num (by omega) hK h400 ⟨q2, q3⟩ (by omega) hcell]
        exact nx _ (jI n :: V) (false :: T) (sx _ _) s2 ⟨gi_s, sk_u (Nat.le_refl _) hs⟩ ⟨(fun h => nomatch h), ht⟩ (by rw [List.length_cons]; omega) htr2
      · -- a fact
        have h8 : s < 8 := by cases ru <;> simp at q2 <;> omega
        have hmu : mu_ ru s n = 1000 + s := by
          unfold mu_
          rw [if_neg (by omega), if_pos (by omega), if_neg (by omega)]
        have hes : es_ F s n V = F s :: V := by
          unfold es_
          rw [if_neg (by omega), if_pos (by omega)]
        rw [hmu] at hcell
        rw [q4] at htr2
        have hfs := hF s (by omega) (by omega) (fun hru => Or.inr (by rw [hru] at q2; simpa using q2))
        rw [if_neg (by omega), ← s1 (x + 44) (by omega)] at hfs
        rw [hes, st_fact (by omega) hK h400 ⟨q1, by omega⟩ (by omega) hcell hfs]
        exact nx _ (F s :: V) (false :: T) (sx _ _) s2 ⟨gi_s, sk_u (Nat.le_refl _) hs⟩ ⟨(fun h => nomatch h), ht⟩ (by rw [List.length_cons]; omega) htr2
      · -- a tag
        have hq : s = 8 ∨ s = 9 := by rcases q1 with q1 | q1 <;> omega
        have hfs := hF s (by omega) (by omega) (fun hru => Or.inl (by rcases q1 with q1 | q1; exact q1; rw [hru] at q1; cases q1.2))
        rw [← s1 (x + 44) (by omega)] at hfs
        have hty : F s = 0 ∨ F s = 1 := by
          rcases q1 with q1 | q1
          · rw [q1]; exact hG.1
          · rw [q1.1]; exact hG.2 q1.2
        have hmu : mu_ ru s n = 1000 + (if ru = true ∧ s = 8 then 4 else s) := by
          unfold mu_
          rw [if_neg (by omega), if_pos (by omega)]
        have hes : es_ F s n V = F s :: V := by
          unfold es_
          rw [if_neg (by omega), if_pos (by omega)]
        have hzr : 0 ≤ (if ru = true ∧ s = 8 then (4 : Int) else s) ∧ (if ru = true ∧ s = 8 then (4 : Int) else s) < 10 := by split <;> omega
        rw [hmu] at hcell
        rw [q3] at htr2
        rw [hes, st_fact (by omega) hK h400 hzr (by omega) hcell hfs]
        exact nx _ (F s :: V) (true :: T) (sx _ _) s2 ⟨gi_s, sk_u (Nat.le_refl _) hs⟩ ⟨fun _ => hty, ht⟩ (by rw [List.length_cons]; omega) htr2
      · -- not
        rw [q2] at ht hT
        match V, hs, ht, hl with
        | v :: V, hs, ht, hl =>
          have hmu : mu_ ru s n = 1045 := by rw [q1]; simp [mu_]
          have hes : es_ F s n (v :: V) = (1 - v) :: V := by rw [q1]; cases V <;> simp [es_]
          have hT : T0.length + 1 ≤ 17 := hT
          have hl2 := ty_l ht.2
          rw [hmu] at hcell
          rw [q3] at htr2
          rw [hes, List.length_cons, st_not (l := V.length) (by omega) hK h400 (by omega) hcell hs.1]
          exact nx _ ((1 - v) :: V) (true :: T0) (sx _ _) s2 ⟨gi_s, sk_u (Nat.le_refl _) hs.2⟩ ⟨fun _ => bo_n (ht.1 rfl), ht.2⟩ hT htr2
      · -- plus
        rw [q2] at ht hT
        match V, hs, ht, hl with
        | v :: u :: V, hs, ht, hl =>
          have hT : T0.length + 1 + 1 ≤ 17 := hT
          have hl2 := ty_l ht.2.2
          rw [q3] at htr2
          have hmu : mu_ ru s n = 1143 := by rw [q1]; simp [mu_]
          have hes : es_ F s n (v :: u :: V) = (u + v) :: V := by rw [q1]; simp [es_]
          rw [hmu] at hcell
          rw [hes, List.length_cons, List.length_cons, st_add (l := V.length) (by omega) hK h400 (by omega) hcell hs.1 hs.2.1]
          exact nx _ ((u + v) :: V) (false :: T0) (sx _ _) s2 ⟨gi_s, sk_u (Nat.le_refl _) hs.2.2⟩ ⟨(fun h => nomatch h), ht.2.2⟩ (by rw [List.length_cons]; omega) htr2
      · -- below, above
        rw [q2] at ht hT
        match V, hs, ht, hl with
        | v :: u :: V, hs, ht, hl =>
          have hT : T0.length + 1 + 1 ≤ 17 := hT
          have hl2 := ty_l ht.2.2
          rw [q3] at htr2
          rcases q1 with q1 | q1
          · skip
            have hmu : mu_ ru s n = 1160 := by rw [q1]; simp [mu_]
            have hes : es_ F s n (v :: u :: V) = (if v ≤ u then 0 else 1) :: V := by rw [q1]; simp [es_]
            rw [hmu] at hcell
            rw [hes, List.length_cons, List.length_cons, st_lt (l := V.length) (by omega) hK h400 (by omega) hcell hs.1 hs.2.1]
            exact nx _ ((if v ≤ u then 0 else 1) :: V) (true :: T0) (sx _ _) s2 ⟨gi_s, sk_u (Nat.le_refl _) hs.2.2⟩ ⟨fun _ => bo_i (Or.inl rfl) (Or.inr rfl), ht.2.2⟩ (by rw [List.length_cons]; omega) htr2
          · skip
            have hmu : mu_ ru s n = 1162 := by rw [q1]; simp [mu_]
            have hes : es_ F s n (v :: u :: V) = (if u ≤ v then 0 else 1) :: V := by rw [q1]; simp [es_]
            rw [hmu] at hcell
            rw [hes, List.length_cons, List.length_cons, st_gt (l := V.length) (by omega) hK h400 (by omega) hcell hs.1 hs.2.1]
            exact nx _ ((if u ≤ v then 0 else 1) :: V) (true :: T0) (sx _ _) s2 ⟨gi_s, sk_u (Nat.le_refl _) hs.2.2⟩ ⟨fun _ => bo_i (Or.inl rfl) (Or.inr rfl), ht.2.2⟩ (by rw [List.length_cons]; omega) htr2
      · -- and, or
        rw [q2] at ht hT
        match V, hs, ht, hl with
        | v :: u :: V, hs, ht, hl =>
          have hT : T0.length + 1 + 1 ≤ 17 := hT
          have hl2 := ty_l ht.2.2
          rw [q3] at htr2
          rcases q1 with q1 | q1
          · skip
            have hmu : mu_ ru s n = 1043 := by rw [q1]; simp [mu_]
            have hes : es_ F s n (v :: u :: V) = (if u + v = 2 then 1 else 0) :: V := by rw [q1]; simp [es_]
            rw [hmu] at hcell
            rw [hes, List.length_cons, List.length_cons, st_and (l := V.length) (by omega) hK h400 (by omega) hcell hs.1 hs.2.1, bo_a (ht.2.1 rfl) (ht.1 rfl)]
            exact nx _ ((if u + v = 2 then 1 else 0) :: V) (true :: T0) (sx _ _) s2 ⟨gi_s, sk_u (Nat.le_refl _) hs.2.2⟩ ⟨fun _ => bo_i (Or.inr rfl) (Or.inl rfl), ht.2.2⟩ (by rw [List.length_cons]; omega) htr2
          · skip
            have hmu : mu_ ru s n = 1044 := by rw [q1]; simp [mu_]
            have hes : es_ F s n (v :: u :: V) = (if u + v ≤ 0 then 0 else 1) :: V := by rw [q1]; simp [es_]
            rw [hmu] at hcell
            rw [hes, List.length_cons, List.length_cons, st_or (l := V.length) (by omega) hK h400 (by omega) hcell hs.1 hs.2.1, bo_o (ht.2.1 rfl) (ht.1 rfl)]
            exact nx _ ((if u + v ≤ 0 then 0 else 1) :: V) (true :: T0) (sx _ _) s2 ⟨gi_s, sk_u (Nat.le_refl _) hs.2.2⟩ ⟨fun _ => bo_i (Or.inl rfl) (Or.inr rfl), ht.2.2⟩ (by rw [List.length_cons]; omega) htr2
