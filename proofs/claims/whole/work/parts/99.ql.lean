/-! ===== a text, in step ===== -/
theorem jN_ex (v : Int32) : ∃ g : Nat, v = jI (g : Int) := by
  obtain ⟨z, z1, z2, rfl⟩ := jI_ex v
  by_cases c : 0 ≤ z
  · exact ⟨z.toNat, by congr 1; omega⟩
  · refine ⟨(z + 4294967296).toNat, ?_⟩
    rw [show (((z + 4294967296).toNat : Nat) : Int) = z + 4294967296 by omega, ← jI_add, show jI 4294967296 = 0 by decide]
    exact (Int32.add_zero _).symm
/-- both read a text: wrong at the same place, or the same lines -/
theorem read9 {x L : Nat} {V : Nat → Int} {ru : Bool} {h r0 : XH} (T : TpC x V L h) (TR : TpR x V L ru r0) (z6 : r0.1 (x + 64) 6 = jI 0) (z12 : r0.1 (x + 64) 12 = jI 0) :
    ∃ c0 r0' c' r', ((∀ a, a ≠ x + 1 → a ≠ x + 3 → a ≠ x + 4 → a ≠ x + 5 → a ≠ x + 6 → a ≠ x + 7 → c0.1 a = h.1 a) ∧ c0.2 = h.2 ∧ c0.1 (x + 1) 1 = jI 0 ∧ (∀ a, a ≠ x + 65 → r0'.1 a = r0.1 a) ∧ r0'.2 = r0.2 ∧ ∀ k, k < 6077 → r0'.1 (x + 65) k = r0.1 (x + 65) k) ∧
      ((∃ jf Ef pf Ef' df, f_X8_readP x h (bb9 (!ru)) = some (1, x_i c' (x + 1) 8 (jI ((tb_ V L jf : Nat) : Int))) ∧ f_X12_readAll x r0 = some (jI (-1), r') ∧ CS9 x ru c0 c' jf Ef ∧ RS9 x r0' r' pf (tb_ V L jf) Ef' df) ∨
       (∃ (i' : Nat) (jf : Nat) (Ef : List (Int × Int)) (pf gf df : Nat), f_X8_readP x h (bb9 (!ru)) = some (0, x_i c' (x + 1) 8 (jI (-1))) ∧ f_X12_readAll x r0 = some (jI (i' : Int), r') ∧ i' ≤ 10 ∧ CS9 x ru c0 c' jf Ef ∧ RS9 x r0' r' pf gf Ef df ∧ Ef.length ≤ 400 ∧ LL9 x ru i' c0 r0' Ef)) := by
  have L4 := T.L4
  obtain ⟨n, n1, n2, n3⟩ := tb_ex (V := V) (L := L)
  obtain ⟨h1, a1, a2, a3, a4⟩ := c_split T ru n1 n2 n3
  obtain ⟨g0, hg0⟩ := jN_ex (r0.1 (x + 64) 8)
  obtain ⟨d0, hd0⟩ := jN_ex (r0.1 (x + 64) 9)
  have bl := tb_L (V := V) (L := L) 0
  have tr := th_r (V := V) (L := L) (j := 0) ru T.b
  generalize hc0 : x_i (x_i (x_i (x_i h1 (x + 1) 1 (jI 0)) (x + 1) 9 (jI 0)) (x + 1) 10 (jI 0)) (x + 1) 11 (jI 0) = c0
  have fc : ∀ a, a ≠ x + 1 → c0.1 a = h1.1 a := fun a ha => by
    rw [← hc0, gi_n ha, gi_n ha, gi_n ha, gi_n ha]
  have f2 : c0.2 = h1.2 := by rw [← hc0]; rfl
  have m1 : c0.1 (x + 1) 1 = jI 0 := by rw [← hc0, gi_k (by omega), gi_k (by omega), gi_k (by omega), gi_s]
  have m9 : c0.1 (x + 1) 9 = jI 0 := by rw [← hc0, gi_k (by omega), gi_k (by omega), gi_s]
  have m10 : c0.1 (x + 1) 10 = jI 0 := by rw [← hc0, gi_k (by omega), gi_s]
  have m11 : c0.1 (x + 1) 11 = jI 0 := by rw [← hc0, gi_s]
  have TC : TkC x V L n ru c0 := ⟨fun j hj => by rw [fc _ (by omega)]; exact (a2 j hj).1, fun j hj => by rw [fc _ (by omega)]; exact (a2 j hj).2, by omega, n2, n3⟩
  have C0 : CS9 x ru c0 c0 0 [] := ⟨fun _ _ _ => rfl, rfl, fun _ _ _ => rfl, m9, m11, fun k hk => absurd hk (by simp)⟩
  have R0 : RS9 x r0 r0 0 g0 [] d0 := ⟨fun _ _ _ => rfl, rfl, fun _ _ _ _ _ => rfl, fun _ _ => rfl, z6, hg0, hd0, z12, fun k hk => absurd hk (by simp), fun k hk => absurd hk (by simp)⟩
  have ll : LL9 x ru 0 c0 r0 [] := ⟨m10, fun k hk => absurd hk (by omega)⟩
  obtain ⟨r1, b1, b2⟩ := r_bla TR _ 0 g0 r0 rfl (by omega) R0
  have b2' : RS9 x r0 r1 (tb_ V L 0) (tb_ V L 0) [] d0 := b2
  have e7 : r1.1 (x + 64) 7 = jI L := by rw [b2'.fm 7 (by omega) (by omega) (by omega) (by omega)]; exact TR.l
  have e6 : jI ((tb_ V L 0 : Nat) : Int) = jI (L : Int) ↔ tb_ V L 0 = L := by
    rw [jI_eq (by omega) (by omega) (by omega) (by omega)]
    omega
  have e99 : jI (th_ V L ru (tb_ V L 0)) = (1099 : Int32) ↔ th_ V L ru (tb_ V L 0) = 1099 := jI_eq (b := 1099) (by omega) (by omega) (by omega) (by omega)
  have ec : f_X8_readP x h (bb9 (!ru)) = f_X8_read_46 x x_FU c0 1 (if th_ V L ru (tb_ V L 0) = 1099 then 0 else 1) 0 := by
    unfold f_X8_readP
    rw [a1, Option.bind_some, xl_, xl_, xl_, xl_]
    show Option.bind (f_X8_here x (x_i (x_i (x_i (x_i h1 (x + 1) 1 (jI 0)) (x + 1) 9 (jI 0)) (x + 1) 10 (jI 0)) (x + 1) 11 (jI 0))) (fun v_6 => x_let (if v_6 = 1099 then (0 : Int32) else 1) (fun t8 => f_X8_read_46 x x_FU (x_i (x_i (x_i (x_i h1 (x + 1) 1 (jI 0)) (x + 1) 9 (jI 0)) (x + 1) 10 (jI 0)) (x + 1) 11 (jI 0)) 1 t8 0)) = _
    rw [hc0, c_here TC C0 (by omega), Option.bind_some, xl_]
    by_cases t : th_ V L ru (tb_ V L 0) = 1099
    · rw [if_pos (e99.mpr t), if_pos t]
    · rw [if_neg (fun z => t (e99.mp z)), if_neg t]
  have fr0 : (∀ a, a ≠ x + 1 → a ≠ x + 3 → a ≠ x + 4 → a ≠ x + 5 → a ≠ x + 6 → a ≠ x + 7 → c0.1 a = h.1 a) := fun a q1 q2 q3 _ _ _ => by rw [fc a q1, a3 a q2 q3]
  rw [ec]
  unfold f_X12_readAll
  rw [b1, Option.bind_some, b2'.pt, e7]
  have fu : x_FU = 99999 + 1 := rfl
  by_cases t : th_ V L ru (tb_ V L 0) = 1099
  · rw [if_pos t, if_pos (e6.mpr (tr.2.2.mp t))]
    refine ⟨c0, r0, c0, r1, ⟨fr0, by rw [f2, a4], m1, fun _ _ => rfl, rfl, fun _ _ => rfl⟩, .inr ⟨0, 0, [], _, _, d0, ?_, rfl, by omega, C0, b2', by simp, ll⟩⟩
    rw [fu]
    exact rd_end
  · rw [if_neg t, if_neg (fun z => t (tr.2.2.mpr (e6.mp z)))]
    have rb : re9_ V L b9_ (tb_ V L 0) = tb_ V L 0 := by
      by_cases q : tb_ V L 0 < L
      · exact re_n q (tb_nb 0 q)
      · exact re_0 (by omega)
    obtain ⟨c0', r0', c', r', B, D⟩ := loop9 10 0 x_FU x_FU 0 [] c0 r1 c0 r0 (tb_ V L 0) (tb_ V L 0) d0 rfl (by show 12 ≤ 100000; omega) (by show 11 ≤ 100000; omega) TC TR C0 b2' bl rb (by omega) (by simp) ll (fun _ => rfl)
    exact ⟨c0', r0', c', r', ⟨fun a q1 q2 q3 q4 q5 q6 => by rw [B.1 a q1 q4 q5 q6, fr0 a q1 q2 q3 q4 q5 q6], by rw [B.2.1, f2, a4], by rw [B.2.2.1 1 (by omega)]; exact m1, B.2.2.2.1, B.2.2.2.2.1, B.2.2.2.2.2⟩, D⟩
/-- the steps of the list are the steps of the text -/
theorem tr_L {w : Nat → Int} {b : Nat} {ru : Bool} {E : List (Int × Int)} (h : ∀ k, k < E.length → w (b + 51 + 2 * k) = (E.getD k (0, 0)).1 ∧ w (b + 52 + 2 * k) = (E.getD k (0, 0)).2) : ∀ (m a : Nat) (T : List Bool), a + m ≤ E.length → tr_ w b ru m a T = trL ru ((E.drop a).take m) T := by
  intro m
  induction m with
  | zero => intro a T _; rw [List.take_zero]; rfl
  | succ m ih =>
    intro a T ha
    rw [gD_d (a := (0, 0)) (show a < E.length by omega), List.take_succ_cons]
    show Option.bind (ts_ ru (w (b + 51 + 2 * a)) (w (b + 52 + 2 * a)) T) (fun T' => tr_ w b ru m (a + 1) T') = Option.bind (ts_ ru (E.getD a (0, 0)).1 (E.getD a (0, 0)).2 T) (fun T' => trL ru ((E.drop (a + 1)).take m) T')
    rw [(h a (by omega)).1, (h a (by omega)).2]
    congr 1
    funext T'
    exact ih (a + 1) T' (by omega)
