def x_sw (own : String) (k : Nat) (bs : List Int32) : List Cond :=
  [.exactly (.string own k) "java/lang/String", .eq (.field (.string own k) "java/lang/String" "coder" "B") (.int 0), .arrayOf (.field (.string own k) "java/lang/String" "value" "[B") .byte, .eq (.length (.field (.string own k) "java/lang/String" "value" "[B")) (.int (Int32.ofNat bs.length))] ++
  (List.range bs.length).map (fun j => .eq (.elem (.field (.string own k) "java/lang/String" "value" "[B") (.int (Int32.ofNat j))) (.int (bs.getD j 0)))
theorem x_sof {args : Array Value} {s : State} {own tx : String} {k : Nat} {bs : List Int32} {A : Nat → Prop} (hb : bs.length < 2 ^ 31) (hw : ∀ w ∈ x_sw own k bs, w.before args s = true) (hr : (Cond.stringRef own k tx).before args s = true) (hA : ∀ a : Nat, a < s.heap.size → ¬ A a) :
    ∃ a v : Nat, (va_O "java/lang/String" a A s s.heap ∧ va_OF "java/lang/String" "coder" "B" (.int 0) a A s s.heap ∧ va_OF "java/lang/String" "value" "[B" (.ref v) a A s s.heap ∧ va_T .byte v bs.length (fun j => .int (bs.getD j 0)) A s s.heap) ∧ vk_R own k tx a s := by
  have h0 := hw (.exactly (.string own k) "java/lang/String") (by simp [x_sw])
  have h1 := hw (.eq (.field (.string own k) "java/lang/String" "coder" "B") (.int 0)) (by simp [x_sw])
  have h2 := hw (.arrayOf (.field (.string own k) "java/lang/String" "value" "[B") .byte) (by simp [x_sw])
  have h3 := hw (.eq (.length (.field (.string own k) "java/lang/String" "value" "[B")) (.int (Int32.ofNat bs.length))) (by simp [x_sw])
  obtain ⟨a, -, -, -, ht, -⟩ := Cond.exactly_spec (args := args) (first := s) (o := none) (s := s) (idx := []) h0
  obtain ⟨v, hv, hT⟩ := va_Tof (A := A) hb h2 (va_eqt h3) (f := fun j => .int (bs.getD j 0)) (fun j hj => va_eqt (hw (.eq (.elem (.field (.string own k) "java/lang/String" "value" "[B") (.int (Int32.ofNat j))) (.int (bs.getD j 0))) (by
    unfold x_sw
    exact List.mem_append_right _ (List.mem_map.mpr ⟨j, List.mem_range.mpr hj, rfl⟩)))) hA
  exact ⟨a, v, ⟨va_Oof h0 ht hA, vk_OFof ht (va_eqt h1) hA, vk_OFof ht hv hA, hT⟩, vk_R.of hr ht⟩
theorem x_seg {args : Array Value} {s : State} {L1 L2 : List Cond} {i n : Nat} (h : (L1.drop i).take n = L2) (hw : ∀ w ∈ L1, w.before args s = true) : ∀ w ∈ L2, w.before args s = true := fun w hw2 => hw w (List.mem_of_mem_drop (List.mem_of_mem_take (by rw [h]; exact hw2)))
abbrev x_fl : List Cond := flatC (.and given_1 narrow_1)
theorem sg_0 : (x_fl.drop 143).take 26 = x_sw "MemoryHouse$Tape" 93 (x_ss.getD 0 []) := by decide +kernel
theorem sg_1 : (x_fl.drop 169).take 43 = x_sw "MemoryHouse$Tape" 99 (x_ss.getD 1 []) := by decide +kernel
theorem sg_2 : (x_fl.drop 212).take 27 = x_sw "MemoryHouse$Tape" 101 (x_ss.getD 2 []) := by decide +kernel
theorem sg_3 : (x_fl.drop 239).take 14 = x_sw "MemoryHouse$Tape" 103 (x_ss.getD 3 []) := by decide +kernel
theorem sg_4 : (x_fl.drop 253).take 9 = x_sw "MemoryHouse$Tape" 105 (x_ss.getD 4 []) := by decide +kernel
theorem sg_5 : (x_fl.drop 262).take 32 = x_sw "MemoryHouse" 94 (x_ss.getD 5 []) := by decide +kernel
theorem sg_6 : (x_fl.drop 294).take 20 = x_sw "MemoryHouse" 104 (x_ss.getD 6 []) := by decide +kernel
theorem sg_7 : (x_fl.drop 314).take 33 = x_sw "MemoryHouse" 111 (x_ss.getD 7 []) := by decide +kernel
theorem sg_8 : (x_fl.drop 347).take 21 = x_sw "MemoryHouse" 116 (x_ss.getD 8 []) := by decide +kernel
theorem sg_9 : (x_fl.drop 368).take 24 = x_sw "MemoryHouse" 126 (x_ss.getD 9 []) := by decide +kernel
theorem sg_10 : (x_fl.drop 392).take 18 = x_sw "MemoryHouse" 129 (x_ss.getD 10 []) := by decide +kernel
theorem sg_11 : (x_fl.drop 410).take 29 = x_sw "MemoryHouse" 135 (x_ss.getD 11 []) := by decide +kernel
theorem sg_12 : (x_fl.drop 439).take 22 = x_sw "MemoryHouse" 140 (x_ss.getD 12 []) := by decide +kernel
theorem sg_13 : (x_fl.drop 461).take 17 = x_sw "MemoryHouse" 487 (x_ss.getD 13 []) := by decide +kernel
theorem sg_14 : (x_fl.drop 478).take 16 = x_sw "MemoryHouse" 489 (x_ss.getD 14 []) := by decide +kernel
theorem sg_15 : (x_fl.drop 494).take 20 = x_sw "MemoryHouse" 150 (x_ss.getD 15 []) := by decide +kernel
theorem sg_16 : (x_fl.drop 514).take 29 = x_sw "MemoryHouse" 159 (x_ss.getD 16 []) := by decide +kernel
theorem sg_17 : (x_fl.drop 543).take 21 = x_sw "MemoryHouse" 164 (x_ss.getD 17 []) := by decide +kernel
theorem sg_18 : (x_fl.drop 564).take 16 = x_sw "MemoryHouse" 491 (x_ss.getD 18 []) := by decide +kernel
theorem sg_19 : (x_fl.drop 580).take 29 = x_sw "MemoryHouse" 493 (x_ss.getD 19 []) := by decide +kernel
theorem sg_20 : (x_fl.drop 609).take 19 = x_sw "MemoryHouse" 191 (x_ss.getD 20 []) := by decide +kernel
theorem sg_21 : (x_fl.drop 628).take 17 = x_sw "MemoryHouse" 497 (x_ss.getD 21 []) := by decide +kernel
theorem sg_22 : (x_fl.drop 645).take 23 = x_sw "MemoryHouse" 499 (x_ss.getD 22 []) := by decide +kernel
theorem sg_23 : (x_fl.drop 668).take 20 = x_sw "MemoryHouse" 206 (x_ss.getD 23 []) := by decide +kernel
theorem sg_24 : (x_fl.drop 688).take 36 = x_sw "MemoryHouse" 502 (x_ss.getD 24 []) := by decide +kernel
theorem sg_25 : (x_fl.drop 724).take 21 = x_sw "MemoryHouse" 232 (x_ss.getD 25 []) := by decide +kernel
theorem sg_26 : (x_fl.drop 745).take 23 = x_sw "MemoryHouse" 495 (x_ss.getD 26 []) := by decide +kernel
theorem sg_27 : (x_fl.drop 768).take 18 = x_sw "MemoryHouse" 270 (x_ss.getD 27 []) := by decide +kernel
theorem sg_28 : (x_fl.drop 786).take 15 = x_sw "MemoryHouse" 483 (x_ss.getD 28 []) := by decide +kernel
theorem sg_29 : (x_fl.drop 801).take 16 = x_sw "MemoryHouse" 283 (x_ss.getD 29 []) := by decide +kernel
theorem sg_30 : (x_fl.drop 817).take 22 = x_sw "MemoryHouse" 304 (x_ss.getD 30 []) := by decide +kernel
theorem sg_31 : (x_fl.drop 839).take 22 = x_sw "MemoryHouse" 321 (x_ss.getD 31 []) := by decide +kernel
theorem sg_32 : (x_fl.drop 861).take 16 = x_sw "MemoryHouse" 485 (x_ss.getD 32 []) := by decide +kernel
theorem sg_33 : (x_fl.drop 877).take 20 = x_sw "MemoryHouse" 333 (x_ss.getD 33 []) := by decide +kernel
theorem sg_34 : (x_fl.drop 897).take 19 = x_sw "MemoryHouse" 340 (x_ss.getD 34 []) := by decide +kernel
theorem sg_35 : (x_fl.drop 916).take 18 = x_sw "MemoryHouse" 348 (x_ss.getD 35 []) := by decide +kernel
theorem sg_36 : (x_fl.drop 934).take 28 = x_sw "MemoryHouse" 368 (x_ss.getD 36 []) := by decide +kernel
theorem sg_37 : (x_fl.drop 962).take 23 = x_sw "MemoryHouse" 373 (x_ss.getD 37 []) := by decide +kernel
theorem sg_38 : (x_fl.drop 985).take 28 = x_sw "MemoryHouse" 378 (x_ss.getD 38 []) := by decide +kernel
theorem sg_39 : (x_fl.drop 1013).take 32 = x_sw "MemoryHouse" 392 (x_ss.getD 39 []) := by decide +kernel
theorem sg_40 : (x_fl.drop 1045).take 25 = x_sw "MemoryHouse" 403 (x_ss.getD 40 []) := by decide +kernel
theorem sg_41 : (x_fl.drop 1070).take 45 = x_sw "MemoryHouse" 504 (x_ss.getD 41 []) := by decide +kernel
theorem sg_42 : (x_fl.drop 1115).take 28 = x_sw "MemoryHouse" 506 (x_ss.getD 42 []) := by decide +kernel
theorem sg_43 : (x_fl.drop 1143).take 25 = x_sw "MemoryHouse" 432 (x_ss.getD 43 []) := by decide +kernel
theorem sg_44 : (x_fl.drop 1168).take 42 = x_sw "MemoryHouse" 434 (x_ss.getD 44 []) := by decide +kernel
theorem sg_45 : (x_fl.drop 1210).take 20 = x_sw "MemoryHouse" 439 (x_ss.getD 45 []) := by decide +kernel
theorem sg_46 : (x_fl.drop 1230).take 32 = x_sw "MemoryHouse" 445 (x_ss.getD 46 []) := by decide +kernel
theorem sg_47 : (x_fl.drop 1262).take 22 = x_sw "MemoryHouse" 450 (x_ss.getD 47 []) := by decide +kernel
theorem sg_48 : (x_fl.drop 1284).take 25 = x_sw "MemoryHouse" 455 (x_ss.getD 48 []) := by decide +kernel
theorem sg_49 : (x_fl.drop 1309).take 18 = x_sw "MemoryHouse" 457 (x_ss.getD 49 []) := by decide +kernel
theorem sg_50 : (x_fl.drop 1327).take 7 = x_sw "MemoryHouseModel" 183 (x_ss.getD 50 []) := by decide +kernel
theorem sg_51 : (x_fl.drop 1334).take 8 = x_sw "MemoryHouseModel" 185 (x_ss.getD 51 []) := by decide +kernel
theorem sg_52 : (x_fl.drop 1342).take 9 = x_sw "MemoryHouseModel" 104 (x_ss.getD 52 []) := by decide +kernel
theorem sg_53 : (x_fl.drop 1351).take 9 = x_sw "MemoryHouseModel" 106 (x_ss.getD 53 []) := by decide +kernel
theorem sg_54 : (x_fl.drop 1360).take 9 = x_sw "MemoryHouseModel" 108 (x_ss.getD 54 []) := by decide +kernel
theorem sg_55 : (x_fl.drop 1369).take 9 = x_sw "MemoryHouseModel" 110 (x_ss.getD 55 []) := by decide +kernel
theorem sg_56 : (x_fl.drop 1378).take 11 = x_sw "MemoryHouseModel" 112 (x_ss.getD 56 []) := by decide +kernel
theorem sg_57 : (x_fl.drop 1389).take 8 = x_sw "MemoryHouseModel" 114 (x_ss.getD 57 []) := by decide +kernel
theorem sg_58 : (x_fl.drop 1397).take 7 = x_sw "MemoryHouseModel" 116 (x_ss.getD 58 []) := by decide +kernel
theorem sg_59 : (x_fl.drop 1404).take 8 = x_sw "MemoryHouseModel" 118 (x_ss.getD 59 []) := by decide +kernel
theorem sg_60 : (x_fl.drop 1412).take 7 = x_sw "MemoryHouseModel" 120 (x_ss.getD 60 []) := by decide +kernel
theorem sg_61 : (x_fl.drop 1419).take 8 = x_sw "MemoryHouseModel" 122 (x_ss.getD 61 []) := by decide +kernel
theorem sg_62 : (x_fl.drop 1427).take 7 = x_sw "MemoryHouseModel" 124 (x_ss.getD 62 []) := by decide +kernel
theorem sg_63 : (x_fl.drop 1434).take 8 = x_sw "MemoryHouseModel" 126 (x_ss.getD 63 []) := by decide +kernel
theorem sg_64 : (x_fl.drop 1442).take 6 = x_sw "MemoryHouseModel" 187 (x_ss.getD 64 []) := by decide +kernel
theorem sg_65 : (x_fl.drop 1448).take 7 = x_sw "MemoryHouseModel" 158 (x_ss.getD 65 []) := by decide +kernel
theorem sg_66 : (x_fl.drop 1455).take 9 = x_sw "MemoryHouseModel" 128 (x_ss.getD 66 []) := by decide +kernel
theorem sg_67 : (x_fl.drop 1465).take 9 = x_sw "MemoryHouseModel" 130 (x_ss.getD 67 []) := by decide +kernel
theorem sg_68 : (x_fl.drop 1474).take 8 = x_sw "MemoryHouseModel" 132 (x_ss.getD 68 []) := by decide +kernel
theorem sg_69 : (x_fl.drop 1482).take 7 = x_sw "MemoryHouseModel" 172 (x_ss.getD 69 []) := by decide +kernel
theorem sg_70 : (x_fl.drop 1489).take 6 = x_sw "MemoryHouseModel" 177 (x_ss.getD 70 []) := by decide +kernel
theorem x_strs {args : Array Value} {s : State} {A : Nat → Prop} (hts : ∀ w ∈ lw_tbl, w.before args s = true) (hgv : (Jvm.Cond.and given_1 narrow_1).before args s = true) (hA : ∀ a : Nat, a < s.heap.size → ¬ A a) : ∀ j : Nat, j < 71 → ∃ a v : Nat, (va_O "java/lang/String" a A s s.heap ∧ va_OF "java/lang/String" "coder" "B" (.int 0) a A s s.heap ∧ va_OF "java/lang/String" "value" "[B" (.ref v) a A s s.heap ∧ va_T .byte v (x_ss.getD j []).length (fun i => .int ((x_ss.getD j []).getD i 0)) A s s.heap) ∧ ∀ q, x_sr[j]? = some q → vk_R q.1 q.2.1 q.2.2.1 a s := by
  have hf := flat_of_before _ hgv
  intro j hj
  rcases (show j = 0 ∨ j = 1 ∨ j = 2 ∨ j = 3 ∨ j = 4 ∨ j = 5 ∨ j = 6 ∨ j = 7 ∨ j = 8 ∨ j = 9 ∨ j = 10 ∨ j = 11 ∨ j = 12 ∨ j = 13 ∨ j = 14 ∨ j = 15 ∨ j = 16 ∨ j = 17 ∨ j = 18 ∨ j = 19 ∨ j = 20 ∨ j = 21 ∨ j = 22 ∨ j = 23 ∨ j = 24 ∨ j = 25 ∨ j = 26 ∨ j = 27 ∨ j = 28 ∨ j = 29 ∨ j = 30 ∨ j = 31 ∨ j = 32 ∨ j = 33 ∨ j = 34 ∨ j = 35 ∨ j = 36 ∨ j = 37 ∨ j = 38 ∨ j = 39 ∨ j = 40 ∨ j = 41 ∨ j = 42 ∨ j = 43 ∨ j = 44 ∨ j = 45 ∨ j = 46 ∨ j = 47 ∨ j = 48 ∨ j = 49 ∨ j = 50 ∨ j = 51 ∨ j = 52 ∨ j = 53 ∨ j = 54 ∨ j = 55 ∨ j = 56 ∨ j = 57 ∨ j = 58 ∨ j = 59 ∨ j = 60 ∨ j = 61 ∨ j = 62 ∨ j = 63 ∨ j = 64 ∨ j = 65 ∨ j = 66 ∨ j = 67 ∨ j = 68 ∨ j = 69 ∨ j = 70 by omega) with rfl | rfl | rfl | rfl | rfl | rfl | rfl | rfl | rfl | rfl | rfl | rfl | rfl | rfl | rfl | rfl | rfl | rfl | rfl | rfl | rfl | rfl | rfl | rfl | rfl | rfl | rfl | rfl | rfl | rfl | rfl | rfl | rfl | rfl | rfl | rfl | rfl | rfl | rfl | rfl | rfl | rfl | rfl | rfl | rfl | rfl | rfl | rfl | rfl | rfl | rfl | rfl | rfl | rfl | rfl | rfl | rfl | rfl | rfl | rfl | rfl | rfl | rfl | rfl | rfl | rfl | rfl | rfl | rfl | rfl | rfl
  · obtain ⟨a, v, h1, h2⟩ := x_sof (own := "MemoryHouse$Tape") (k := 93) (tx := "add less if and or not") (bs := x_ss.getD 0 []) (by decide) (x_seg sg_0 hf) (hts _ (tin_3 (List.mem_of_getElem? (i := 69) (by decide +kernel)))) hA
    exact ⟨a, v, h1, fun q hq => by cases hq; exact h2⟩
  · obtain ⟨a, v, h1, h2⟩ := x_sof (own := "MemoryHouse$Tape") (k := 99) (tx := "seconds dull old like age gone per role") (bs := x_ss.getD 1 []) (by decide) (x_seg sg_1 hf) (hts _ (tin_3 (List.mem_of_getElem? (i := 122) (by decide +kernel)))) hA
    exact ⟨a, v, h1, fun q hq => by cases hq; exact h2⟩
  · obtain ⟨a, v, h1, h2⟩ := x_sof (own := "MemoryHouse$Tape") (k := 101) (tx := "right wrong blank cards") (bs := x_ss.getD 2 []) (by decide) (x_seg sg_2 hf) (hts _ (tin_3 (List.mem_of_getElem? (i := 123) (by decide +kernel)))) hA
    exact ⟨a, v, h1, fun q hq => by cases hq; exact h2⟩
  · obtain ⟨a, v, h1, h2⟩ := x_sof (own := "MemoryHouse$Tape") (k := 103) (tx := "first last") (bs := x_ss.getD 3 []) (by decide) (x_seg sg_3 hf) (hts _ (tin_3 (List.mem_of_getElem? (i := 124) (by decide +kernel)))) hA
    exact ⟨a, v, h1, fun q hq => by cases hq; exact h2⟩
  · obtain ⟨a, v, h1, h2⟩ := x_sof (own := "MemoryHouse$Tape") (k := 105) (tx := "whole") (bs := x_ss.getD 4 []) (by decide) (x_seg sg_4 hf) (hts _ (tin_3 (List.mem_of_getElem? (i := 125) (by decide +kernel)))) hA
    exact ⟨a, v, h1, fun q hq => by cases hq; exact h2⟩
  · obtain ⟨a, v, h1, h2⟩ := x_sof (own := "MemoryHouse") (k := 94) (tx := "the text of the LAW is wrong") (bs := x_ss.getD 5 []) (by decide) (x_seg sg_5 hf) (hts _ (tin_3 (List.mem_of_getElem? (i := 239) (by decide +kernel)))) hA
    exact ⟨a, v, h1, fun q hq => by cases hq; exact h2⟩
  · obtain ⟨a, v, h1, h2⟩ := x_sof (own := "MemoryHouse") (k := 104) (tx := "there are 3 LAWS") (bs := x_ss.getD 6 []) (by decide) (x_seg sg_6 hf) (hts _ (tin_4 (List.mem_of_getElem? (i := 34) (by decide +kernel)))) hA
    exact ⟨a, v, h1, fun q hq => by cases hq; exact h2⟩
  · obtain ⟨a, v, h1, h2⟩ := x_sof (own := "MemoryHouse") (k := 111) (tx := "the text of the RULE is wrong") (bs := x_ss.getD 7 []) (by decide) (x_seg sg_7 hf) (hts _ (tin_4 (List.mem_of_getElem? (i := 48) (by decide +kernel)))) hA
    exact ⟨a, v, h1, fun q hq => by cases hq; exact h2⟩
  · obtain ⟨a, v, h1, h2⟩ := x_sof (own := "MemoryHouse") (k := 116) (tx := "there are 3 RULES") (bs := x_ss.getD 8 []) (by decide) (x_seg sg_8 hf) (hts _ (tin_4 (List.mem_of_getElem? (i := 49) (by decide +kernel)))) hA
    exact ⟨a, v, h1, fun q hq => by cases hq; exact h2⟩
  · obtain ⟨a, v, h1, h2⟩ := x_sof (own := "MemoryHouse") (k := 126) (tx := "no such card or role") (bs := x_ss.getD 9 []) (by decide) (x_seg sg_9 hf) (hts _ (tin_4 (List.mem_of_getElem? (i := 67) (by decide +kernel)))) hA
    exact ⟨a, v, h1, fun q hq => by cases hq; exact h2⟩
  · obtain ⟨a, v, h1, h2⟩ := x_sof (own := "MemoryHouse") (k := 129) (tx := "DULL is 0 to 9") (bs := x_ss.getD 10 []) (by decide) (x_seg sg_10 hf) (hts _ (tin_4 (List.mem_of_getElem? (i := 74) (by decide +kernel)))) hA
    exact ⟨a, v, h1, fun q hq => by cases hq; exact h2⟩
  · obtain ⟨a, v, h1, h2⟩ := x_sof (own := "MemoryHouse") (k := 135) (tx := "a HOUSE has 1 to 20 DOORS") (bs := x_ss.getD 11 []) (by decide) (x_seg sg_11 hf) (hts _ (tin_4 (List.mem_of_getElem? (i := 82) (by decide +kernel)))) hA
    exact ⟨a, v, h1, fun q hq => by cases hq; exact h2⟩
  · obtain ⟨a, v, h1, h2⟩ := x_sof (own := "MemoryHouse") (k := 140) (tx := "there are 6 HOUSES") (bs := x_ss.getD 12 []) (by decide) (x_seg sg_12 hf) (hts _ (tin_4 (List.mem_of_getElem? (i := 83) (by decide +kernel)))) hA
    exact ⟨a, v, h1, fun q hq => by cases hq; exact h2⟩
  · obtain ⟨a, v, h1, h2⟩ := x_sof (own := "MemoryHouse") (k := 487) (tx := "no such HOUSE") (bs := x_ss.getD 13 []) (by decide) (x_seg sg_13 hf) (hts _ (tin_4 (List.mem_of_getElem? (i := 103) (by decide +kernel)))) hA
    exact ⟨a, v, h1, fun q hq => by cases hq; exact h2⟩
  · obtain ⟨a, v, h1, h2⟩ := x_sof (own := "MemoryHouse") (k := 489) (tx := "no such DOOR") (bs := x_ss.getD 14 []) (by decide) (x_seg sg_14 hf) (hts _ (tin_4 (List.mem_of_getElem? (i := 104) (by decide +kernel)))) hA
    exact ⟨a, v, h1, fun q hq => by cases hq; exact h2⟩
  · obtain ⟨a, v, h1, h2⟩ := x_sof (own := "MemoryHouse") (k := 150) (tx := "a LOOK is 0 to 9") (bs := x_ss.getD 15 []) (by decide) (x_seg sg_15 hf) (hts _ (tin_4 (List.mem_of_getElem? (i := 105) (by decide +kernel)))) hA
    exact ⟨a, v, h1, fun q hq => by cases hq; exact h2⟩
  · obtain ⟨a, v, h1, h2⟩ := x_sof (own := "MemoryHouse") (k := 159) (tx := "START, STEP or N are none") (bs := x_ss.getD 16 []) (by decide) (x_seg sg_16 hf) (hts _ (tin_4 (List.mem_of_getElem? (i := 116) (by decide +kernel)))) hA
    exact ⟨a, v, h1, fun q hq => by cases hq; exact h2⟩
  · obtain ⟨a, v, h1, h2⟩ := x_sof (own := "MemoryHouse") (k := 164) (tx := "there are 8 PACKS") (bs := x_ss.getD 17 []) (by decide) (x_seg sg_17 hf) (hts _ (tin_4 (List.mem_of_getElem? (i := 117) (by decide +kernel)))) hA
    exact ⟨a, v, h1, fun q hq => by cases hq; exact h2⟩
  · obtain ⟨a, v, h1, h2⟩ := x_sof (own := "MemoryHouse") (k := 491) (tx := "no such PACK") (bs := x_ss.getD 18 []) (by decide) (x_seg sg_18 hf) (hts _ (tin_4 (List.mem_of_getElem? (i := 138) (by decide +kernel)))) hA
    exact ⟨a, v, h1, fun q hq => by cases hq; exact h2⟩
  · obtain ⟨a, v, h1, h2⟩ := x_sof (own := "MemoryHouse") (k := 493) (tx := "no such place in the PACK") (bs := x_ss.getD 19 []) (by decide) (x_seg sg_19 hf) (hts _ (tin_4 (List.mem_of_getElem? (i := 139) (by decide +kernel)))) hA
    exact ⟨a, v, h1, fun q hq => by cases hq; exact h2⟩
  · obtain ⟨a, v, h1, h2⟩ := x_sof (own := "MemoryHouse") (k := 191) (tx := "the PACK is PUT") (bs := x_ss.getD 20 []) (by decide) (x_seg sg_20 hf) (hts _ (tin_4 (List.mem_of_getElem? (i := 158) (by decide +kernel)))) hA
    exact ⟨a, v, h1, fun q hq => by cases hq; exact h2⟩
  · obtain ⟨a, v, h1, h2⟩ := x_sof (own := "MemoryHouse") (k := 497) (tx := "PER is 1 to 3") (bs := x_ss.getD 21 []) (by decide) (x_seg sg_21 hf) (hts _ (tin_4 (List.mem_of_getElem? (i := 169) (by decide +kernel)))) hA
    exact ⟨a, v, h1, fun q hq => by cases hq; exact h2⟩
  · obtain ⟨a, v, h1, h2⟩ := x_sof (own := "MemoryHouse") (k := 499) (tx := "SECONDS are 1 to 60") (bs := x_ss.getD 22 []) (by decide) (x_seg sg_22 hf) (hts _ (tin_4 (List.mem_of_getElem? (i := 174) (by decide +kernel)))) hA
    exact ⟨a, v, h1, fun q hq => by cases hq; exact h2⟩
  · obtain ⟨a, v, h1, h2⟩ := x_sof (own := "MemoryHouse") (k := 206) (tx := "there is no room") (bs := x_ss.getD 23 []) (by decide) (x_seg sg_23 hf) (hts _ (tin_4 (List.mem_of_getElem? (i := 179) (by decide +kernel)))) hA
    exact ⟨a, v, h1, fun q hq => by cases hq; exact h2⟩
  · obtain ⟨a, v, h1, h2⟩ := x_sof (own := "MemoryHouse") (k := 502) (tx := "THE CLOCK would be past its most") (bs := x_ss.getD 24 []) (by decide) (x_seg sg_24 hf) (hts _ (tin_4 (List.mem_of_getElem? (i := 185) (by decide +kernel)))) hA
    exact ⟨a, v, h1, fun q hq => by cases hq; exact h2⟩
  · obtain ⟨a, v, h1, h2⟩ := x_sof (own := "MemoryHouse") (k := 232) (tx := "THE CLOCK goes on") (bs := x_ss.getD 25 []) (by decide) (x_seg sg_25 hf) (hts _ (tin_4 (List.mem_of_getElem? (i := 201) (by decide +kernel)))) hA
    exact ⟨a, v, h1, fun q hq => by cases hq; exact h2⟩
  · obtain ⟨a, v, h1, h2⟩ := x_sof (own := "MemoryHouse") (k := 495) (tx := "the PACK is not PUT") (bs := x_ss.getD 26 []) (by decide) (x_seg sg_26 hf) (hts _ (tin_4 (List.mem_of_getElem? (i := 213) (by decide +kernel)))) hA
    exact ⟨a, v, h1, fun q hq => by cases hq; exact h2⟩
  · obtain ⟨a, v, h1, h2⟩ := x_sof (own := "MemoryHouse") (k := 270) (tx := "what is 0 to 7") (bs := x_ss.getD 27 []) (by decide) (x_seg sg_27 hf) (hts _ (tin_5 (List.mem_of_getElem? (i := 23) (by decide +kernel)))) hA
    exact ⟨a, v, h1, fun q hq => by cases hq; exact h2⟩
  · obtain ⟨a, v, h1, h2⟩ := x_sof (own := "MemoryHouse") (k := 483) (tx := "no such LAW") (bs := x_ss.getD 28 []) (by decide) (x_seg sg_28 hf) (hts _ (tin_5 (List.mem_of_getElem? (i := 41) (by decide +kernel)))) hA
    exact ⟨a, v, h1, fun q hq => by cases hq; exact h2⟩
  · obtain ⟨a, v, h1, h2⟩ := x_sof (own := "MemoryHouse") (k := 283) (tx := "no such card") (bs := x_ss.getD 29 []) (by decide) (x_seg sg_29 hf) (hts _ (tin_5 (List.mem_of_getElem? (i := 95) (by decide +kernel)))) hA
    exact ⟨a, v, h1, fun q hq => by cases hq; exact h2⟩
  · obtain ⟨a, v, h1, h2⟩ := x_sof (own := "MemoryHouse") (k := 304) (tx := "the KIND is 0 to 5") (bs := x_ss.getD 30 []) (by decide) (x_seg sg_30 hf) (hts _ (tin_5 (List.mem_of_getElem? (i := 177) (by decide +kernel)))) hA
    exact ⟨a, v, h1, fun q hq => by cases hq; exact h2⟩
  · obtain ⟨a, v, h1, h2⟩ := x_sof (own := "MemoryHouse") (k := 321) (tx := "the KIND is 0 to 6") (bs := x_ss.getD 31 []) (by decide) (x_seg sg_31 hf) (hts _ (tin_5 (List.mem_of_getElem? (i := 192) (by decide +kernel)))) hA
    exact ⟨a, v, h1, fun q hq => by cases hq; exact h2⟩
  · obtain ⟨a, v, h1, h2⟩ := x_sof (own := "MemoryHouse") (k := 485) (tx := "no such RULE") (bs := x_ss.getD 32 []) (by decide) (x_seg sg_32 hf) (hts _ (tin_5 (List.mem_of_getElem? (i := 204) (by decide +kernel)))) hA
    exact ⟨a, v, h1, fun q hq => by cases hq; exact h2⟩
  · obtain ⟨a, v, h1, h2⟩ := x_sof (own := "MemoryHouse") (k := 333) (tx := "off is 0 to 5200") (bs := x_ss.getD 33 []) (by decide) (x_seg sg_33 hf) (hts _ (tin_5 (List.mem_of_getElem? (i := 220) (by decide +kernel)))) hA
    exact ⟨a, v, h1, fun q hq => by cases hq; exact h2⟩
  · obtain ⟨a, v, h1, h2⟩ := x_sof (own := "MemoryHouse") (k := 340) (tx := "i is below NONE") (bs := x_ss.getD 34 []) (by decide) (x_seg sg_34 hf) (hts _ (tin_5 (List.mem_of_getElem? (i := 231) (by decide +kernel)))) hA
    exact ⟨a, v, h1, fun q hq => by cases hq; exact h2⟩
  · obtain ⟨a, v, h1, h2⟩ := x_sof (own := "MemoryHouse") (k := 348) (tx := "what is 0 to 2") (bs := x_ss.getD 35 []) (by decide) (x_seg sg_35 hf) (hts _ (tin_6 (List.mem_of_getElem? (i := 11) (by decide +kernel)))) hA
    exact ⟨a, v, h1, fun q hq => by cases hq; exact h2⟩
  · obtain ⟨a, v, h1, h2⟩ := x_sof (own := "MemoryHouse") (k := 368) (tx := "MOMENTS rise, 1 to 99999") (bs := x_ss.getD 36 []) (by decide) (x_seg sg_36 hf) (hts _ (tin_6 (List.mem_of_getElem? (i := 48) (by decide +kernel)))) hA
    exact ⟨a, v, h1, fun q hq => by cases hq; exact h2⟩
  · obtain ⟨a, v, h1, h2⟩ := x_sof (own := "MemoryHouse") (k := 373) (tx := "there are 6 MOMENTS") (bs := x_ss.getD 37 []) (by decide) (x_seg sg_37 hf) (hts _ (tin_6 (List.mem_of_getElem? (i := 49) (by decide +kernel)))) hA
    exact ⟨a, v, h1, fun q hq => by cases hq; exact h2⟩
  · obtain ⟨a, v, h1, h2⟩ := x_sof (own := "MemoryHouse") (k := 378) (tx := "most or the END are none") (bs := x_ss.getD 38 []) (by decide) (x_seg sg_38 hf) (hts _ (tin_6 (List.mem_of_getElem? (i := 57) (by decide +kernel)))) hA
    exact ⟨a, v, h1, fun q hq => by cases hq; exact h2⟩
  · obtain ⟨a, v, h1, h2⟩ := x_sof (own := "MemoryHouse") (k := 392) (tx := "packs or hundredths are none") (bs := x_ss.getD 39 []) (by decide) (x_seg sg_39 hf) (hts _ (tin_6 (List.mem_of_getElem? (i := 83) (by decide +kernel)))) hA
    exact ⟨a, v, h1, fun q hq => by cases hq; exact h2⟩
  · obtain ⟨a, v, h1, h2⟩ := x_sof (own := "MemoryHouse") (k := 403) (tx := "seconds are 1 to 9999") (bs := x_ss.getD 40 []) (by decide) (x_seg sg_40 hf) (hts _ (tin_6 (List.mem_of_getElem? (i := 95) (by decide +kernel)))) hA
    exact ⟨a, v, h1, fun q hq => by cases hq; exact h2⟩
  · obtain ⟨a, v, h1, h2⟩ := x_sof (own := "MemoryHouse") (k := 504) (tx := "the set has bits of no PACKS, or too many") (bs := x_ss.getD 41 []) (by decide) (x_seg sg_41 hf) (hts _ (tin_6 (List.mem_of_getElem? (i := 113) (by decide +kernel)))) hA
    exact ⟨a, v, h1, fun q hq => by cases hq; exact h2⟩
  · obtain ⟨a, v, h1, h2⟩ := x_sof (own := "MemoryHouse") (k := 506) (tx := "a PACK of the set is PUT") (bs := x_ss.getD 42 []) (by decide) (x_seg sg_42 hf) (hts _ (tin_6 (List.mem_of_getElem? (i := 114) (by decide +kernel)))) hA
    exact ⟨a, v, h1, fun q hq => by cases hq; exact h2⟩
  · obtain ⟨a, v, h1, h2⟩ := x_sof (own := "MemoryHouse") (k := 432) (tx := "seconds are 0 to 9999") (bs := x_ss.getD 43 []) (by decide) (x_seg sg_43 hf) (hts _ (tin_6 (List.mem_of_getElem? (i := 148) (by decide +kernel)))) hA
    exact ⟨a, v, h1, fun q hq => by cases hq; exact h2⟩
  · obtain ⟨a, v, h1, h2⟩ := x_sof (own := "MemoryHouse") (k := 434) (tx := "1 to 6 are tried, a CHANCE is 0 to 100") (bs := x_ss.getD 44 []) (by decide) (x_seg sg_44 hf) (hts _ (tin_6 (List.mem_of_getElem? (i := 156) (by decide +kernel)))) hA
    exact ⟨a, v, h1, fun q hq => by cases hq; exact h2⟩
  · obtain ⟨a, v, h1, h2⟩ := x_sof (own := "MemoryHouse") (k := 439) (tx := "0 to 6 are whole") (bs := x_ss.getD 45 []) (by decide) (x_seg sg_45 hf) (hts _ (tin_6 (List.mem_of_getElem? (i := 164) (by decide +kernel)))) hA
    exact ⟨a, v, h1, fun q hq => by cases hq; exact h2⟩
  · obtain ⟨a, v, h1, h2⟩ := x_sof (own := "MemoryHouse") (k := 445) (tx := "a WEEK's number is 0 to 9999") (bs := x_ss.getD 46 []) (by decide) (x_seg sg_46 hf) (hts _ (tin_6 (List.mem_of_getElem? (i := 179) (by decide +kernel)))) hA
    exact ⟨a, v, h1, fun q hq => by cases hq; exact h2⟩
  · obtain ⟨a, v, h1, h2⟩ := x_sof (own := "MemoryHouse") (k := 450) (tx := "there are 20 WEEKS") (bs := x_ss.getD 47 []) (by decide) (x_seg sg_47 hf) (hts _ (tin_6 (List.mem_of_getElem? (i := 180) (by decide +kernel)))) hA
    exact ⟨a, v, h1, fun q hq => by cases hq; exact h2⟩
  · obtain ⟨a, v, h1, h2⟩ := x_sof (own := "MemoryHouse") (k := 455) (tx := "the GOAL is 0 to 9999") (bs := x_ss.getD 48 []) (by decide) (x_seg sg_48 hf) (hts _ (tin_6 (List.mem_of_getElem? (i := 188) (by decide +kernel)))) hA
    exact ⟨a, v, h1, fun q hq => by cases hq; exact h2⟩
  · obtain ⟨a, v, h1, h2⟩ := x_sof (own := "MemoryHouse") (k := 457) (tx := "what is 0 to 4") (bs := x_ss.getD 49 []) (by decide) (x_seg sg_49 hf) (hts _ (tin_6 (List.mem_of_getElem? (i := 189) (by decide +kernel)))) hA
    exact ⟨a, v, h1, fun q hq => by cases hq; exact h2⟩
  · obtain ⟨a, v, h1, h2⟩ := x_sof (own := "MemoryHouseModel") (k := 183) (tx := "add") (bs := x_ss.getD 50 []) (by decide) (x_seg sg_50 hf) (hts _ (tin_7 (List.mem_of_getElem? (i := 125) (by decide +kernel)))) hA
    exact ⟨a, v, h1, fun q hq => by cases hq; exact h2⟩
  · obtain ⟨a, v, h1, h2⟩ := x_sof (own := "MemoryHouseModel") (k := 185) (tx := "less") (bs := x_ss.getD 51 []) (by decide) (x_seg sg_51 hf) (hts _ (tin_7 (List.mem_of_getElem? (i := 132) (by decide +kernel)))) hA
    exact ⟨a, v, h1, fun q hq => by cases hq; exact h2⟩
  · obtain ⟨a, v, h1, h2⟩ := x_sof (own := "MemoryHouseModel") (k := 104) (tx := "right") (bs := x_ss.getD 52 []) (by decide) (x_seg sg_52 hf) (hts _ (tin_7 (List.mem_of_getElem? (i := 145) (by decide +kernel)))) hA
    exact ⟨a, v, h1, fun q hq => by cases hq; exact h2⟩
  · obtain ⟨a, v, h1, h2⟩ := x_sof (own := "MemoryHouseModel") (k := 106) (tx := "wrong") (bs := x_ss.getD 53 []) (by decide) (x_seg sg_53 hf) (hts _ (tin_7 (List.mem_of_getElem? (i := 146) (by decide +kernel)))) hA
    exact ⟨a, v, h1, fun q hq => by cases hq; exact h2⟩
  · obtain ⟨a, v, h1, h2⟩ := x_sof (own := "MemoryHouseModel") (k := 108) (tx := "blank") (bs := x_ss.getD 54 []) (by decide) (x_seg sg_54 hf) (hts _ (tin_7 (List.mem_of_getElem? (i := 147) (by decide +kernel)))) hA
    exact ⟨a, v, h1, fun q hq => by cases hq; exact h2⟩
  · obtain ⟨a, v, h1, h2⟩ := x_sof (own := "MemoryHouseModel") (k := 110) (tx := "cards") (bs := x_ss.getD 55 []) (by decide) (x_seg sg_55 hf) (hts _ (tin_7 (List.mem_of_getElem? (i := 148) (by decide +kernel)))) hA
    exact ⟨a, v, h1, fun q hq => by cases hq; exact h2⟩
  · obtain ⟨a, v, h1, h2⟩ := x_sof (own := "MemoryHouseModel") (k := 112) (tx := "seconds") (bs := x_ss.getD 56 []) (by decide) (x_seg sg_56 hf) (hts _ (tin_7 (List.mem_of_getElem? (i := 149) (by decide +kernel)))) hA
    exact ⟨a, v, h1, fun q hq => by cases hq; exact h2⟩
  · obtain ⟨a, v, h1, h2⟩ := x_sof (own := "MemoryHouseModel") (k := 114) (tx := "dull") (bs := x_ss.getD 57 []) (by decide) (x_seg sg_57 hf) (hts _ (tin_7 (List.mem_of_getElem? (i := 150) (by decide +kernel)))) hA
    exact ⟨a, v, h1, fun q hq => by cases hq; exact h2⟩
  · obtain ⟨a, v, h1, h2⟩ := x_sof (own := "MemoryHouseModel") (k := 116) (tx := "old") (bs := x_ss.getD 58 []) (by decide) (x_seg sg_58 hf) (hts _ (tin_7 (List.mem_of_getElem? (i := 151) (by decide +kernel)))) hA
    exact ⟨a, v, h1, fun q hq => by cases hq; exact h2⟩
  · obtain ⟨a, v, h1, h2⟩ := x_sof (own := "MemoryHouseModel") (k := 118) (tx := "like") (bs := x_ss.getD 59 []) (by decide) (x_seg sg_59 hf) (hts _ (tin_7 (List.mem_of_getElem? (i := 152) (by decide +kernel)))) hA
    exact ⟨a, v, h1, fun q hq => by cases hq; exact h2⟩
  · obtain ⟨a, v, h1, h2⟩ := x_sof (own := "MemoryHouseModel") (k := 120) (tx := "age") (bs := x_ss.getD 60 []) (by decide) (x_seg sg_60 hf) (hts _ (tin_7 (List.mem_of_getElem? (i := 153) (by decide +kernel)))) hA
    exact ⟨a, v, h1, fun q hq => by cases hq; exact h2⟩
  · obtain ⟨a, v, h1, h2⟩ := x_sof (own := "MemoryHouseModel") (k := 122) (tx := "gone") (bs := x_ss.getD 61 []) (by decide) (x_seg sg_61 hf) (hts _ (tin_7 (List.mem_of_getElem? (i := 154) (by decide +kernel)))) hA
    exact ⟨a, v, h1, fun q hq => by cases hq; exact h2⟩
  · obtain ⟨a, v, h1, h2⟩ := x_sof (own := "MemoryHouseModel") (k := 124) (tx := "per") (bs := x_ss.getD 62 []) (by decide) (x_seg sg_62 hf) (hts _ (tin_7 (List.mem_of_getElem? (i := 155) (by decide +kernel)))) hA
    exact ⟨a, v, h1, fun q hq => by cases hq; exact h2⟩
  · obtain ⟨a, v, h1, h2⟩ := x_sof (own := "MemoryHouseModel") (k := 126) (tx := "role") (bs := x_ss.getD 63 []) (by decide) (x_seg sg_63 hf) (hts _ (tin_7 (List.mem_of_getElem? (i := 156) (by decide +kernel)))) hA
    exact ⟨a, v, h1, fun q hq => by cases hq; exact h2⟩
  · obtain ⟨a, v, h1, h2⟩ := x_sof (own := "MemoryHouseModel") (k := 187) (tx := "if") (bs := x_ss.getD 64 []) (by decide) (x_seg sg_64 hf) (hts _ (tin_7 (List.mem_of_getElem? (i := 157) (by decide +kernel)))) hA
    exact ⟨a, v, h1, fun q hq => by cases hq; exact h2⟩
  · obtain ⟨a, v, h1, h2⟩ := x_sof (own := "MemoryHouseModel") (k := 158) (tx := "not") (bs := x_ss.getD 65 []) (by decide) (x_seg sg_65 hf) (hts _ (tin_7 (List.mem_of_getElem? (i := 174) (by decide +kernel)))) hA
    exact ⟨a, v, h1, fun q hq => by cases hq; exact h2⟩
  · obtain ⟨a, v, h1, h2⟩ := x_sof (own := "MemoryHouseModel") (k := 128) (tx := "whole") (bs := x_ss.getD 66 []) (by decide) (x_seg sg_66 hf) (hts _ (tin_7 (List.mem_of_getElem? (i := 183) (by decide +kernel)))) hA
    exact ⟨a, v, h1, fun q hq => by cases hq; exact h2⟩
  · obtain ⟨a, v, h1, h2⟩ := x_sof (own := "MemoryHouseModel") (k := 130) (tx := "first") (bs := x_ss.getD 67 []) (by decide) (x_seg sg_67 hf) (hts _ (tin_7 (List.mem_of_getElem? (i := 184) (by decide +kernel)))) hA
    exact ⟨a, v, h1, fun q hq => by cases hq; exact h2⟩
  · obtain ⟨a, v, h1, h2⟩ := x_sof (own := "MemoryHouseModel") (k := 132) (tx := "last") (bs := x_ss.getD 68 []) (by decide) (x_seg sg_68 hf) (hts _ (tin_7 (List.mem_of_getElem? (i := 185) (by decide +kernel)))) hA
    exact ⟨a, v, h1, fun q hq => by cases hq; exact h2⟩
  · obtain ⟨a, v, h1, h2⟩ := x_sof (own := "MemoryHouseModel") (k := 172) (tx := "and") (bs := x_ss.getD 69 []) (by decide) (x_seg sg_69 hf) (hts _ (tin_7 (List.mem_of_getElem? (i := 194) (by decide +kernel)))) hA
    exact ⟨a, v, h1, fun q hq => by cases hq; exact h2⟩
  · obtain ⟨a, v, h1, h2⟩ := x_sof (own := "MemoryHouseModel") (k := 177) (tx := "or") (bs := x_ss.getD 70 []) (by decide) (x_seg sg_70 hf) (hts _ (tin_7 (List.mem_of_getElem? (i := 195) (by decide +kernel)))) hA
    exact ⟨a, v, h1, fun q hq => by cases hq; exact h2⟩
theorem x_arrP {args : Array Value} {s : State} {ty : FieldType} (hno : ∀ C, ty ≠ .object C) (h : (Cond.arrayClass ty).before args s = true) : ∃ cA, ArrOfT s cA ty ∧ va_RA s cA ty := by
  obtain ⟨cA, kA, comp, h1, h2, h3⟩ := Cond.arrayClass_spec (args := args) (first := s) (o := none) (s := s) (idx := []) h
  refine ⟨cA, fun n z => ⟨fun k h => (by cases h), kA, h2, comp, h3⟩, ?_⟩
  cases ty with
  | object C => exact absurd rfl (hno C)
  | _ => exact h1
theorem x_arrO {args : Array Value} {s : State} {C : String} (h : (Cond.arrayOver (.object C)).before args s = true) : ∃ cA, ArrOfT s cA (.object C) ∧ va_RA s cA (.object C) := by
  obtain ⟨comp, cA, kA, h1, -, h2, h3, h4⟩ := Cond.arrayOver_spec (args := args) (first := s) (o := none) (s := s) (idx := []) h
  exact ⟨cA, fun n z => ⟨fun k h => (by cases h), kA, h2, comp, h3⟩, kA, comp, h2, h3, h1, h4⟩
set_option maxRecDepth 20000 in
theorem x_startE {args : Array Value} {s : State} (hts : ∀ w ∈ lw_tbl, w.before args s = true) (hgv : (Jvm.Cond.and given_1 narrow_1).before args s = true) : ∃ O : XO, oX O = s.heap.size ∧ (∀ q, oA O q ↔ s.heap.size ≤ q) ∧ x_EE O s s.heap := by
  have hf := flat_of_before _ hgv
  have hA : ∀ a : Nat, a < s.heap.size → ¬ (fun q : Nat => s.heap.size ≤ q) a := fun a ha h9 => absurd ha (Nat.not_lt.mpr h9)
  have hTB : ∀ w ∈ TB, w.before args s = true := fun w hw => hts w (List.mem_filter.mp hw).1
  obtain ⟨c0, i0, k0⟩ := u_known (C := RX0) (T := TX0) (N := 6) (n := 6) hTB inT_0 (hTB _ tw_471)
  obtain ⟨c1, i1, k1⟩ := u_known (C := RX1) (T := TX1) (N := 6) (n := 6) hTB inT_1 (hTB _ tw_417)
  obtain ⟨c2, i2, k2⟩ := u_known (C := RX2) (T := TX2) (N := 6) (n := 6) hTB inT_2 (hTB _ tw_199)
  obtain ⟨c3, i3, k3⟩ := u_known (C := RX3) (T := TX3) (N := 6) (n := 6) hTB inT_3 (hTB _ tw_445)
  obtain ⟨c4, i4, k4⟩ := u_known (C := RX4) (T := TX4) (N := 8) (n := 8) hTB inT_4 (hTB _ tw_205)
  obtain ⟨c5, i5, k5⟩ := u_known (C := RX5) (T := TX5) (N := 4) (n := 4) hTB inT_5 (hTB _ tw_383)
  obtain ⟨c6, i6, k6⟩ := u_known (C := RX6) (T := TX6) (N := 2) (n := 2) hTB inT_6 (hTB _ tw_404)
  obtain ⟨c7, i7, k7⟩ := u_known (C := RX7) (T := TX7) (N := 17) (n := 17) hTB inT_7 (hTB _ tw_190)
  obtain ⟨c8, i8, k8⟩ := u_known (C := RX8) (T := TX8) (N := 12) (n := 12) hTB inT_8 (hTB _ tw_144)
  obtain ⟨c9, i9, k9⟩ := u_known (C := RX9) (T := TX9) (N := 2) (n := 2) hTB inT_9 (hTB _ tw_369)
  obtain ⟨c10, i10, k10⟩ := u_known (C := RX10) (T := TX10) (N := 4) (n := 4) hTB inT_10 (hTB _ tw_744)
  obtain ⟨c11, i11, k11⟩ := u_known (C := RX11) (T := TX11) (N := 9) (n := 9) hTB inT_11 (hTB _ tw_136)
  obtain ⟨c12, i12, k12⟩ := u_known (C := RX12) (T := TX12) (N := 24) (n := 24) hTB inT_12 (hTB _ tw_1538)
  obtain ⟨y0, ya0, yb0⟩ := x_arrP (ty := .int) (fun C h => nomatch h) (hTB _ ac_int)
  obtain ⟨y1, ya1, yb1⟩ := x_arrP (ty := .byte) (fun C h => nomatch h) (hTB _ ac_byte)
  obtain ⟨y2, ya2, yb2⟩ := x_arrO (C := RX2) (hts _ (tin_1 (List.mem_of_getElem? (i := 91) (by decide +kernel))))
  obtain ⟨y3, ya3, yb3⟩ := x_arrO (C := RX10) (hts _ (tin_1 (List.mem_of_getElem? (i := 93) (by decide +kernel))))
  obtain ⟨y4, ya4, yb4⟩ := x_arrP (ty := .long) (fun C h => nomatch h) (hTB _ ac_long)
  obtain ⟨tw, htw, hWT⟩ := va_Tof (args := args) (s := s) (tm := .static "MemoryHouse$Slips" "WEIGHTS" "[I") (ty := .int) (N := 6) (f := x_wt) (A := fun q => s.heap.size ≤ q) (by decide) (hf _ (List.mem_of_getElem? (i := 12) (by decide +kernel))) (va_eqt (hf _ (List.mem_of_getElem? (i := 13) (by decide +kernel)))) (fun j hj => by
    rcases (show j = 0 ∨ j = 1 ∨ j = 2 ∨ j = 3 ∨ j = 4 ∨ j = 5 by omega) with rfl | rfl | rfl | rfl | rfl | rfl
    · exact va_eqt (hf _ (List.mem_of_getElem? (i := 14) (by decide +kernel)))
    · exact va_eqt (hf _ (List.mem_of_getElem? (i := 15) (by decide +kernel)))
    · exact va_eqt (hf _ (List.mem_of_getElem? (i := 16) (by decide +kernel)))
    · exact va_eqt (hf _ (List.mem_of_getElem? (i := 17) (by decide +kernel)))
    · exact va_eqt (hf _ (List.mem_of_getElem? (i := 18) (by decide +kernel)))
    · exact va_eqt (hf _ (List.mem_of_getElem? (i := 19) (by decide +kernel)))) hA
  have hst := x_strs (A := fun q => s.heap.size ≤ q) hts hgv hA
  refine ⟨(s.heap.size, fun k => if k = 0 then y0 else if k = 1 then y1 else if k = 2 then y2 else if k = 3 then y3 else y4, (fun k => if k = 0 then c0 else if k = 1 then c1 else if k = 2 then c2 else if k = 3 then c3 else if k = 4 then c4 else if k = 5 then c5 else if k = 6 then c6 else if k = 7 then c7 else if k = 8 then c8 else if k = 9 then c9 else if k = 10 then c10 else if k = 11 then c11 else c12, fun k => if k = 0 then i0 else if k = 1 then i1 else if k = 2 then i2 else if k = 3 then i3 else if k = 4 then i4 else if k = 5 then i5 else if k = 6 then i6 else if k = 7 then i7 else if k = 8 then i8 else if k = 9 then i9 else if k = 10 then i10 else if k = 11 then i11 else i12), fun q => s.heap.size ≤ q, fun j => if h : j < 71 then (hst j h).choose else 0, fun j => if h : j < 71 then (hst j h).choose_spec.choose else 0, tw), rfl, fun q => Iff.rfl, ?_, ?_, ?_, ?_, ?_, ?_, ?_, ?_, ?_, ?_, ?_, ?_, ?_⟩
  · refine ⟨fun k q hq => ?_, fun k q hq => ?_⟩
    · match k, hq with
      | 0, hq => cases hq; exact k0
      | 1, hq => cases hq; exact k1
      | 2, hq => cases hq; exact k2
      | 3, hq => cases hq; exact k3
      | 4, hq => cases hq; exact k4
      | 5, hq => cases hq; exact k5
      | 6, hq => cases hq; exact k6
      | 7, hq => cases hq; exact k7
      | 8, hq => cases hq; exact k8
      | 9, hq => cases hq; exact k9
      | 10, hq => cases hq; exact k10
      | 11, hq => cases hq; exact k11
      | 12, hq => cases hq; exact k12
      | k + 13, hq => simp [vwCl] at hq
    · match k, hq with
      | 0, hq => cases hq; exact ⟨ya0, yb0⟩
      | 1, hq => cases hq; exact ⟨ya1, yb1⟩
      | 2, hq => cases hq; exact ⟨ya2, yb2⟩
      | 3, hq => cases hq; exact ⟨ya3, yb3⟩
      | 4, hq => cases hq; exact ⟨ya4, yb4⟩
      | k + 5, hq => simp [x_tys] at hq
  · intro i hi
    have hi : i < 71 := hi
    obtain ⟨h1, h2⟩ := (hst i hi).choose_spec.choose_spec
    simp only [oK, oV, hi, dif_pos]
    exact h1
  · intro q hq
    obtain ⟨j, hj⟩ := List.mem_iff_getElem?.mp hq
    have hj2 : j < 71 := (List.getElem?_eq_some_iff.mp hj).1
    obtain ⟨h1, h2⟩ := (hst j hj2).choose_spec.choose_spec
    have h3 := h2 q hj
    have e : q.2.2.2 = j := (by decide : ∀ j, j < 71 → (x_sr.getD j ("", 0, "", 0)).2.2.2 = j) j hj2 ▸ (by rw [List.getD_eq_getElem?_getD, hj]; rfl)
    rw [e]
    simp only [oK, hj2, dif_pos]
    exact h3
  · exact va_Zof (hts _ (tin_3 (List.mem_of_getElem? (i := 83) (by decide +kernel)))) (hts _ (tin_1 (List.mem_of_getElem? (i := 13) (by decide +kernel)))) (va_eqt (hf _ (List.mem_of_getElem? (i := 4) (by decide +kernel)))) hA
  · exact va_Zqof (hts _ (tin_3 (List.mem_of_getElem? (i := 99) (by decide +kernel)))) (hts _ (tin_1 (List.mem_of_getElem? (i := 15) (by decide +kernel)))) (hf _ (List.mem_of_getElem? (i := 5) (by decide +kernel))) hA
  · exact va_Zof (hts _ (tin_5 (List.mem_of_getElem? (i := 165) (by decide +kernel)))) (hts _ (tin_1 (List.mem_of_getElem? (i := 8) (by decide +kernel)))) htw hA
  · exact hWT
  · exact vx_Zqof (hts _ (tin_3 (List.mem_of_getElem? (i := 223) (by decide +kernel)))) (hts _ (tin_1 (List.mem_of_getElem? (i := 21) (by decide +kernel)))) (hf _ (List.mem_of_getElem? (i := 9) (by decide +kernel))) hA
  · exact vx_Zqof (hts _ (tin_3 (List.mem_of_getElem? (i := 225) (by decide +kernel)))) (hts _ (tin_1 (List.mem_of_getElem? (i := 21) (by decide +kernel)))) (hf _ (List.mem_of_getElem? (i := 10) (by decide +kernel))) hA
  · exact fun w hw hk => va_Nw.of (x_nwk_ot hk) (hts w hw)
  · have hx : x_ex = [x_en 0, x_en 1, x_en 2, x_en 3, x_en 4] := rfl
    intro a ha b hb hne
    rw [hx] at ha hb
    simp only [List.mem_cons, List.not_mem_nil, or_false] at ha hb
    rcases ha with rfl | rfl | rfl | rfl | rfl <;> rcases hb with rfl | rfl | rfl | rfl | rfl
    · exact absurd rfl hne
    · exact va_Nc.of (hf _ (List.mem_of_getElem? (i := 34) (by decide +kernel)))
    · exact va_Nc.of (hf _ (List.mem_of_getElem? (i := 86) (by decide +kernel)))
    · exact va_Nc.of (hf _ (List.mem_of_getElem? (i := 51) (by decide +kernel)))
    · exact va_Nc.of (hf _ (List.mem_of_getElem? (i := 103) (by decide +kernel)))
    · exact va_Nc.of (hf _ (List.mem_of_getElem? (i := 67) (by decide +kernel)))
    · exact absurd rfl hne
    · exact va_Nc.of (hf _ (List.mem_of_getElem? (i := 84) (by decide +kernel)))
    · exact va_Nc.of (hf _ (List.mem_of_getElem? (i := 50) (by decide +kernel)))
    · exact va_Nc.of (hf _ (List.mem_of_getElem? (i := 101) (by decide +kernel)))
    · exact va_Nc.of (hf _ (List.mem_of_getElem? (i := 69) (by decide +kernel)))
    · exact va_Nc.of (hf _ (List.mem_of_getElem? (i := 35) (by decide +kernel)))
    · exact absurd rfl hne
    · exact va_Nc.of (hf _ (List.mem_of_getElem? (i := 52) (by decide +kernel)))
    · exact va_Nc.of (hf _ (List.mem_of_getElem? (i := 104) (by decide +kernel)))
    · exact va_Nc.of (hf _ (List.mem_of_getElem? (i := 68) (by decide +kernel)))
    · exact va_Nc.of (hf _ (List.mem_of_getElem? (i := 33) (by decide +kernel)))
    · exact va_Nc.of (hf _ (List.mem_of_getElem? (i := 85) (by decide +kernel)))
    · exact absurd rfl hne
    · exact va_Nc.of (hf _ (List.mem_of_getElem? (i := 102) (by decide +kernel)))
    · exact va_Nc.of (hf _ (List.mem_of_getElem? (i := 70) (by decide +kernel)))
    · exact va_Nc.of (hf _ (List.mem_of_getElem? (i := 36) (by decide +kernel)))
    · exact va_Nc.of (hf _ (List.mem_of_getElem? (i := 87) (by decide +kernel)))
    · exact va_Nc.of (hf _ (List.mem_of_getElem? (i := 53) (by decide +kernel)))
    · exact absurd rfl hne
  · exact va_AO.of (hts _ (tin_1 (List.mem_of_getElem? (i := 91) (by decide +kernel))))
  · exact va_AO.of (hts _ (tin_1 (List.mem_of_getElem? (i := 93) (by decide +kernel))))
theorem x_T.base {x : Nat} {h : XH} (hr : ∀ b k, h.2.2 b k = none) : x_T x (x_kl (fun _ => (0, 0)) x x_ks) h := by
  have hc : ∀ a v, (x_kl (fun _ => (0, 0)) x x_ks a).1 = v → v ≠ 0 → ∃ j, a = x + j ∧ j < 77 ∧ (x_ks.getD j (0, 0)).1 = v := fun a v ha hv => by
    rcases x_kl_cases (K := fun _ => (0, 0)) (n := x) (ks := x_ks) a with e | ⟨j, e, hj, e2⟩
    · rw [e] at ha
      exact absurd ha.symm hv
    · exact ⟨j, e, hj, by rw [← e2]; exact ha⟩
  refine ⟨fun j hj => ?_, fun a ha => ?_, fun a ha => ?_, fun a ha => ?_, fun a ha => ?_, fun a ha k r hk => ?_, fun r hk => ?_, fun a ha => ?_, fun a => ?_⟩
  · have h1 : j < x_ks.length := hj
    rw [List.getElem?_eq_getElem h1]
    exact congrArg some (x_kl_j j (List.getElem?_eq_getElem h1))
  · obtain ⟨j, rfl, hj, h8⟩ := hc a 8 ha (by decide)
    have : j = 9 := (by decide : ∀ j, j < 77 → (x_ks.getD j (0, 0)).1 = 8 → j = 9) j hj h8
    subst this
    exact ⟨x_kl_at' (j := 10) rfl (by omega), x_kl_at' (j := 11) rfl (by omega), x_kl_at' (j := 12) rfl (by omega), x_kl_at' (j := 13) rfl (by omega), x_kl_at' (j := 14) rfl (by omega), x_kl_at' (j := 15) rfl (by omega), x_kl_at' (j := 16) rfl (by omega), x_kl_at' (j := 17) rfl (by omega), x_kl_at' (j := 18) rfl (by omega)⟩
  · obtain ⟨j, rfl, hj, h8⟩ := hc a 3 ha (by decide)
    obtain ⟨q1, q2⟩ := (by decide : ∀ j, j < 77 → (x_ks.getD j (0, 0)).1 = 3 → x_ks[j + 1]? = some (5, 0) ∧ x_ks[j + 2]? = some (14, 52)) j hj h8
    exact ⟨x_kl_at' q1 (by omega), x_kl_at' q2 (by omega)⟩
  · obtain ⟨j, rfl, hj, h8⟩ := hc a 11 ha (by decide)
    exact absurd h8 ((by decide : ∀ j, j < 77 → (x_ks.getD j (0, 0)).1 ≠ 11) j hj)
  · obtain ⟨j, rfl, hj, h8⟩ := hc a 16 ha (by decide)
    have : j = 13 := (by decide : ∀ j, j < 77 → (x_ks.getD j (0, 0)).1 = 16 → j = 13) j hj h8
    subst this
    exact fun k hk => x_kl_at' ((by decide : ∀ k, k < 8 → x_ks[13 + 6 + 3 * k]? = some (3, 0)) k hk) (by omega)
  · rw [hr] at hk
    cases hk
  · rw [hr] at hk
    cases hk
  · rcases x_kl_cases (K := fun _ => (0, 0)) (n := x) (ks := x_ks) a with e | ⟨j, e, hj, e2⟩
    · rw [e]
    · rw [e2] at ha ⊢
      exact (by decide : ∀ j, j < 77 → (x_ks.getD j (0, 0)).1 < 14 → (x_ks.getD j (0, 0)).2 = 0) j hj ha
  · rcases x_kl_cases (K := fun _ => (0, 0)) (n := x) (ks := x_ks) a with e | ⟨j, e, hj, e2⟩
    · rw [e]; decide
    · rw [e2]
      exact (by decide : ∀ j, j < 77 → (x_ks.getD j (0, 0)).1 ≤ 18) j hj
