/-! ===== the abstract heap: ints, longs, references by (address, place); shapes: kind and length by address ===== -/
def TB : List Cond := lw_tbl.filter goodWord
theorem TB_of {w : Cond} (h : w ∈ lw_tbl) (g : goodWord w = true) : w ∈ TB := List.mem_filter.mpr ⟨h, g⟩
theorem TB_good : GoodIn TB TB := fun w h => ⟨h, good_of_word (List.mem_filter.mp h).2⟩
theorem TB_cons {w : Cond} (h : w ∈ TB) : GoodIn TB (w :: TB) := fun v hv => by
  rcases List.mem_cons.mp hv with e | e
  · rw [e]; exact TB_good w h
  · exact TB_good v e
abbrev XH : Type := (Nat → Nat → Int32) × (Nat → Nat → Int64) × (Nat → Nat → Option Nat)
abbrev XK : Type := Nat → Nat × Nat
def x_i (h : XH) (a j : Nat) (v : Int32) : XH := (fun b k => if b = a ∧ k = j then v else h.1 b k, h.2)
def x_l (h : XH) (a j : Nat) (v : Int64) : XH := (h.1, fun b k => if b = a ∧ k = j then v else h.2.1 b k, h.2.2)
def x_r (h : XH) (a j : Nat) (v : Option Nat) : XH := (h.1, h.2.1, fun b k => if b = a ∧ k = j then v else h.2.2 b k)
def x_b (i : Int32) (n : Nat) : Bool := decide (¬ (i < 0 ∨ n ≤ i.toNatClampNeg))
theorem x_b_in {i : Int32} {n : Nat} (h : x_b i n = true) : vp_in i n := by
  have h1 : ¬ (i < 0 ∨ n ≤ i.toNatClampNeg) := by simpa [x_b] using h
  exact h1
/-- the fields of an object of class number ci at a; x: where the component begins -/
def x_fs (x : Nat) (h : XH) (a : Nat) : Nat → List Value
  | 0 => [.ref (x + 9), .ref (x + 46), .ref (a + 1), .ref (a + 2), .ref (a + 3), .ref (a + 4)]
  | 1 => [.ref (x + 43), .ref (a + 1), .ref (a + 2), .int (h.1 a 3), .long (h.2.1 a 4), .long (h.2.1 a 5)]
  | 2 => [.int (h.1 a 0), .int (h.1 a 1), .int (h.1 a 2), .int (h.1 a 3), .ref (a + 1), .ref (a + 2)]
  | 3 => [.ref (a + 1), .ref (a + 2), .ref (a + 3), .ref (a + 4), .int (h.1 a 4), .int (h.1 a 5)]
  | 4 => [.int (h.1 a 0), .int (h.1 a 1), .int (h.1 a 2), .int (h.1 a 3), .int (h.1 a 4), .int (h.1 a 5), .int (h.1 a 6), .int (h.1 a 7)]
  | 5 => [.ref (x + 9), .ref (x + 43), .ref (a + 1), .ref (a + 2)]
  | 6 => [.ref (x + 9), .ref (a + 1)]
  | 7 => [.ref (a + 1), .int (h.1 a 1), .ref (a + 2), .ref (a + 3), .int (h.1 a 4), .ref (a + 4), .int (h.1 a 6), .int (h.1 a 7), .int (h.1 a 8), .ref (a + 5), .int (h.1 a 10), .ref (a + 6), .int (h.1 a 12), .ref (a + 7), .ref (a + 8), .int (h.1 a 15), .ref (a + 9)]
  | 8 => [.ref (a + 1), .int (h.1 a 1), .ref (a + 2), .ref (a + 3), .ref (a + 4), .ref (a + 5), .ref (a + 6), .ref (a + 7), .int (h.1 a 8), .int (h.1 a 9), .int (h.1 a 10), .int (h.1 a 11)]
  | 9 => [.ref (a + 1), .ref (a + 2)]
  | 10 => [.ref (a + 1), .ref (a + 2), .ref (a + 3), .ref (a + 4)]
  | 11 => [.ref (a + 1), .ref (a + 9), .ref (a + 43), .ref (a + 46), .ref (a + 49), .ref (a + 51), .ref (a + 54), .ref (a + 59), va_rf (h.2.2 a 8)]
  | 12 => [.int (h.1 a 0), .ref (a + 1), .ref (a + 2), .int (h.1 a 3), .ref (a + 3), .int (h.1 a 5), .int (h.1 a 6), .int (h.1 a 7), .int (h.1 a 8), .int (h.1 a 9), .int (h.1 a 10), .ref (a + 4), .int (h.1 a 12), .int (h.1 a 13), .ref (a + 5), .ref (a + 6), .int (h.1 a 16), .ref (a + 7), .ref (a + 8), .ref (a + 9), .int (h.1 a 20), .int (h.1 a 21), .ref (a + 10), .ref (a + 11)]
  | _ => []
def x_cell (x : Nat) (cy : Nat → ClassId) (K : XK) (h : XH) (a : Nat) : va_E :=
  if (K a).1 = 14 then .inl (cy 0, (K a).2, .inl (h.1 a))
  else if (K a).1 = 15 then .inl (cy 1, (K a).2, .inl (h.1 a))
  else if (K a).1 = 16 then .inl (cy 2, (K a).2, .inr (.inr (.inr (.inr (fun k => some (a + 6 + 3 * k))))))
  else if (K a).1 = 17 then .inl (cy 3, (K a).2, .inr (.inr (.inr (.inr (h.2.2 a)))))
  else if (K a).1 = 18 then .inl (cy 4, (K a).2, .inr (.inl (h.2.1 a)))
  else .inr ((K a).1 - 1, x_fs x h a ((K a).1 - 1))
/-- the shape of the component (64 cells from x on), the reference (12 from x + 64 on) and the law's long[1] -/
def x_ks : List (Nat × Nat) :=
  [(12, 0), (9, 0), (14, 400), (14, 401), (14, 401), (14, 10), (14, 10), (14, 10), (14, 400),
   (8, 0), (14, 156), (14, 6), (14, 120), (16, 8), (17, 3), (17, 3), (14, 6), (14, 6), (14, 20),
   (3, 0), (5, 0), (14, 52), (3, 0), (5, 0), (14, 52), (3, 0), (5, 0), (14, 52), (3, 0), (5, 0), (14, 52),
   (3, 0), (5, 0), (14, 52), (3, 0), (5, 0), (14, 52), (3, 0), (5, 0), (14, 52), (3, 0), (5, 0), (14, 52),
   (10, 0), (14, 10), (14, 20), (6, 0), (5, 0), (14, 49), (7, 0), (14, 6), (2, 0), (14, 5), (14, 6),
   (4, 0), (14, 5), (14, 30), (14, 5), (14, 5), (1, 0), (14, 52), (14, 52), (14, 1560), (14, 3),
   (13, 0), (14, 6927), (14, 6076), (15, 400), (14, 5), (14, 10), (14, 400), (14, 6), (14, 6), (14, 6), (14, 8), (14, 48),
   (18, 1)]
def x_T (x : Nat) (K : XK) (h : XH) : Prop :=
  (∀ j, j < 77 → some (K (x + j)) = x_ks[j]?) ∧
  (∀ a, (K a).1 = 8 → K (a + 1) = (14, 156) ∧ K (a + 2) = (14, 6) ∧ K (a + 3) = (14, 120) ∧ K (a + 4) = (16, 8) ∧ K (a + 5) = (17, 3) ∧ K (a + 6) = (17, 3) ∧ K (a + 7) = (14, 6) ∧ K (a + 8) = (14, 6) ∧ K (a + 9) = (14, 20)) ∧
  (∀ a, (K a).1 = 3 → K (a + 1) = (5, 0) ∧ K (a + 2) = (14, 52)) ∧
  (∀ a, (K a).1 = 11 → (K (a + 1)).1 = 14 ∧ (K (a + 2)).1 = 14 ∧ (K (a + 3)).1 = 14 ∧ (K (a + 4)).1 = 14) ∧
  (∀ a, (K a).1 = 16 → ∀ k, k < 8 → K (a + 6 + 3 * k) = (3, 0)) ∧
  (∀ a, (K a).1 = 17 → ∀ k r, h.2.2 a k = some r → K r = (11, 0)) ∧
  (∀ r, h.2.2 x 8 = some r → K r = (8, 0)) ∧
  (∀ a, (K a).1 < 14 → (K a).2 = 0) ∧ (∀ a, (K a).1 ≤ 18)
/-- what stays the same through the whole run: where the component begins, the array classes, the classes' numbers and slots, what may change, the String constants' addresses, the addresses of their bytes, the static array -/
abbrev XO : Type := Nat × (Nat → ClassId) × va_G × (Nat → Prop) × (Nat → Nat) × (Nat → Nat) × Nat
abbrev oX (O : XO) : Nat := O.1
abbrev oC (O : XO) : Nat → ClassId := O.2.1
abbrev oD (O : XO) : va_G := O.2.2.1
abbrev oA (O : XO) : Nat → Prop := O.2.2.2.1
abbrev oK (O : XO) : Nat → Nat := O.2.2.2.2.1
abbrev oV (O : XO) : Nat → Nat := O.2.2.2.2.2.1
abbrev oW (O : XO) : Nat := O.2.2.2.2.2.2
abbrev x_tys (O : XO) : List (ClassId × FieldType) := [(oC O 0, .int), (oC O 1, .byte), (oC O 2, .object RX2), (oC O 3, .object RX10), (oC O 4, .long)]
def x_R (O : XO) (K : XK) (h : XH) (H : Heap) : Prop :=
  ∃ L : List Nat, (∀ a, a ∈ L ↔ (K a).1 ≠ 0) ∧ va_P (oD O) vwCl ([] ++ va_pl L (x_cell (oX O) (oC O) K h)) H ∧ va_D (oA O) ([] ++ va_pl L (x_cell (oX O) (oC O) K h)) ∧ x_T (oX O) K h
/-! ===== String constants: (class, entry, text, place) and bytes ===== -/
def x_sr : List (String × Nat × String × Nat) := [("MemoryHouse$Tape", 93, "add less if and or not", 0), ("MemoryHouse$Tape", 99, "seconds dull old like age gone per role", 1), ("MemoryHouse$Tape", 101, "right wrong blank cards", 2), ("MemoryHouse$Tape", 103, "first last", 3), ("MemoryHouse$Tape", 105, "whole", 4), ("MemoryHouse", 94, "the text of the LAW is wrong", 5), ("MemoryHouse", 104, "there are 3 LAWS", 6), ("MemoryHouse", 111, "the text of the RULE is wrong", 7), ("MemoryHouse", 116, "there are 3 RULES", 8), ("MemoryHouse", 126, "no such card or role", 9), ("MemoryHouse", 129, "DULL is 0 to 9", 10), ("MemoryHouse", 135, "a HOUSE has 1 to 20 DOORS", 11), ("MemoryHouse", 140, "there are 6 HOUSES", 12), ("MemoryHouse", 487, "no such HOUSE", 13), ("MemoryHouse", 489, "no such DOOR", 14), ("MemoryHouse", 150, "a LOOK is 0 to 9", 15), ("MemoryHouse", 159, "START, STEP or N are none", 16), ("MemoryHouse", 164, "there are 8 PACKS", 17), ("MemoryHouse", 491, "no such PACK", 18), ("MemoryHouse", 493, "no such place in the PACK", 19), ("MemoryHouse", 191, "the PACK is PUT", 20), ("MemoryHouse", 497, "PER is 1 to 3", 21), ("MemoryHouse", 499, "SECONDS are 1 to 60", 22), ("MemoryHouse", 206, "there is no room", 23), ("MemoryHouse", 502, "THE CLOCK would be past its most", 24), ("MemoryHouse", 232, "THE CLOCK goes on", 25), ("MemoryHouse", 495, "the PACK is not PUT", 26), ("MemoryHouse", 270, "what is 0 to 7", 27), ("MemoryHouse", 483, "no such LAW", 28), ("MemoryHouse", 283, "no such card", 29), ("MemoryHouse", 304, "the KIND is 0 to 5", 30), ("MemoryHouse", 321, "the KIND is 0 to 6", 31), ("MemoryHouse", 485, "no such RULE", 32), ("MemoryHouse", 333, "off is 0 to 5200", 33), ("MemoryHouse", 340, "i is below NONE", 34), ("MemoryHouse", 348, "what is 0 to 2", 35), ("MemoryHouse", 368, "MOMENTS rise, 1 to 99999", 36), ("MemoryHouse", 373, "there are 6 MOMENTS", 37), ("MemoryHouse", 378, "most or the END are none", 38), ("MemoryHouse", 392, "packs or hundredths are none", 39), ("MemoryHouse", 403, "seconds are 1 to 9999", 40), ("MemoryHouse", 504, "the set has bits of no PACKS, or too many", 41), ("MemoryHouse", 506, "a PACK of the set is PUT", 42), ("MemoryHouse", 432, "seconds are 0 to 9999", 43), ("MemoryHouse", 434, "1 to 6 are tried, a CHANCE is 0 to 100", 44), ("MemoryHouse", 439, "0 to 6 are whole", 45), ("MemoryHouse", 445, "a WEEK's number is 0 to 9999", 46), ("MemoryHouse", 450, "there are 20 WEEKS", 47), ("MemoryHouse", 455, "the GOAL is 0 to 9999", 48), ("MemoryHouse", 457, "what is 0 to 4", 49), ("MemoryHouseModel", 183, "add", 50), ("MemoryHouseModel", 185, "less", 51), ("MemoryHouseModel", 104, "right", 52), ("MemoryHouseModel", 106, "wrong", 53), ("MemoryHouseModel", 108, "blank", 54), ("MemoryHouseModel", 110, "cards", 55), ("MemoryHouseModel", 112, "seconds", 56), ("MemoryHouseModel", 114, "dull", 57), ("MemoryHouseModel", 116, "old", 58), ("MemoryHouseModel", 118, "like", 59), ("MemoryHouseModel", 120, "age", 60), ("MemoryHouseModel", 122, "gone", 61), ("MemoryHouseModel", 124, "per", 62), ("MemoryHouseModel", 126, "role", 63), ("MemoryHouseModel", 187, "if", 64), ("MemoryHouseModel", 158, "not", 65), ("MemoryHouseModel", 128, "whole", 66), ("MemoryHouseModel", 130, "first", 67), ("MemoryHouseModel", 132, "last", 68), ("MemoryHouseModel", 172, "and", 69), ("MemoryHouseModel", 177, "or", 70)]
def x_ss : List (List Int32) := [[97, 100, 100, 32, 108, 101, 115, 115, 32, 105, 102, 32, 97, 110, 100, 32, 111, 114, 32, 110, 111, 116], [115, 101, 99, 111, 110, 100, 115, 32, 100, 117, 108, 108, 32, 111, 108, 100, 32, 108, 105, 107, 101, 32, 97, 103, 101, 32, 103, 111, 110, 101, 32, 112, 101, 114, 32, 114, 111, 108, 101], [114, 105, 103, 104, 116, 32, 119, 114, 111, 110, 103, 32, 98, 108, 97, 110, 107, 32, 99, 97, 114, 100, 115], [102, 105, 114, 115, 116, 32, 108, 97, 115, 116], [119, 104, 111, 108, 101], [116, 104, 101, 32, 116, 101, 120, 116, 32, 111, 102, 32, 116, 104, 101, 32, 76, 65, 87, 32, 105, 115, 32, 119, 114, 111, 110, 103], [116, 104, 101, 114, 101, 32, 97, 114, 101, 32, 51, 32, 76, 65, 87, 83], [116, 104, 101, 32, 116, 101, 120, 116, 32, 111, 102, 32, 116, 104, 101, 32, 82, 85, 76, 69, 32, 105, 115, 32, 119, 114, 111, 110, 103], [116, 104, 101, 114, 101, 32, 97, 114, 101, 32, 51, 32, 82, 85, 76, 69, 83], [110, 111, 32, 115, 117, 99, 104, 32, 99, 97, 114, 100, 32, 111, 114, 32, 114, 111, 108, 101], [68, 85, 76, 76, 32, 105, 115, 32, 48, 32, 116, 111, 32, 57], [97, 32, 72, 79, 85, 83, 69, 32, 104, 97, 115, 32, 49, 32, 116, 111, 32, 50, 48, 32, 68, 79, 79, 82, 83], [116, 104, 101, 114, 101, 32, 97, 114, 101, 32, 54, 32, 72, 79, 85, 83, 69, 83], [110, 111, 32, 115, 117, 99, 104, 32, 72, 79, 85, 83, 69], [110, 111, 32, 115, 117, 99, 104, 32, 68, 79, 79, 82], [97, 32, 76, 79, 79, 75, 32, 105, 115, 32, 48, 32, 116, 111, 32, 57], [83, 84, 65, 82, 84, 44, 32, 83, 84, 69, 80, 32, 111, 114, 32, 78, 32, 97, 114, 101, 32, 110, 111, 110, 101], [116, 104, 101, 114, 101, 32, 97, 114, 101, 32, 56, 32, 80, 65, 67, 75, 83], [110, 111, 32, 115, 117, 99, 104, 32, 80, 65, 67, 75], [110, 111, 32, 115, 117, 99, 104, 32, 112, 108, 97, 99, 101, 32, 105, 110, 32, 116, 104, 101, 32, 80, 65, 67, 75], [116, 104, 101, 32, 80, 65, 67, 75, 32, 105, 115, 32, 80, 85, 84], [80, 69, 82, 32, 105, 115, 32, 49, 32, 116, 111, 32, 51], [83, 69, 67, 79, 78, 68, 83, 32, 97, 114, 101, 32, 49, 32, 116, 111, 32, 54, 48], [116, 104, 101, 114, 101, 32, 105, 115, 32, 110, 111, 32, 114, 111, 111, 109], [84, 72, 69, 32, 67, 76, 79, 67, 75, 32, 119, 111, 117, 108, 100, 32, 98, 101, 32, 112, 97, 115, 116, 32, 105, 116, 115, 32, 109, 111, 115, 116], [84, 72, 69, 32, 67, 76, 79, 67, 75, 32, 103, 111, 101, 115, 32, 111, 110], [116, 104, 101, 32, 80, 65, 67, 75, 32, 105, 115, 32, 110, 111, 116, 32, 80, 85, 84], [119, 104, 97, 116, 32, 105, 115, 32, 48, 32, 116, 111, 32, 55], [110, 111, 32, 115, 117, 99, 104, 32, 76, 65, 87], [110, 111, 32, 115, 117, 99, 104, 32, 99, 97, 114, 100], [116, 104, 101, 32, 75, 73, 78, 68, 32, 105, 115, 32, 48, 32, 116, 111, 32, 53], [116, 104, 101, 32, 75, 73, 78, 68, 32, 105, 115, 32, 48, 32, 116, 111, 32, 54], [110, 111, 32, 115, 117, 99, 104, 32, 82, 85, 76, 69], [111, 102, 102, 32, 105, 115, 32, 48, 32, 116, 111, 32, 53, 50, 48, 48], [105, 32, 105, 115, 32, 98, 101, 108, 111, 119, 32, 78, 79, 78, 69], [119, 104, 97, 116, 32, 105, 115, 32, 48, 32, 116, 111, 32, 50], [77, 79, 77, 69, 78, 84, 83, 32, 114, 105, 115, 101, 44, 32, 49, 32, 116, 111, 32, 57, 57, 57, 57, 57], [116, 104, 101, 114, 101, 32, 97, 114, 101, 32, 54, 32, 77, 79, 77, 69, 78, 84, 83], [109, 111, 115, 116, 32, 111, 114, 32, 116, 104, 101, 32, 69, 78, 68, 32, 97, 114, 101, 32, 110, 111, 110, 101], [112, 97, 99, 107, 115, 32, 111, 114, 32, 104, 117, 110, 100, 114, 101, 100, 116, 104, 115, 32, 97, 114, 101, 32, 110, 111, 110, 101], [115, 101, 99, 111, 110, 100, 115, 32, 97, 114, 101, 32, 49, 32, 116, 111, 32, 57, 57, 57, 57], [116, 104, 101, 32, 115, 101, 116, 32, 104, 97, 115, 32, 98, 105, 116, 115, 32, 111, 102, 32, 110, 111, 32, 80, 65, 67, 75, 83, 44, 32, 111, 114, 32, 116, 111, 111, 32, 109, 97, 110, 121], [97, 32, 80, 65, 67, 75, 32, 111, 102, 32, 116, 104, 101, 32, 115, 101, 116, 32, 105, 115, 32, 80, 85, 84], [115, 101, 99, 111, 110, 100, 115, 32, 97, 114, 101, 32, 48, 32, 116, 111, 32, 57, 57, 57, 57], [49, 32, 116, 111, 32, 54, 32, 97, 114, 101, 32, 116, 114, 105, 101, 100, 44, 32, 97, 32, 67, 72, 65, 78, 67, 69, 32, 105, 115, 32, 48, 32, 116, 111, 32, 49, 48, 48], [48, 32, 116, 111, 32, 54, 32, 97, 114, 101, 32, 119, 104, 111, 108, 101], [97, 32, 87, 69, 69, 75, 39, 115, 32, 110, 117, 109, 98, 101, 114, 32, 105, 115, 32, 48, 32, 116, 111, 32, 57, 57, 57, 57], [116, 104, 101, 114, 101, 32, 97, 114, 101, 32, 50, 48, 32, 87, 69, 69, 75, 83], [116, 104, 101, 32, 71, 79, 65, 76, 32, 105, 115, 32, 48, 32, 116, 111, 32, 57, 57, 57, 57], [119, 104, 97, 116, 32, 105, 115, 32, 48, 32, 116, 111, 32, 52], [97, 100, 100], [108, 101, 115, 115], [114, 105, 103, 104, 116], [119, 114, 111, 110, 103], [98, 108, 97, 110, 107], [99, 97, 114, 100, 115], [115, 101, 99, 111, 110, 100, 115], [100, 117, 108, 108], [111, 108, 100], [108, 105, 107, 101], [97, 103, 101], [103, 111, 110, 101], [112, 101, 114], [114, 111, 108, 101], [105, 102], [110, 111, 116], [119, 104, 111, 108, 101], [102, 105, 114, 115, 116], [108, 97, 115, 116], [97, 110, 100], [111, 114]]
theorem x_fs_congr {x b : Nat} {h h' : XH} (hI : h'.1 b = h.1 b) (hJ : h'.2.1 b = h.2.1 b) (hR : h'.2.2 b = h.2.2 b) (ci : Nat) : x_fs x h' b ci = x_fs x h b ci := by
  unfold x_fs
  split <;> simp only [hI, hJ, hR]
theorem x_cell_congr {x b : Nat} {cy : Nat → ClassId} {K : XK} {h h' : XH} (hI : h'.1 b = h.1 b) (hJ : h'.2.1 b = h.2.1 b) (hR : h'.2.2 b = h.2.2 b) : x_cell x cy K h' b = x_cell x cy K h b := by
  unfold x_cell
  simp only [hI, hJ, hR, x_fs_congr hI hJ hR]
theorem x_cell_obj {x a ci : Nat} {cy : Nat → ClassId} {K : XK} {h : XH} (hk : (K a).1 = ci + 1) (hc : ci < 13) : x_cell x cy K h a = .inr (ci, x_fs x h a ci) := by
  unfold x_cell
  rw [if_neg (by omega), if_neg (by omega), if_neg (by omega), if_neg (by omega), if_neg (by omega), hk]
  rfl
theorem x_cell_int {x a : Nat} {cy : Nat → ClassId} {K : XK} {h : XH} (hk : (K a).1 = 14) : x_cell x cy K h a = .inl (cy 0, (K a).2, .inl (h.1 a)) := by
  unfold x_cell
  rw [if_pos hk]
theorem x_cell_byte {x a : Nat} {cy : Nat → ClassId} {K : XK} {h : XH} (hk : (K a).1 = 15) : x_cell x cy K h a = .inl (cy 1, (K a).2, .inl (h.1 a)) := by
  unfold x_cell
  rw [if_neg (by omega), if_pos hk]
theorem x_cell_pack {x a : Nat} {cy : Nat → ClassId} {K : XK} {h : XH} (hk : (K a).1 = 16) : x_cell x cy K h a = .inl (cy 2, (K a).2, .inr (.inr (.inr (.inr (fun k => some (a + 6 + 3 * k)))))) := by
  unfold x_cell
  rw [if_neg (by omega), if_neg (by omega), if_pos hk]
theorem x_cell_text {x a : Nat} {cy : Nat → ClassId} {K : XK} {h : XH} (hk : (K a).1 = 17) : x_cell x cy K h a = .inl (cy 3, (K a).2, .inr (.inr (.inr (.inr (h.2.2 a))))) := by
  unfold x_cell
  rw [if_neg (by omega), if_neg (by omega), if_neg (by omega), if_pos hk]
theorem x_cell_long {x a : Nat} {cy : Nat → ClassId} {K : XK} {h : XH} (hk : (K a).1 = 18) : x_cell x cy K h a = .inl (cy 4, (K a).2, .inr (.inl (h.2.1 a))) := by
  unfold x_cell
  rw [if_neg (by omega), if_neg (by omega), if_neg (by omega), if_neg (by omega), if_pos hk]
theorem x_i_ne {h : XH} {a j b : Nat} {v : Int32} (hb : b ≠ a) : (x_i h a j v).1 b = h.1 b := by
  funext k
  simp [x_i, hb]
theorem x_l_ne {h : XH} {a j b : Nat} {v : Int64} (hb : b ≠ a) : (x_l h a j v).2.1 b = h.2.1 b := by
  funext k
  simp [x_l, hb]
theorem x_r_ne {h : XH} {a j b : Nat} {v : Option Nat} (hb : b ≠ a) : (x_r h a j v).2.2 b = h.2.2 b := by
  funext k
  simp [x_r, hb]
theorem x_i_up {h : XH} {a j : Nat} {v : Int32} : (x_i h a j v).1 a = upd (h.1 a) j v := by
  funext k
  simp [x_i, upd]
theorem x_l_up {h : XH} {a j : Nat} {v : Int64} : (x_l h a j v).2.1 a = vp_updL (h.2.1 a) j v := by
  funext k
  simp [x_l, vp_updL]
theorem x_r_up {h : XH} {a j : Nat} {v : Option Nat} : (x_r h a j v).2.2 a = va_up (h.2.2 a) j v := by
  funext k
  simp [x_r, va_up]
theorem x_R.set {O : XO} {K : XK} {h h' : XH} {H1 : Heap} {L : List Nat} {q0 a : Nat} {E : va_E} (hL : ∀ a, a ∈ L ↔ (K a).1 ≠ 0) (hD : va_D (oA O) ([] ++ va_pl L (x_cell (oX O) (oC O) K h))) (ha : (K a).1 ≠ 0)
    (hk : ([] ++ va_pl L (x_cell (oX O) (oC O) K h))[q0]? = some (a, x_cell (oX O) (oC O) K h a)) (hE : E = x_cell (oX O) (oC O) K h' a)
    (hP1 : va_P (oD O) vwCl (([] ++ va_pl L (x_cell (oX O) (oC O) K h)).set q0 (a, E)) H1) (hD1 : va_D (oA O) (([] ++ va_pl L (x_cell (oX O) (oC O) K h)).set q0 (a, E)))
    (hI : ∀ b, b ≠ a → h'.1 b = h.1 b) (hJ : ∀ b, b ≠ a → h'.2.1 b = h.2.1 b) (hR : ∀ b, b ≠ a → h'.2.2 b = h.2.2 b) (hT : x_T (oX O) K h') : x_R O K h' H1 := by
  have e1 : ([] ++ va_pl L (x_cell (oX O) (oC O) K h)).set q0 (a, E) = [] ++ va_pl L (x_cell (oX O) (oC O) K h') := by
    rw [va_pl_set hD ((hL a).mpr ha) hk]
    congr 1
    refine va_pl_congr fun b => ?_
    by_cases hb : b = a
    · rw [hb, va_up_self, hE]
    · rw [va_up_ne _ _ hb]
      exact (x_cell_congr (hI b hb) (hJ b hb) (hR b hb)).symm
  rw [e1] at hP1 hD1
  exact ⟨L, hL, hP1, hD1, hT⟩
theorem x_R.T {O : XO} {K : XK} {h : XH} {H : Heap} (hR : x_R O K h H) : x_T (oX O) K h := hR.choose_spec.2.2.2
/-- String constants: bytes of each, by place -/
def x_SS (O : XO) (ss : List (List Int32)) (U : State) (H : Heap) : Prop :=
  ∀ i : Nat, i < ss.length → va_O "java/lang/String" (oK O i) (oA O) U H ∧ va_OF "java/lang/String" "coder" "B" (.int 0) (oK O i) (oA O) U H ∧ va_OF "java/lang/String" "value" "[B" (.ref (oV O i)) (oK O i) (oA O) U H ∧ va_T .byte (oV O i) (ss.getD i []).length (fun j => .int ((ss.getD i []).getD j 0)) (oA O) U H
def x_wt : Nat → Value := fun j => .int (([0, 3, 3, 2, 2, 1] : List Int32).getD j 0)
/-- words that a call doesn't hand on by itself -/
def x_nwk : Cond → Bool
  | .castable .. => true
  | .declares _ => true
  | .methodLinkNest .. => true
  | _ => false
def x_ex : List String := ["java/lang/IndexOutOfBoundsException", "java/lang/IllegalArgumentException", "java/lang/IllegalStateException", "java/lang/UnsupportedOperationException", "java/util/NoSuchElementException"]
theorem x_nwk_ot {w : Cond} (h : x_nwk w = true) : w.onTables = true := by cases w <;> first | rfl | cases h
theorem x_nwk_warm {w : Cond} {s U : State} (hk : x_nwk w = true) (hW : s.WarmedH U.vm) (h : va_Nw w s) : va_Nw w U := by
  cases w <;> first | exact va_Nw.warmC hW h | exact va_Nw.warmD hW h | exact va_Nw.warmM hW h | cases hk
/-- the surroundings: classes, constants, statics -/
def x_E (O : XO) (ss : List (List Int32)) (sr : List (String × Nat × String × Nat)) (U : State) (H : Heap) : Prop :=
  va_K (oD O) vwCl (x_tys O) U ∧ x_SS O ss U H ∧ (∀ q ∈ sr, vk_R q.1 q.2.1 q.2.2.1 (oK O q.2.2.2) U) ∧
  va_Z "java/lang/String" "COMPACT_STRINGS" "Z" (.int 1) (oA O) U H ∧ va_Zq "jdk/internal/util/Preconditions" "SIOOBE_FORMATTER" "Ljava/util/function/BiFunction;" (oA O) U H ∧
  va_Z RX6 "WEIGHTS" "[I" (.ref (oW O)) (oA O) U H ∧ va_T .int (oW O) 6 x_wt (oA O) U H ∧
  vx_Zq Bundle.tN "UNASSIGNED_STACK" Bundle.steD (oA O) U H ∧ vx_Zq Bundle.tN "SUPPRESSED_SENTINEL" Bundle.listD (oA O) U H ∧
  (∀ w ∈ lw_tbl, x_nwk w = true → va_Nw w U) ∧ (∀ a ∈ x_ex, ∀ b ∈ x_ex, a ≠ b → va_Nc a b U) ∧ va_AO RX2 U ∧ va_AO RX10 U
abbrev x_EE (O : XO) (U : State) (H : Heap) : Prop := x_E O x_ss x_sr U H
theorem x_E.warm {O : XO} {ss : List (List Int32)} {sr : List (String × Nat × String × Nat)} {s U : State} {H0 H : Heap} (hW : s.WarmedH U.vm) (hq : ∀ q : Nat, q < H0.size → ¬ oA O q → H[q]? = H0[q]?) (h : x_E O ss sr s H0) : x_E O ss sr U H := by
  obtain ⟨h1, h2, h3, h4, h5, h6, h7, h8, h9, h10, h11, h12, h13⟩ := h
  have a := hW.alike
  exact ⟨va_K.moved a h1, fun i hi => ⟨va_O.moved a ((h2 i hi).1.kept hq), va_OF.moved a ((h2 i hi).2.1.kept hq), va_OF.moved a ((h2 i hi).2.2.1.kept hq), va_T.moved a ((h2 i hi).2.2.2.kept hq)⟩, fun q hq => (h3 q hq).warm hW, (h4.kept hq).moved a, (h5.kept hq).moved a, (h6.kept hq).moved a, va_T.moved a (h7.kept hq), (h8.kept hq).moved a, (h9.kept hq).moved a, fun w hw hk => x_nwk_warm hk hW (h10 w hw hk), fun u hu v hv ne => (h11 u hu v hv ne).moved a, h12.moved a, h13.moved a⟩
theorem x_E.calling {O : XO} {ss : List (List Int32)} {sr : List (String × Nat × String × Nat)} {U : State} (g : JFrame) (mk : MethodId) (a : Array Value) (h : x_E O ss sr U U.heap) : x_E O ss sr (U.calling g mk a) (U.calling g mk a).heap := by
  obtain ⟨h1, h2, h3, h4, h5, h6, h7, h8, h9, h10, h11, h12, h13⟩ := h
  have al : U.vm.Alike (U.calling g mk a).vm := Vm.Alike.refl U.vm
  exact ⟨va_K.moved al h1, fun i hi => ⟨va_O.moved al (h2 i hi).1, va_OF.moved al (h2 i hi).2.1, va_OF.moved al (h2 i hi).2.2.1, va_T.moved al (h2 i hi).2.2.2⟩, fun q hq => (h3 q hq).same rfl, h4.moved al, h5.moved al, h6.moved al, va_T.moved al h7, h8.moved al, h9.moved al, fun w hw hk => va_Nw.same (u := U) (U := U.calling g mk a) (x_nwk_ot hk) rfl (h10 w hw hk), fun u hu v hv ne => (h11 u hu v hv ne).moved al, h12.moved al, h13.moved al⟩
/-- what a body knows: the machine, its code, its class, the words, no locks, no handlers, its answer's type, the surroundings -/
def x_C (p : Program) (s : State) (m : MethodId) (args : Array Value) (meth : Method) (c : Code) (O : XO) (cc : ByteArray) (nL : Nat) (own : String) (ret : Option FieldType) : Prop :=
  p.tables.exec = Jvm.exec ∧ c.code = cc ∧ c.maxLocals = nL ∧ s.vm.findClass own = some m.cls ∧ (∀ w ∈ TB, w.before args s = true) ∧ meth.locks = false ∧ ((∀ x ∈ c.exceptionTable.toList, False) ∨ own = RL) ∧ meth.sig.returnType = ret ∧ x_EE O s s.heap
def x_Pc (O : XO) (K : XK) (h : XH) (av : List Value) : Array Value → State → Prop := fun v U => v = av.toArray ∧ x_EE O U U.heap ∧ x_R O K h U.heap
def x_Qc (O : XO) (K : XK) (h' : XH) (r : Option Value) : Array Value → State → Outcome → State → Prop := fun _ st oc t => oc = .returned r ∧ x_R O K h' t.heap ∧ va_F (oA O) st t
abbrev x_rm (f lo : Nat) : Room := { frames := f, cells := 0, slots := 0, locals := lo }
/-- the contract of a method that makes nothing and throws nothing: from h with arguments av it answers r and leaves h' -/
def x_M (l : Launch) (O : XO) (K : XK) (y : MethodName) (cc : ByteArray) (nL : Nat) (ret : Option FieldType) (f lo : Nat) (h : XH) (av : List Value) (r : Option Value) (h' : XH) : Prop :=
  Met l y (.code y cc nL ret :: TB) (x_rm f lo) (x_Pc O K h av) (x_Qc O K h' r) 0 0 (oA O)
theorem x_blind {O : XO} {K : XK} {h : XH} {av : List Value} : FrameBlind (x_Pc O K h av) := fun a U g mk q => by
  obtain ⟨q0, q1, q2⟩ := q
  exact ⟨q0, x_E.calling g mk a q1, q2⟩
/-- a method's words: its code, that it is there -/
def x_MV (y : MethodName) (cc : ByteArray) (nL : Nat) (ret : Option FieldType) (n : Nat) : Prop :=
  Cond.code y cc nL ret ∈ TB ∧ Cond.instanceMethod y ∈ TB ∧ Cond.selects y.cls y y ∈ TB ∧ Cond.initialized y.cls ∈ TB ∧ y.cls ≠ "java/lang/invoke/MethodHandle" ∧ y.cls ≠ "java/lang/invoke/VarHandle" ∧ (parseMethodDescriptor y.desc).map (fun d => d.parameters.length) = some n
def x_MS (y : MethodName) (cc : ByteArray) (nL : Nat) (ret : Option FieldType) (n : Nat) : Prop :=
  Cond.code y cc nL ret ∈ TB ∧ Cond.static y ∈ TB ∧ Cond.initialized y.cls ∈ TB ∧ y.cls ≠ "java/lang/invoke/MethodHandle" ∧ y.cls ≠ "java/lang/invoke/VarHandle" ∧ (parseMethodDescriptor y.desc).map (fun d => d.parameters.length) = some n
section XR
variable {p : Program} {l : Launch} {e : Env} {R : Room} {s : State} {m : MethodId} {args : Array Value} {below : List Frame} {meth : Method} {c : Code} {H : Heap} {locs : List Loc} {cells slots : Nat} {Q : State → Prop}
variable {O : XO} {K : XK} {h : XH} {cc : ByteArray} {nL : Nat} {own : String} {ret : Option FieldType} {pc : Nat} {ls : Array Slot} {rest : List Value}
/-- a body's beginning -/
theorem x_enter {y : MethodName} {f lo : Nat} {av : List Value} {r : Option Value} {h' : XH} (hy : plainName y.cls = true) (hn : (lg_sl av).length ≤ nL)
    (body : ∀ (p : Program) (e : Env) (s : State) (m : MethodId) (args : Array Value) (below : List Frame) (meth : Method) (c : Code), x_C p s m args meth c O cc nL y.cls ret → x_R O K h s.heap → ∀ ls : Array Slot, lv_has ls nL (lv_args 0 av) →
      W p l e (x_rm f lo) s m args below meth c s.heap [] 0 0 (MQ below (x_Qc O K h' r) args s 0 0 (oA O)) (F0 m 0 ls [])) : x_M l O K y cc nL ret f lo h av r h' := by
  refine Met.ofW (cc := cc) (maxL := nL) (ret := ret) hy rfl ?_
  intro p e s m args below meth c s₁ B hml hv
  obtain ⟨rfl, hE, hR⟩ := hv
  have ht : ∀ x ∈ c.exceptionTable.toList, False := by
    obtain ⟨meth9, c9, h1, h2, -, -, -, -, h7, -⟩ := Cond.code_spec B.named (atoms_spec (ws := (Cond.code y cc nL ret :: TB)) B.pre _ List.mem_cons_self)
    cases Option.some.inj (h1.symm.trans B.method)
    cases Option.some.inj (h2.symm.trans (Stand.of_body B).code)
    intro x hx
    rw [Array.isEmpty_iff.mp h7] at hx
    cases hx
  have hts := atoms_spec (ws := (Cond.code y cc nL ret :: TB)) B.pre
  rw [lg_entry_eq]
  exact body p e s m _ below meth c ⟨B.exec, B.bytes, hml, findClass_of_methodNamed B.named, fun w hw => hts w (List.mem_cons_of_mem _ hw), B.notSynchronized, Or.inl ht, B.returns, hE⟩ hR _ (lv_entry av hn)
theorem x_get (C : x_C p s m args meth c O cc nL own ret) (hR : x_R O K h H) {a ci : Nat} (hk : (K a).1 = ci + 1) (hci : ci < 13) {Cn : String} {T : u_T} {N : Nat} (hc : vwCl[ci]? = some (Cn, T, N)) (hin : ∀ w ∈ u_ws Cn T N, w ∈ TB) (k : Nat) (hkN : k < N) {idx : Nat}
    (hlink : Cond.fieldLink own idx (T k).1 (T k).2.1 (T k).2.2.1 ∈ TB) {v : Value} (hv : (x_fs (oX O) h a ci)[k]? = some v) (hd : decode cc pc = .ok (.getfield idx, 3))
    (kk : W p l e R s m args below meth c H locs cells slots Q (F0 m (pc + 3) ls (v :: rest))) : W p l e R s m args below meth c H locs cells slots Q (F0 m pc ls (.ref a :: rest)) := by
  obtain ⟨L, hL, hP, hD, hT⟩ := hR
  obtain ⟨q0, hq⟩ := va_pl_get (X := []) (f := x_cell (oX O) (oC O) K h) ((hL a).mpr (by omega))
  rw [x_cell_obj hk hci] at hq
  exact va_get C.1 C.2.1 C.2.2.2.2.1 hin C.2.2.2.1 C.2.2.2.2.2.2.2.2.1 hP q0 hq hc k hkN (C.2.2.2.2.1 _ hlink) (fun _ h9 => h9) hv hd kk
theorem x_put (C : x_C p s m args meth c O cc nL own ret) (hR : x_R O K h H) (hS : va_S (oA O) s.heap H locs) {a ci : Nat} (hk : (K a).1 = ci + 1) (hci : ci < 13) {Cn : String} {T : u_T} {N : Nat} (hc : vwCl[ci]? = some (Cn, T, N)) (hin : ∀ w ∈ u_ws Cn T N, w ∈ TB)
    (ty0 : Nat → FieldType) (hty : ∀ k, k < N → parseFieldDescriptor (T k).2.2.1 = some (ty0 k)) (hnm : ∀ a, a < N → ∀ b, b < N → a ≠ b → (T a).2.1 ≠ (T b).2.1) (k : Nat) (hkN : k < N) {idx : Nat}
    (hlink : Cond.fieldLink own idx (T k).1 (T k).2.1 (T k).2.2.1 ∈ TB) (hfin : (T k).2.2.2 = false) {v : Value} (hn : narrow (ty0 k) v = v) (hfit : fits (ty0 k) v = true) {h' : XH} (hl : k < (x_fs (oX O) h a ci).length)
    (he : (x_fs (oX O) h a ci).set k v = x_fs (oX O) h' a ci) (hI : ∀ b, b ≠ a → h'.1 b = h.1 b) (hJ : ∀ b, b ≠ a → h'.2.1 b = h.2.1 b) (hRR : ∀ b, b ≠ a → h'.2.2 b = h.2.2 b) (hTT : x_T (oX O) K h → x_T (oX O) K h') (hd : decode cc pc = .ok (.putfield idx, 3))
    (kk : ∀ (H1 : Heap) (locs1 : List Loc), x_R O K h' H1 → va_S (oA O) s.heap H1 locs1 → W p l e R s m args below meth c H1 locs1 cells slots Q (F0 m (pc + 3) ls rest)) : W p l e R s m args below meth c H locs cells slots Q (F0 m pc ls (v :: .ref a :: rest)) := by
  obtain ⟨L, hL, hP, hD, hT⟩ := hR
  obtain ⟨q0, hq⟩ := va_pl_get (X := []) (f := x_cell (oX O) (oC O) K h) ((hL a).mpr (by omega))
  have hq' := hq
  rw [x_cell_obj hk hci] at hq'
  refine va_put C.1 C.2.1 C.2.2.2.2.1 hin ty0 hty hnm C.2.2.2.1 C.2.2.2.2.2.2.2.2.1 hP hD hS q0 hq' hc k hkN (C.2.2.2.2.1 _ hlink) (fun _ h9 => h9) hfin (hty k hkN) hn hfit hl hd (fun H1 locs1 hP1 hD1 hS1 => ?_)
  exact kk H1 locs1 (x_R.set hL hD (by omega) hq (by rw [x_cell_obj hk hci, he]) hP1 hD1 hI hJ hRR (hTT hT)) hS1
theorem x_puti (C : x_C p s m args meth c O cc nL own ret) (hR : x_R O K h H) (hS : va_S (oA O) s.heap H locs) {a ci : Nat} (hk : (K a).1 = ci + 1) (hci : ci < 13) {Cn : String} {T : u_T} {N : Nat} (hc : vwCl[ci]? = some (Cn, T, N)) (hin : ∀ w ∈ u_ws Cn T N, w ∈ TB)
    (ty0 : Nat → FieldType) (hty : ∀ k, k < N → parseFieldDescriptor (T k).2.2.1 = some (ty0 k)) (hnm : ∀ a, a < N → ∀ b, b < N → a ≠ b → (T a).2.1 ≠ (T b).2.1) (k : Nat) (hkN : k < N) {idx : Nat}
    (hlink : Cond.fieldLink own idx (T k).1 (T k).2.1 (T k).2.2.1 ∈ TB) (hfin : (T k).2.2.2 = false) {v : Int32} (hn : narrow (ty0 k) (.int v) = .int v) (hfit : fits (ty0 k) (.int v) = true) (hl : k < (x_fs (oX O) h a ci).length)
    (he : (x_fs (oX O) h a ci).set k (.int v) = x_fs (oX O) (x_i h a k v) a ci) (hd : decode cc pc = .ok (.putfield idx, 3))
    (kk : ∀ (H1 : Heap) (locs1 : List Loc), x_R O K (x_i h a k v) H1 → va_S (oA O) s.heap H1 locs1 → W p l e R s m args below meth c H1 locs1 cells slots Q (F0 m (pc + 3) ls rest)) : W p l e R s m args below meth c H locs cells slots Q (F0 m pc ls (.int v :: .ref a :: rest)) :=
  x_put C hR hS hk hci hc hin ty0 hty hnm k hkN hlink hfin hn hfit hl he (fun _ hb => x_i_ne hb) (fun _ _ => rfl) (fun _ _ => rfl) (fun hT => hT) hd kk
theorem x_putl (C : x_C p s m args meth c O cc nL own ret) (hR : x_R O K h H) (hS : va_S (oA O) s.heap H locs) {a ci : Nat} (hk : (K a).1 = ci + 1) (hci : ci < 13) {Cn : String} {T : u_T} {N : Nat} (hc : vwCl[ci]? = some (Cn, T, N)) (hin : ∀ w ∈ u_ws Cn T N, w ∈ TB)
    (ty0 : Nat → FieldType) (hty : ∀ k, k < N → parseFieldDescriptor (T k).2.2.1 = some (ty0 k)) (hnm : ∀ a, a < N → ∀ b, b < N → a ≠ b → (T a).2.1 ≠ (T b).2.1) (k : Nat) (hkN : k < N) {idx : Nat}
    (hlink : Cond.fieldLink own idx (T k).1 (T k).2.1 (T k).2.2.1 ∈ TB) (hfin : (T k).2.2.2 = false) {v : Int64} (hn : narrow (ty0 k) (.long v) = .long v) (hfit : fits (ty0 k) (.long v) = true) (hl : k < (x_fs (oX O) h a ci).length)
    (he : (x_fs (oX O) h a ci).set k (.long v) = x_fs (oX O) (x_l h a k v) a ci) (hd : decode cc pc = .ok (.putfield idx, 3))
    (kk : ∀ (H1 : Heap) (locs1 : List Loc), x_R O K (x_l h a k v) H1 → va_S (oA O) s.heap H1 locs1 → W p l e R s m args below meth c H1 locs1 cells slots Q (F0 m (pc + 3) ls rest)) : W p l e R s m args below meth c H locs cells slots Q (F0 m pc ls (.long v :: .ref a :: rest)) :=
  x_put C hR hS hk hci hc hin ty0 hty hnm k hkN hlink hfin hn hfit hl he (fun _ _ => rfl) (fun _ hb => x_l_ne hb) (fun _ _ => rfl) (fun hT => hT) hd kk
end XR
section XA
variable {p : Program} {l : Launch} {e : Env} {R : Room} {s : State} {m : MethodId} {args : Array Value} {below : List Frame} {meth : Method} {c : Code} {H : Heap} {locs : List Loc} {cells slots : Nat} {Q : State → Prop}
variable {O : XO} {K : XK} {h : XH} {cc : ByteArray} {nL : Nat} {own : String} {ret : Option FieldType} {pc : Nat} {ls : Array Slot} {rest : List Value}
theorem x_K (C : x_C p s m args meth c O cc nL own ret) : va_K (oD O) vwCl (x_tys O) s := C.2.2.2.2.2.2.2.2.1
theorem x_iald (C : x_C p s m args meth c O cc nL own ret) (hR : x_R O K h H) {a : Nat} (hk : (K a).1 = 14) {i : Int32} (hi : x_b i (K a).2 = true) (hd : decode cc pc = .ok (.iaload, 1))
    (kk : W p l e R s m args below meth c H locs cells slots Q (F0 m (pc + 1) ls (.int (h.1 a i.toNatClampNeg) :: rest))) : W p l e R s m args below meth c H locs cells slots Q (F0 m pc ls (.int i :: .ref a :: rest)) := by
  obtain ⟨L, hL, hP, hD, hT⟩ := hR
  obtain ⟨q0, hq⟩ := va_pl_get (X := []) (f := x_cell (oX O) (oC O) K h) ((hL a).mpr (by omega))
  rw [x_cell_int hk] at hq
  exact va_iald C.1 C.2.1 (x_K C) hP q0 0 hq rfl (x_b_in hi) hd kk
theorem x_bald (C : x_C p s m args meth c O cc nL own ret) (hR : x_R O K h H) {a : Nat} (hk : (K a).1 = 15) {i : Int32} (hi : x_b i (K a).2 = true) (hd : decode cc pc = .ok (.baload, 1))
    (kk : W p l e R s m args below meth c H locs cells slots Q (F0 m (pc + 1) ls (.int (h.1 a i.toNatClampNeg) :: rest))) : W p l e R s m args below meth c H locs cells slots Q (F0 m pc ls (.int i :: .ref a :: rest)) := by
  obtain ⟨L, hL, hP, hD, hT⟩ := hR
  obtain ⟨q0, hq⟩ := va_pl_get (X := []) (f := x_cell (oX O) (oC O) K h) ((hL a).mpr (by omega))
  rw [x_cell_byte hk] at hq
  exact va_bald C.1 C.2.1 (x_K C) hP q0 1 hq rfl (x_b_in hi) hd kk
theorem x_lald (C : x_C p s m args meth c O cc nL own ret) (hR : x_R O K h H) {a : Nat} (hk : (K a).1 = 18) {i : Int32} (hi : x_b i (K a).2 = true) (hd : decode cc pc = .ok (.laload, 1))
    (kk : W p l e R s m args below meth c H locs cells slots Q (F0 m (pc + 1) ls (.long (h.2.1 a i.toNatClampNeg) :: rest))) : W p l e R s m args below meth c H locs cells slots Q (F0 m pc ls (.int i :: .ref a :: rest)) := by
  obtain ⟨L, hL, hP, hD, hT⟩ := hR
  obtain ⟨q0, hq⟩ := va_pl_get (X := []) (f := x_cell (oX O) (oC O) K h) ((hL a).mpr (by omega))
  rw [x_cell_long hk] at hq
  exact va_lald C.1 C.2.1 (x_K C) hP q0 4 hq rfl (x_b_in hi) hd kk
theorem x_paald (C : x_C p s m args meth c O cc nL own ret) (hR : x_R O K h H) {a : Nat} (hk : (K a).1 = 16) {i : Int32} (hi : x_b i (K a).2 = true) (hd : decode cc pc = .ok (.aaload, 1))
    (kk : W p l e R s m args below meth c H locs cells slots Q (F0 m (pc + 1) ls (.ref (a + 6 + 3 * i.toNatClampNeg) :: rest))) : W p l e R s m args below meth c H locs cells slots Q (F0 m pc ls (.int i :: .ref a :: rest)) := by
  obtain ⟨L, hL, hP, hD, hT⟩ := hR
  obtain ⟨q0, hq⟩ := va_pl_get (X := []) (f := x_cell (oX O) (oC O) K h) ((hL a).mpr (by omega))
  rw [x_cell_pack hk] at hq
  exact va_aldq C.1 C.2.1 (x_K C) hP q0 2 hq rfl (x_b_in hi) hd kk
theorem x_taald (C : x_C p s m args meth c O cc nL own ret) (hR : x_R O K h H) {a : Nat} (hk : (K a).1 = 17) {i : Int32} (hi : x_b i (K a).2 = true) (hd : decode cc pc = .ok (.aaload, 1))
    (kk : W p l e R s m args below meth c H locs cells slots Q (F0 m (pc + 1) ls (va_rf (h.2.2 a i.toNatClampNeg) :: rest))) : W p l e R s m args below meth c H locs cells slots Q (F0 m pc ls (.int i :: .ref a :: rest)) := by
  obtain ⟨L, hL, hP, hD, hT⟩ := hR
  obtain ⟨q0, hq⟩ := va_pl_get (X := []) (f := x_cell (oX O) (oC O) K h) ((hL a).mpr (by omega))
  rw [x_cell_text hk] at hq
  exact va_aldq C.1 C.2.1 (x_K C) hP q0 3 hq rfl (x_b_in hi) hd kk
theorem x_alen (C : x_C p s m args meth c O cc nL own ret) (hR : x_R O K h H) {a : Nat} (hk : (K a).1 = 14) (hd : decode cc pc = .ok (.arraylength, 1))
    (kk : W p l e R s m args below meth c H locs cells slots Q (F0 m (pc + 1) ls (.int (nI (K a).2) :: rest))) : W p l e R s m args below meth c H locs cells slots Q (F0 m pc ls (.ref a :: rest)) := by
  obtain ⟨L, hL, hP, hD, hT⟩ := hR
  obtain ⟨q0, hq⟩ := va_pl_get (X := []) (f := x_cell (oX O) (oC O) K h) ((hL a).mpr (by omega))
  rw [x_cell_int hk] at hq
  exact va_alen C.1 C.2.1 (x_K C) hP q0 0 hq (ty := .int) rfl rfl hd kk
theorem x_iast (C : x_C p s m args meth c O cc nL own ret) (hR : x_R O K h H) (hS : va_S (oA O) s.heap H locs) {a : Nat} (hk : (K a).1 = 14) {i v : Int32} (hi : x_b i (K a).2 = true) (hd : decode cc pc = .ok (.iastore, 1))
    (kk : ∀ (H1 : Heap) (locs1 : List Loc), x_R O K (x_i h a i.toNatClampNeg v) H1 → va_S (oA O) s.heap H1 locs1 → W p l e R s m args below meth c H1 locs1 cells slots Q (F0 m (pc + 1) ls rest)) : W p l e R s m args below meth c H locs cells slots Q (F0 m pc ls (.int v :: .int i :: .ref a :: rest)) := by
  obtain ⟨L, hL, hP, hD, hT⟩ := hR
  obtain ⟨q0, hq⟩ := va_pl_get (X := []) (f := x_cell (oX O) (oC O) K h) ((hL a).mpr (by omega))
  have hq' := hq
  rw [x_cell_int hk] at hq'
  refine va_iast C.1 C.2.1 (x_K C) hP hD hS q0 0 hq' rfl (x_b_in hi) hd (fun H1 locs1 hP1 hD1 hS1 => ?_)
  exact kk H1 locs1 (x_R.set hL hD (by omega) hq (by rw [x_cell_int hk, x_i_up]) hP1 hD1 (fun _ hb => x_i_ne hb) (fun _ _ => rfl) (fun _ _ => rfl) hT) hS1
theorem x_bast (C : x_C p s m args meth c O cc nL own ret) (hR : x_R O K h H) (hS : va_S (oA O) s.heap H locs) {a : Nat} (hk : (K a).1 = 15) {i v : Int32} (hi : x_b i (K a).2 = true) (hd : decode cc pc = .ok (.bastore, 1))
    (kk : ∀ (H1 : Heap) (locs1 : List Loc), x_R O K (x_i h a i.toNatClampNeg v.toInt8.toInt32) H1 → va_S (oA O) s.heap H1 locs1 → W p l e R s m args below meth c H1 locs1 cells slots Q (F0 m (pc + 1) ls rest)) : W p l e R s m args below meth c H locs cells slots Q (F0 m pc ls (.int v :: .int i :: .ref a :: rest)) := by
  obtain ⟨L, hL, hP, hD, hT⟩ := hR
  obtain ⟨q0, hq⟩ := va_pl_get (X := []) (f := x_cell (oX O) (oC O) K h) ((hL a).mpr (by omega))
  have hq' := hq
  rw [x_cell_byte hk] at hq'
  refine va_bast C.1 C.2.1 (x_K C) hP hD hS q0 1 hq' rfl (x_b_in hi) hd (fun H1 locs1 hP1 hD1 hS1 => ?_)
  rw [vp_nar_byte] at hP1 hD1
  exact kk H1 locs1 (x_R.set hL hD (by omega) hq (by rw [x_cell_byte hk, x_i_up]) hP1 hD1 (fun _ hb => x_i_ne hb) (fun _ _ => rfl) (fun _ _ => rfl) hT) hS1
theorem x_last (C : x_C p s m args meth c O cc nL own ret) (hR : x_R O K h H) (hS : va_S (oA O) s.heap H locs) {a : Nat} (hk : (K a).1 = 18) {i : Int32} {v : Int64} (hi : x_b i (K a).2 = true) (hd : decode cc pc = .ok (.lastore, 1))
    (kk : ∀ (H1 : Heap) (locs1 : List Loc), x_R O K (x_l h a i.toNatClampNeg v) H1 → va_S (oA O) s.heap H1 locs1 → W p l e R s m args below meth c H1 locs1 cells slots Q (F0 m (pc + 1) ls rest)) : W p l e R s m args below meth c H locs cells slots Q (F0 m pc ls (.long v :: .int i :: .ref a :: rest)) := by
  obtain ⟨L, hL, hP, hD, hT⟩ := hR
  obtain ⟨q0, hq⟩ := va_pl_get (X := []) (f := x_cell (oX O) (oC O) K h) ((hL a).mpr (by omega))
  have hq' := hq
  rw [x_cell_long hk] at hq'
  refine va_last C.1 C.2.1 (x_K C) hP hD hS q0 4 hq' rfl (x_b_in hi) hd (fun H1 locs1 hP1 hD1 hS1 => ?_)
  exact kk H1 locs1 (x_R.set hL hD (by omega) hq (by rw [x_cell_long hk, x_l_up]) hP1 hD1 (fun _ _ => rfl) (fun _ hb => x_l_ne hb) (fun _ _ => rfl) hT) hS1
/-- the shape stays right when a place of an array of texts gets null or a text -/
theorem x_T.text {x : Nat} {K : XK} {h : XH} {a j : Nat} {v : Option Nat} (hT : x_T x K h) (hk : (K a).1 = 17) (hv : ∀ r, v = some r → K r = (11, 0)) : x_T x K (x_r h a j v) := by
  obtain ⟨h1, h2, h3, h4, h5, h6, h7, h8, h9⟩ := hT
  have hx : a ≠ x := by
    intro e
    have := h1 0 (by decide)
    rw [Nat.add_zero, ← e] at this
    have h17 : K a = (12, 0) := Option.some.inj this
    rw [h17] at hk
    cases hk
  refine ⟨h1, h2, h3, h4, h5, fun b hb k r hr => ?_, fun r hr => h7 r ?_, h8, h9⟩
  · simp only [x_r] at hr
    split at hr
    · exact hv r hr
    · exact h6 b hb k r hr
  · rw [x_r_ne (fun e => hx e.symm)] at hr
    exact hr
theorem x_tast (C : x_C p s m args meth c O cc nL own ret) (hR : x_R O K h H) (hS : va_S (oA O) s.heap H locs) {a : Nat} (hk : (K a).1 = 17) {i : Int32} {v : Option Nat} (hv : ∀ r, v = some r → K r = (11, 0)) (hi : x_b i (K a).2 = true) (hd : decode cc pc = .ok (.aastore, 1))
    (kk : ∀ (H1 : Heap) (locs1 : List Loc), x_R O K (x_r h a i.toNatClampNeg v) H1 → va_S (oA O) s.heap H1 locs1 → W p l e R s m args below meth c H1 locs1 cells slots Q (F0 m (pc + 1) ls rest)) : W p l e R s m args below meth c H locs cells slots Q (F0 m pc ls (va_rf v :: .int i :: .ref a :: rest)) := by
  obtain ⟨L, hL, hP, hD, hT⟩ := hR
  obtain ⟨q0, hq⟩ := va_pl_get (X := []) (f := x_cell (oX O) (oC O) K h) ((hL a).mpr (by omega))
  have hq' := hq
  rw [x_cell_text hk] at hq'
  cases v with
  | none =>
    refine va_astqN C.1 C.2.1 (x_K C) hP hD hS q0 3 hq' rfl (x_b_in hi) hd (fun H1 locs1 hP1 hD1 hS1 => ?_)
    exact kk H1 locs1 (x_R.set hL hD (by omega) hq (by rw [x_cell_text hk, x_r_up]) hP1 hD1 (fun _ _ => rfl) (fun _ _ => rfl) (fun _ hb => x_r_ne hb) (hT.text hk hv)) hS1
  | some r =>
    have hr := hv r rfl
    obtain ⟨q1, hq1⟩ := va_pl_get (X := []) (f := x_cell (oX O) (oC O) K h) ((hL r).mpr (by rw [hr]; decide))
    rw [x_cell_obj (ci := 10) (by rw [hr]) (by decide)] at hq1
    refine va_astq C.1 C.2.1 (x_K C) hP hD hS q0 3 q1 10 (r := (RX10, TX10, 4)) hq' rfl hq1 rfl (x_b_in hi) hd (fun H1 locs1 hP1 hD1 hS1 => ?_)
    exact kk H1 locs1 (x_R.set hL hD (by omega) hq (by rw [x_cell_text hk, x_r_up]) hP1 hD1 (fun _ _ => rfl) (fun _ _ => rfl) (fun _ hb => x_r_ne hb) (hT.text hk hv)) hS1
/-- behind a call that makes nothing -/
theorem x_back {mc ms : Nat} {r : Option Value} {h' : XH} {st0 : List Value} {a : Array Value} (hr : va_Run p l e R s m args below meth c H locs cells slots mc ms (F0 m pc ls st0) rest (x_Qc O K h' r a) (oA O)) (hS : va_S (oA O) s.heap H locs)
    (kk : ∀ (H1 : Heap) (locs1 : List Loc), x_R O K h' H1 → va_S (oA O) s.heap H1 locs1 → W p l e R s m args below meth c H1 locs1 (cells + mc) (slots + ms) Q (F0 m (pc + 3) ls (r.toList ++ rest))) : W p l e R s m args below meth c H locs cells slots Q (F0 m pc ls st0) := by
  intro T hT X
  obtain ⟨v, st₀, t, T', L, h0, X', hL, e1, e2, ⟨hv, hp, hz, hk⟩, st⟩ := hr T hT X
  cases hv
  rw [h0] at hz hk
  obtain ⟨t2, a1, b1⟩ := kk T'.heap (locs ++ L) (by rw [e1]; exact hp)
    ⟨Nat.le_trans hS.1 (by rw [e1]; exact hz), fun q h1 h2 => by rw [e1, hk q (Nat.lt_of_lt_of_le h1 hS.1) h2]; exact hS.2.1 q h1 h2, fun q hq => by
      rcases List.mem_append.mp hq with h | h
      · exact hS.2.2 q h
      · exact hL q h⟩ T' rfl X'
  exact ⟨t2, st t2 a1, b1⟩
theorem x_pre (C : x_C p s m args meth c O cc nL own ret) (hR : x_R O K h H) (hS : va_S (oA O) s.heap H locs) {av : List Value} : ∀ U : State, U.heap = H → s.WarmedH U.vm → x_Pc O K h av av.toArray U := fun U hU hW =>
  ⟨rfl, x_E.warm hW (fun q h1 h2 => by rw [hU]; exact hS.2.1 q h1 h2) C.2.2.2.2.2.2.2.2, by rw [hU]; exact hR⟩
theorem x_callV (C : x_C p s m args meth c O cc nL own ret) (hR : x_R O K h H) (hS : va_S (oA O) s.heap H locs) {y : MethodName} {bytes : ByteArray} {maxL : Nat} {ret' : Option FieldType} {f lo n : Nat} {b : Nat} {As : List Value} {r : Option Value} {h' : XH}
    (M : x_M l O K y bytes maxL ret' f lo h (.ref b :: As) r h') {ci : Nat} (hb : (K b).1 = ci + 1) (hci : ci < 13) {T : u_T} {N : Nat} (hc : vwCl[ci]? = some (y.cls, T, N)) (hm : x_MV y bytes maxL ret' n) {idx : Nat} (hl : Cond.methodLink own idx y ∈ TB)
    (hF : f + 1 ≤ R.frames) (hL : 8 + (maxL + 11) + lo ≤ R.locals) (hn : As.length = n) (hsz : ls.size = nL) (hst : (rest.map fun v => v.category).sum ≤ 8) (hd : decode cc pc = .ok (.invokevirtual idx, 3)) (hcs : cells ≤ R.cells ∧ slots ≤ R.slots)
    {st0 : List Value} (hst0 : st0 = As.reverse ++ .ref b :: rest)
    (kk : ∀ (H1 : Heap) (locs1 : List Loc), x_R O K h' H1 → va_S (oA O) s.heap H1 locs1 → W p l e R s m args below meth c H1 locs1 cells slots Q (F0 m (pc + 3) ls (r.toList ++ rest))) : W p l e R s m args below meth c H locs cells slots Q (F0 m pc ls st0) := by
  obtain ⟨m1, m2, m3, m4, m5, m6, m7⟩ := hm
  have hts := C.2.2.2.2.1
  have hrecv : ∃ cellB : Cell, H[b]? = some cellB ∧ cellB.vm.isStatics = false ∧ s.vm.findClass y.cls = some cellB.cls := by
    obtain ⟨L, hL, hP, hD, hT⟩ := id hR
    obtain ⟨q0, hq⟩ := va_pl_get (X := []) (f := x_cell (oX O) (oC O) K h) ((hL b).mpr (by omega))
    rw [x_cell_obj hb hci] at hq
    exact va_recv (x_K C) hP hc hq
  refine x_back (mc := 0) (ms := 0) (va_runV (As := As) (b := b) (C := y.cls) (Ts := TB) ⟨C.1, C.2.1, C.2.2.1, C.2.2.2.1, hts⟩ M ⟨callB_of n hts (TB_cons m1) rfl rfl rfl (hts _ m4) (hts _ hl) ⟨m5, m6, m7⟩ ⟨hF, hL⟩, hts _ m2, hts _ m3⟩ ⟨x_blind, hrecv, x_pre C hR hS⟩ rfl hn hsz hst0 (lv_room hst) hd hcs) hS kk
theorem x_callS (C : x_C p s m args meth c O cc nL own ret) (hR : x_R O K h H) (hS : va_S (oA O) s.heap H locs) {y : MethodName} {bytes : ByteArray} {maxL : Nat} {ret' : Option FieldType} {f lo n : Nat} {As : List Value} {r : Option Value} {h' : XH}
    (M : x_M l O K y bytes maxL ret' f lo h As r h') (hm : x_MS y bytes maxL ret' n) {idx : Nat} (hl : Cond.methodLink own idx y ∈ TB)
    (hF : f + 1 ≤ R.frames) (hL : 8 + (maxL + 11) + lo ≤ R.locals) (hn : As.length = n) (hsz : ls.size = nL) (hst : (rest.map fun v => v.category).sum ≤ 8) (hd : decode cc pc = .ok (.invokestatic idx, 3)) (hcs : cells ≤ R.cells ∧ slots ≤ R.slots)
    {st0 : List Value} (hst0 : st0 = As.reverse ++ rest)
    (kk : ∀ (H1 : Heap) (locs1 : List Loc), x_R O K h' H1 → va_S (oA O) s.heap H1 locs1 → W p l e R s m args below meth c H1 locs1 cells slots Q (F0 m (pc + 3) ls (r.toList ++ rest))) : W p l e R s m args below meth c H locs cells slots Q (F0 m pc ls st0) := by
  obtain ⟨m1, m2, m4, m5, m6, m7⟩ := hm
  have hts := C.2.2.2.2.1
  refine x_back (mc := 0) (ms := 0) (va_runS (As := As) (Ts := TB) ⟨C.1, C.2.1, C.2.2.1, C.2.2.2.1, hts⟩ M ⟨callB_of n hts (TB_cons m1) rfl rfl rfl (hts _ m4) (hts _ hl) ⟨m5, m6, m7⟩ ⟨hF, hL⟩, hts _ m2⟩ ⟨x_blind, x_pre C hR hS⟩ rfl hn hsz hst0 (lv_room hst) hd hcs) hS kk
theorem x_iret (C : x_C p s m args meth c O cc nL own (some .int)) (hR : x_R O K h H) (hS : va_S (oA O) s.heap H locs) {v : Int32} (hd : decode cc pc = .ok (.ireturn, 1)) :
    W p l e R s m args below meth c H locs 0 0 (MQ below (x_Qc O K h (some (.int v))) args s 0 0 (oA O)) (F0 m pc ls [.int v]) :=
  W.iret C.1 C.2.1 C.2.2.2.2.2.2.2.1 (fun t ht _ => ⟨rfl, by rw [ht]; exact hR, hS.F ht⟩) hS.2.2 hd C.2.2.2.2.2.1
theorem x_zret (C : x_C p s m args meth c O cc nL own (some .boolean)) (hR : x_R O K h H) (hS : va_S (oA O) s.heap H locs) {v : Int32} (hv : v = 0 ∨ v = 1) (hd : decode cc pc = .ok (.ireturn, 1)) :
    W p l e R s m args below meth c H locs 0 0 (MQ below (x_Qc O K h (some (.int v))) args s 0 0 (oA O)) (F0 m pc ls [.int v]) :=
  W.zret C.1 C.2.1 C.2.2.2.2.2.2.2.1 (by rcases hv with e | e <;> rw [e] <;> decide) (fun t ht _ => ⟨rfl, by rw [ht]; exact hR, hS.F ht⟩) hS.2.2 hd C.2.2.2.2.2.1
theorem x_lret (C : x_C p s m args meth c O cc nL own (some .long)) (hR : x_R O K h H) (hS : va_S (oA O) s.heap H locs) {v : Int64} (hd : decode cc pc = .ok (.lreturn, 1)) :
    W p l e R s m args below meth c H locs 0 0 (MQ below (x_Qc O K h (some (.long v))) args s 0 0 (oA O)) (F0 m pc ls [.long v]) :=
  W.lret C.1 C.2.1 C.2.2.2.2.2.2.2.1 (fun t ht _ => ⟨rfl, by rw [ht]; exact hR, hS.F ht⟩) hS.2.2 hd C.2.2.2.2.2.1
theorem x_vret (C : x_C p s m args meth c O cc nL own none) (hR : x_R O K h H) (hS : va_S (oA O) s.heap H locs) (hd : decode cc pc = .ok (.return_, 1)) :
    W p l e R s m args below meth c H locs 0 0 (MQ below (x_Qc O K h none) args s 0 0 (oA O)) (F0 m pc ls []) :=
  W.vret C.1 C.2.1 C.2.2.2.2.2.2.2.1 (fun t ht _ => ⟨rfl, by rw [ht]; exact hR, hS.F ht⟩) hS.2.2 hd C.2.2.2.2.2.1
end XA
