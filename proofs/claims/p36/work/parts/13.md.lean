theorem L_m1004 : (-1004 : Int32) = i32 (-1004) := by decide
theorem L_m1003 : (-1003 : Int32) = i32 (-1003) := by decide
theorem L_m1002 : (-1002 : Int32) = i32 (-1002) := by decide
theorem L_m1001 : (-1001 : Int32) = i32 (-1001) := by decide
theorem L_m1000 : (-1000 : Int32) = i32 (-1000) := by decide
theorem L_m30 : (-30 : Int32) = i32 (-30) := by decide
theorem L_m10 : (-10 : Int32) = i32 (-10) := by decide
theorem L_6 : (6 : Int32) = i32 6 := by decide
theorem L_7 : (7 : Int32) = i32 7 := by decide
theorem L_10 : (10 : Int32) = i32 10 := by decide
theorem L_11 : (11 : Int32) = i32 11 := by decide
theorem L_12 : (12 : Int32) = i32 12 := by decide
theorem L_13 : (13 : Int32) = i32 13 := by decide
theorem L_14 : (14 : Int32) = i32 14 := by decide
theorem L_15 : (15 : Int32) = i32 15 := by decide
theorem L_16 : (16 : Int32) = i32 16 := by decide
theorem L_17 : (17 : Int32) = i32 17 := by decide
theorem L_18 : (18 : Int32) = i32 18 := by decide
theorem L_19 : (19 : Int32) = i32 19 := by decide
theorem L_20 : (20 : Int32) = i32 20 := by decide
theorem L_21 : (21 : Int32) = i32 21 := by decide
theorem L_22 : (22 : Int32) = i32 22 := by decide
theorem L_23 : (23 : Int32) = i32 23 := by decide
theorem L_24 : (24 : Int32) = i32 24 := by decide
theorem L_25 : (25 : Int32) = i32 25 := by decide
theorem L_26 : (26 : Int32) = i32 26 := by decide
theorem L_27 : (27 : Int32) = i32 27 := by decide
theorem L_28 : (28 : Int32) = i32 28 := by decide
theorem L_29 : (29 : Int32) = i32 29 := by decide
theorem L_30 : (30 : Int32) = i32 30 := by decide
theorem L_31 : (31 : Int32) = i32 31 := by decide
theorem L_32 : (32 : Int32) = i32 32 := by decide
theorem L_42 : (42 : Int32) = i32 42 := by decide
theorem L_45 : (45 : Int32) = i32 45 := by decide
theorem L_46 : (46 : Int32) = i32 46 := by decide
theorem L_48 : (48 : Int32) = i32 48 := by decide
theorem L_57 : (57 : Int32) = i32 57 := by decide
theorem L_59 : (59 : Int32) = i32 59 := by decide
theorem L_60 : (60 : Int32) = i32 60 := by decide
theorem L_61 : (61 : Int32) = i32 61 := by decide
theorem L_62 : (62 : Int32) = i32 62 := by decide
theorem L_63 : (63 : Int32) = i32 63 := by decide
theorem L_64 : (64 : Int32) = i32 64 := by decide
theorem L_74 : (74 : Int32) = i32 74 := by decide
theorem L_75 : (75 : Int32) = i32 75 := by decide
theorem L_76 : (76 : Int32) = i32 76 := by decide
theorem L_77 : (77 : Int32) = i32 77 := by decide
theorem L_80 : (80 : Int32) = i32 80 := by decide
theorem L_93 : (93 : Int32) = i32 93 := by decide
theorem L_94 : (94 : Int32) = i32 94 := by decide
theorem L_95 : (95 : Int32) = i32 95 := by decide
theorem L_96 : (96 : Int32) = i32 96 := by decide
theorem L_97 : (97 : Int32) = i32 97 := by decide
theorem L_98 : (98 : Int32) = i32 98 := by decide
theorem L_99 : (99 : Int32) = i32 99 := by decide
theorem L_100 : (100 : Int32) = i32 100 := by decide
theorem L_126 : (126 : Int32) = i32 126 := by decide
theorem L_127 : (127 : Int32) = i32 127 := by decide
theorem L_500 : (500 : Int32) = i32 500 := by decide
theorem L_882 : (882 : Int32) = i32 882 := by decide
theorem L_252645135 : (252645135 : Int32) = i32 252645135 := by decide
theorem L_858993459 : (858993459 : Int32) = i32 858993459 := by decide
theorem L_1431655765 : (1431655765 : Int32) = i32 1431655765 := by decide
theorem L_2147483647 : (2147483647 : Int32) = i32 2147483647 := by decide
def MF (S : Nat → Int32) (Z : Int64) : List Value := [.ref 103, .int (S 1), .ref 104, .int (S 3), .ref 105, .int (S 5), .int (S 6), .int (S 7), .int (S 8), .int (S 9), .ref 106, .ref 107, .int (S 12), .ref 108, .int (S 14), .int (S 15), .long Z]
/-! the model's measure -/
def eqs (n : Nat) (f : Nat → Int) (s : Nat) : Nat → Bool
  | 0 => true
  | i + 1 => eqs n f s i && decide (f i = f ((i + s) % n))
theorem eqs_iff {n : Nat} {f : Nat → Int} {s : Nat} : ∀ k, eqs n f s k = true ↔ ∀ i, i < k → f i = f ((i + s) % n)
  | 0 => by simp [eqs]
  | k + 1 => by
    simp only [eqs, Bool.and_eq_true, decide_eq_true_eq, eqs_iff k]
    constructor
    · rintro ⟨h1, h2⟩ i hi
      rcases Nat.lt_or_ge i k with q | q
      · exact h1 i q
      · obtain rfl : i = k := by omega
        exact h2
    · intro h
      exact ⟨fun i hi => h i (by omega), h k (by omega)⟩
