theorem L_m1004 : (-1004 : Int32) = i32 (-1004) := by decide
theorem L_m1003 : (-1003 : Int32) = i32 (-1003) := by decide
theorem L_m1002 : (-1002 : Int32) = i32 (-1002) := by decide
theorem L_m1001 : (-1001 : Int32) = i32 (-1001) := by decide
theorem L_m1000 : (-1000 : Int32) = i32 (-1000) := by decide
theorem L_m30 : (-30 : Int32) = i32 (-30) := by decide
theorem L_m10 : (-10 : Int32) = i32 (-10) := by decide
theorem L_6 : (6 : Int32) = i32 6 := by decide
theorem L_7 : (7 : Int32) = i32 7 := by decide
theorem L_10 : (10 : Int32) = i32 10 := by decide
theorem L_11 : (11 : Int32) = i32 11 := by decide
theorem L_12 : (12 : Int32) = i32 12 := by decide
theorem L_13 : (13 : Int32) = i32 13 := by decide
theorem L_14 : (14 : Int32) = i32 14 := by decide
theorem L_15 : (15 : Int32) = i32 15 := by decide
theorem L_16 : (16 : Int32) = i32 16 := by decide
theorem L_17 : (17 : Int32) = i32 17 := by decide
theorem L_18 : (18 : Int32) = i32 18 := by decide
theorem L_19 : (19 : Int32) = i32 19 := by decide
theorem L_20 : (20 : Int32) = i32 20 := by decide
theorem L_21 : (21 : Int32) = i32 21 := by decide
theorem L_22 : (22 : Int32) = i32 22 := by decide
theorem L_23 : (23 : Int32) = i32 23 := by decide
theorem L_24 : (24 : Int32) = i32 24 := by decide
theorem L_25 : (25 : Int32) = i32 25 := by decide
theorem L_26 : (26 : Int32) = i32 26 := by decide
theorem L_27 : (27 : Int32) = i32 27 := by decide
theorem L_28 : (28 : Int32) = i32 28 := by decide
theorem L_29 : (29 : Int32) = i32 29 := by decide
theorem L_30 : (30 : Int32) = i32 30 := by decide
theorem L_31 : (31 : Int32) = i32 31 := by decide
theorem L_32 : (32 : Int32) = i32 32 := by decide
theorem L_42 : (42 : Int32) = i32 42 := by decide
theorem L_45 : (45 : Int32) = i32 45 := by decide
theorem L_46 : (46 : Int32) = i32 46 := by decide
theorem L_48 : (48 : Int32) = i32 48 := by decide
theorem L_57 : (57 : Int32) = i32 57 := by decide
theorem L_59 : (59 : Int32) = i32 59 := by decide
theorem L_60 : (60 : Int32) = i32 60 := by decide
theorem L_61 : (61 : Int32) = i32 61 := by decide
theorem L_62 : (62 : Int32) = i32 62 := by decide
theorem L_63 : (63 : Int32) = i32 63 := by decide
theorem L_64 : (64 : Int32) = i32 64 := by decide
theorem L_74 : (74 : Int32) = i32 74 := by decide
theorem L_75 : (75 : Int32) = i32 75 := by decide
theorem L_76 : (76 : Int32) = i32 76 := by decide
theorem L_77 : (77 : Int32) = i32 77 := by decide
theorem L_80 : (80 : Int32) = i32 80 := by decide
theorem L_93 : (93 : Int32) = i32 93 := by decide
theorem L_94 : (94 : Int32) = i32 94 := by decide
theorem L_95 : (95 : Int32) = i32 95 := by decide
theorem L_96 : (96 : Int32) = i32 96 := by decide
theorem L_97 : (97 : Int32) = i32 97 := by decide
theorem L_98 : (98 : Int32) = i32 98 := by decide
theorem L_99 : (99 : Int32) = i32 99 := by decide
theorem L_100 : (100 : Int32) = i32 100 := by decide
theorem L_126 : (126 : Int32) = i32 126 := by decide
theorem L_127 : (127 : Int32) = i32 127 := by decide
theorem L_500 : (500 : Int32) = i32 500 := by decide
theorem L_882 : (882 : Int32) = i32 882 := by decide
theorem L_252645135 : (252645135 : Int32) = i32 252645135 := by decide
theorem L_858993459 : (858993459 : Int32) = i32 858993459 := by decide
theorem L_1431655765 : (1431655765 : Int32) = i32 1431655765 := by decide
theorem L_2147483647 : (2147483647 : Int32) = i32 2147483647 := by decide
/-! the model: its object at 102, its rows behind it; what lies below stays -/
def sup (S : Nat → Int32) (k : Nat) (v : Int32) : Nat → Int32 := fun j => if j = k then v else S j
def aup (A : Nat → Nat → Int32) (k : Nat) (v : Nat → Int32) : Nat → Nat → Int32 := fun j => if j = k then v else A j
theorem sup_s (S : Nat → Int32) (k : Nat) (v : Int32) : sup S k v k = v := by simp [sup]
theorem sup_n (S : Nat → Int32) {k j : Nat} (v : Int32) (h : j ≠ k) : sup S k v j = S j := by simp [sup, h]
theorem aup_s (A : Nat → Nat → Int32) (k : Nat) (v : Nat → Int32) : aup A k v k = v := by simp [aup]
theorem aup_n (A : Nat → Nat → Int32) {k j : Nat} (v : Nat → Int32) (h : j ≠ k) : aup A k v j = A j := by simp [aup, h]
def MF (S : Nat → Int32) (Z : Int64) : List Value := [.ref 103, .int (S 1), .ref 104, .int (S 3), .ref 105, .int (S 5), .int (S 6), .int (S 7), .int (S 8), .int (S 9), .ref 106, .ref 107, .int (S 12), .ref 108, .int (S 14), .int (S 15), .long Z]
def MdAt (h0 h : XH) (A : Nat → Nat → Int32) (S : Nat → Int32) (Z : Int64) : Prop :=
  (∀ b, b < 102 → h b = h0 b) ∧ h 102 = some (.inl (9, MF S Z)) ∧ h 103 = some (.inr (0, 980, .inl (A 0))) ∧ h 104 = some (.inr (0, 1001, .inl (A 1))) ∧ h 105 = some (.inr (0, 80, .inl (A 2))) ∧ h 106 = some (.inr (1, 60, .inl (A 3))) ∧ h 107 = some (.inr (0, 2001, .inl (A 4))) ∧ h 108 = some (.inr (0, 60, .inl (A 5)))
theorem MdAt.c {h0 h : XH} {A : Nat → Nat → Int32} {S : Nat → Int32} {Z : Int64} (M : MdAt h0 h A S Z) : xco h 102 9 = some () := gC M.2.1
theorem MdAt.r0 {h0 h : XH} {A : Nat → Nat → Int32} {S : Nat → Int32} {Z : Int64} (M : MdAt h0 h A S Z) : xgR h 102 9 0 = some 103 := gR M.2.1 0 rfl
theorem MdAt.r2 {h0 h : XH} {A : Nat → Nat → Int32} {S : Nat → Int32} {Z : Int64} (M : MdAt h0 h A S Z) : xgR h 102 9 2 = some 104 := gR M.2.1 2 rfl
theorem MdAt.r4 {h0 h : XH} {A : Nat → Nat → Int32} {S : Nat → Int32} {Z : Int64} (M : MdAt h0 h A S Z) : xgR h 102 9 4 = some 105 := gR M.2.1 4 rfl
theorem MdAt.r10 {h0 h : XH} {A : Nat → Nat → Int32} {S : Nat → Int32} {Z : Int64} (M : MdAt h0 h A S Z) : xgR h 102 9 10 = some 106 := gR M.2.1 10 rfl
theorem MdAt.r11 {h0 h : XH} {A : Nat → Nat → Int32} {S : Nat → Int32} {Z : Int64} (M : MdAt h0 h A S Z) : xgR h 102 9 11 = some 107 := gR M.2.1 11 rfl
theorem MdAt.r13 {h0 h : XH} {A : Nat → Nat → Int32} {S : Nat → Int32} {Z : Int64} (M : MdAt h0 h A S Z) : xgR h 102 9 13 = some 108 := gR M.2.1 13 rfl
theorem MdAt.i1 {h0 h : XH} {A : Nat → Nat → Int32} {S : Nat → Int32} {Z : Int64} (M : MdAt h0 h A S Z) : xgI h 102 9 1 = some (S 1) := gI M.2.1 1 rfl
theorem MdAt.p1 {h0 h : XH} {A : Nat → Nat → Int32} {S : Nat → Int32} {Z : Int64} (M : MdAt h0 h A S Z) (v : Int32) : ∃ h', xpf h 102 9 1 (.int v) = some h' ∧ MdAt h0 h' A (sup S 1 v) Z := by
  refine ⟨_, gP M.2.1 1 _ (Nat.le_of_ble_eq_true rfl), ?_⟩
  obtain ⟨e, -, e0, e1, e2, e3, e4, e5⟩ := M
  exact ⟨fun b hb => (xup_n _ _ (by omega)).trans (e b hb), xup_s _ _ _, e0, e1, e2, e3, e4, e5⟩
theorem MdAt.i3 {h0 h : XH} {A : Nat → Nat → Int32} {S : Nat → Int32} {Z : Int64} (M : MdAt h0 h A S Z) : xgI h 102 9 3 = some (S 3) := gI M.2.1 3 rfl
theorem MdAt.p3 {h0 h : XH} {A : Nat → Nat → Int32} {S : Nat → Int32} {Z : Int64} (M : MdAt h0 h A S Z) (v : Int32) : ∃ h', xpf h 102 9 3 (.int v) = some h' ∧ MdAt h0 h' A (sup S 3 v) Z := by
  refine ⟨_, gP M.2.1 3 _ (Nat.le_of_ble_eq_true rfl), ?_⟩
  obtain ⟨e, -, e0, e1, e2, e3, e4, e5⟩ := M
  exact ⟨fun b hb => (xup_n _ _ (by omega)).trans (e b hb), xup_s _ _ _, e0, e1, e2, e3, e4, e5⟩
theorem MdAt.i5 {h0 h : XH} {A : Nat → Nat → Int32} {S : Nat → Int32} {Z : Int64} (M : MdAt h0 h A S Z) : xgI h 102 9 5 = some (S 5) := gI M.2.1 5 rfl
theorem MdAt.p5 {h0 h : XH} {A : Nat → Nat → Int32} {S : Nat → Int32} {Z : Int64} (M : MdAt h0 h A S Z) (v : Int32) : ∃ h', xpf h 102 9 5 (.int v) = some h' ∧ MdAt h0 h' A (sup S 5 v) Z := by
  refine ⟨_, gP M.2.1 5 _ (Nat.le_of_ble_eq_true rfl), ?_⟩
  obtain ⟨e, -, e0, e1, e2, e3, e4, e5⟩ := M
  exact ⟨fun b hb => (xup_n _ _ (by omega)).trans (e b hb), xup_s _ _ _, e0, e1, e2, e3, e4, e5⟩
theorem MdAt.i6 {h0 h : XH} {A : Nat → Nat → Int32} {S : Nat → Int32} {Z : Int64} (M : MdAt h0 h A S Z) : xgI h 102 9 6 = some (S 6) := gI M.2.1 6 rfl
theorem MdAt.p6 {h0 h : XH} {A : Nat → Nat → Int32} {S : Nat → Int32} {Z : Int64} (M : MdAt h0 h A S Z) (v : Int32) : ∃ h', xpf h 102 9 6 (.int v) = some h' ∧ MdAt h0 h' A (sup S 6 v) Z := by
  refine ⟨_, gP M.2.1 6 _ (Nat.le_of_ble_eq_true rfl), ?_⟩
  obtain ⟨e, -, e0, e1, e2, e3, e4, e5⟩ := M
  exact ⟨fun b hb => (xup_n _ _ (by omega)).trans (e b hb), xup_s _ _ _, e0, e1, e2, e3, e4, e5⟩
theorem MdAt.i7 {h0 h : XH} {A : Nat → Nat → Int32} {S : Nat → Int32} {Z : Int64} (M : MdAt h0 h A S Z) : xgI h 102 9 7 = some (S 7) := gI M.2.1 7 rfl
theorem MdAt.p7 {h0 h : XH} {A : Nat → Nat → Int32} {S : Nat → Int32} {Z : Int64} (M : MdAt h0 h A S Z) (v : Int32) : ∃ h', xpf h 102 9 7 (.int v) = some h' ∧ MdAt h0 h' A (sup S 7 v) Z := by
  refine ⟨_, gP M.2.1 7 _ (Nat.le_of_ble_eq_true rfl), ?_⟩
  obtain ⟨e, -, e0, e1, e2, e3, e4, e5⟩ := M
  exact ⟨fun b hb => (xup_n _ _ (by omega)).trans (e b hb), xup_s _ _ _, e0, e1, e2, e3, e4, e5⟩
theorem MdAt.i8 {h0 h : XH} {A : Nat → Nat → Int32} {S : Nat → Int32} {Z : Int64} (M : MdAt h0 h A S Z) : xgI h 102 9 8 = some (S 8) := gI M.2.1 8 rfl
theorem MdAt.p8 {h0 h : XH} {A : Nat → Nat → Int32} {S : Nat → Int32} {Z : Int64} (M : MdAt h0 h A S Z) (v : Int32) : ∃ h', xpf h 102 9 8 (.int v) = some h' ∧ MdAt h0 h' A (sup S 8 v) Z := by
  refine ⟨_, gP M.2.1 8 _ (Nat.le_of_ble_eq_true rfl), ?_⟩
  obtain ⟨e, -, e0, e1, e2, e3, e4, e5⟩ := M
  exact ⟨fun b hb => (xup_n _ _ (by omega)).trans (e b hb), xup_s _ _ _, e0, e1, e2, e3, e4, e5⟩
theorem MdAt.i9 {h0 h : XH} {A : Nat → Nat → Int32} {S : Nat → Int32} {Z : Int64} (M : MdAt h0 h A S Z) : xgI h 102 9 9 = some (S 9) := gI M.2.1 9 rfl
theorem MdAt.p9 {h0 h : XH} {A : Nat → Nat → Int32} {S : Nat → Int32} {Z : Int64} (M : MdAt h0 h A S Z) (v : Int32) : ∃ h', xpf h 102 9 9 (.int v) = some h' ∧ MdAt h0 h' A (sup S 9 v) Z := by
  refine ⟨_, gP M.2.1 9 _ (Nat.le_of_ble_eq_true rfl), ?_⟩
  obtain ⟨e, -, e0, e1, e2, e3, e4, e5⟩ := M
  exact ⟨fun b hb => (xup_n _ _ (by omega)).trans (e b hb), xup_s _ _ _, e0, e1, e2, e3, e4, e5⟩
theorem MdAt.i12 {h0 h : XH} {A : Nat → Nat → Int32} {S : Nat → Int32} {Z : Int64} (M : MdAt h0 h A S Z) : xgI h 102 9 12 = some (S 12) := gI M.2.1 12 rfl
theorem MdAt.p12 {h0 h : XH} {A : Nat → Nat → Int32} {S : Nat → Int32} {Z : Int64} (M : MdAt h0 h A S Z) (v : Int32) : ∃ h', xpf h 102 9 12 (.int v) = some h' ∧ MdAt h0 h' A (sup S 12 v) Z := by
  refine ⟨_, gP M.2.1 12 _ (Nat.le_of_ble_eq_true rfl), ?_⟩
  obtain ⟨e, -, e0, e1, e2, e3, e4, e5⟩ := M
  exact ⟨fun b hb => (xup_n _ _ (by omega)).trans (e b hb), xup_s _ _ _, e0, e1, e2, e3, e4, e5⟩
theorem MdAt.i14 {h0 h : XH} {A : Nat → Nat → Int32} {S : Nat → Int32} {Z : Int64} (M : MdAt h0 h A S Z) : xgI h 102 9 14 = some (S 14) := gI M.2.1 14 rfl
theorem MdAt.p14 {h0 h : XH} {A : Nat → Nat → Int32} {S : Nat → Int32} {Z : Int64} (M : MdAt h0 h A S Z) (v : Int32) : ∃ h', xpf h 102 9 14 (.int v) = some h' ∧ MdAt h0 h' A (sup S 14 v) Z := by
  refine ⟨_, gP M.2.1 14 _ (Nat.le_of_ble_eq_true rfl), ?_⟩
  obtain ⟨e, -, e0, e1, e2, e3, e4, e5⟩ := M
  exact ⟨fun b hb => (xup_n _ _ (by omega)).trans (e b hb), xup_s _ _ _, e0, e1, e2, e3, e4, e5⟩
theorem MdAt.i15 {h0 h : XH} {A : Nat → Nat → Int32} {S : Nat → Int32} {Z : Int64} (M : MdAt h0 h A S Z) : xgI h 102 9 15 = some (S 15) := gI M.2.1 15 rfl
theorem MdAt.p15 {h0 h : XH} {A : Nat → Nat → Int32} {S : Nat → Int32} {Z : Int64} (M : MdAt h0 h A S Z) (v : Int32) : ∃ h', xpf h 102 9 15 (.int v) = some h' ∧ MdAt h0 h' A (sup S 15 v) Z := by
  refine ⟨_, gP M.2.1 15 _ (Nat.le_of_ble_eq_true rfl), ?_⟩
  obtain ⟨e, -, e0, e1, e2, e3, e4, e5⟩ := M
  exact ⟨fun b hb => (xup_n _ _ (by omega)).trans (e b hb), xup_s _ _ _, e0, e1, e2, e3, e4, e5⟩
theorem MdAt.j16 {h0 h : XH} {A : Nat → Nat → Int32} {S : Nat → Int32} {Z : Int64} (M : MdAt h0 h A S Z) : xgJ h 102 9 16 = some Z := gJ M.2.1 16 rfl
theorem MdAt.p16 {h0 h : XH} {A : Nat → Nat → Int32} {S : Nat → Int32} {Z : Int64} (M : MdAt h0 h A S Z) (v : Int64) : ∃ h', xpf h 102 9 16 (.long v) = some h' ∧ MdAt h0 h' A S v := by
  refine ⟨_, gP M.2.1 16 _ (Nat.le_of_ble_eq_true rfl), ?_⟩
  obtain ⟨e, -, e0, e1, e2, e3, e4, e5⟩ := M
  exact ⟨fun b hb => (xup_n _ _ (by omega)).trans (e b hb), xup_s _ _ _, e0, e1, e2, e3, e4, e5⟩
theorem MdAt.a0 {h0 h : XH} {A : Nat → Nat → Int32} {S : Nat → Int32} {Z : Int64} (M : MdAt h0 h A S Z) {i : Int} (hi : 0 ≤ i ∧ i < 980) : xaI h 103 0 (i32 i) = some (A 0 i.toNat) := gA M.2.2.1 (by omega) (by omega)
theorem MdAt.s0 {h0 h : XH} {A : Nat → Nat → Int32} {S : Nat → Int32} {Z : Int64} (M : MdAt h0 h A S Z) {i : Int} (v : Int32) (hi : 0 ≤ i ∧ i < 980) : ∃ h', xsI h 103 0 (i32 i) v = some h' ∧ MdAt h0 h' (aup A 0 (upd (A 0) i.toNat v)) S Z := by
  refine ⟨_, gS M.2.2.1 v (by omega) (by omega), ?_⟩
  obtain ⟨e, em, -, e1, e2, e3, e4, e5⟩ := M
  exact ⟨fun b hb => (xup_n _ _ (by omega)).trans (e b hb), em, xup_s _ _ _, e1, e2, e3, e4, e5⟩
theorem MdAt.a1 {h0 h : XH} {A : Nat → Nat → Int32} {S : Nat → Int32} {Z : Int64} (M : MdAt h0 h A S Z) {i : Int} (hi : 0 ≤ i ∧ i < 1001) : xaI h 104 0 (i32 i) = some (A 1 i.toNat) := gA M.2.2.2.1 (by omega) (by omega)
theorem MdAt.s1 {h0 h : XH} {A : Nat → Nat → Int32} {S : Nat → Int32} {Z : Int64} (M : MdAt h0 h A S Z) {i : Int} (v : Int32) (hi : 0 ≤ i ∧ i < 1001) : ∃ h', xsI h 104 0 (i32 i) v = some h' ∧ MdAt h0 h' (aup A 1 (upd (A 1) i.toNat v)) S Z := by
  refine ⟨_, gS M.2.2.2.1 v (by omega) (by omega), ?_⟩
  obtain ⟨e, em, e0, -, e2, e3, e4, e5⟩ := M
  exact ⟨fun b hb => (xup_n _ _ (by omega)).trans (e b hb), em, e0, xup_s _ _ _, e2, e3, e4, e5⟩
theorem MdAt.a2 {h0 h : XH} {A : Nat → Nat → Int32} {S : Nat → Int32} {Z : Int64} (M : MdAt h0 h A S Z) {i : Int} (hi : 0 ≤ i ∧ i < 80) : xaI h 105 0 (i32 i) = some (A 2 i.toNat) := gA M.2.2.2.2.1 (by omega) (by omega)
theorem MdAt.s2 {h0 h : XH} {A : Nat → Nat → Int32} {S : Nat → Int32} {Z : Int64} (M : MdAt h0 h A S Z) {i : Int} (v : Int32) (hi : 0 ≤ i ∧ i < 80) : ∃ h', xsI h 105 0 (i32 i) v = some h' ∧ MdAt h0 h' (aup A 2 (upd (A 2) i.toNat v)) S Z := by
  refine ⟨_, gS M.2.2.2.2.1 v (by omega) (by omega), ?_⟩
  obtain ⟨e, em, e0, e1, -, e3, e4, e5⟩ := M
  exact ⟨fun b hb => (xup_n _ _ (by omega)).trans (e b hb), em, e0, e1, xup_s _ _ _, e3, e4, e5⟩
theorem MdAt.a3 {h0 h : XH} {A : Nat → Nat → Int32} {S : Nat → Int32} {Z : Int64} (M : MdAt h0 h A S Z) {i : Int} (hi : 0 ≤ i ∧ i < 60) : xaI h 106 1 (i32 i) = some (A 3 i.toNat) := gA M.2.2.2.2.2.1 (by omega) (by omega)
theorem MdAt.s3 {h0 h : XH} {A : Nat → Nat → Int32} {S : Nat → Int32} {Z : Int64} (M : MdAt h0 h A S Z) {i : Int} (v : Int32) (hi : 0 ≤ i ∧ i < 60) : ∃ h', xsI h 106 1 (i32 i) v = some h' ∧ MdAt h0 h' (aup A 3 (upd (A 3) i.toNat v)) S Z := by
  refine ⟨_, gS M.2.2.2.2.2.1 v (by omega) (by omega), ?_⟩
  obtain ⟨e, em, e0, e1, e2, -, e4, e5⟩ := M
  exact ⟨fun b hb => (xup_n _ _ (by omega)).trans (e b hb), em, e0, e1, e2, xup_s _ _ _, e4, e5⟩
theorem MdAt.a4 {h0 h : XH} {A : Nat → Nat → Int32} {S : Nat → Int32} {Z : Int64} (M : MdAt h0 h A S Z) {i : Int} (hi : 0 ≤ i ∧ i < 2001) : xaI h 107 0 (i32 i) = some (A 4 i.toNat) := gA M.2.2.2.2.2.2.1 (by omega) (by omega)
theorem MdAt.s4 {h0 h : XH} {A : Nat → Nat → Int32} {S : Nat → Int32} {Z : Int64} (M : MdAt h0 h A S Z) {i : Int} (v : Int32) (hi : 0 ≤ i ∧ i < 2001) : ∃ h', xsI h 107 0 (i32 i) v = some h' ∧ MdAt h0 h' (aup A 4 (upd (A 4) i.toNat v)) S Z := by
  refine ⟨_, gS M.2.2.2.2.2.2.1 v (by omega) (by omega), ?_⟩
  obtain ⟨e, em, e0, e1, e2, e3, -, e5⟩ := M
  exact ⟨fun b hb => (xup_n _ _ (by omega)).trans (e b hb), em, e0, e1, e2, e3, xup_s _ _ _, e5⟩
theorem MdAt.a5 {h0 h : XH} {A : Nat → Nat → Int32} {S : Nat → Int32} {Z : Int64} (M : MdAt h0 h A S Z) {i : Int} (hi : 0 ≤ i ∧ i < 60) : xaI h 108 0 (i32 i) = some (A 5 i.toNat) := gA M.2.2.2.2.2.2.2 (by omega) (by omega)
theorem MdAt.s5 {h0 h : XH} {A : Nat → Nat → Int32} {S : Nat → Int32} {Z : Int64} (M : MdAt h0 h A S Z) {i : Int} (v : Int32) (hi : 0 ≤ i ∧ i < 60) : ∃ h', xsI h 108 0 (i32 i) v = some h' ∧ MdAt h0 h' (aup A 5 (upd (A 5) i.toNat v)) S Z := by
  refine ⟨_, gS M.2.2.2.2.2.2.2 v (by omega) (by omega), ?_⟩
  obtain ⟨e, em, e0, e1, e2, e3, e4, -⟩ := M
  exact ⟨fun b hb => (xup_n _ _ (by omega)).trans (e b hb), em, e0, e1, e2, e3, e4, xup_s _ _ _⟩
def PgAt (A : Nat → Nat → Int32) (p : Nat → Int) : Prop := ∀ k : Nat, k < 98 → A 0 k = i32 (p k)
theorem MdAt.pg {h0 h : XH} {A : Nat → Nat → Int32} {S : Nat → Int32} {Z : Int64} (M : MdAt h0 h A S Z) {p : Nat → Int} (G : PgAt A p) {i : Int} (hi : 0 ≤ i ∧ i < 98) : xaI h 103 0 (i32 i) = some (i32 (p i.toNat)) := by
  rw [M.a0 (by omega), G _ (by omega)]
theorem cells_ok {h0 h : XH} {A : Nat → Nat → Int32} {S : Nat → Int32} {Z : Int64} (M : MdAt h0 h A S Z) {p : Nat → Int} (G : PgAt A p) : fX9_cells h 102 = some (i32 (p 0)) := by
  unfold fX9_cells
  rw [M.r0]
  simp only [Option.bind_some]
  rw [L_0, M.pg G (by omega)]
  rfl
/-! the model's measure -/
def eqs (n : Nat) (f : Nat → Int) (s : Nat) : Nat → Bool
  | 0 => true
  | i + 1 => eqs n f s i && decide (f i = f ((i + s) % n))
theorem eqs_iff {n : Nat} {f : Nat → Int} {s : Nat} : ∀ k, eqs n f s k = true ↔ ∀ i, i < k → f i = f ((i + s) % n)
  | 0 => by simp [eqs]
  | k + 1 => by
    simp only [eqs, Bool.and_eq_true, decide_eq_true_eq, eqs_iff k]
    constructor
    · rintro ⟨h1, h2⟩ i hi
      rcases Nat.lt_or_ge i k with q | q
      · exact h1 i q
      · obtain rfl : i = k := by omega
        exact h2
    · intro h
      exact ⟨fun i hi => h i (by omega), h k (by omega)⟩
theorem mmsr_in {h0 h : XH} {A : Nat → Nat → Int32} {S : Nat → Int32} {Z : Int64} (M : MdAt h0 h A S Z) {p : Nat → Int} (G : PgAt A p) (hV : VP p) {s : Nat} (hs : 1 ≤ s ∧ s ≤ 60) : xloop (fX9_measure_B15 h 102 (i32 s)) 5000 (true, i32 0) = some (eqs (p 0).toNat (fun i => p (1 + i)) s (p 0).toNat) := by
  have hn := hV.n
  have e := xl_run (fX9_measure_B15 h 102 (i32 s)) (fun i => (eqs (p 0).toNat (fun i => p (1 + i)) s i, i32 i)) (p 0).toNat (eqs (p 0).toNat (fun i => p (1 + i)) s (p 0).toNat) (fun i hi => by
    unfold fX9_measure_B15 fX9_measure_b15 fX9_measure_J57
    rw [M.c]
    simp only [Option.bind_some]
    rw [cells_ok M G]
    simp only [Option.bind_some]
    rw [ile_f (by omega), M.r0]
    simp only [Option.bind_some, eqs]
    simp only [L_1, i32_add]
    cases hq : eqs (p 0).toNat (fun i => p (1 + i)) s i with
    | false =>
      simp only [Bool.false_and]
      rw [if_neg Bool.false_ne_true]
      rfl
    | true =>
      rw [if_pos rfl, M.pg G (by omega)]
      simp only [Option.bind_some]
      have em : ((i : Int) + (s : Int)).tmod (p 0) = (((i + s) % (p 0).toNat : Nat) : Int) := by
        rw [Int.tmod_eq_emod_of_nonneg (by omega)]
        have e : p 0 = ((p 0).toNat : Int) := by omega
        rw [e]
        simp
      have hlt := Nat.mod_lt (i + s) (show 0 < (p 0).toNat by omega)
      rw [L_0, ieq_f (by omega), i32_rem (by omega) (by omega), em, i32_add, M.pg G (by omega)]
      simp only [Option.bind_some, Bool.true_and]
      rw [show ((1 : Int) + (i : Int)).toNat = 1 + i by omega, show ((1 : Int) + (((i + s) % (p 0).toNat : Nat) : Int)).toNat = 1 + (i + s) % (p 0).toNat by omega]
      have m1 := hV.mk i (by omega)
      have m2 := hV.mk ((i + s) % (p 0).toNat) (by omega)
      rw [ceq (by omega)]
      split
      · rename_i z
        rw [decide_eq_true z]
        rfl
      · rename_i z
        rw [decide_eq_false z]
        rfl) (by
    unfold fX9_measure_B15 fX9_measure_b15
    rw [M.c]
    simp only [Option.bind_some]
    rw [cells_ok M G]
    simp only [Option.bind_some]
    rw [ile_t (by omega)]) 5000 (by omega)
  exact e
theorem mmsr_ok {h0 h : XH} {A : Nat → Nat → Int32} {S : Nat → Int32} {Z : Int64} (M : MdAt h0 h A S Z) {p : Nat → Int} (G : PgAt A p) (hV : VP p) : fX9_measure h 102 = some (i32 (msr p)) := by
  unfold fX9_measure
  have hn := hV.n
  have hr := msr_rng hV
  obtain ⟨m1, m2, m3, m4⟩ := msr_ok hV
  have e := xl_run (fX9_measure_B4 h 102) (fun i => (i32 i, if i = 0 then false else eqs (p 0).toNat (fun i => p (1 + i)) i (p 0).toNat)) (msr p) (i32 (msr p)) (fun i hi => by
    unfold fX9_measure_B4 fX9_measure_b4
    have hf : (if i = 0 then false else eqs (p 0).toNat (fun i => p (1 + i)) i (p 0).toNat) = false := by
      split
      · rfl
      · rcases hq : eqs (p 0).toNat (fun i => p (1 + i)) i (p 0).toNat with _ | _
        · rfl
        · exact absurd ((eqs_iff _).mp hq) (m4 i (by omega) hi)
    simp only [hf]
    rw [if_neg (by decide), L_1, i32_add, L_0]
    have q := mmsr_in M G hV (s := i + 1) (by omega)
    rw [show ((i : Int) + 1) = ((i + 1 : Nat) : Int) by omega, q]
    simp only [Option.bind_some]
    rw [if_neg (by omega)]) (by
    unfold fX9_measure_B4 fX9_measure_b4
    have ht : eqs (p 0).toNat (fun i => p (1 + i)) (msr p) (p 0).toNat = true := (eqs_iff _).mpr m3
    have hf : (if msr p = 0 then false else eqs (p 0).toNat (fun i => p (1 + i)) (msr p) (p 0).toNat) = true := by rw [if_neg (by omega)]; exact ht
    simp only [hf]
    exact if_pos trivial) 5000 (by omega)
  rw [L_0]
  have e2 : xloop (fX9_measure_B4 h 102) 5000 (i32 0, false) = some (i32 (msr p)) := e
  rw [e2]
  rfl
