theorem VP.hi {p p' : Nat → Int} (hV : VP p) (e : ∀ i, i < 74 → p' i = p i) (r : (0 ≤ p' 74 ∧ p' 74 ≤ 1000) ∧ (1 ≤ p' 75 ∧ p' 75 ≤ 500) ∧ (0 ≤ p' 76 ∧ p' 76 ≤ 8) ∧ (∀ k : Nat, (k : Int) < p' 76 → (1 ≤ p' (77 + 2 * k) ∧ p' (77 + 2 * k) ≤ 500) ∧ (-30 ≤ p' (78 + 2 * k) ∧ p' (78 + 2 * k) ≤ 30)) ∧ (1 ≤ p' 93 ∧ p' 93 ≤ 1000) ∧ (1 ≤ p' 94 ∧ p' 94 ≤ 30) ∧ (0 ≤ p' 95 ∧ p' 95 < 2 ^ (p' 94).toNat) ∧ (0 ≤ p' 96 ∧ p' 96 ≤ 29) ∧ (-1000 ≤ p' 97 ∧ p' 97 ≤ 1000)) : VP p' := by
  have h63 := hV.ch
  obtain ⟨a, b, c, d1, d2, d3, d4, -⟩ := hV
  refine ⟨by rw [e 0 (by omega)]; exact a, fun k hk => by rw [e _ (by omega)]; exact b k hk, by rw [e 61 (by omega)]; exact c, by rw [e 62 (by omega)]; exact d1, by rw [e 63 (by omega)]; exact d2, fun k hk => ?_, fun j k h1 h2 => ?_, r⟩
  · rw [e 63 (by omega)] at hk
    rw [e _ (by omega), e _ (by omega)]; exact d3 k hk
  · rw [e 63 (by omega)] at h2
    rw [e _ (by omega), e _ (by omega)]; exact d4 j k h1 h2
theorem VP.lo {p : Nat → Int} (hV : VP p) : (0 ≤ p 74 ∧ p 74 ≤ 1000) ∧ (1 ≤ p 75 ∧ p 75 ≤ 500) ∧ (0 ≤ p 76 ∧ p 76 ≤ 8) ∧ (∀ k : Nat, (k : Int) < p 76 → (1 ≤ p (77 + 2 * k) ∧ p (77 + 2 * k) ≤ 500) ∧ (-30 ≤ p (78 + 2 * k) ∧ p (78 + 2 * k) ≤ 30)) ∧ (1 ≤ p 93 ∧ p 93 ≤ 1000) ∧ (1 ≤ p 94 ∧ p 94 ≤ 30) ∧ (0 ≤ p 95 ∧ p 95 < 2 ^ (p 94).toNat) ∧ (0 ≤ p 96 ∧ p 96 ≤ 29) ∧ (-1000 ≤ p 97 ∧ p 97 ≤ 1000) := by
  obtain ⟨-, -, -, -, -, -, -, r⟩ := hV
  exact r
/-- the flash -/
def fl2 (p : Nat → Int) (a b : Int) : Nat → Int := pu (pu p 74 a) 75 b
noncomputable def oFlash (p : Nat → Int) (a b : Int) : Int × Option (Nat → Int) := if isT a = true then (if 1 ≤ b ∧ b ≤ 500 then (nfl (fl2 p a b), some (fl2 p a b)) else (-1001, none)) else (-1001, none)
theorem vFl {p : Nat → Int} (hV : VP p) {a b : Int} (q1 : 0 ≤ a ∧ a ≤ 1000) (q2 : 1 ≤ b ∧ b ≤ 500) : VP (fl2 p a b) := by
  have e : ∀ i, i ≠ 74 → i ≠ 75 → fl2 p a b i = p i := fun i h1 h2 => by unfold fl2; rw [pu_n _ _ h2, pu_n _ _ h1]
  obtain ⟨r1, r2, r3, r4, r5⟩ := hV.lo
  refine hV.hi (fun i hi => e i (by omega) (by omega)) ⟨q1, q2, r3, fun k hk => ?_, r5⟩
  rw [e _ (by omega) (by omega), e _ (by omega) (by omega)]
  exact r4 k hk
theorem vFlash {p : Nat → Int} (hV : VP p) (a b : Int) : VO (oFlash p a b).2 := by
  unfold oFlash
  split
  · rename_i q1
    simp only [isT, decide_eq_true_eq] at q1
    split
    · rename_i q2
      exact VO.so (vFl hV q1 q2)
    · exact VO.no
  · exact VO.no
theorem cFlashW {h : XH} {p : Nat → Int} {P : Nat → Nat → Int} {bk nx : Nat} (N : NowAt h p) (H : HiAt h P bk nx) (hV : VP p) {a b : Int} (ha : -2147483648 ≤ a ∧ a < 2147483648) (hb : -2147483648 ≤ b ∧ b < 2147483648) : CW h p P bk (oFlash p a b).1 (oFlash p a b).2 (fX8_setFlash h 0 (i32 a) (i32 b)) := by
  unfold fX8_setFlash oFlash
  rw [obb (ctick ha)]
  by_cases q : isT a = true
  · rw [if_pos q, if_pos q, L_1, L_500, obb (within_ok hb (by omega) (by omega))]
    simp only [decide_eq_true_eq]
    by_cases q2 : 1 ≤ b ∧ b ≤ 500
    · rw [if_pos q2, if_pos q2]
      have q1 := q
      simp only [isT, decide_eq_true_eq] at q1
      obtain ⟨h1, e1, N1, H1, u1⟩ := crem N H
      obtain ⟨h2, e2, a2, u2⟩ := pfw N1.f 0 (.int (i32 a)) (Nat.le_of_ble_eq_true rfl)
      have N2 : NowAt h2 (pu p 74 a) := N1.fl a2 u2 (fun i hi => pu_n _ _ (by omega))
      obtain ⟨h3, e3, a3, u3⟩ := pfw a2 1 (.int (i32 b)) (Nat.le_of_ble_eq_true rfl)
      have N3 : NowAt h3 (fl2 p a b) := N2.fl a3 u3 (fun i hi => pu_n _ _ (by omega))
      rw [obb (r_1 N), obb N.n, obb (h_c H), obb e1, obb N1.n, obb N1.n1, obb e2, obb N2.n, obb N2.n1, obb e3, obb N3.n, obb N3.n1, obb N3.f.c, obb (cnfl N3.f (vFl hV q1 q2))]
      exact ⟨h3, _, rfl, N3, H1.fr (fun x hx => (u3 x (by omega)).trans (u2 x (by omega))), fun x hx => (u3 x (by omega)).trans ((u2 x (by omega)).trans (u1 x (by omega)))⟩
    · rw [if_neg q2, if_neg q2]; rfl
  · rw [if_neg q, if_neg q]; rfl
theorem mFlashW {h0 h : XH} {A : Nat → Nat → Int32} {S : Nat → Int32} {Z : Int64} (M : MdAt h0 h A S Z) {p : Nat → Int} {P : Nat → Nat → Int} {bk : Nat} (B : BkAt A S p P bk) (hV : VP p) {a b : Int} (ha : -2147483648 ≤ a ∧ a < 2147483648) (hb : -2147483648 ≤ b ∧ b < 2147483648) : MW h0 A S Z p P bk (oFlash p a b).1 (oFlash p a b).2 (fX9_setFlash h 102 (i32 a) (i32 b)) := by
  unfold fX9_setFlash oFlash
  rw [obb (mtick ha)]
  by_cases q : isT a = true
  · rw [if_pos q, if_pos q, L_1, L_500, obb (in_ok hb (by omega) (by omega))]
    simp only [decide_eq_true_eq]
    by_cases q2 : 1 ≤ b ∧ b ≤ 500
    · rw [if_pos q2, if_pos q2]
      have q1 := q
      simp only [isT, decide_eq_true_eq] at q1
      obtain ⟨h1, A1, S1, e1, M1, B1, K1⟩ := mrec M B
      obtain ⟨h2, A2, e2, M2, B2, K2⟩ := B1.put M1 (i := 74) (by omega) a
      obtain ⟨h3, A3, e3, M3, B3, K3⟩ := B2.put M2 (i := 75) (by omega) b
      have B3' : BkAt A3 S1 (fl2 p a b) (psh p P) (nb bk) := B3
      rw [obb M.c, obb e1, L_74, obb M1.r0, obb e2, L_75, obb M2.r0, obb e3, obb M3.c, obb (mnfl M3 B3'.2.2.1 (vFl hV q1 q2))]
      exact ⟨h3, A3, S1, rfl, M3, B3', K1.tr (K2.tr K3)⟩
    · rw [if_neg q2, if_neg q2]; exact ⟨h, A, S, rfl, M, Kp.rf A S⟩
  · rw [if_neg q, if_neg q]; exact ⟨h, A, S, rfl, M, Kp.rf A S⟩
/-- the disc turned -/
def td2 (p : Nat → Int) (a b : Int) : Nat → Int := pu (pu p 96 a) 97 b
def oTurn (p : Nat → Int) (a b : Int) : Int × Option (Nat → Int) := if 0 ≤ a ∧ a ≤ 29 then (if -1000 ≤ b ∧ b ≤ 1000 then (p 97, some (td2 p a b)) else (-1001, none)) else (-1001, none)
theorem vTurn {p : Nat → Int} (hV : VP p) (a b : Int) : VO (oTurn p a b).2 := by
  unfold oTurn
  split
  · rename_i q1
    split
    · rename_i q2
      have e : ∀ i, i ≠ 96 → i ≠ 97 → td2 p a b i = p i := fun i h1 h2 => by unfold td2; rw [pu_n _ _ h2, pu_n _ _ h1]
      obtain ⟨r1, r2, r3, r4, r5, r6, r7, -⟩ := hV.lo
      refine VO.so (hV.hi (fun i hi => e i (by omega) (by omega)) ⟨r1, r2, r3, fun k hk => ?_, r5, r6, r7, q1, q2⟩)
      have e76 : td2 p a b 76 = p 76 := rfl
      rw [e76] at hk
      rw [e _ (by omega) (by omega), e _ (by omega) (by omega)]
      exact r4 k hk
    · exact VO.no
  · exact VO.no
theorem cTurnW {h : XH} {p : Nat → Int} {P : Nat → Nat → Int} {bk nx : Nat} (N : NowAt h p) (H : HiAt h P bk nx) {a b : Int} (ha : -2147483648 ≤ a ∧ a < 2147483648) (hb : -2147483648 ≤ b ∧ b < 2147483648) : CW h p P bk (oTurn p a b).1 (oTurn p a b).2 (fX8_turnDisc h 0 (i32 a) (i32 b)) := by
  unfold fX8_turnDisc oTurn
  rw [L_m1000, L_1000, L_0, L_29, obb (within_ok ha (by omega) (by omega))]
  simp only [decide_eq_true_eq]
  by_cases q : 0 ≤ a ∧ a ≤ 29
  · rw [if_pos q, if_pos q, obb (within_ok hb (by omega) (by omega))]
    simp only [decide_eq_true_eq]
    by_cases q2 : -1000 ≤ b ∧ b ≤ 1000
    · rw [if_pos q2, if_pos q2]
      obtain ⟨h1, e1, N1, H1, u1⟩ := crem N H
      obtain ⟨h2, e2, a2, u2⟩ := pfw N1.d 2 (.int (i32 a)) (Nat.le_of_ble_eq_true rfl)
      have N2 : NowAt h2 (pu p 96 a) := N1.di a2 u2 (fun i hi => pu_n _ _ (by omega))
      obtain ⟨h3, e3, a3, u3⟩ := pfw a2 3 (.int (i32 b)) (Nat.le_of_ble_eq_true rfl)
      have N3 : NowAt h3 (td2 p a b) := N2.di a3 u3 (fun i hi => pu_n _ _ (by omega))
      rw [obb (r_1 N), obb N.n, obb (h_c H), obb e1, obb N1.n, obb N1.n3, obb N1.d.i3, obb N1.n, obb N1.n3, obb e2, obb N2.n, obb N2.n3, obb e3]
      exact ⟨h3, _, rfl, N3, H1.fr (fun x hx => (u3 x (by omega)).trans (u2 x (by omega))), fun x hx => (u3 x (by omega)).trans ((u2 x (by omega)).trans (u1 x (by omega)))⟩
    · rw [if_neg q2, if_neg q2]; rfl
  · rw [if_neg q, if_neg q]; rfl
theorem mTurnW {h0 h : XH} {A : Nat → Nat → Int32} {S : Nat → Int32} {Z : Int64} (M : MdAt h0 h A S Z) {p : Nat → Int} {P : Nat → Nat → Int} {bk : Nat} (B : BkAt A S p P bk) {a b : Int} (ha : -2147483648 ≤ a ∧ a < 2147483648) (hb : -2147483648 ≤ b ∧ b < 2147483648) : MW h0 A S Z p P bk (oTurn p a b).1 (oTurn p a b).2 (fX9_turnDisc h 102 (i32 a) (i32 b)) := by
  unfold fX9_turnDisc oTurn
  rw [L_m1000, L_1000, L_0, L_29, obb (in_ok ha (by omega) (by omega))]
  simp only [decide_eq_true_eq]
  by_cases q : 0 ≤ a ∧ a ≤ 29
  · rw [if_pos q, if_pos q, obb (in_ok hb (by omega) (by omega))]
    simp only [decide_eq_true_eq]
    by_cases q2 : -1000 ≤ b ∧ b ≤ 1000
    · rw [if_pos q2, if_pos q2]
      obtain ⟨h1, A1, S1, e1, M1, B1, K1⟩ := mrec M B
      obtain ⟨h2, A2, e2, M2, B2, K2⟩ := B1.put M1 (i := 96) (by omega) a
      obtain ⟨h3, A3, e3, M3, B3, K3⟩ := B2.put M2 (i := 97) (by omega) b
      rw [obb M.c, obb e1, L_96, L_97, obb M1.r0, obb (M1.pg B1.2.2.1 (by omega)), obb M1.r0, obb e2, obb M2.r0, obb e3]
      exact ⟨h3, A3, S1, rfl, M3, B3, K1.tr (K2.tr K3)⟩
    · rw [if_neg q2, if_neg q2]; exact ⟨h, A, S, rfl, M, Kp.rf A S⟩
  · rw [if_neg q, if_neg q]; exact ⟨h, A, S, rfl, M, Kp.rf A S⟩
/-- the disc set -/
def sd2 (p : Nat → Int) (a b : Int) : Nat → Int := pu (pu p 94 a) 95 b
noncomputable def oDisc (p : Nat → Int) (a b : Int) : Int × Option (Nat → Int) := if 1 ≤ a ∧ a ≤ 30 then (if 0 ≤ b ∧ b ≤ 2 ^ a.toNat - 1 then ((bc b.toNat : Int), some (sd2 p a b)) else (-1001, none)) else (-1001, none)
theorem vDisc {p : Nat → Int} (hV : VP p) (a b : Int) : VO (oDisc p a b).2 := by
  unfold oDisc
  split
  · rename_i q1
    split
    · rename_i q2
      have e : ∀ i, i ≠ 94 → i ≠ 95 → sd2 p a b i = p i := fun i h1 h2 => by unfold sd2; rw [pu_n _ _ h2, pu_n _ _ h1]
      obtain ⟨r1, r2, r3, r4, r5, r6, r7, r8⟩ := hV.lo
      refine VO.so (hV.hi (fun i hi => e i (by omega) (by omega)) ⟨r1, r2, r3, fun k hk => ?_, r5, q1, ?_, r8⟩)
      · have e76 : sd2 p a b 76 = p 76 := rfl
        rw [e76] at hk
        rw [e _ (by omega) (by omega), e _ (by omega) (by omega)]
        exact r4 k hk
      · show 0 ≤ b ∧ b < 2 ^ a.toNat
        omega
    · exact VO.no
  · exact VO.no
theorem shl1 : ∀ k : Nat, k < 31 → ((1 : Int32) <<< (i32 (k : Int) &&& 31)) - 1 = i32 ((2 ^ k : Nat) - 1 : Int) := by decide +kernel
theorem pw30 {a : Nat} (h : a ≤ 30) : ((2 : Int) ^ a = ((2 ^ a : Nat) : Int)) ∧ 1 ≤ (2 : Nat) ^ a ∧ (2 : Nat) ^ a ≤ 1073741824 := ⟨by norm_cast, Nat.one_le_two_pow, by
  have : (2 : Nat) ^ a ≤ 2 ^ 30 := Nat.pow_le_pow_right (by decide) h
  have c : (2 : Nat) ^ 30 = 1073741824 := by decide
  omega⟩
theorem shl_ok {a : Int} (ha : 1 ≤ a ∧ a ≤ 30) : ((1 : Int32) <<< (i32 a &&& 31)) - 1 = i32 (2 ^ a.toNat - 1) := by
  have e := shl1 a.toNat (by omega)
  rw [show ((a.toNat : Nat) : Int) = a by omega] at e
  rw [e, (pw30 (a := a.toNat) (by omega)).1]
theorem cDisc {h : XH} {p : Nat → Int} {P : Nat → Nat → Int} {bk nx : Nat} (N : NowAt h p) (H : HiAt h P bk nx) {a b : Int} (ha : -2147483648 ≤ a ∧ a < 2147483648) (hb : -2147483648 ≤ b ∧ b < 2147483648) : CW h p P bk (oDisc p a b).1 (oDisc p a b).2 (fX8_setDisc h 0 (i32 a) (i32 b)) := by
  unfold fX8_setDisc oDisc
  have e0 : fX8_within (i32 a) 1 30 = some (decide (1 ≤ a ∧ a ≤ 30)) := by rw [L_1, L_30]; exact within_ok ha (by omega) (by omega)
  rw [obb e0]
  simp only [decide_eq_true_eq]
  by_cases q : 1 ≤ a ∧ a ≤ 30
  · have pw := pw30 (a := a.toNat) (by omega)
    rw [if_pos q, if_pos q, L_0, shl_ok q, obb (within_ok hb (by omega) (by omega))]
    simp only [decide_eq_true_eq]
    by_cases q2 : 0 ≤ b ∧ b ≤ 2 ^ a.toNat - 1
    · rw [if_pos q2, if_pos q2]
      obtain ⟨h1, e1, N1, H1, u1⟩ := crem N H
      obtain ⟨h2, e2, a2, u2⟩ := pfw N1.d 0 (.int (i32 a)) (Nat.le_of_ble_eq_true rfl)
      have N2 : NowAt h2 (pu p 94 a) := N1.di a2 u2 (fun i hi => pu_n _ _ (by omega))
      obtain ⟨h3, e3, a3, u3⟩ := pfw a2 1 (.int (i32 b)) (Nat.le_of_ble_eq_true rfl)
      have N3 : NowAt h3 (sd2 p a b) := N2.di a3 u3 (fun i hi => pu_n _ _ (by omega))
      have bo := bc_ok (N := b.toNat) (by omega)
      rw [nI_i32, show ((b.toNat : Nat) : Int) = b by omega] at bo
      rw [obb (r_1 N), obb N.n, obb (h_c H), obb e1, obb N1.n, obb N1.n3, obb e2, obb N2.n, obb N2.n3, obb e3, obb bo]
      exact ⟨h3, _, rfl, N3, H1.fr (fun x hx => (u3 x (by omega)).trans (u2 x (by omega))), fun x hx => (u3 x (by omega)).trans ((u2 x (by omega)).trans (u1 x (by omega)))⟩
    · rw [if_neg q2, if_neg q2]; rfl
  · rw [if_neg q, if_neg q]; rfl
theorem mDisc {h0 h : XH} {A : Nat → Nat → Int32} {S : Nat → Int32} {Z : Int64} (M : MdAt h0 h A S Z) {p : Nat → Int} {P : Nat → Nat → Int} {bk : Nat} (B : BkAt A S p P bk) {a b : Int} (ha : -2147483648 ≤ a ∧ a < 2147483648) (hb : -2147483648 ≤ b ∧ b < 2147483648) : MW h0 A S Z p P bk (oDisc p a b).1 (oDisc p a b).2 (fX9_setDisc h 102 (i32 a) (i32 b)) := by
  unfold fX9_setDisc oDisc
  have e0 : fX9_in (i32 a) 1 30 = some (decide (1 ≤ a ∧ a ≤ 30)) := by rw [L_1, L_30]; exact in_ok ha (by omega) (by omega)
  rw [obb e0]
  simp only [decide_eq_true_eq]
  by_cases q : 1 ≤ a ∧ a ≤ 30
  · have pw := pw30 (a := a.toNat) (by omega)
    rw [if_pos q, if_pos q, L_0, shl_ok q, obb (in_ok hb (by omega) (by omega))]
    simp only [decide_eq_true_eq]
    by_cases q2 : 0 ≤ b ∧ b ≤ 2 ^ a.toNat - 1
    · rw [if_pos q2, if_pos q2]
      obtain ⟨h1, A1, S1, e1, M1, B1, K1⟩ := mrec M B
      obtain ⟨h2, A2, e2, M2, B2, K2⟩ := B1.put M1 (i := 94) (by omega) a
      obtain ⟨h3, A3, e3, M3, B3, K3⟩ := B2.put M2 (i := 95) (by omega) b
      have bt : ∀ i : Nat, i < a.toNat → (i32 b >>> (i32 (i : Int) &&& 31)) &&& 1 = i32 (if b.toNat.testBit i = true then 1 else 0 : Nat) := fun i hi => by
        have e1 : i32 b = nI b.toNat := by rw [nI_i32]; congr 1; omega
        rw [e1, show i32 (i : Int) = nI i from rfl, shr_ok (by omega) (by omega), and1_ok, nI_i32, Nat.testBit_eq_decide_div_mod_eq, Nat.shiftRight_eq_div_pow]
        congr 2
        by_cases w : b.toNat / 2 ^ i % 2 = 1
        · rw [decide_eq_true w, if_pos rfl]; exact w
        · rw [decide_eq_false w, if_neg Bool.false_ne_true]; omega
      have r := xl_run (fX9_setDisc_B52 h3 (i32 a) (i32 b)) (fun i => (i32 (cnt (fun j => b.toNat.testBit j) i : Nat), i32 (i : Nat))) a.toNat (i32 (cnt (fun j => b.toNat.testBit j) a.toNat : Nat)) (fun i hi => by
        unfold fX9_setDisc_B52 fX9_setDisc_b52
        rw [ile_f (by omega)]
        dsimp only
        rw [bt i hi, i32_add, L_1, i32_add]
        rfl) (by
        unfold fX9_setDisc_B52 fX9_setDisc_b52
        rw [ile_t (by omega)]) 5000 (by omega)
      have r2 : xloop (fX9_setDisc_B52 h3 (i32 a) (i32 b)) 5000 (i32 0, i32 0) = some (i32 (cnt (fun j => b.toNat.testBit j) a.toNat : Nat)) := r
      have cz : cnt (fun j => b.toNat.testBit j) a.toNat = bc b.toNat := by
        unfold bc
        have : (32 : Nat) = a.toNat + (32 - a.toNat) := by omega
        rw [this, cnt_add, cnt_no (P := fun i => b.toNat.testBit (a.toNat + i)) (fun i _ => by
          apply Nat.testBit_lt_two_pow
          have p2 : (2 : Nat) ^ a.toNat ≤ 2 ^ (a.toNat + i) := Nat.pow_le_pow_right (by decide) (by omega)
          omega), Nat.add_zero]
      rw [obb M.c, obb e1, L_94, L_95, obb M1.r0, obb e2, obb M2.r0, obb e3, obb r2, cz]
      exact ⟨h3, A3, S1, rfl, M3, B3, K1.tr (K2.tr K3)⟩
    · rw [if_neg q2, if_neg q2]; exact ⟨h, A, S, rfl, M, Kp.rf A S⟩
  · rw [if_neg q, if_neg q]; exact ⟨h, A, S, rfl, M, Kp.rf A S⟩
