theorem VP.hi {p p' : Nat → Int} (hV : VP p) (e : ∀ i, i < 74 → p' i = p i) (r : (0 ≤ p' 74 ∧ p' 74 ≤ 1000) ∧ (1 ≤ p' 75 ∧ p' 75 ≤ 500) ∧ (0 ≤ p' 76 ∧ p' 76 ≤ 8) ∧ (∀ k : Nat, (k : Int) < p' 76 → (1 ≤ p' (77 + 2 * k) ∧ p' (77 + 2 * k) ≤ 500) ∧ (-30 ≤ p' (78 + 2 * k) ∧ p' (78 + 2 * k) ≤ 30)) ∧ (1 ≤ p' 93 ∧ p' 93 ≤ 1000) ∧ (1 ≤ p' 94 ∧ p' 94 ≤ 30) ∧ (0 ≤ p' 95 ∧ p' 95 < 2 ^ (p' 94).toNat) ∧ (0 ≤ p' 96 ∧ p' 96 ≤ 29) ∧ (-1000 ≤ p' 97 ∧ p' 97 ≤ 1000)) : VP p' := by
  have h63 := hV.ch
  obtain ⟨a, b, c, d1, d2, d3, d4, -⟩ := hV
  refine ⟨by rw [e 0 (by omega)]; exact a, fun k hk => by rw [e _ (by omega)]; exact b k hk, by rw [e 61 (by omega)]; exact c, by rw [e 62 (by omega)]; exact d1, by rw [e 63 (by omega)]; exact d2, fun k hk => ?_, fun j k h1 h2 => ?_, r⟩
  · rw [e 63 (by omega)] at hk
    rw [e _ (by omega), e _ (by omega)]; exact d3 k hk
  · rw [e 63 (by omega)] at h2
    rw [e _ (by omega), e _ (by omega)]; exact d4 j k h1 h2
theorem VP.lo {p : Nat → Int} (hV : VP p) : (0 ≤ p 74 ∧ p 74 ≤ 1000) ∧ (1 ≤ p 75 ∧ p 75 ≤ 500) ∧ (0 ≤ p 76 ∧ p 76 ≤ 8) ∧ (∀ k : Nat, (k : Int) < p 76 → (1 ≤ p (77 + 2 * k) ∧ p (77 + 2 * k) ≤ 500) ∧ (-30 ≤ p (78 + 2 * k) ∧ p (78 + 2 * k) ≤ 30)) ∧ (1 ≤ p 93 ∧ p 93 ≤ 1000) ∧ (1 ≤ p 94 ∧ p 94 ≤ 30) ∧ (0 ≤ p 95 ∧ p 95 < 2 ^ (p 94).toNat) ∧ (0 ≤ p 96 ∧ p 96 ≤ 29) ∧ (-1000 ≤ p 97 ∧ p 97 ≤ 1000) := by
  obtain ⟨-, -, -, -, -, -, -, r⟩ := hV
  exact r
/-- the flash -/
def fl2 (p : Nat → Int) (a b : Int) : Nat → Int := pu (pu p 74 a) 75 b
noncomputable def oFlash (p : Nat → Int) (a b : Int) : Int × Option (Nat → Int) := if isT a = true then (if 1 ≤ b ∧ b ≤ 500 then (nfl (fl2 p a b), some (fl2 p a b)) else (-1001, none)) else (-1001, none)
theorem vFl {p : Nat → Int} (hV : VP p) {a b : Int} (q1 : 0 ≤ a ∧ a ≤ 1000) (q2 : 1 ≤ b ∧ b ≤ 500) : VP (fl2 p a b) := by
  have e : ∀ i, i ≠ 74 → i ≠ 75 → fl2 p a b i = p i := fun i h1 h2 => by unfold fl2; rw [pu_n _ _ h2, pu_n _ _ h1]
  obtain ⟨r1, r2, r3, r4, r5⟩ := hV.lo
  refine hV.hi (fun i hi => e i (by omega) (by omega)) ⟨q1, q2, r3, fun k hk => ?_, r5⟩
  rw [e _ (by omega) (by omega), e _ (by omega) (by omega)]
  exact r4 k hk
theorem vFlash {p : Nat → Int} (hV : VP p) (a b : Int) : VO (oFlash p a b).2 := by
  unfold oFlash
  split
  · rename_i q1
    simp only [isT, decide_eq_true_eq] at q1
    split
    · rename_i q2
      exact VO.so (vFl hV q1 q2)
    · exact VO.no
  · exact VO.no
theorem cFlashW {h : XH} {p : Nat → Int} {P : Nat → Nat → Int} {bk nx : Nat} (N : NowAt h p) (H : HiAt h P bk nx) (hV : VP p) {a b : Int} (ha : -2147483648 ≤ a ∧ a < 2147483648) (hb : -2147483648 ≤ b ∧ b < 2147483648) : CW h p P bk (oFlash p a b).1 (oFlash p a b).2 (fX8_setFlash h 0 (i32 a) (i32 b)) := by
  unfold fX8_setFlash oFlash
  rw [obb (ctick ha)]
  by_cases q : isT a = true
  · rw [if_pos q, if_pos q, L_1, L_500, obb (within_ok hb (by omega) (by omega))]
    simp only [decide_eq_true_eq]
    by_cases q2 : 1 ≤ b ∧ b ≤ 500
    · rw [if_pos q2, if_pos q2]
      have q1 := q
      simp only [isT, decide_eq_true_eq] at q1
      obtain ⟨h1, e1, N1, H1, u1⟩ := crem N H
      obtain ⟨h2, e2, a2, u2⟩ := pfw N1.f 0 (.int (i32 a)) (Nat.le_of_ble_eq_true rfl)
      have N2 : NowAt h2 (pu p 74 a) := N1.fl a2 u2 (fun i hi => pu_n _ _ (by omega))
      obtain ⟨h3, e3, a3, u3⟩ := pfw a2 1 (.int (i32 b)) (Nat.le_of_ble_eq_true rfl)
      have N3 : NowAt h3 (fl2 p a b) := N2.fl a3 u3 (fun i hi => pu_n _ _ (by omega))
      rw [obb (r_1 N), obb N.n, obb (h_c H), obb e1, obb N1.n, obb N1.n1, obb e2, obb N2.n, obb N2.n1, obb e3, obb N3.n, obb N3.n1, obb N3.f.c, obb (cnfl N3.f (vFl hV q1 q2))]
      exact ⟨h3, _, rfl, N3, H1.fr (fun x hx => (u3 x (by omega)).trans (u2 x (by omega))), fun x hx => (u3 x (by omega)).trans ((u2 x (by omega)).trans (u1 x (by omega)))⟩
    · rw [if_neg q2, if_neg q2]; rfl
  · rw [if_neg q, if_neg q]; rfl
/-- the disc turned -/
def td2 (p : Nat → Int) (a b : Int) : Nat → Int := pu (pu p 96 a) 97 b
def oTurn (p : Nat → Int) (a b : Int) : Int × Option (Nat → Int) := if 0 ≤ a ∧ a ≤ 29 then (if -1000 ≤ b ∧ b ≤ 1000 then (p 97, some (td2 p a b)) else (-1001, none)) else (-1001, none)
theorem vTurn {p : Nat → Int} (hV : VP p) (a b : Int) : VO (oTurn p a b).2 := by
  unfold oTurn
  split
  · rename_i q1
    split
    · rename_i q2
      have e : ∀ i, i ≠ 96 → i ≠ 97 → td2 p a b i = p i := fun i h1 h2 => by unfold td2; rw [pu_n _ _ h2, pu_n _ _ h1]
      obtain ⟨r1, r2, r3, r4, r5, r6, r7, -⟩ := hV.lo
      refine VO.so (hV.hi (fun i hi => e i (by omega) (by omega)) ⟨r1, r2, r3, fun k hk => ?_, r5, r6, r7, q1, q2⟩)
      have e76 : td2 p a b 76 = p 76 := rfl
      rw [e76] at hk
      rw [e _ (by omega) (by omega), e _ (by omega) (by omega)]
      exact r4 k hk
    · exact VO.no
  · exact VO.no
/-- the disc set -/
def sd2 (p : Nat → Int) (a b : Int) : Nat → Int := pu (pu p 94 a) 95 b
noncomputable def oDisc (p : Nat → Int) (a b : Int) : Int × Option (Nat → Int) := if 1 ≤ a ∧ a ≤ 30 then (if 0 ≤ b ∧ b ≤ 2 ^ a.toNat - 1 then ((bc b.toNat : Int), some (sd2 p a b)) else (-1001, none)) else (-1001, none)
theorem vDisc {p : Nat → Int} (hV : VP p) (a b : Int) : VO (oDisc p a b).2 := by
  unfold oDisc
  split
  · rename_i q1
    split
    · rename_i q2
      have e : ∀ i, i ≠ 94 → i ≠ 95 → sd2 p a b i = p i := fun i h1 h2 => by unfold sd2; rw [pu_n _ _ h2, pu_n _ _ h1]
      obtain ⟨r1, r2, r3, r4, r5, r6, r7, r8⟩ := hV.lo
      refine VO.so (hV.hi (fun i hi => e i (by omega) (by omega)) ⟨r1, r2, r3, fun k hk => ?_, r5, q1, ?_, r8⟩)
      · have e76 : sd2 p a b 76 = p 76 := rfl
        rw [e76] at hk
        rw [e _ (by omega) (by omega), e _ (by omega) (by omega)]
        exact r4 k hk
      · show 0 ≤ b ∧ b < 2 ^ a.toNat
        omega
    · exact VO.no
  · exact VO.no
theorem shl1 : ∀ k : Nat, k < 31 → ((1 : Int32) <<< (i32 (k : Int) &&& 31)) - 1 = i32 ((2 ^ k : Nat) - 1 : Int) := by decide +kernel
theorem pw30 {a : Nat} (h : a ≤ 30) : ((2 : Int) ^ a = ((2 ^ a : Nat) : Int)) ∧ 1 ≤ (2 : Nat) ^ a ∧ (2 : Nat) ^ a ≤ 1073741824 := ⟨by norm_cast, Nat.one_le_two_pow, by
  have : (2 : Nat) ^ a ≤ 2 ^ 30 := Nat.pow_le_pow_right (by decide) h
  have c : (2 : Nat) ^ 30 = 1073741824 := by decide
  omega⟩
theorem shl_ok {a : Int} (ha : 1 ≤ a ∧ a ≤ 30) : ((1 : Int32) <<< (i32 a &&& 31)) - 1 = i32 (2 ^ a.toNat - 1) := by
  have e := shl1 a.toNat (by omega)
  rw [show ((a.toNat : Nat) : Int) = a by omega] at e
  rw [e, (pw30 (a := a.toNat) (by omega)).1]
