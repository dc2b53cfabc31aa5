/-! the law's readings -/
theorem msr_sw {p p' : Nat → Int} (V : VP p) (V' : VP p') (e : ∀ i, i ≤ 60 → p' i = p i) : msr p' = msr p := by
  have n0 := V.n
  obtain ⟨a1, a2, a3, a4⟩ := msr_ok V
  obtain ⟨b1, b2, b3, b4⟩ := msr_ok V'
  rw [e 0 (by omega)] at b2 b3 b4
  have key : ∀ t, cyc (p 0).toNat (fun i => p' (1 + i)) t ↔ cyc (p 0).toNat (fun i => p (1 + i)) t := by
    intro t
    unfold cyc
    constructor
    · intro h i hi
      have m : (i + t) % (p 0).toNat < (p 0).toNat := Nat.mod_lt _ (by omega)
      have := h i hi
      dsimp only at this ⊢
      rw [e _ (by omega), e _ (by omega)] at this
      exact this
    · intro h i hi
      have m : (i + t) % (p 0).toNat < (p 0).toNat := Nat.mod_lt _ (by omega)
      have := h i hi
      dsimp only at this ⊢
      rw [e _ (by omega), e _ (by omega)]
      exact this
  rcases Nat.lt_trichotomy (msr p') (msr p) with q | q | q
  · exact absurd ((key _).mp b3) (a4 _ b1 q)
  · exact q
  · exact absurd ((key _).mpr a3) (b4 _ a1 q)
section
variable {h : XH} {p : Nat → Int}
theorem lJ447 (R : RX h p) : ∃ h', fL_readings_J447 h 105 0 (i32 (nc p (-1) : Nat)) (i32 (fst1 p (p 76).toNat 0)) true = some (true, h') := by
  have V := R.V
  have n := nc_le V (-1)
  obtain ⟨h', e, R', u⟩ := R.op (cOdd R.N V R.ca)
  refine ⟨h', ?_⟩
  unfold fL_readings_J447 fL_readings_J471
  rw [if_pos rfl, obb R.c, obb e, L_0, cle (by omega), L_m1002]
  unfold aOdd
  by_cases q : nc p (-1) = 0
  · rw [if_pos (by omega), if_pos q, if_pos rfl]
  · rw [if_neg (by omega), if_neg q, if_pos rfl]
theorem lJ20 (R : RX h p) {K : Int} (hK : 1 ≤ K ∧ K ≤ 200) (g : Int32) : ∃ h', fL_readings_J20 h 105 0 (i32 (msr p)) g (1 : Int32) g (i32 K) = some (true, h') := by
  obtain ⟨r3, e3, b3⟩ := low_ok g (n := K) (by omega)
  obtain ⟨r8, e8, b8⟩ := low_ok (g >>> ((9 : Int32) &&& 31)) (n := 2001) (by omega)
  obtain ⟨r12, e12, b12⟩ := low_ok (g >>> ((5 : Int32) &&& 31)) (n := 20) (by omega)
  have e8' : fL_low (g >>> ((9 : Int32) &&& 31)) (2001 : Int32) = some (i32 r8) := e8
  rw [← L_20] at e12
  have c3 : (1 : Int32) + i32 r3 = i32 (1 + r3) := by rw [L_1, i32_add]
  have c12 : (1 : Int32) + i32 r12 = i32 (1 + r12) := by rw [L_1, i32_add]
  have c8 : i32 r8 - (1000 : Int32) = i32 (r8 - 1000) := by rw [L_1000, i32_sub]
  obtain ⟨h1, e1, R1, u1⟩ := R.lim (z := 1 + r3) (by omega)
  have ms : msr (pu p 93 (1 + r3)) = msr p := msr_sw R.V R1.V (fun i hi => pu_n _ _ (by omega))
  have p93 : pu p 93 (1 + r3) 93 = 1 + r3 := pu_s _ _ _
  generalize pu p 93 (1 + r3) = q at *
  obtain ⟨h2, e2, A2, u2⟩ := nwu h1 105 (.inr (0, 60, .inl (fun _ => 0)))
  have R2 : RX h2 q := R1.re (fun x hx => u2 x (by omega))
  have V := R2.V
  generalize hper : 1 + r12 = per at *
  generalize hw : r8 - 1000 = w at *
  obtain ⟨h3, e4, R3, u3⟩ := lall84 R2 A2 (per := per) (w := w) (by omega) (by omega)
  obtain ⟨h4, e5, R4, u4⟩ := R3.op (cCands R3.N V R3.ca)
  have n := nc_le V (-1)
  obtain ⟨h5, e6, R5, u5⟩ := R4.op (cCand R4.N V R4.ca (z := (nc q (-1) : Nat)) (by omega))
  have ac : aCand q (nc q (-1) : Nat) = -1004 := by
    unfold aCand
    rw [if_pos (by omega), if_neg (by omega)]
  rw [ac] at e6
  obtain ⟨h6, e7, R6, u6⟩ := R5.op (cNear R5.N V R5.ca (w := w) (by omega))
  obtain ⟨h7, e9, R7, u7⟩ := lodd R6 (i32 per) (i32 (rst q per : Nat))
  obtain ⟨h8, e10, R8, u8⟩ := R7.op (cBest R7.N V R7.ca (z := per) (by omega) false)
  obtain ⟨h9, e11, R9, u9⟩ := R8.op (cBest R8.N V R8.ca (z := per) (by omega) true)
  obtain ⟨h10, e13⟩ := lJ447 R9
  have c9 : i32 (q 76) - (1 : Int32) = i32 (q 76 - 1) := by rw [L_1, i32_sub]
  refine ⟨h10, ?_⟩
  rw [← ms]
  unfold fL_readings_J20
  rw [obb e3, c3, obb R.c, obb e1, obb e8', obb e2, obb e12, c8, c12, i32_neg, ← p93, obb e4]
  dsimp only
  rw [obb R3.c, obb e5]
  dsimp only
  rw [if_pos rfl, obb R4.c, obb e6]
  dsimp only
  rw [L_m1004, if_pos rfl, obb R5.c, obb e7]
  dsimp only
  rw [if_pos rfl, obb R6.c, obb R6.n9, c9, obb e9]
  dsimp only
  rw [obb R7.c, obb e10, obb R8.c, obb e11]
  dsimp only
  have rb := rst_le V per
  by_cases z : nc q (-1) = 0
  · have ab : ∀ b, aBest q per b = -1004 := fun b => by
      unfold aBest
      rw [if_pos (by omega), if_pos z]
    rw [ab, ab, if_pos (show i32 (nc q (-1) : Nat) = 0 by rw [z]; rfl), if_pos rfl, if_pos rfl]
    exact e13
  · obtain ⟨k1, k2, k3⟩ := bp_ok V (per - 1).toNat
    have a1 : aBest q per false = ((bp q (per - 1).toNat).1 : Nat) := by
      unfold aBest
      rw [if_pos (by omega), if_neg z, if_neg Bool.false_ne_true]
    have a2 : aBest q per true = ((bp q (per - 1).toNat).2 : Nat) := by
      unfold aBest
      rw [if_pos (by omega), if_neg z, if_pos rfl]
    have k4 := k3 per.toNat (by omega) (by omega)
    rw [show ((per.toNat : Nat) : Int) = per by omega] at k4
    have k5 := rst_pos V z ((bp q (per - 1).toNat).1 : Nat)
    rw [← k2] at k5
    rw [a1, a2, if_neg (show ¬ i32 (nc q (-1) : Nat) = 0 by rw [L_0, i32_eq (by omega)]; omega), L_1, ilt_f (by omega), ilt_f (by omega), ilt_f (by omega), ilt_f (by omega), ceq (by omega)]
    unfold fL_readings_J442
    by_cases y : ((bp q (per - 1).toNat).1 : Int) = per
    · rw [y] at k2
      rw [if_pos y, k2, if_pos rfl]
      exact e13
    · rw [if_neg y]
      exact e13
theorem lreadings (R : RX h p) (g : Int32) : ∃ h', fL_readings h 105 0 (i32 (msr p)) g = some (true, h') := by
  obtain ⟨v, ev, -⟩ := low_ok (g >>> ((4 : Int32) &&& 31)) (n := 3) (by omega)
  rw [← L_3] at ev
  unfold fL_readings
  rw [obb ev]
  split
  · exact lJ20 R (K := 200) (by omega) g
  · exact lJ20 R (K := 40) (by omega) g
end
