/-! count -/
noncomputable def mk (p : Nat → Int) : Nat := cnt (fun q => decide (0 < p (1 + q))) (p 0).toNat
theorem cmarked {h : XH} {p : Nat → Int} (H : NowAt h p) (hV : VP p) : fX6_markedCells h 2 = some (i32 (mk p : Nat)) := by
  have hn := hV.n
  unfold fX6_markedCells
  have r := xl_run (fX6_markedCells_B4 h 2) (fun k => (i32 (cnt (fun q => decide (0 < p (1 + q))) k : Nat), i32 (k : Nat))) (p 0).toNat (i32 (mk p : Nat)) (fun k hk => by
    have m := hV.mk k (by omega)
    unfold fX6_markedCells_B4 fX6_markedCells_b4
    rw [obb H.w.i3, ile_f (by omega), obb H.w.c, obb (cMarkOf H hV (by omega)), Int.toNat_natCast, L_0, ceq (by omega)]
    simp only [cnt, decide_eq_true_eq, L_1, i32_add]
    by_cases q : p (1 + k) = 0
    · rw [if_pos q, if_neg (by omega)]; rfl
    · rw [if_neg q, if_pos (by omega)]; rfl) (by
    unfold fX6_markedCells_B4 fX6_markedCells_b4
    rw [obb H.w.i3, ile_t (by omega)]
    rfl) 5000 (by omega)
  have r2 : xloop (fX6_markedCells_B4 h 2) 5000 (0, 0) = some (i32 (mk p : Nat)) := r
  rw [obb r2]
noncomputable def aCount (p : Nat → Int) (tl bk w : Int) : Int := if w = 0 then p 0 else if w = 1 then (mk p : Int) else if w = 2 then (msr p : Int) else if w = 3 then p 61 else if w = 4 then p 62 else if w = 5 then p 63 else if w = 6 then p 74 else if w = 7 then p 75 else if w = 8 then nfl p else if w = 9 then p 76 else if w = 10 then p 93 else if w = 11 then p 94 else if w = 12 then p 95 else if w = 13 then p 96 else if w = 14 then p 97 else if w = 15 then (nop p : Int) else if w = 16 then tl else if w = 17 then bk else -1001
theorem cCount {h : XH} {p : Nat → Int} (H : NowAt h p) (hV : VP p) {tl bk w : Int} (hT : xgI h 93 7 2 = some (i32 tl)) (hB : xgI h 11 3 2 = some (i32 bk)) (hw : -2147483648 ≤ w ∧ w < 2147483648) : fX8_count h 0 (i32 w) = some (i32 (aCount p tl bk w)) := by
  have R1 : xgR h 0 8 1 = some 11 := gR H.1 1 rfl
  have R2 : xgR h 0 8 2 = some 93 := gR H.1 2 rfl
  unfold fX8_count aCount
  rw [L_17, L_16, L_15, L_14, L_13, L_12, L_11, L_10, L_9, L_8, L_7, L_6, L_5, L_4, L_3, L_2, L_1, L_0]
  rw [ceq (by omega)]
  by_cases q0 : w = 0
  · rw [if_pos q0, if_pos q0, obb H.n, obb H.n0, obb H.w.i3]
  rw [if_neg q0, if_neg q0]
  rw [ceq (by omega)]
  by_cases q1 : w = 1
  · rw [if_pos q1, if_pos q1, obb H.n, obb H.n0, obb H.w.c, obb (cmarked H hV)]
  rw [if_neg q1, if_neg q1]
  rw [ceq (by omega)]
  by_cases q2 : w = 2
  · rw [if_pos q2, if_pos q2, obb H.n, obb H.n0, obb H.w.c, obb (cmsr_ok H.w hV)]
  rw [if_neg q2, if_neg q2]
  rw [ceq (by omega)]
  by_cases q3 : w = 3
  · rw [if_pos q3, if_pos q3, obb H.n, obb H.n0, obb H.w.i4]
  rw [if_neg q3, if_neg q3]
  rw [ceq (by omega)]
  by_cases q4 : w = 4
  · rw [if_pos q4, if_pos q4, obb H.n, obb H.n0, obb H.w.i5]
  rw [if_neg q4, if_neg q4]
  rw [ceq (by omega)]
  by_cases q5 : w = 5
  · rw [if_pos q5, if_pos q5, obb H.n, obb H.n0, obb H.w.i6]
  rw [if_neg q5, if_neg q5]
  rw [ceq (by omega)]
  by_cases q6 : w = 6
  · rw [if_pos q6, if_pos q6, obb H.n, obb H.n1, obb H.f.i0]
  rw [if_neg q6, if_neg q6]
  rw [ceq (by omega)]
  by_cases q7 : w = 7
  · rw [if_pos q7, if_pos q7, obb H.n, obb H.n1, obb H.f.i1]
  rw [if_neg q7, if_neg q7]
  rw [ceq (by omega)]
  by_cases q8 : w = 8
  · rw [if_pos q8, if_pos q8, obb H.n, obb H.n1, obb H.f.c, obb (cnfl H.f hV)]
  rw [if_neg q8, if_neg q8]
  rw [ceq (by omega)]
  by_cases q9 : w = 9
  · rw [if_pos q9, if_pos q9, obb H.n, obb H.n2, obb H.rd.i2]
  rw [if_neg q9, if_neg q9]
  rw [ceq (by omega)]
  by_cases q10 : w = 10
  · rw [if_pos q10, if_pos q10, obb H.n, obb H.n2, obb H.rd.i3]
  rw [if_neg q10, if_neg q10]
  rw [ceq (by omega)]
  by_cases q11 : w = 11
  · rw [if_pos q11, if_pos q11, obb H.n, obb H.n3, obb H.d.i0]
  rw [if_neg q11, if_neg q11]
  rw [ceq (by omega)]
  by_cases q12 : w = 12
  · rw [if_pos q12, if_pos q12, obb H.n, obb H.n3, obb H.d.i1]
  rw [if_neg q12, if_neg q12]
  rw [ceq (by omega)]
  by_cases q13 : w = 13
  · rw [if_pos q13, if_pos q13, obb H.n, obb H.n3, obb H.d.i2]
  rw [if_neg q13, if_neg q13]
  rw [ceq (by omega)]
  by_cases q14 : w = 14
  · rw [if_pos q14, if_pos q14, obb H.n, obb H.n3, obb H.d.i3]
  rw [if_neg q14, if_neg q14]
  rw [ceq (by omega)]
  by_cases q15 : w = 15
  · rw [if_pos q15, if_pos q15, obb H.n, obb H.n3, obb H.d.c, obb (copenings H.d hV)]
  rw [if_neg q15, if_neg q15]
  rw [ceq (by omega)]
  by_cases q16 : w = 16
  · rw [if_pos q16, if_pos q16, obb R2, obb hT]
  rw [if_neg q16, if_neg q16]
  rw [ceq (by omega)]
  by_cases q17 : w = 17
  · rw [if_pos q17, if_pos q17, obb R1, obb hB]
  rw [if_neg q17, if_neg q17]
  rfl
