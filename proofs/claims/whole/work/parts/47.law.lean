/-! a step of the law -/
theorem xsc_ok {N0 : Nat} {xs : Nat → Int32} {k : Nat} (hN : N0 ≤ 1536) (hk : k < N0) : xsc N0 xs (i32 (k : Nat)) = some (xs k) := by
  unfold xsc
  rw [if_pos (bnd_ok (i := (k : Int)) (n := N0) (by omega) (by omega)), i32_clamp (by omega), Int.toNat_natCast]
theorem law_step {N0 : Nat} {xs : Nat → Int32} (hN : N0 ≤ 1536) {i : Nat} (hi : 3 * i + 3 ≤ N0) {h : XH} (R : REL h) : ∃ h', fL_law_B18 N0 xs 0 102 (h, i32 ((3 * i : Nat) : Int)) = some (.inl (h', i32 ((3 * (i + 1) : Nat) : Int))) ∧ REL h' := by
  obtain ⟨p, P, bk, T, tl, fk, Z, hV, hP, hT, hf, C, M⟩ := R
  obtain ⟨a, a1, a2, ea⟩ := i32_ex (xs (3 * i + 1))
  obtain ⟨b, b1, b2, eb⟩ := i32_ex (xs (3 * i + 2))
  have x0 : xsc N0 xs (i32 ((3 * i : Nat) : Int)) = some (xs (3 * i)) := xsc_ok hN (by omega)
  have x1 : xsc N0 xs (i32 ((3 * i : Nat) : Int) + 1) = some (i32 a) := by
    rw [L_1, i32_add, ← ea]
    exact xsc_ok (k := 3 * i + 1) hN (by omega)
  have x2 : xsc N0 xs (i32 ((3 * i : Nat) : Int) + 2) = some (i32 b) := by
    rw [L_2, i32_add, ← eb]
    exact xsc_ok (k := 3 * i + 2) hN (by omega)
  have nx3 : i32 ((3 * i : Nat) : Int) + 3 = i32 ((3 * (i + 1) : Nat) : Int) := by
    rw [L_3, i32_add]
    congr 1
  have c0 : ¬ (Int32.ofNat N0 - 3 < i32 ((3 * i : Nat) : Int)) := by
    have e : Int32.ofNat N0 = i32 (N0 : Nat) := rfl
    rw [e, L_3, i32_sub, i32_lt (by omega)]
    omega
  have N := C.1
  obtain ⟨nx, H⟩ := C.2.1
  have CS := C.2.2.2.2
  unfold fL_law_B18 fL_law_b18
  dsimp only
  rw [if_neg c0, obb x0, nx3]
  generalize xs (3 * i) &&& 63 = w
  by_cases q0 : w = 0
  · rw [if_pos q0]
    obtain ⟨r, h1, h2, e1, mc, e2, R2⟩ := fin_type hV hP hT hf C M (z := a) ⟨a1, a2⟩
    rw [obb x1, obb N.c, obb e1, obb x1, obb mc, obb e2, if_pos rfl]
    exact ⟨h2, rfl, R2⟩
  rw [if_neg q0]
  by_cases q1 : w = 1
  · rw [if_pos q1]
    obtain ⟨r, h1, h2, e1, mc, e2, R2⟩ := fin_clear hV hP hT hf C M
    rw [obb N.c, obb e1, obb mc, obb e2, if_pos rfl]
    exact ⟨h2, rfl, R2⟩
  rw [if_neg q1]
  by_cases q2 : w = 2
  · rw [if_pos q2]
    obtain ⟨r, h1, h2, e1, mc, e2, R2⟩ := fin_load hV hP hT C M
    rw [obb N.c, obb e1, obb mc, obb e2, if_pos rfl]
    exact ⟨h2, rfl, R2⟩
  rw [if_neg q2]
  by_cases q3 : w = 3
  · rw [if_pos q3]
    obtain ⟨e1, e2⟩ := fin_fk C M
    rw [obb N.c, obb e1, obb M.c, obb e2, if_pos rfl]
    exact ⟨h, rfl, p, P, bk, T, tl, fk, Z, hV, hP, hT, hf, C, M⟩
  rw [if_neg q3]
  by_cases q4 : w = 4
  · rw [if_pos q4]
    obtain ⟨h1, h2, e1, mc, e2, R2⟩ := fin_w hV hP hT hf C M (o := oMark p a b) (vMark hV a b) (cMarkW N H hV ⟨a1, a2⟩ ⟨b1, b2⟩) (res2 := fun h1 => fX9_setMark h1 102 (i32 a) (i32 b)) (fun h1 A S m B => mMarkW m B hV ⟨a1, a2⟩ ⟨b1, b2⟩)
    have e2' : fX9_setMark h1 102 (i32 a) (i32 b) = some (_, h2) := e2
    rw [obb x1, obb x2, obb N.c, obb e1, obb x1, obb x2, obb mc, obb e2', if_pos rfl]
    exact ⟨h2, rfl, R2⟩
  rw [if_neg q4]
  by_cases q5 : w = 5
  · rw [if_pos q5]
    obtain ⟨h1, h2, e1, mc, e2, R2⟩ := fin_w hV hP hT hf C M (o := oStart p a) (vStart hV a) (cStart N H ⟨a1, a2⟩) (res2 := fun h1 => fX9_setStart h1 102 (i32 a)) (fun h1 A S m B => mStart m B ⟨a1, a2⟩)
    have e2' : fX9_setStart h1 102 (i32 a) = some (_, h2) := e2
    rw [obb x1, obb N.c, obb e1, obb x1, obb mc, obb e2', if_pos rfl]
    exact ⟨h2, rfl, R2⟩
  rw [if_neg q5]
  by_cases q6 : w = 6
  · rw [if_pos q6]
    obtain ⟨h1, h2, e1, mc, e2, R2⟩ := fin_w hV hP hT hf C M (o := oSpeed p a b) (vSpeed hV a b) (cSpeedW N H hV ⟨a1, a2⟩ ⟨b1, b2⟩) (res2 := fun h1 => fX9_setSpeed h1 102 (i32 a) (i32 b)) (fun h1 A S m B => mSpeedW m B hV ⟨a1, a2⟩ ⟨b1, b2⟩)
    have e2' : fX9_setSpeed h1 102 (i32 a) (i32 b) = some (_, h2) := e2
    rw [obb x1, obb x2, obb N.c, obb e1, obb x1, obb x2, obb mc, obb e2', if_pos rfl]
    exact ⟨h2, rfl, R2⟩
  rw [if_neg q6]
  by_cases q7 : w = 7
  · rw [if_pos q7]
    obtain ⟨h1, h2, e1, mc, e2, R2⟩ := fin_w hV hP hT hf C M (o := oDropC p a) (vDropC hV a) (cDropC N H hV ⟨a1, a2⟩) (res2 := fun h1 => fX9_dropChange h1 102 (i32 a)) (fun h1 A S m B => mDropC m B hV ⟨a1, a2⟩)
    have e2' : fX9_dropChange h1 102 (i32 a) = some (_, h2) := e2
    rw [obb x1, obb N.c, obb e1, obb x1, obb mc, obb e2', if_pos rfl]
    exact ⟨h2, rfl, R2⟩
  rw [if_neg q7]
  by_cases q8 : w = 8
  · rw [if_pos q8]
    have e1 := cMark N hV (z := a) (q := b) ⟨a1, a2⟩ ⟨b1, b2⟩
    obtain ⟨h2, e2, R2⟩ := fin_p hV hP hT hf C M (fun A S m G s5 s1 => mMark m G hV (z := a) (q := b) ⟨a1, a2⟩ ⟨b1, b2⟩)
    rw [obb x1, obb x2, obb N.c, obb e1, obb x1, obb x2, obb M.c, obb e2, if_pos rfl]
    exact ⟨h2, rfl, R2⟩
  rw [if_neg q8]
  by_cases q9 : w = 9
  · rw [if_pos q9]
    have e1 := cTurn N hV (z := a) ⟨a1, a2⟩
    obtain ⟨h2, e2, R2⟩ := fin_p hV hP hT hf C M (fun A S m G s5 s1 => mTurn m G hV (z := a) ⟨a1, a2⟩)
    rw [obb x1, obb N.c, obb e1, obb x1, obb M.c, obb e2, if_pos rfl]
    exact ⟨h2, rfl, R2⟩
  rw [if_neg q9]
  by_cases q10 : w = 10
  · rw [if_pos q10]
    obtain ⟨h1, h2, e1, mc, e2, R2⟩ := fin_w hV hP hT hf C M (o := oFlash p a b) (vFlash hV a b) (cFlashW N H hV ⟨a1, a2⟩ ⟨b1, b2⟩) (res2 := fun h1 => fX9_setFlash h1 102 (i32 a) (i32 b)) (fun h1 A S m B => mFlashW m B hV ⟨a1, a2⟩ ⟨b1, b2⟩)
    have e2' : fX9_setFlash h1 102 (i32 a) (i32 b) = some (_, h2) := e2
    rw [obb x1, obb x2, obb N.c, obb e1, obb x1, obb x2, obb mc, obb e2', if_pos rfl]
    exact ⟨h2, rfl, R2⟩
  rw [if_neg q10]
  by_cases q11 : w = 11
  · rw [if_pos q11]
    have e1 := cFlash N hV (z := a) (w := b) ⟨a1, a2⟩ ⟨b1, b2⟩
    obtain ⟨h2, e2, R2⟩ := fin_p hV hP hT hf C M (fun A S m G s5 s1 => mFlash m G hV (z := a) (w := b) ⟨a1, a2⟩ ⟨b1, b2⟩)
    rw [obb x1, obb x2, obb N.c, obb e1, obb x1, obb x2, obb M.c, obb e2, if_pos rfl]
    exact ⟨h2, rfl, R2⟩
  rw [if_neg q11]
  by_cases q12 : w = 12
  · rw [if_pos q12]
    have e1 := cStep N hV (a := a) (b := b) ⟨a1, a2⟩ ⟨b1, b2⟩
    obtain ⟨h2, e2, R2⟩ := fin_p hV hP hT hf C M (fun A S m G s5 s1 => mStep m G hV (a := a) (b := b) ⟨a1, a2⟩ ⟨b1, b2⟩)
    rw [obb x1, obb x2, obb N.c, obb e1, obb x1, obb x2, obb M.c, obb e2, if_pos rfl]
    exact ⟨h2, rfl, R2⟩
  rw [if_neg q12]
  by_cases q13 : w = 13
  · rw [if_pos q13]
    have e1 := cSeems N hV (w := a) ⟨a1, a2⟩
    obtain ⟨h2, e2, R2⟩ := fin_p hV hP hT hf C M (fun A S m G s5 s1 => mSeems m G hV (w := a) ⟨a1, a2⟩)
    rw [obb x1, obb N.c, obb e1, obb x1, obb M.c, obb e2, if_pos rfl]
    exact ⟨h2, rfl, R2⟩
  rw [if_neg q13]
  by_cases q14 : w = 14
  · rw [if_pos q14]
    have e1 := cStill N hV (a := a) (b := b) ⟨a1, a2⟩ ⟨b1, b2⟩
    have e2 : fX9_stillPeriod h 102 (i32 a) (i32 b) = some (i32 (aStill p a b)) := by
      obtain ⟨A, S, m, b', -⟩ := M
      exact mStill m b'.2.2.1 hV ⟨a1, a2⟩ ⟨b1, b2⟩
    rw [obb x1, obb x2, obb N.c, obb e1, obb x1, obb x2, obb M.c, obb e2, if_pos rfl]
    exact ⟨h, rfl, p, P, bk, T, tl, fk, Z, hV, hP, hT, hf, C, M⟩
  rw [if_neg q14]
  by_cases q15 : w = 15
  · rw [if_pos q15]
    obtain ⟨h1, h2, e1, mc, e2, R2⟩ := fin_w hV hP hT hf C M (o := oRead p a b) (vRead hV a b) (cReadW N H hV ⟨a1, a2⟩ ⟨b1, b2⟩) (res2 := fun h1 => fX9_read h1 102 (i32 a) (i32 b)) (fun h1 A S m B => mReadW m B hV ⟨a1, a2⟩ ⟨b1, b2⟩)
    have e2' : fX9_read h1 102 (i32 a) (i32 b) = some (_, h2) := e2
    rw [obb x1, obb x2, obb N.c, obb e1, obb x1, obb x2, obb mc, obb e2', if_pos rfl]
    exact ⟨h2, rfl, R2⟩
  rw [if_neg q15]
  by_cases q16 : w = 16
  · rw [if_pos q16]
    obtain ⟨h1, h2, e1, mc, e2, R2⟩ := fin_w hV hP hT hf C M (o := oLook p a) (vLook hV a) (cLookW N H hV ⟨a1, a2⟩) (res2 := fun h1 => fX9_look h1 102 (i32 a)) (fun h1 A S m B => mLookW m B hV ⟨a1, a2⟩)
    have e2' : fX9_look h1 102 (i32 a) = some (_, h2) := e2
    rw [obb x1, obb N.c, obb e1, obb x1, obb mc, obb e2', if_pos rfl]
    exact ⟨h2, rfl, R2⟩
  rw [if_neg q16]
  by_cases q17 : w = 17
  · rw [if_pos q17]
    obtain ⟨h1, h2, e1, mc, e2, R2⟩ := fin_w hV hP hT hf C M (o := oDropR p a) (vDropR hV a) (cDropR N H hV ⟨a1, a2⟩) (res2 := fun h1 => fX9_dropReading h1 102 (i32 a)) (fun h1 A S m B => mDropR m B hV ⟨a1, a2⟩)
    have e2' : fX9_dropReading h1 102 (i32 a) = some (_, h2) := e2
    rw [obb x1, obb N.c, obb e1, obb x1, obb mc, obb e2', if_pos rfl]
    exact ⟨h2, rfl, R2⟩
  rw [if_neg q17]
  by_cases q18 : w = 18
  · rw [if_pos q18]
    obtain ⟨h1, h2, e1, mc, e2, R2⟩ := fin_c hV hP hT hf C M (cRead N hV CS (i := a) (w := b) ⟨a1, a2⟩ ⟨b1, b2⟩) (res2 := fun h1 => fX9_reading h1 102 (i32 a) (i32 b)) (fun h1 A S m G => mRead m G hV (i := a) (w := b) ⟨a1, a2⟩ ⟨b1, b2⟩)
    have e2' : fX9_reading h1 102 (i32 a) (i32 b) = some (_, h2) := e2
    rw [obb x1, obb x2, obb N.c, obb e1, obb x1, obb x2, obb mc, obb e2', if_pos rfl]
    exact ⟨h2, rfl, R2⟩
  rw [if_neg q18]
  by_cases q19 : w = 19
  · rw [if_pos q19]
    obtain ⟨h1, h2, e1, mc, e2, R2⟩ := fin_w hV hP hT hf C M (o := oLim p a) (vLim hV a) (cLim N H hV ⟨a1, a2⟩) (res2 := fun h1 => fX9_setLimit h1 102 (i32 a)) (fun h1 A S m B => mLim m B ⟨a1, a2⟩)
    have e2' : fX9_setLimit h1 102 (i32 a) = some (_, h2) := e2
    rw [obb x1, obb N.c, obb e1, obb x1, obb mc, obb e2', if_pos rfl]
    exact ⟨h2, rfl, R2⟩
  rw [if_neg q19]
  by_cases q20 : w = 20
  · rw [if_pos q20]
    obtain ⟨h1, h2, e1, mc, e2, R2⟩ := fin_c hV hP hT hf C M (cCands N hV CS) (res2 := fun h1 => fX9_candidates h1 102) (fun h1 A S m G => mCands m G hV)
    have e2' : fX9_candidates h1 102 = some (_, h2) := e2
    rw [obb N.c, obb e1, obb mc, obb e2', if_pos rfl]
    exact ⟨h2, rfl, R2⟩
  rw [if_neg q20]
  by_cases q21 : w = 21
  · rw [if_pos q21]
    obtain ⟨h1, h2, e1, mc, e2, R2⟩ := fin_c hV hP hT hf C M (cCand N hV CS (z := a) ⟨a1, a2⟩) (res2 := fun h1 => fX9_candidate h1 102 (i32 a)) (fun h1 A S m G => mCand m G hV (z := a) ⟨a1, a2⟩)
    have e2' : fX9_candidate h1 102 (i32 a) = some (_, h2) := e2
    rw [obb x1, obb N.c, obb e1, obb x1, obb mc, obb e2', if_pos rfl]
    exact ⟨h2, rfl, R2⟩
  rw [if_neg q21]
  by_cases q22 : w = 22
  · rw [if_pos q22]
    obtain ⟨h1, h2, e1, mc, e2, R2⟩ := fin_c hV hP hT hf C M (cNear N hV CS (w := a) ⟨a1, a2⟩) (res2 := fun h1 => fX9_nearest h1 102 (i32 a)) (fun h1 A S m G => mNear m G hV (w := a) ⟨a1, a2⟩)
    have e2' : fX9_nearest h1 102 (i32 a) = some (_, h2) := e2
    rw [obb x1, obb N.c, obb e1, obb x1, obb mc, obb e2', if_pos rfl]
    exact ⟨h2, rfl, R2⟩
  rw [if_neg q22]
  by_cases q23 : w = 23
  · rw [if_pos q23]
    obtain ⟨h1, h2, e1, mc, e2, R2⟩ := fin_c hV hP hT hf C M (cOdd N hV CS) (res2 := fun h1 => fX9_odd h1 102) (fun h1 A S m G => mOdd m G hV)
    have e2' : fX9_odd h1 102 = some (_, h2) := e2
    rw [obb N.c, obb e1, obb mc, obb e2', if_pos rfl]
    exact ⟨h2, rfl, R2⟩
  rw [if_neg q23]
  by_cases q24 : w = 24
  · rw [if_pos q24]
    rw [obb x1, obb x2]
    unfold fL_law_J791 fL_law_J813
    by_cases qb : i32 b = 0
    · rw [if_pos qb]
      obtain ⟨h1, h2, e1, mc, e2, R2⟩ := fin_c hV hP hT hf C M (cBest N hV CS (z := a) ⟨a1, a2⟩ false) (res2 := fun h1 => fX9_bestPeriod h1 102 (i32 a) false) (fun h1 A S m G => mBest m G hV (z := a) ⟨a1, a2⟩ false)
      have e2' : fX9_bestPeriod h1 102 (i32 a) false = some (_, h2) := e2
      rw [obb N.c, obb e1, obb x1, obb x2, if_pos qb, obb mc, obb e2', if_pos rfl, nx3]
      exact ⟨h2, rfl, R2⟩
    · rw [if_neg qb]
      obtain ⟨h1, h2, e1, mc, e2, R2⟩ := fin_c hV hP hT hf C M (cBest N hV CS (z := a) ⟨a1, a2⟩ true) (res2 := fun h1 => fX9_bestPeriod h1 102 (i32 a) true) (fun h1 A S m G => mBest m G hV (z := a) ⟨a1, a2⟩ true)
      have e2' : fX9_bestPeriod h1 102 (i32 a) true = some (_, h2) := e2
      rw [obb N.c, obb e1, obb x1, obb x2, if_neg qb, obb mc, obb e2', if_pos rfl, nx3]
      exact ⟨h2, rfl, R2⟩
  rw [if_neg q24]
  by_cases q25 : w = 25
  · rw [if_pos q25]
    obtain ⟨h1, h2, e1, mc, e2, R2⟩ := fin_w hV hP hT hf C M (o := oDisc p a b) (vDisc hV a b) (cDisc N H ⟨a1, a2⟩ ⟨b1, b2⟩) (res2 := fun h1 => fX9_setDisc h1 102 (i32 a) (i32 b)) (fun h1 A S m B => mDisc m B ⟨a1, a2⟩ ⟨b1, b2⟩)
    have e2' : fX9_setDisc h1 102 (i32 a) (i32 b) = some (_, h2) := e2
    rw [obb x1, obb x2, obb N.c, obb e1, obb x1, obb x2, obb mc, obb e2', if_pos rfl]
    exact ⟨h2, rfl, R2⟩
  rw [if_neg q25]
  by_cases q26 : w = 26
  · rw [if_pos q26]
    obtain ⟨h1, h2, e1, mc, e2, R2⟩ := fin_w hV hP hT hf C M (o := oTurn p a b) (vTurn hV a b) (cTurnW N H ⟨a1, a2⟩ ⟨b1, b2⟩) (res2 := fun h1 => fX9_turnDisc h1 102 (i32 a) (i32 b)) (fun h1 A S m B => mTurnW m B ⟨a1, a2⟩ ⟨b1, b2⟩)
    have e2' : fX9_turnDisc h1 102 (i32 a) (i32 b) = some (_, h2) := e2
    rw [obb x1, obb x2, obb N.c, obb e1, obb x1, obb x2, obb mc, obb e2', if_pos rfl]
    exact ⟨h2, rfl, R2⟩
  rw [if_neg q26]
  by_cases q27 : w = 27
  · rw [if_pos q27]
    have e1 := cSeen N hV (z := a) ⟨a1, a2⟩
    have e2 : fX9_isSeen h 102 (i32 a) = some (i32 (aSeen p a)) := by
      obtain ⟨A, S, m, b', -⟩ := M
      exact mSeen m b'.2.2.1 hV ⟨a1, a2⟩
    rw [obb x1, obb N.c, obb e1, obb x1, obb M.c, obb e2, if_pos rfl]
    exact ⟨h, rfl, p, P, bk, T, tl, fk, Z, hV, hP, hT, hf, C, M⟩
  rw [if_neg q27]
  by_cases q28 : w = 28
  · rw [if_pos q28]
    have e1 := cOpen N hV (z := a) (w := b) ⟨a1, a2⟩ ⟨b1, b2⟩
    obtain ⟨h2, e2, R2⟩ := fin_p hV hP hT hf C M (fun A S m G s5 s1 => mOpen m G hV (z := a) (w := b) ⟨a1, a2⟩ ⟨b1, b2⟩)
    rw [obb x1, obb x2, obb N.c, obb e1, obb x1, obb x2, obb M.c, obb e2, if_pos rfl]
    exact ⟨h2, rfl, R2⟩
  rw [if_neg q28]
  by_cases q29 : w = 29
  · rw [if_pos q29]
    have e1 := cSmear N hV (z := a) (w := b) ⟨a1, a2⟩ ⟨b1, b2⟩
    obtain ⟨h2, e2, R2⟩ := fin_p hV hP hT hf C M (fun A S m G s5 s1 => mSmear m G hV (z := a) (w := b) ⟨a1, a2⟩ ⟨b1, b2⟩)
    rw [obb x1, obb x2, obb N.c, obb e1, obb x1, obb x2, obb M.c, obb e2, if_pos rfl]
    exact ⟨h2, rfl, R2⟩
  rw [if_neg q29]
  by_cases q30 : w = 30
  · rw [if_pos q30]
    obtain ⟨r, h1, h2, e1, mc, e2, R2⟩ := fin_undo hV hP hT hf C M
    rw [obb N.c, obb e1, obb mc, obb e2, if_pos rfl]
    exact ⟨h2, rfl, R2⟩
  rw [if_neg q30]
  by_cases q31 : w = 31
  · rw [if_pos q31]
    have e1 := cCount N hV C.tx C.bk (w := a) ⟨a1, a2⟩
    obtain ⟨h2, e2, R2⟩ := fin_p hV hP hT hf C M (fun A S m G s5 s1 => mCount m G hV s5 s1 (w := a) ⟨a1, a2⟩)
    rw [obb x1, obb N.c, obb e1, obb x1, obb M.c, obb e2, if_pos rfl]
    exact ⟨h2, rfl, R2⟩
  rw [if_neg q31]
  by_cases q32 : w = 32
  · rw [if_pos q32]
    obtain ⟨r, h1, h2, e1, mc, e2, R2⟩ := fin_dig hV hP hT hf C M
    rw [obb N.c, obb e1, obb mc, obb e2, if_pos ((lg_cmp0 r r).mpr rfl)]
    exact ⟨h2, rfl, R2⟩
  rw [if_neg q32]
  exact ⟨h, rfl, p, P, bk, T, tl, fk, Z, hV, hP, hT, hf, C, M⟩
theorem law_loop {N0 : Nat} {xs : Nat → Int32} (hN : N0 ≤ 1536) {h : XH} (R : REL h) : ∃ e, xloop (fL_law_B18 N0 xs 0 102) 5000 (h, 0) = some e := by
  obtain ⟨e, f, -⟩ := xl_inv (fL_law_B18 N0 xs 0 102) (fun i s => s.2 = i32 ((3 * i : Nat) : Int) ∧ REL s.1) (N0 / 3) (fun _ => True) (fun i s hi I => by
    obtain ⟨h2, x⟩ := s
    obtain ⟨rfl, I⟩ := I
    obtain ⟨h', e, R'⟩ := law_step (xs := xs) hN (i := i) (by omega) I
    exact ⟨_, e, rfl, R'⟩) (fun s I => by
    obtain ⟨h2, x⟩ := s
    obtain ⟨rfl, I⟩ := I
    have c0 : Int32.ofNat N0 - 3 < i32 ((3 * (N0 / 3) : Nat) : Int) := by
      have e : Int32.ofNat N0 = i32 (N0 : Nat) := rfl
      rw [e, L_3, i32_sub, i32_lt (by omega)]
      omega
    unfold fL_law_B18 fL_law_b18
    dsimp only
    rw [if_pos c0]
    exact ⟨_, rfl, trivial⟩) (h, 0) ⟨rfl, R⟩ 5000 (by omega)
  exact ⟨e, f⟩
