/-! the digest -/
def mz (Z : Int64) (v : Int) : Int64 := (31 : Int64) * Z + (i32 v).toInt64
def frz (h h' : XH) : Prop := ∀ x, 101 < x → h' x = h x
theorem RC.cop {h : XH} {p : Nat → Int} {P : Nat → Nat → Int} {bk : Nat} {T : Nat → Int} {tl : Nat} {fk : Int} (R : RC h p P bk T tl fk) {r : Int} {res : Option (Int32 × XH)} (C : COp h r res) : ∃ h', res = some (i32 r, h') ∧ RC h' p P bk T tl fk ∧ frz h h' := by
  obtain ⟨h', e, s1, s2⟩ := C
  obtain ⟨N, ⟨nx, H⟩, X, ⟨q, W⟩, -⟩ := R
  exact ⟨h', e, ⟨N.fr (fun x hx => s1 x (by omega)), ⟨nx, H.fr (fun x hx => s1 x (by omega))⟩, X.fr (fun x hx => s1 x (by omega)), ⟨q, W.fr (fun k hk => s1 _ (by omega))⟩, s2⟩, fun x hx => s1 x (by omega)⟩
theorem RC.tx {h : XH} {p : Nat → Int} {P : Nat → Nat → Int} {bk : Nat} {T : Nat → Int} {tl : Nat} {fk : Int} (R : RC h p P bk T tl fk) : xgI h 93 7 2 = some (i32 (tl : Nat)) := by
  obtain ⟨c, sp, a, h1, -⟩ := R.2.2.1
  exact gI h1 2 rfl
theorem RC.bk {h : XH} {p : Nat → Int} {P : Nat → Nat → Int} {bk : Nat} {T : Nat → Int} {tl : Nat} {fk : Int} (R : RC h p P bk T tl fk) : xgI h 11 3 2 = some (i32 (bk : Nat)) := by
  obtain ⟨nx, H⟩ := R.2.1
  exact gI H.2.2.1 2 rfl
/-- the parts of the digest, value by value -/
noncomputable def dA (p : Nat → Int) (tl bk : Nat) (z : Int64) : Int64 := itr (fun k z => mz z (aCount p (tl : Nat) (bk : Nat) k)) z 18
noncomputable def dB (p : Nat → Int) (z : Int64) : Int64 := itr (fun k z => mz (mz z (aMark p 0 k)) (aMark p 1000 k)) z (p 0).toNat
noncomputable def dC (p : Nat → Int) (z : Int64) : Int64 := itr (fun k z => itr (fun w z => mz z (aFlash p k w)) z 4) z (min 20 (nfl p).toNat)
noncomputable def dD (p : Nat → Int) (z : Int64) : Int64 := itr (fun k z => mz z (aSeems p k)) z 4
noncomputable def dE (p : Nat → Int) (z : Int64) : Int64 := itr (fun k z => itr (fun w z => mz z (aRead p k w)) z 3) z (p 76).toNat
noncomputable def dF (p : Nat → Int) (z : Int64) : Int64 := itr (fun k z => mz z (aCand p k)) (mz z (nc p (-1))) 5
noncomputable def dG (p : Nat → Int) (z : Int64) : Int64 := mz (mz (mz z (aNear p 0)) (aBest p 20 false)) (aBest p 20 true)
noncomputable def dH (p : Nat → Int) (z : Int64) : Int64 := itr (fun k z => mz (itr (fun w z => mz z (aOpen p k w)) z 4) (aSmear p k 0)) z 5
noncomputable def dig (p : Nat → Int) (tl bk : Nat) : Int64 := dH p (dG p (dF p (dE p (dD p (dC p (dB p (dA p tl bk 12956)))))))
theorem cdA {h : XH} {p : Nat → Int} {P : Nat → Nat → Int} {bk : Nat} {T : Nat → Int} {tl : Nat} {fk : Int} (R : RC h p P bk T tl fk) (hV : VP p) (z : Int64) : xloop (fX8_digest_B6 h 0) 5000 (z, 0) = some (dA p tl bk z) := by
  have r := xl_run (fX8_digest_B6 h 0) (fun i => (itr (fun k z => mz z (aCount p (tl : Nat) (bk : Nat) k)) z i, i32 (i : Nat))) 18 (dA p tl bk z) (fun i hi => by
    unfold fX8_digest_B6 fX8_digest_b6
    rw [L_17, ilt_f (by omega), obb R.1.c, obb (cCount R.1 hV R.tx R.bk (by omega)), L_1, i32_add]
    rfl) (by
    unfold fX8_digest_B6 fX8_digest_b6
    rw [L_17, ilt_t (by omega)]
    rfl) 5000 (by omega)
  exact r
theorem cdB {h : XH} {p : Nat → Int} (N : NowAt h p) (hV : VP p) (z : Int64) : xloop (fX8_digestOfPictures_B5 h 0) 5000 (z, 0) = some (dB p z) := by
  have hn := hV.n
  have r := xl_run (fX8_digestOfPictures_B5 h 0) (fun i => (itr (fun k z => mz (mz z (aMark p 0 k)) (aMark p 1000 k)) z i, i32 (i : Nat))) (p 0).toNat (dB p z) (fun i hi => by
    have e1 := cMark N hV (z := 0) (q := i) (by omega) (by omega)
    have e2 := cMark N hV (z := 1000) (q := i) (by omega) (by omega)
    unfold fX8_digestOfPictures_B5 fX8_digestOfPictures_b5
    rw [obb N.n, obb N.n0, obb N.w.i3, ile_f (by omega), obb N.c, L_0, obb e1]
    show ((xco h 0 8).bind _) = _
    rw [obb N.c, L_1000, obb e2, L_1, i32_add]
    rfl) (by
    unfold fX8_digestOfPictures_B5 fX8_digestOfPictures_b5
    rw [obb N.n, obb N.n0, obb N.w.i3, ile_t (by omega)]
    rfl) 5000 (by omega)
  exact r
theorem cdC1 {h : XH} {p : Nat → Int} (N : NowAt h p) (hV : VP p) (z : Int64) {k : Nat} (hk : k ≤ 1000) : xloop (fX8_digestOfPictures_B80 h 0 (i32 (k : Nat))) 5000 (z, 0) = some (itr (fun w z => mz z (aFlash p k w)) z 4) := by
  have r := xl_run (fX8_digestOfPictures_B80 h 0 (i32 (k : Nat))) (fun i => (itr (fun w z => mz z (aFlash p k w)) z i, i32 (i : Nat))) 4 (itr (fun w z => mz z (aFlash p k w)) z 4) (fun i hi => by
    unfold fX8_digestOfPictures_B80 fX8_digestOfPictures_b80
    rw [L_3, ilt_f (by omega), obb N.c, obb (cFlash N hV (by omega) (by omega)), L_1, i32_add]
    rfl) (by
    unfold fX8_digestOfPictures_B80 fX8_digestOfPictures_b80
    rw [L_3, ilt_t (by omega)]) 5000 (by omega)
  exact r
theorem cdC {h : XH} {p : Nat → Int} (N : NowAt h p) (hV : VP p) (z : Int64) : xloop (fX8_digestOfPictures_B61 h 0) 5000 (z, 0) = some (dC p z) := by
  have hn := nfl_rng hV
  have r := xl_run (fX8_digestOfPictures_B61 h 0) (fun i => (itr (fun k z => itr (fun w z => mz z (aFlash p k w)) z 4) z i, i32 (i : Nat))) (min 20 (nfl p).toNat) (dC p z) (fun i hi => by
    unfold fX8_digestOfPictures_B61 fX8_digestOfPictures_b61
    rw [L_20, ile_f (by omega), obb N.c, obb (cflash N hV (by omega))]
    have e : isF p (i : Nat) = true := by unfold isF; rw [decide_eq_true_eq]; omega
    rw [if_pos e, obb (cdC1 N hV _ (by omega)), L_1, i32_add]
    rfl) (by
    unfold fX8_digestOfPictures_B61 fX8_digestOfPictures_b61
    rw [L_20, cle (by omega)]
    by_cases w : (20 : Int) ≤ ((min 20 (nfl p).toNat : Nat) : Int)
    · rw [if_pos w]; rfl
    · have e : ¬ isF p ((min 20 (nfl p).toNat : Nat) : Int) = true := by unfold isF; rw [decide_eq_true_eq]; omega
      rw [if_neg w, obb N.c, obb (cflash N hV (by omega)), if_neg e]; rfl) 5000 (by omega)
  exact r
theorem cdD {h : XH} {p : Nat → Int} (N : NowAt h p) (hV : VP p) (z : Int64) : xloop (fX8_digestOfPictures_B117 h 0) 5000 (z, 0) = some (dD p z) := by
  have r := xl_run (fX8_digestOfPictures_B117 h 0) (fun i => (itr (fun k z => mz z (aSeems p k)) z i, i32 (i : Nat))) 4 (dD p z) (fun i hi => by
    unfold fX8_digestOfPictures_B117 fX8_digestOfPictures_b117
    rw [L_3, ilt_f (by omega), obb N.c, obb (cSeems N hV (by omega)), L_1, i32_add]
    rfl) (by
    unfold fX8_digestOfPictures_B117 fX8_digestOfPictures_b117
    rw [L_3, ilt_t (by omega)]
    rfl) 5000 (by omega)
  exact r
theorem cdH {h : XH} {p : Nat → Int} (N : NowAt h p) (hV : VP p) (z : Int64) : fX8_digestOfOpenings h 0 z = some (dH p z) := by
  have hn := hV.n
  have r1 : ∀ (z : Int64) (k : Nat), k < 5 → xloop (fX8_digestOfOpenings_B14 h 0 (i32 (k : Nat))) 5000 (z, 0) = some (itr (fun w z => mz z (aOpen p k w)) z 4) := fun z k hk => by
    have r := xl_run (fX8_digestOfOpenings_B14 h 0 (i32 (k : Nat))) (fun i => (itr (fun w z => mz z (aOpen p k w)) z i, i32 (i : Nat))) 4 (itr (fun w z => mz z (aOpen p k w)) z 4) (fun i hi => by
      unfold fX8_digestOfOpenings_B14 fX8_digestOfOpenings_b14
      rw [L_3, ilt_f (by omega), obb N.c, obb (cOpen N hV (by omega) (by omega)), L_1, i32_add]
      rfl) (by
      unfold fX8_digestOfOpenings_B14 fX8_digestOfOpenings_b14
      rw [L_3, ilt_t (by omega)]) 5000 (by omega)
    exact r
  unfold fX8_digestOfOpenings
  have r := xl_run (fX8_digestOfOpenings_B5 h 0) (fun i => (itr (fun k z => mz (itr (fun w z => mz z (aOpen p k w)) z 4) (aSmear p k 0)) z i, i32 (i : Nat))) 5 (dH p z) (fun i hi => by
    have e := cSmear N hV (z := i) (w := 0) (by omega) (by omega)
    unfold fX8_digestOfOpenings_B5 fX8_digestOfOpenings_b5
    rw [L_4, ilt_f (by omega), obb (r1 _ i hi), obb N.c, L_0, obb e, L_1, i32_add]
    rfl) (by
    unfold fX8_digestOfOpenings_B5 fX8_digestOfOpenings_b5
    rw [L_4, ilt_t (by omega)]
    rfl) 5000 (by omega)
  have r2 : xloop (fX8_digestOfOpenings_B5 h 0) 5000 (z, 0) = some (dH p z) := r
  rw [obb r2]
theorem cdE {h : XH} {p : Nat → Int} {P : Nat → Nat → Int} {bk : Nat} {T : Nat → Int} {tl : Nat} {fk : Int} (R : RC h p P bk T tl fk) (hV : VP p) (z : Int64) : ∃ e, xloop (fX8_digestOfReadings_B5 0) 5000 (h, z, 0) = some e ∧ e.2 = dE p z ∧ RC e.1 p P bk T tl fk ∧ frz h e.1 := by
  have hr := hV.rd
  have r1 : ∀ (h1 : XH) (z : Int64) (k : Nat), k < 8 → RC h1 p P bk T tl fk → ∃ e, xloop (fX8_digestOfReadings_B23 0 (i32 (k : Nat))) 5000 (h1, z, 0) = some e ∧ e.2 = itr (fun w z => mz z (aRead p k w)) z 3 ∧ RC e.1 p P bk T tl fk ∧ frz h1 e.1 := fun h1 z k hk R1 =>
    xl_inv (fX8_digestOfReadings_B23 0 (i32 (k : Nat))) (fun i s => s.2.1 = itr (fun w z => mz z (aRead p k w)) z i ∧ s.2.2 = i32 (i : Nat) ∧ RC s.1 p P bk T tl fk ∧ frz h1 s.1) 3 (fun e => e.2 = itr (fun w z => mz z (aRead p k w)) z 3 ∧ RC e.1 p P bk T tl fk ∧ frz h1 e.1) (fun i s hi I => by
      obtain ⟨h2, x, y⟩ := s
      obtain ⟨rfl, rfl, I1, I2⟩ := I
      dsimp only at I1 I2
      obtain ⟨h3, e3, R3, f3⟩ := I1.cop (cRead I1.1 hV I1.2.2.2.2 (i := k) (w := i) (by omega) (by omega))
      unfold fX8_digestOfReadings_B23 fX8_digestOfReadings_b23
      dsimp only
      rw [L_2, ilt_f (by omega), obb I1.1.c, obb e3, L_1, i32_add]
      exact ⟨_, rfl, rfl, rfl, R3, fun x hx => (f3 x hx).trans (I2 x hx)⟩) (fun s I => by
      obtain ⟨h2, x, y⟩ := s
      obtain ⟨rfl, rfl, I1, I2⟩ := I
      unfold fX8_digestOfReadings_B23 fX8_digestOfReadings_b23
      dsimp only
      rw [L_2, ilt_t (by omega)]
      exact ⟨_, rfl, rfl, I1, I2⟩) (h1, z, 0) ⟨rfl, rfl, R1, fun _ _ => rfl⟩ 5000 (by omega)
  exact xl_inv (fX8_digestOfReadings_B5 0) (fun i s => s.2.1 = itr (fun k z => itr (fun w z => mz z (aRead p k w)) z 3) z i ∧ s.2.2 = i32 (i : Nat) ∧ RC s.1 p P bk T tl fk ∧ frz h s.1) (p 76).toNat (fun e => e.2 = dE p z ∧ RC e.1 p P bk T tl fk ∧ frz h e.1) (fun i s hi I => by
    obtain ⟨h2, x, y⟩ := s
    obtain ⟨rfl, rfl, I1, I2⟩ := I
    dsimp only at I1 I2
    obtain ⟨e, e3, q3, R3, f3⟩ := r1 h2 (itr (fun k z => itr (fun w z => mz z (aRead p k w)) z 3) z i) i (by omega) I1
    unfold fX8_digestOfReadings_B5 fX8_digestOfReadings_b5
    dsimp only
    rw [obb I1.1.n, obb I1.1.n2, obb I1.1.rd.i2, ile_f (by omega), obb e3, L_1, i32_add]
    exact ⟨_, rfl, q3, rfl, R3, fun x hx => (f3 x hx).trans (I2 x hx)⟩) (fun s I => by
    obtain ⟨h2, x, y⟩ := s
    obtain ⟨rfl, rfl, I1, I2⟩ := I
    dsimp only at I1 I2
    unfold fX8_digestOfReadings_B5 fX8_digestOfReadings_b5
    dsimp only
    rw [obb I1.1.n, obb I1.1.n2, obb I1.1.rd.i2, ile_t (by omega)]
    exact ⟨_, rfl, rfl, I1, I2⟩) (h, z, 0) ⟨rfl, rfl, R, fun _ _ => rfl⟩ 5000 (by omega)
theorem cDig {h : XH} {p : Nat → Int} {P : Nat → Nat → Int} {bk : Nat} {T : Nat → Int} {tl : Nat} {fk : Int} (R : RC h p P bk T tl fk) (hV : VP p) : ∃ h', fX8_digest h 0 = some (dig p tl bk, h') ∧ RC h' p P bk T tl fk ∧ frz h h' := by
  unfold fX8_digest fX8_digestOfPictures fX8_digestOfReadings
  have pic : ∀ z, ((xloop (fX8_digestOfPictures_B5 h 0) 5000 (z, 0)).bind fun e15 => (xloop (fX8_digestOfPictures_B61 h 0) 5000 (e15, 0)).bind fun e26 => (xloop (fX8_digestOfPictures_B117 h 0) 5000 (e26, 0)).bind fun e32 => some e32) = some (dD p (dC p (dB p z))) := fun z => by
    rw [obb (cdB R.1 hV z), obb (cdC R.1 hV _), obb (cdD R.1 hV _)]
  rw [obb (cdA R hV 12956), obb R.1.c, obb (pic _), obb R.1.c]
  obtain ⟨e1, x1, q1, R1, f1⟩ := cdE R hV (dD p (dC p (dB p (dA p tl bk 12956))))
  obtain ⟨h2, x2, R2, f2⟩ := R1.cop (cCands R1.1 hV R1.2.2.2.2)
  obtain ⟨e3, x3, q3, R3, f3⟩ := xl_inv (fX8_digestOfReadings_B72 0) (fun i s => s.2.1 = itr (fun k z => mz z (aCand p k)) (mz e1.2 (nc p (-1))) i ∧ s.2.2 = i32 (i : Nat) ∧ RC s.1 p P bk T tl fk ∧ frz h2 s.1) 5 (fun e => e.2 = dF p e1.2 ∧ RC e.1 p P bk T tl fk ∧ frz h2 e.1) (fun i s hi I => by
    obtain ⟨h3, x, y⟩ := s
    obtain ⟨rfl, rfl, I1, I2⟩ := I
    dsimp only at I1 I2
    obtain ⟨h4, e4, R4, f4⟩ := I1.cop (cCand I1.1 hV I1.2.2.2.2 (z := i) (by omega))
    unfold fX8_digestOfReadings_B72 fX8_digestOfReadings_b72
    dsimp only
    rw [L_4, ilt_f (by omega), obb I1.1.c, obb e4, L_1, i32_add]
    exact ⟨_, rfl, rfl, rfl, R4, fun x hx => (f4 x hx).trans (I2 x hx)⟩) (fun s I => by
    obtain ⟨h3, x, y⟩ := s
    obtain ⟨rfl, rfl, I1, I2⟩ := I
    unfold fX8_digestOfReadings_B72 fX8_digestOfReadings_b72
    dsimp only
    rw [L_4, ilt_t (by omega)]
    exact ⟨_, rfl, rfl, I1, I2⟩) (h2, mz e1.2 (nc p (-1)), 0) ⟨rfl, rfl, R2, fun _ _ => rfl⟩ 5000 (by omega)
  obtain ⟨h4, x4, R4, f4⟩ := R3.cop (cNear R3.1 hV R3.2.2.2.2 (w := 0) (by omega))
  obtain ⟨h5, x5, R5, f5⟩ := R4.cop (cBest R4.1 hV R4.2.2.2.2 (z := 20) (by omega) false)
  obtain ⟨h6, x6, R6, f6⟩ := R5.cop (cBest R5.1 hV R5.2.2.2.2 (z := 20) (by omega) true)
  have fr : frz h h6 := fun x hx => (f6 x hx).trans ((f5 x hx).trans ((f4 x hx).trans ((f3 x hx).trans ((f2 x hx).trans (f1 x hx)))))
  have rdg : ((xloop (fX8_digestOfReadings_B5 0) 5000 (h, dD p (dC p (dB p (dA p tl bk 12956))), 0)).bind fun e13 => (xco e13.1 0 8).bind fun _ => (fX8_candidates e13.1 0).bind fun v16 => xlet (((31 : Int64) * e13.2) + (v16.1.toInt64)) fun y18 => (xloop (fX8_digestOfReadings_B72 0) 5000 (v16.2, y18, 0)).bind fun e23 => (xco e23.1 0 8).bind fun _ => (fX8_nearest e23.1 0 0).bind fun v26 => xlet (((31 : Int64) * e23.2) + (v26.1.toInt64)) fun y28 => (xco v26.2 0 8).bind fun _ => (fX8_bestPeriod v26.2 0 20 false).bind fun v30 => xlet (((31 : Int64) * y28) + (v30.1.toInt64)) fun y32 => (xco v30.2 0 8).bind fun _ => (fX8_bestPeriod v30.2 0 20 true).bind fun v34 => some ((((31 : Int64) * y32) + (v34.1.toInt64)), v34.2)) = some (dG p (dF p (dE p (dD p (dC p (dB p (dA p tl bk 12956)))))), h6) := by
    have x4' : fX8_nearest e3.1 0 0 = some (i32 (aNear p 0), h4) := x4
    have x5' : fX8_bestPeriod h4 0 20 false = some (i32 (aBest p 20 false), h5) := x5
    have x6' : fX8_bestPeriod h5 0 20 true = some (i32 (aBest p 20 true), h6) := x6
    rw [obb x1, obb R1.1.c, obb x2]
    show ((xloop (fX8_digestOfReadings_B72 0) 5000 (h2, mz e1.2 (nc p (-1)), 0)).bind _) = _
    rw [obb x3, obb R3.1.c, obb x4']
    show ((xco h4 0 8).bind _) = _
    rw [obb R4.1.c, obb x5']
    show ((xco h5 0 8).bind _) = _
    rw [obb R5.1.c, obb x6', ← q1, ← q3]
    rfl
  rw [obb rdg, obb R6.1.c, obb (cdH R6.1 hV _)]
  exact ⟨h6, rfl, R6, fr⟩
