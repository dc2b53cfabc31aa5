section
variable {h0 h : XH} {Z : Int64} {p : Nat → Int} {P : Nat → Nat → Int} {bk : Nat} {T : Nat → Int} {tl : Nat} {fk : Int}
/-- a reading call of the model -/
def ROp (h0 : XH) (Z : Int64) (p : Nat → Int) (P : Nat → Nat → Int) (bk : Nat) (T : Nat → Int) (tl : Nat) (fk : Int) (r : Int) (res : Option (Int32 × XH)) : Prop := ∃ h', res = some (i32 r, h') ∧ RM h0 h' Z p P bk T tl fk
theorem RM.c (R : RM h0 h Z p P bk T tl fk) : xco h 102 9 = some () := by obtain ⟨A, S, m, -⟩ := R; exact m.c
theorem RM.op (R : RM h0 h Z p P bk T tl fk) {r : Int} {res : Option (Int32 × XH)} (f : ∀ A S, MdAt h0 h A S Z → PgAt A p → S 5 = i32 (tl : Nat) → S 1 = i32 (bk : Nat) → MOp h0 A S Z r res) : ROp h0 Z p P bk T tl fk r res := by
  obtain ⟨A, S, m, b, s5, s6, t⟩ := R
  obtain ⟨h', A', S', e, m', K⟩ := f A S m b.2.2.1 s5 b.1
  exact ⟨h', e, A', S', m', b.kp K, K.2.2.2.1.trans s5, K.2.2.2.2.trans s6, fun k hk => by rw [K.2.1]; exact t k hk⟩
theorem RM.mix (R : RM h0 h Z p P bk T tl fk) (v : Int) : ∃ h', fX9_mixes h 102 (i32 v) = some h' ∧ RM h0 h' (mz Z v) p P bk T tl fk := by
  obtain ⟨A, S, m, b, r⟩ := R
  obtain ⟨h', e, m'⟩ := m.p16 (mz Z v)
  unfold fX9_mixes
  have e' : xpf h 102 9 16 (.long ((31 : Int64) * Z + (i32 v).toInt64)) = some h' := e
  rw [obb m.j16, obb e']
  exact ⟨h', rfl, A, S, m', b, r⟩
theorem RM.z (R : RM h0 h Z p P bk T tl fk) (z : Int64) : ∃ h', xpf h 102 9 16 (.long z) = some h' ∧ RM h0 h' z p P bk T tl fk := by
  obtain ⟨A, S, m, b, r⟩ := R
  obtain ⟨h', e, m'⟩ := m.p16 z
  exact ⟨h', e, A, S, m', b, r⟩
/-- a call and its answer mixed in -/
theorem ROp.mix {r : Int} {res : Option (Int32 × XH)} (H : ROp h0 Z p P bk T tl fk r res) : ∃ h', RM h0 h' (mz Z r) p P bk T tl fk ∧ ∀ {α : Type} (f : XH → Option α), (res.bind fun v => (xco v.2 102 9).bind fun _ => (fX9_mixes v.2 102 v.1).bind f) = f h' := by
  obtain ⟨h1, e, R1⟩ := H
  obtain ⟨h2, e2, R2⟩ := R1.mix r
  refine ⟨h2, R2, fun f => ?_⟩
  rw [obb e, obb R1.c, obb e2]
theorem mdA (R : RM h0 h Z p P bk T tl fk) (hV : VP p) : ∃ h', xloop (fX9_digest_B9 102) 5000 (h, 0) = some h' ∧ RM h0 h' (dA p tl bk Z) p P bk T tl fk :=
  xl_inv (fX9_digest_B9 102) (fun i s => s.2 = i32 (i : Nat) ∧ RM h0 s.1 (itr (fun k z => mz z (aCount p (tl : Nat) (bk : Nat) k)) Z i) p P bk T tl fk) 18 (fun h' => RM h0 h' (dA p tl bk Z) p P bk T tl fk) (fun i s hi I => by
    obtain ⟨h2, x⟩ := s
    obtain ⟨rfl, I⟩ := I
    dsimp only at I
    obtain ⟨h3, R3, g⟩ := (I.op (fun A S m G s5 s1 => mCount m G hV s5 s1 (w := i) (by omega))).mix
    unfold fX9_digest_B9 fX9_digest_b9
    dsimp only
    rw [L_18, ile_f (by omega), obb I.c, g, L_1, i32_add]
    exact ⟨_, rfl, rfl, R3⟩) (fun s I => by
    obtain ⟨h2, x⟩ := s
    obtain ⟨rfl, I⟩ := I
    unfold fX9_digest_B9 fX9_digest_b9
    dsimp only
    rw [L_18, ile_t (by omega)]
    exact ⟨_, rfl, I⟩) (h, 0) ⟨rfl, R⟩ 5000 (by omega)
theorem RM.cells (R : RM h0 h Z p P bk T tl fk) : fX9_cells h 102 = some (i32 (p 0)) := by
  obtain ⟨A, S, m, b, -⟩ := R
  exact cells_ok m b.2.2.1
theorem mdB (R : RM h0 h Z p P bk T tl fk) (hV : VP p) : ∃ h', xloop (fX9_digest_B32 102) 5000 (h, 0) = some h' ∧ RM h0 h' (dB p Z) p P bk T tl fk := by
  have hn := hV.n
  exact xl_inv (fX9_digest_B32 102) (fun i s => s.2 = i32 (i : Nat) ∧ RM h0 s.1 (itr (fun k z => mz (mz z (aMark p 0 k)) (aMark p 1000 k)) Z i) p P bk T tl fk) (p 0).toNat (fun h' => RM h0 h' (dB p Z) p P bk T tl fk) (fun i s hi I => by
    obtain ⟨h2, x⟩ := s
    obtain ⟨rfl, I⟩ := I
    dsimp only at I
    obtain ⟨h3, R3, g3⟩ := (I.op (fun A S m G s5 s1 => mMark m G hV (z := 0) (q := i) (by omega) (by omega))).mix
    obtain ⟨h4, R4, g4⟩ := (R3.op (fun A S m G s5 s1 => mMark m G hV (z := 1000) (q := i) (by omega) (by omega))).mix
    unfold fX9_digest_B32 fX9_digest_b32
    dsimp only
    rw [obb I.c, obb I.cells, ile_f (by omega), obb I.c, L_0, g3, obb R3.c, L_1000, g4, L_1, i32_add]
    exact ⟨_, rfl, rfl, R4⟩) (fun s I => by
    obtain ⟨h2, x⟩ := s
    obtain ⟨rfl, I⟩ := I
    dsimp only at I
    unfold fX9_digest_B32 fX9_digest_b32
    dsimp only
    rw [obb I.c, obb I.cells, ile_t (by omega)]
    exact ⟨_, rfl, I⟩) (h, 0) ⟨rfl, R⟩ 5000 (by omega)
theorem mdC1 (R : RM h0 h Z p P bk T tl fk) (hV : VP p) {k : Nat} (hk : k ≤ 1000) : ∃ h', xloop (fX9_digest_B86 102 (i32 (k : Nat))) 5000 (h, 0) = some h' ∧ RM h0 h' (itr (fun w z => mz z (aFlash p k w)) Z 4) p P bk T tl fk :=
  xl_inv (fX9_digest_B86 102 (i32 (k : Nat))) (fun i s => s.2 = i32 (i : Nat) ∧ RM h0 s.1 (itr (fun w z => mz z (aFlash p k w)) Z i) p P bk T tl fk) 4 (fun h' => RM h0 h' (itr (fun w z => mz z (aFlash p k w)) Z 4) p P bk T tl fk) (fun i s hi I => by
    obtain ⟨h2, x⟩ := s
    obtain ⟨rfl, I⟩ := I
    dsimp only at I
    obtain ⟨h3, R3, g3⟩ := (I.op (fun A S m G s5 s1 => mFlash m G hV (z := k) (w := i) (by omega) (by omega))).mix
    unfold fX9_digest_B86 fX9_digest_b86
    dsimp only
    rw [L_4, ile_f (by omega), obb I.c, g3, L_1, i32_add]
    exact ⟨_, rfl, rfl, R3⟩) (fun s I => by
    obtain ⟨h2, x⟩ := s
    obtain ⟨rfl, I⟩ := I
    unfold fX9_digest_B86 fX9_digest_b86
    dsimp only
    rw [L_4, ile_t (by omega)]
    exact ⟨_, rfl, I⟩) (h, 0) ⟨rfl, R⟩ 5000 (by omega)
theorem RM.flN (R : RM h0 h Z p P bk T tl fk) (hV : VP p) : fX9_flashes h 102 = some (i32 (nfl p)) := by
  obtain ⟨A, S, m, b, -⟩ := R
  exact mnfl m b.2.2.1 hV
theorem mdC (R : RM h0 h Z p P bk T tl fk) (hV : VP p) : ∃ h', xloop (fX9_digest_B70 102) 5000 (h, 0) = some h' ∧ RM h0 h' (dC p Z) p P bk T tl fk := by
  have hn := nfl_rng hV
  exact xl_inv (fX9_digest_B70 102) (fun i s => s.2 = i32 (i : Nat) ∧ RM h0 s.1 (itr (fun k z => itr (fun w z => mz z (aFlash p k w)) z 4) Z i) p P bk T tl fk) (min 20 (nfl p).toNat) (fun h' => RM h0 h' (dC p Z) p P bk T tl fk) (fun i s hi I => by
    obtain ⟨h2, x⟩ := s
    obtain ⟨rfl, I⟩ := I
    dsimp only at I
    obtain ⟨h3, e3, R3⟩ := mdC1 I hV (k := i) (by omega)
    unfold fX9_digest_B70 fX9_digest_b70
    dsimp only
    rw [L_20, ile_f (by omega), obb I.c, obb (I.flN hV), ile_f (by omega), obb e3, L_1, i32_add]
    exact ⟨_, rfl, rfl, R3⟩) (fun s I => by
    obtain ⟨h2, x⟩ := s
    obtain ⟨rfl, I⟩ := I
    dsimp only at I
    unfold fX9_digest_B70 fX9_digest_b70
    dsimp only
    rw [L_20, cle (by omega)]
    by_cases w : (20 : Int) ≤ ((min 20 (nfl p).toNat : Nat) : Int)
    · rw [if_pos w]; exact ⟨_, rfl, I⟩
    · rw [if_neg w, obb I.c, obb (I.flN hV), ile_t (by omega)]; exact ⟨_, rfl, I⟩) (h, 0) ⟨rfl, R⟩ 5000 (by omega)
theorem mdD (R : RM h0 h Z p P bk T tl fk) (hV : VP p) : ∃ h', xloop (fX9_digest_B115 102) 5000 (h, 0) = some h' ∧ RM h0 h' (dD p Z) p P bk T tl fk :=
  xl_inv (fX9_digest_B115 102) (fun i s => s.2 = i32 (i : Nat) ∧ RM h0 s.1 (itr (fun k z => mz z (aSeems p k)) Z i) p P bk T tl fk) 4 (fun h' => RM h0 h' (dD p Z) p P bk T tl fk) (fun i s hi I => by
    obtain ⟨h2, x⟩ := s
    obtain ⟨rfl, I⟩ := I
    dsimp only at I
    obtain ⟨h3, R3, g3⟩ := (I.op (fun A S m G s5 s1 => mSeems m G hV (w := i) (by omega))).mix
    unfold fX9_digest_B115 fX9_digest_b115
    dsimp only
    rw [L_4, ile_f (by omega), obb I.c, g3, L_1, i32_add]
    exact ⟨_, rfl, rfl, R3⟩) (fun s I => by
    obtain ⟨h2, x⟩ := s
    obtain ⟨rfl, I⟩ := I
    unfold fX9_digest_B115 fX9_digest_b115
    dsimp only
    rw [L_4, ile_t (by omega)]
    exact ⟨_, rfl, I⟩) (h, 0) ⟨rfl, R⟩ 5000 (by omega)
theorem RM.r76 (R : RM h0 h Z p P bk T tl fk) : (xgR h 102 9 0).bind (fun v => xaI h v 0 (i32 76)) = some (i32 (p 76)) := by
  obtain ⟨A, S, m, b, -⟩ := R
  rw [obb m.r0]
  exact m.pg b.2.2.1 (i := 76) (by omega)
theorem RM.r0 (R : RM h0 h Z p P bk T tl fk) : xgR h 102 9 0 = some 103 := by
  obtain ⟨A, S, m, b, -⟩ := R
  exact m.r0
theorem RM.g76 (R : RM h0 h Z p P bk T tl fk) : xaI h 103 0 (i32 76) = some (i32 (p 76)) := by
  obtain ⟨A, S, m, b, -⟩ := R
  exact m.pg b.2.2.1 (i := 76) (by omega)
theorem mdE (R : RM h0 h Z p P bk T tl fk) (hV : VP p) : ∃ h', xloop (fX9_mixesReadings_B2 102) 5000 (h, 0) = some h' ∧ RM h0 h' (dE p Z) p P bk T tl fk := by
  have hr := hV.rd
  have r1 : ∀ (h1 : XH) (z : Int64) (k : Nat), k < 8 → RM h0 h1 z p P bk T tl fk → ∃ h', xloop (fX9_mixesReadings_B15 102 (i32 (k : Nat))) 5000 (h1, 0) = some h' ∧ RM h0 h' (itr (fun w z => mz z (aRead p k w)) z 3) p P bk T tl fk := fun h1 z k hk R1 =>
    xl_inv (fX9_mixesReadings_B15 102 (i32 (k : Nat))) (fun i s => s.2 = i32 (i : Nat) ∧ RM h0 s.1 (itr (fun w z => mz z (aRead p k w)) z i) p P bk T tl fk) 3 (fun h' => RM h0 h' (itr (fun w z => mz z (aRead p k w)) z 3) p P bk T tl fk) (fun i s hi I => by
      obtain ⟨h2, x⟩ := s
      obtain ⟨rfl, I⟩ := I
      dsimp only at I
      obtain ⟨h3, R3, g3⟩ := (I.op (fun A S m G s5 s1 => mRead m G hV (i := k) (w := i) (by omega) (by omega))).mix
      unfold fX9_mixesReadings_B15 fX9_mixesReadings_b15
      dsimp only
      rw [L_3, ile_f (by omega), obb I.c, g3, L_1, i32_add]
      exact ⟨_, rfl, rfl, R3⟩) (fun s I => by
      obtain ⟨h2, x⟩ := s
      obtain ⟨rfl, I⟩ := I
      unfold fX9_mixesReadings_B15 fX9_mixesReadings_b15
      dsimp only
      rw [L_3, ile_t (by omega)]
      exact ⟨_, rfl, I⟩) (h1, 0) ⟨rfl, R1⟩ 5000 (by omega)
  exact xl_inv (fX9_mixesReadings_B2 102) (fun i s => s.2 = i32 (i : Nat) ∧ RM h0 s.1 (itr (fun k z => itr (fun w z => mz z (aRead p k w)) z 3) Z i) p P bk T tl fk) (p 76).toNat (fun h' => RM h0 h' (dE p Z) p P bk T tl fk) (fun i s hi I => by
    obtain ⟨h2, x⟩ := s
    obtain ⟨rfl, I⟩ := I
    dsimp only at I
    obtain ⟨h3, e3, R3⟩ := r1 h2 _ i (by omega) I
    unfold fX9_mixesReadings_B2 fX9_mixesReadings_b2
    dsimp only
    rw [obb I.r0, L_76, obb I.g76, ile_f (by omega), obb e3, L_1, i32_add]
    exact ⟨_, rfl, rfl, R3⟩) (fun s I => by
    obtain ⟨h2, x⟩ := s
    obtain ⟨rfl, I⟩ := I
    dsimp only at I
    unfold fX9_mixesReadings_B2 fX9_mixesReadings_b2
    dsimp only
    rw [obb I.r0, L_76, obb I.g76, ile_t (by omega)]
    exact ⟨_, rfl, I⟩) (h, 0) ⟨rfl, R⟩ 5000 (by omega)
theorem mdH (R : RM h0 h Z p P bk T tl fk) (hV : VP p) : ∃ h', xloop (fX9_digest_B141 102) 5000 (h, 0) = some h' ∧ RM h0 h' (dH p Z) p P bk T tl fk := by
  have hn := hV.n
  have r1 : ∀ (h1 : XH) (z : Int64) (k : Nat), k < 5 → RM h0 h1 z p P bk T tl fk → ∃ h', xloop (fX9_digest_B148 102 (i32 (k : Nat))) 5000 (h1, 0) = some h' ∧ RM h0 h' (itr (fun w z => mz z (aOpen p k w)) z 4) p P bk T tl fk := fun h1 z k hk R1 =>
    xl_inv (fX9_digest_B148 102 (i32 (k : Nat))) (fun i s => s.2 = i32 (i : Nat) ∧ RM h0 s.1 (itr (fun w z => mz z (aOpen p k w)) z i) p P bk T tl fk) 4 (fun h' => RM h0 h' (itr (fun w z => mz z (aOpen p k w)) z 4) p P bk T tl fk) (fun i s hi I => by
      obtain ⟨h2, x⟩ := s
      obtain ⟨rfl, I⟩ := I
      dsimp only at I
      obtain ⟨h3, R3, g3⟩ := (I.op (fun A S m G s5 s1 => mOpen m G hV (z := k) (w := i) (by omega) (by omega))).mix
      unfold fX9_digest_B148 fX9_digest_b148
      dsimp only
      rw [L_4, ile_f (by omega), obb I.c, g3, L_1, i32_add]
      exact ⟨_, rfl, rfl, R3⟩) (fun s I => by
      obtain ⟨h2, x⟩ := s
      obtain ⟨rfl, I⟩ := I
      unfold fX9_digest_B148 fX9_digest_b148
      dsimp only
      rw [L_4, ile_t (by omega)]
      exact ⟨_, rfl, I⟩) (h1, 0) ⟨rfl, R1⟩ 5000 (by omega)
  exact xl_inv (fX9_digest_B141 102) (fun i s => s.2 = i32 (i : Nat) ∧ RM h0 s.1 (itr (fun k z => mz (itr (fun w z => mz z (aOpen p k w)) z 4) (aSmear p k 0)) Z i) p P bk T tl fk) 5 (fun h' => RM h0 h' (dH p Z) p P bk T tl fk) (fun i s hi I => by
    obtain ⟨h2, x⟩ := s
    obtain ⟨rfl, I⟩ := I
    dsimp only at I
    obtain ⟨h3, e3, R3⟩ := r1 h2 _ i hi I
    obtain ⟨h4, R4, g4⟩ := (R3.op (fun A S m G s5 s1 => mSmear m G hV (z := i) (w := 0) (by omega) (by omega))).mix
    unfold fX9_digest_B141 fX9_digest_b141
    dsimp only
    rw [L_5, ile_f (by omega), obb e3, obb R3.c, L_0, g4, L_1, i32_add]
    exact ⟨_, rfl, rfl, R4⟩) (fun s I => by
    obtain ⟨h2, x⟩ := s
    obtain ⟨rfl, I⟩ := I
    unfold fX9_digest_B141 fX9_digest_b141
    dsimp only
    rw [L_5, ile_t (by omega)]
    exact ⟨_, rfl, I⟩) (h, 0) ⟨rfl, R⟩ 5000 (by omega)
theorem mDig (R : RM h0 h Z p P bk T tl fk) (hV : VP p) : ∃ h' Z', fX9_digest h 102 = some (dig p tl bk, h') ∧ RM h0 h' Z' p P bk T tl fk := by
  obtain ⟨h1, e1, R1⟩ := R.z 12956
  obtain ⟨h2, e2, R2⟩ := mdA R1 hV
  obtain ⟨h3, e3, R3⟩ := mdB R2 hV
  obtain ⟨h4, e4, R4⟩ := mdC R3 hV
  obtain ⟨h5, e5, R5⟩ := mdD R4 hV
  obtain ⟨h6, e6, R6⟩ := mdE R5 hV
  obtain ⟨h7, R7, g7⟩ := (R6.op (fun A S m G s5 s1 => mCands m G hV)).mix
  obtain ⟨h8, e8, R8⟩ := xl_inv (fX9_mixesReadings_B52 102) (fun i s => s.2 = i32 (i : Nat) ∧ RM h0 s.1 (itr (fun k z => mz z (aCand p k)) (mz (dE p (dD p (dC p (dB p (dA p tl bk 12956))))) (nc p (-1))) i) p P bk T tl fk) 5 (fun h' => RM h0 h' (dF p (dE p (dD p (dC p (dB p (dA p tl bk 12956)))))) p P bk T tl fk) (fun i s hi I => by
    obtain ⟨h2, x⟩ := s
    obtain ⟨rfl, I⟩ := I
    dsimp only at I
    obtain ⟨h3, R3, g3⟩ := (I.op (fun A S m G s5 s1 => mCand m G hV (z := i) (by omega))).mix
    unfold fX9_mixesReadings_B52 fX9_mixesReadings_b52
    dsimp only
    rw [L_5, ile_f (by omega), obb I.c, g3, L_1, i32_add]
    exact ⟨_, rfl, rfl, R3⟩) (fun s I => by
    obtain ⟨h2, x⟩ := s
    obtain ⟨rfl, I⟩ := I
    unfold fX9_mixesReadings_B52 fX9_mixesReadings_b52
    dsimp only
    rw [L_5, ile_t (by omega)]
    exact ⟨_, rfl, I⟩) (h7, 0) ⟨rfl, R7⟩ 5000 (by omega)
  obtain ⟨h9, R9, g9⟩ := (R8.op (fun A S m G s5 s1 => mNear m G hV (w := 0) (by omega))).mix
  obtain ⟨h10, R10, g10⟩ := (R9.op (fun A S m G s5 s1 => mBest m G hV (z := 20) (by omega) false)).mix
  obtain ⟨h11, R11, g11⟩ := (R10.op (fun A S m G s5 s1 => mBest m G hV (z := 20) (by omega) true)).mix
  obtain ⟨h12, e12, R12⟩ := mdH R11 hV
  have mr : fX9_mixesReadings h5 102 = some h11 := by
    unfold fX9_mixesReadings
    rw [obb e6, obb R6.c, g7, obb e8, obb R8.c, L_0, g9, obb R9.c, L_20, g10, obb R10.c, g11]
  have j : xgJ h12 102 9 16 = some (dig p tl bk) := by
    obtain ⟨A, S, m, -⟩ := R12
    exact m.j16
  unfold fX9_digest
  rw [obb e1, obb e2, obb e3, obb e4, obb e5, obb R5.c, obb mr, obb e12, obb j]
  exact ⟨h12, _, rfl, R12⟩
end
