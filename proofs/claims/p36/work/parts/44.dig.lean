/-! the digest -/
def mz (Z : Int64) (v : Int) : Int64 := (31 : Int64) * Z + (i32 v).toInt64
def frz (h h' : XH) : Prop := ∀ x, 101 < x → h' x = h x
theorem RC.cop {h : XH} {p : Nat → Int} {P : Nat → Nat → Int} {bk : Nat} {T : Nat → Int} {tl : Nat} {fk : Int} (R : RC h p P bk T tl fk) {r : Int} {res : Option (Int32 × XH)} (C : COp h r res) : ∃ h', res = some (i32 r, h') ∧ RC h' p P bk T tl fk ∧ frz h h' := by
  obtain ⟨h', e, s1, s2⟩ := C
  obtain ⟨N, ⟨nx, H⟩, X, ⟨q, W⟩, -⟩ := R
  exact ⟨h', e, ⟨N.fr (fun x hx => s1 x (by omega)), ⟨nx, H.fr (fun x hx => s1 x (by omega))⟩, X.fr (fun x hx => s1 x (by omega)), ⟨q, W.fr (fun k hk => s1 _ (by omega))⟩, s2⟩, fun x hx => s1 x (by omega)⟩
theorem RC.tx {h : XH} {p : Nat → Int} {P : Nat → Nat → Int} {bk : Nat} {T : Nat → Int} {tl : Nat} {fk : Int} (R : RC h p P bk T tl fk) : xgI h 93 7 2 = some (i32 (tl : Nat)) := by
  obtain ⟨c, sp, a, h1, -⟩ := R.2.2.1
  exact gI h1 2 rfl
theorem RC.bk {h : XH} {p : Nat → Int} {P : Nat → Nat → Int} {bk : Nat} {T : Nat → Int} {tl : Nat} {fk : Int} (R : RC h p P bk T tl fk) : xgI h 11 3 2 = some (i32 (bk : Nat)) := by
  obtain ⟨nx, H⟩ := R.2.1
  exact gI H.2.2.1 2 rfl
/-- the parts of the digest, value by value -/
noncomputable def dA (p : Nat → Int) (tl bk : Nat) (z : Int64) : Int64 := itr (fun k z => mz z (aCount p (tl : Nat) (bk : Nat) k)) z 18
noncomputable def dB (p : Nat → Int) (z : Int64) : Int64 := itr (fun k z => mz (mz z (aMark p 0 k)) (aMark p 1000 k)) z (p 0).toNat
noncomputable def dC (p : Nat → Int) (z : Int64) : Int64 := itr (fun k z => itr (fun w z => mz z (aFlash p k w)) z 4) z (min 20 (nfl p).toNat)
noncomputable def dD (p : Nat → Int) (z : Int64) : Int64 := itr (fun k z => mz z (aSeems p k)) z 4
noncomputable def dE (p : Nat → Int) (z : Int64) : Int64 := itr (fun k z => itr (fun w z => mz z (aRead p k w)) z 3) z (p 76).toNat
noncomputable def dF (p : Nat → Int) (z : Int64) : Int64 := itr (fun k z => mz z (aCand p k)) (mz z (nc p (-1))) 5
noncomputable def dG (p : Nat → Int) (z : Int64) : Int64 := mz (mz (mz z (aNear p 0)) (aBest p 20 false)) (aBest p 20 true)
noncomputable def dH (p : Nat → Int) (z : Int64) : Int64 := itr (fun k z => mz (itr (fun w z => mz z (aOpen p k w)) z 4) (aSmear p k 0)) z 5
noncomputable def dig (p : Nat → Int) (tl bk : Nat) : Int64 := dH p (dG p (dF p (dE p (dD p (dC p (dB p (dA p tl bk 12956)))))))
