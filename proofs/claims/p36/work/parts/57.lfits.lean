/-! which speeds fit, as the law asks it -/
section
variable {h : XH} {p : Nat → Int}
theorem lfits (R : RX h p) {v ex : Int} (hv : -1000 ≤ v ∧ v ≤ 1000) (hx : -1 ≤ ex ∧ ex ≤ 100) : ∃ h', fL_fits h 0 (i32 v) (i32 ex) (i32 (msr p)) = some (fit p ex v, h') ∧ RX h' p ∧ frz h h' := by
  have V := R.V
  have hr := V.rd
  have hm := msr_rng V
  obtain ⟨e, he, h', rfl, R', u'⟩ := xl_inv (fL_fits_B6 0 (i32 v) (i32 ex) (i32 (msr p))) (fun k s => ∃ h' : XH, s = (h', allb (okk p ex v) k, i32 (k : Nat)) ∧ RX h' p ∧ frz h h') (p 76).toNat (fun e => ∃ h' : XH, e = (h', fit p ex v) ∧ RX h' p ∧ frz h h') (by
    rintro k s hk ⟨h1, rfl, R1, u1⟩
    have a1 : allb (okk p ex v) (k + 1) = (allb (okk p ex v) k && okk p ex v k) := rfl
    obtain ⟨h2, e2, R2, u2⟩ := R1.rd0 (i := (k : Int)) (by omega)
    obtain ⟨h3, e3, R3, u3⟩ := R2.rd1 (i := (k : Int)) (by omega)
    rw [Int.toNat_natCast] at e2 e3
    have rt := V.rdt k (by omega)
    have mb := mulb (a := v) (b := p (77 + 2 * k)) (A := 1000) (B := 500) (by omega) (by omega)
    have m := s_mod V (v * p (77 + 2 * k) - p (78 + 2 * k))
    have s1 : okk p ex v k = (decide ((k : Int) = ex) || decide ((v * p (77 + 2 * k) - p (78 + 2 * k)) % (msr p : Int) = 0)) := rfl
    unfold fL_fits_B6 fL_fits_b6 fL_fits_J52 fL_fits_J56
    dsimp only
    rw [obb R1.c, obb R1.n9, ile_f (by omega), show i32 (k : Nat) + (1 : Int32) = i32 ((k + 1 : Nat) : Int) by rw [L_1, i32_add]; rfl]
    by_cases q : allb (okk p ex v) k = true
    · rw [if_pos q, ceq (by omega)]
      by_cases q1 : (k : Int) = ex
      · rw [if_pos q1]
        refine ⟨_, rfl, h1, ?_, R1, u1⟩
        rw [a1, q, s1, decide_eq_true q1]
        rfl
      · rw [if_neg q1, obb R1.c, obb e2, obb R2.c, obb e3]
        dsimp only
        rw [i32_mul, i32_sub, obb (lmod_ok (by omega) (by omega)), L_0, ceq (by omega)]
        by_cases q2 : (v * p (77 + 2 * k) - p (78 + 2 * k)) % (msr p : Int) = 0
        · rw [if_pos q2]
          refine ⟨_, rfl, h3, ?_, R3, u1.tr (u2.tr u3)⟩
          rw [a1, q, s1, decide_eq_false q1, decide_eq_true q2]
          rfl
        · rw [if_neg q2]
          refine ⟨_, rfl, h3, ?_, R3, u1.tr (u2.tr u3)⟩
          rw [a1, q, s1, decide_eq_false q1, decide_eq_false q2]
          rfl
    · rw [if_neg q]
      refine ⟨_, rfl, h1, ?_, R1, u1⟩
      simp only [Bool.not_eq_true] at q
      rw [a1, q]
      rfl) (by
    rintro s ⟨h1, rfl, R1, u1⟩
    refine ⟨(h1, fit p ex v), ?_, h1, rfl, R1, u1⟩
    unfold fL_fits_B6 fL_fits_b6
    dsimp only
    rw [obb R1.c, obb R1.n9, ile_t (by omega)]
    rfl) (h, true, (0 : Int32)) ⟨h, rfl, R, frz.rf⟩ 5000 (by omega)
  exact ⟨h', by unfold fL_fits; rw [obb he], R', u'⟩
/-! how many without a reading -/
theorem lwithout (R : RX h p) {r : Int} (hr : -1 ≤ r ∧ r ≤ 100) (x4 x9 x10 x11 : Int32) : ∃ h', xloop (fL_readings_B280 0 (i32 (msr p)) (i32 (p 93)) x4 x9 x10 x11 (i32 r)) 5000 (h, (0 : Int32), i32 (-p 93)) = some (h', i32 (nc p r : Nat)) ∧ RX h' p ∧ frz h h' := by
  have V := R.V
  have hl := V.lim
  obtain ⟨e, he, h', rfl, R', u'⟩ := xl_inv (fL_readings_B280 0 (i32 (msr p)) (i32 (p 93)) x4 x9 x10 x11 (i32 r)) (fun i s => ∃ h' : XH, s = (h', i32 (cnt (fitL p r) i : Nat), i32 ((i : Int) - p 93)) ∧ RX h' p ∧ frz h h') (2 * p 93 + 1).toNat (fun e => ∃ h' : XH, e = (h', i32 (nc p r : Nat)) ∧ RX h' p ∧ frz h h') (by
    rintro i s hi ⟨h1, rfl, R1, u1⟩
    obtain ⟨h2, e2, R2, u2⟩ := lfits R1 (v := (i : Int) - p 93) (ex := r) (by omega) hr
    have a1 : cnt (fitL p r) (i + 1) = cnt (fitL p r) i + (if fitL p r i then 1 else 0) := rfl
    have a2 : fit p r ((i : Int) - p 93) = fitL p r i := rfl
    unfold fL_readings_B280 fL_readings_b280
    dsimp only
    rw [ilt_f (by omega), obb e2]
    dsimp only
    rw [a2, L_1, L_0, i32_add, i32_add, i32_add, a1]
    cases fitL p r i with
    | true => exact ⟨_, if_pos rfl, h2, by congr 3; omega, R2, u1.tr u2⟩
    | false => exact ⟨_, if_neg Bool.false_ne_true, h2, by congr 3; omega, R2, u1.tr u2⟩) (by
    rintro s ⟨h1, rfl, R1, u1⟩
    refine ⟨_, ?_, h1, rfl, R1, u1⟩
    unfold fL_readings_B280 fL_readings_b280
    dsimp only
    rw [ilt_t (by omega)]
    rfl) (h, (0 : Int32), i32 (-p 93)) ⟨h, by congr 3; omega, R, frz.rf⟩ 5000 (by omega)
  exact ⟨h', he, R', u'⟩
theorem nc_mono (V : VP p) (r : Nat) : nc p (-1) ≤ nc p r := by
  refine cnt_imp (fun i _ hi => ?_)
  unfold fitL fit at hi ⊢
  rw [allb_iff] at hi ⊢
  intro k hk
  have := hi k hk
  unfold okk at this ⊢
  rw [Bool.or_eq_true, decide_eq_true_eq, decide_eq_true_eq] at this ⊢
  rcases this with a | a
  · omega
  · exact .inr a
/-! the odd one -/
theorem lodd (R : RX h p) (x9 x10 : Int32) : ∃ h', xloop (fL_readings_B268 0 (i32 (msr p)) (i32 (p 93)) (i32 (nc p (-1) : Nat)) x9 x10) 5000 (h, i32 (-1004), i32 (p 76 - 1)) = some (.inr (h', i32 (fst1 p (p 76).toNat 0))) ∧ RX h' p ∧ frz h h' := by
  have V := R.V
  have hl := V.lim
  have h8 := V.rd
  obtain ⟨e, he, h', rfl, R', u'⟩ := xl_inv (fL_readings_B268 0 (i32 (msr p)) (i32 (p 93)) (i32 (nc p (-1) : Nat)) x9 x10) (fun j s => ∃ h' : XH, s = (h', i32 (fst1 p j ((p 76).toNat - j)), i32 (p 76 - 1 - j)) ∧ RX h' p ∧ frz h h') (p 76).toNat (fun e => ∃ h' : XH, e = .inr (h', i32 (fst1 p (p 76).toNat 0)) ∧ RX h' p ∧ frz h h') (by
    rintro j s hj ⟨h1, rfl, R1, u1⟩
    obtain ⟨r, hr⟩ : ∃ r : Nat, (p 76).toNat - (j + 1) = r := ⟨_, rfl⟩
    have er : p 76 - 1 - (j : Int) = (r : Nat) := by omega
    obtain ⟨h2, e2, R2, u2⟩ := lwithout R1 (r := (r : Nat)) (by omega) (i32 (nc p (-1) : Nat)) x9 x10 (i32 (fst1 p j ((p 76).toNat - j)))
    obtain ⟨h3, e3, R3, u3⟩ := R2.rd2 (i := (r : Nat)) (by omega)
    have n1 := nc_le V (r : Nat)
    have n2 := nc_le V (-1)
    have n3 := nc_mono V r
    have J : ∀ z : Int32, fL_readings_J326 h2 0 (i32 (msr p)) (i32 (p 93)) (i32 (nc p (-1) : Nat)) x9 x10 (i32 (r : Nat)) (i32 (nc p (r : Nat) : Nat)) z = some (.inl (h3, z, i32 ((r : Int) - 1))) := fun z => by
      unfold fL_readings_J326
      rw [obb R2.c, obb e3, if_pos rfl, ile_t (by omega), show (-1 : Int32) = i32 (-1) from L_m1, i32_add]
      rfl
    unfold fL_readings_B268 fL_readings_b268
    dsimp only
    rw [L_0, er, ilt_f (by omega), i32_neg, ← L_0, obb e2]
    dsimp only
    rw [J, J, L_0, cle (by omega), show (r : Int) - 1 = p 76 - 1 - ((j + 1 : Nat) : Int) by omega, hr]
    have f1 : fst1 p (j + 1) r = if 0 < nc p r then (r : Int) else fst1 p j (r + 1) := rfl
    have f2 : (p 76).toNat - j = r + 1 := by omega
    rw [f1, f2]
    by_cases q : 0 < nc p r
    · rw [if_neg (by omega), if_pos q]
      exact ⟨_, rfl, h3, rfl, R3, u1.tr (u2.tr u3)⟩
    · rw [if_pos (by omega), if_neg q]
      exact ⟨_, rfl, h3, rfl, R3, u1.tr (u2.tr u3)⟩) (by
    rintro s ⟨h1, rfl, R1, u1⟩
    refine ⟨.inr (h1, i32 (fst1 p (p 76).toNat 0)), ?_, h1, rfl, R1, u1⟩
    unfold fL_readings_B268 fL_readings_b268
    dsimp only
    rw [L_0, ilt_t (by omega), Nat.sub_self]) (h, i32 (-1004), i32 (p 76 - 1)) ⟨h, by congr 3; omega, R, frz.rf⟩ 5000 (by omega)
  exact ⟨h', he, R', u'⟩
end
