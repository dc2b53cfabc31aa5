theorem mulb {a b : Int} {A B : Nat} (ha : a.natAbs ≤ A) (hb : b.natAbs ≤ B) : (a * b).natAbs ≤ A * B := by
  rw [Int.natAbs_mul]; exact Nat.mul_le_mul ha hb
/-! the earliest flash with the same picture -/
theorem ceq_b {a b : Int} (h : (-2147483648 ≤ a ∧ a < 2147483648) ∧ (-2147483648 ≤ b ∧ b < 2147483648)) : (i32 a = i32 b) ↔ a = b := by rw [i32_eq h]
theorem erl_ok {p : Nat → Int} {z : Int} (hz : 0 ≤ z) : (erl p z : Int) ≤ z ∧ (∀ j, j < erl p z → smP p z j = false) ∧ smP p z (erl p z) = true := by
  obtain ⟨a, b, c, d⟩ := lst_ok (P := smP p z) z.toNat 0
  refine ⟨by unfold erl; omega, fun j hj => c j (by omega) hj, ?_⟩
  rcases Nat.lt_or_ge (erl p z) (0 + z.toNat) with q | q
  · exact d q
  · have e : erl p z = z.toNat := by unfold erl at q ⊢; omega
    unfold smP
    rw [e, decide_eq_true_eq]
    rw [show ((z.toNat : Nat) : Int) = z by omega, Int.sub_self, Int.zero_emod]
theorem cearl_step {h : XH} {p : Nat → Int} (H : NowAt h p) (hV : VP p) {z : Int} (hz : 0 ≤ z ∧ z ≤ nfl p - 1) {i : Nat} (hi : (i : Int) < z) : fX5_earliestAlike_B31 h 1 (i32 z) (i32 (msr p)) (i32 (trn p (tkf p z).toNat % (msr p : Int))) (i32 i) = some (if smP p z i = true then .inr (.inl (i32 i)) else .inl (i32 (i + 1 : Nat))) := by
  unfold fX5_earliestAlike_B31 fX5_earliestAlike_b31
  have hn := nfl_rng hV
  have h1 := tkf_rng hV (k := i) (by omega)
  have h2 := trn_rng hV (tkf p i).toNat
  have h3 := msr_rng hV
  have h4 := s_mod hV (trn p (tkf p i).toNat)
  have h5 := s_mod hV (trn p (tkf p z).toNat)
  rw [ile_f (by omega), H.n0, H.n1]; simp only [Option.bind_some]
  rw [H.f.c]; simp only [Option.bind_some]
  rw [ctkf H.f]; simp only [Option.bind_some]
  rw [H.w.c]; simp only [Option.bind_some]
  have e : i32 (tkf p i) = i32 ((tkf p i).toNat : Int) := by congr 1; omega
  rw [e, cturn_ok H.w hV (by omega)]; simp only [Option.bind_some]
  rw [mod_ok (by omega) (by omega)]; simp only [Option.bind_some, L_1, i32_add]
  rw [ceq (by omega)]
  have k : (trn p (tkf p i).toNat % (msr p : Int) = trn p (tkf p z).toNat % (msr p : Int)) ↔ smP p z i = true := by
    unfold smP
    rw [decide_eq_true_eq, ← Int.emod_eq_emod_iff_emod_sub_eq_zero]
    exact eq_comm
  by_cases q : smP p z i = true
  · rw [if_pos q, if_pos (k.mpr q)]
  · rw [if_neg q, if_neg (fun x => q (k.mp x))]
    rfl
theorem cearl {h : XH} {p : Nat → Int} (H : NowAt h p) (hV : VP p) {z : Int} (hz : 0 ≤ z ∧ z ≤ nfl p - 1) : fX5_earliestAlike h 1 (i32 z) = some (i32 (erl p z)) := by
  have hn := nfl_rng hV
  have h1 := tkf_rng hV hz
  have h2 := trn_rng hV (tkf p z).toNat
  have h3 := msr_rng hV
  obtain ⟨e1, e2, e3⟩ := erl_ok (p := p) hz.1
  unfold fX5_earliestAlike
  rw [H.n0, H.n1]; simp only [Option.bind_some]
  rw [H.w.c]; simp only [Option.bind_some]
  rw [cmsr_ok H.w hV]; simp only [Option.bind_some]
  rw [H.f.c]; simp only [Option.bind_some]
  rw [ctkf H.f]; simp only [Option.bind_some]
  have e : i32 (tkf p z) = i32 ((tkf p z).toNat : Int) := by congr 1; omega
  rw [e, cturn_ok H.w hV (by omega)]; simp only [Option.bind_some]
  rw [mod_ok (by omega) (by omega)]; simp only [Option.bind_some]
  have step : ∀ i, i < erl p z → fX5_earliestAlike_B31 h 1 (i32 z) (i32 (msr p)) (i32 (trn p (tkf p z).toNat % (msr p : Int))) (i32 i) = some (.inl (i32 (i + 1 : Nat))) := fun i hi => by
    rw [cearl_step H hV hz (by omega), if_neg (by rw [e2 i hi]; exact Bool.false_ne_true)]
  rcases Int.lt_or_le (erl p z : Int) z with q | q
  · have f := xl_run (fX5_earliestAlike_B31 h 1 (i32 z) (i32 (msr p)) (i32 (trn p (tkf p z).toNat % (msr p : Int)))) (fun i => i32 i) (erl p z) (.inl (i32 (erl p z))) step (by rw [cearl_step H hV hz q, if_pos e3]) 5000 (by omega)
    rw [L_0, show i32 0 = i32 ((0 : Nat) : Int) from rfl, f]
    rfl
  · have f := xl_run (fX5_earliestAlike_B31 h 1 (i32 z) (i32 (msr p)) (i32 (trn p (tkf p z).toNat % (msr p : Int)))) (fun i => i32 i) (erl p z) (.inr ()) step (by
      unfold fX5_earliestAlike_B31 fX5_earliestAlike_b31
      rw [ile_t (by omega)]) 5000 (by omega)
    rw [L_0, show i32 0 = i32 ((0 : Nat) : Int) from rfl, f]
    simp only [Option.bind_some]
    congr 2
    omega
/-! flash -/
noncomputable def aFlash (p : Nat → Int) (z w : Int) : Int := if isF p z = true then (if decide (0 ≤ w ∧ w ≤ 3) = true then (if w = 0 then tkf p z else if w = 1 then trn p (tkf p z).toNat % p 0 else if w = 2 then (if z = nfl p - 1 then -1004 else wst p (trn p (tkf p (z + 1)).toNat - trn p (tkf p z).toNat)) else (erl p z : Int)) else -1001) else -1001
theorem cFlash {h : XH} {p : Nat → Int} (H : NowAt h p) (hV : VP p) {z w : Int} (hz : -2147483648 ≤ z ∧ z < 2147483648) (hw : -2147483648 ≤ w ∧ w < 2147483648) : fX8_flash h 0 (i32 z) (i32 w) = some (i32 (aFlash p z w)) := by
  unfold fX8_flash aFlash
  have hn := nfl_rng hV
  rw [H.c]; simp only [Option.bind_some]
  rw [cflash H hV hz]; simp only [Option.bind_some]
  split
  · rename_i y
    simp only [isF, decide_eq_true_eq] at y
    have ht := tkf_rng hV y
    simp only [L_0, L_1, L_2, L_3, L_m1004, L_m1001]
    rw [within_ok hw (by omega) (by omega)]; simp only [Option.bind_some]
    split
    · rename_i x
      simp only [decide_eq_true_eq] at x
      rw [H.n]; simp only [Option.bind_some]
      rw [H.n1]; simp only [Option.bind_some]
      rw [H.f.c]; simp only [Option.bind_some]
      rw [ctkf H.f]; simp only [Option.bind_some]
      rw [ceq (by omega), ceq (by omega), ceq (by omega)]
      split
      · rfl
      · split
        · rw [cTurn H hV (by omega)]
          simp only [Option.bind_some]
          rw [aTurn, if_pos (by simp only [isT, decide_eq_true_eq]; exact ht)]
        · split
          · simp only [i32_add]
            rw [cflash H hV (by omega)]; simp only [Option.bind_some]
            by_cases q : z = nfl p - 1
            · rw [if_pos q, if_neg (by simp only [isF, decide_eq_true_eq]; omega)]
            · rw [if_neg q, if_pos (by simp only [isF, decide_eq_true_eq]; omega)]
              have ht2 := tkf_rng hV (k := z + 1) (by omega)
              rw [ctkf H.f]; simp only [Option.bind_some]
              rw [cStep H hV (by omega) (by omega)]
              simp only [Option.bind_some]
              rw [aStep, if_pos (by simp only [isT, decide_eq_true_eq]; exact ht), if_pos (by simp only [isT, decide_eq_true_eq]; exact ht2)]
          · rw [H.sc]; simp only [Option.bind_some]
            rw [cearl H hV y]
            rfl
    · rfl
  · rw [L_m1001]
/-! how often it seems to go -/
noncomputable def sgn (p : Nat → Int) (w : Int) : Nat → Bool := fun k => decide ((if wst p (trn p (tkf p (k + 1 : Nat)).toNat - trn p (tkf p k).toNat) = 0 then (0 : Int) else if wst p (trn p (tkf p (k + 1 : Nat)).toNat - trn p (tkf p k).toNat) ≤ 0 then 2 else 1) = w)
theorem cseem {h : XH} {p : Nat → Int} (H : NowAt h p) (hV : VP p) {w : Int} (hw : 0 ≤ w ∧ w ≤ 2) : fX5_countSeeming h 1 (i32 w) = some (i32 (cnt (sgn p w) (nfl p - 1).toNat)) := by
  have hn := nfl_rng hV
  unfold fX5_countSeeming
  rw [H.n0, H.n1]; simp only [Option.bind_some]
  rw [H.w.c]; simp only [Option.bind_some]
  rw [cmsr_ok H.w hV, H.f.c]; simp only [Option.bind_some]
  rw [cnfl H.f hV]; simp only [Option.bind_some]
  have f := xl_run (fX5_countSeeming_B22 h 1 (i32 w) (i32 (msr p)) (i32 (nfl p))) (fun i => (i32 (cnt (sgn p w) i), i32 i)) (nfl p - 1).toNat (i32 (cnt (sgn p w) (nfl p - 1).toNat)) (fun i hi => by
    have h1 := tkf_rng hV (k := i) (by omega)
    have h2 := tkf_rng hV (k := (i + 1 : Nat)) (by omega)
    have r := wst_rng hV (trn p (tkf p (i + 1 : Nat)).toNat - trn p (tkf p i).toNat)
    unfold fX5_countSeeming_B22 fX5_countSeeming_b22 fX5_countSeeming_J79
    simp only [L_0, L_1, L_2, i32_add]
    rw [ile_f (by omega), H.n0, H.n1]; simp only [Option.bind_some]
    rw [H.f.c]; simp only [Option.bind_some]
    rw [ctkf H.f, ctkf H.f]; simp only [Option.bind_some]
    rw [H.w.c]; simp only [Option.bind_some]
    have a1 : i32 (tkf p i) = i32 ((tkf p i).toNat : Int) := by congr 1; omega
    have a2 : i32 (tkf p ((i : Int) + 1)) = i32 ((tkf p (i + 1 : Nat)).toNat : Int) := by
      rw [show ((i : Int) + 1) = ((i + 1 : Nat) : Int) by omega]; congr 1; omega
    rw [a1, a2, cStepB H hV (by omega) (by omega)]; simp only [Option.bind_some]
    rw [ceq (by omega), cle (by omega), ceq (by omega), ceq (by omega), ceq (by omega)]
    have key : cnt (sgn p w) (i + 1) = cnt (sgn p w) i + (if sgn p w i then 1 else 0) := rfl
    rw [key]
    unfold sgn
    simp only [decide_eq_true_eq]
    split
    · split <;> simp
    · split
      · split <;> simp
      · split <;> simp) (by
    unfold fX5_countSeeming_B22 fX5_countSeeming_b22
    simp only [L_1, i32_add]
    rw [ile_t (by omega)]) 5000 (by omega)
  rw [L_0]
  have f2 : xloop (fX5_countSeeming_B22 h 1 (i32 w) (i32 (msr p)) (i32 (nfl p))) 5000 (i32 0, i32 0) = some (i32 (cnt (sgn p w) (nfl p - 1).toNat)) := f
  rw [f2]
  rfl
