/-! the model goes to an opening -/
def GI (p : Nat → Int) (S : Nat → Int32) (t : Nat) (w : Bool) : Prop :=
  ∀ c, cnt (opn p) t = c + 1 → ft p c < t ∧ opn p (ft p c) = true ∧ cnt (opn p) (ft p c) = c ∧ S 14 = i32 (ft p c : Nat) ∧
    (w = true → S 15 = i32 ((t : Int) - 1) ∧ ∀ j, ft p c ≤ j → j < t → op p j = true) ∧ (w = false → S 15 = i32 ((en p (ft p c) : Int) - 1))
theorem ft_at {p : Nat → Int} {t c : Nat} (ht : t < 1001) (h : opn p t = true) (hc : cnt (opn p) t = c) : ft p c = t := by
  have lt : c < cnt (opn p) 1001 := by
    have a := cnt_mono (opn p) (show t + 1 ≤ 1001 by omega)
    have e : cnt (opn p) (t + 1) = cnt (opn p) t + (if opn p t = true then 1 else 0) := rfl
    rw [e, if_pos h] at a
    omega
  obtain ⟨n1, n2, n3⟩ := nth_ok (opn p) lt
  exact cnt_inj n2 h (n3.trans hc.symm)
theorem goes_ok {h0 h : XH} {A : Nat → Nat → Int32} {S : Nat → Int32} {Z : Int64} (M : MdAt h0 h A S Z) {p : Nat → Int} (G : PgAt A p) (hV : VP p) {z : Int} (hz : (z = -1004 ∨ 0 ≤ z) ∧ z < 2147483648) : ∃ h' S' v, fX9_goesTo h 102 (i32 z) = some (i32 v, h') ∧ MdAt h0 h' A S' Z ∧ Kp A A S S' ∧ (0 ≤ v ∧ v ≤ 1001) ∧ (z < v ↔ z < nop p) ∧ (0 ≤ z → z < nop p → S' 14 = i32 (ft p z.toNat : Nat) ∧ S' 15 = i32 ((en p (ft p z.toNat) : Int) - 1)) ∧ (z < 0 → v = nop p) := by
  have nle : nop p ≤ 1001 := cnt_le _ _
  let E : XH × Int → Prop := fun e => ∃ S', MdAt h0 e.1 A S' Z ∧ Kp A A S S' ∧ (0 ≤ e.2 ∧ e.2 ≤ 1001) ∧ (z < e.2 ↔ z < nop p) ∧ (0 ≤ z → z < nop p → S' 14 = i32 (ft p z.toNat : Nat) ∧ S' 15 = i32 ((en p (ft p z.toNat) : Int) - 1)) ∧ (z < 0 → e.2 = nop p)
  obtain ⟨e, f, E1⟩ := xl_inv2 (fX9_goesTo_B7 102 (i32 z)) (fun t s => s.2.1 = i32 (cnt (opn p) t : Nat) ∧ s.2.2.1 = (decide (0 < t) && op p (t - 1)) ∧ s.2.2.2 = i32 (t : Nat) ∧ (0 ≤ z → (cnt (opn p) t : Int) ≤ z + 1) ∧ ∃ S', MdAt h0 s.1 A S' Z ∧ Kp A A S S' ∧ GI p S' t s.2.2.1) 1001 (fun e => ∃ g v, (e = .inl (g, i32 v) ∨ e = .inr (g, i32 v)) ∧ E (g, v)) (fun t s ht I => by
    obtain ⟨h2, x, w, y⟩ := s
    obtain ⟨rfl, hw, rfl, cb, S2, M2, K2, I2⟩ := I
    dsimp only at hw M2 I2 ⊢
    have hc := cnt_le (opn p) t
    have ec : cnt (opn p) (t + 1) = cnt (opn p) t + (if opn p t = true then 1 else 0) := rfl
    have es : (decide (0 < t + 1) && op p (t + 1 - 1)) = op p t := by rw [decide_eq_true (by omega), Bool.true_and]; rfl
    have eo : opn p t = (op p t && !w) := by
      rw [hw]
      unfold opn
      by_cases q : t = 0
      · subst q; simp
      · rw [decide_eq_false q, decide_eq_true (show 0 < t by omega)]; simp
    unfold fX9_goesTo_B7 fX9_goesTo_b7 fX9_goesTo_J50
    dsimp only
    rw [L_1000, ilt_f (by omega), M2.c]; simp only [Option.bind_some]
    rw [mop M2 G hV (by omega)]; simp only [Option.bind_some, L_1, i32_add, i32_sub]
    cases ho : op p t with
    | false =>
      rw [ho, Bool.false_and] at eo
      rw [eo, if_neg Bool.false_ne_true] at ec
      simp only [if_neg Bool.false_ne_true]
      rw [M2.i15]; simp only [Option.bind_some]
      obtain ⟨h3, e3, M3⟩ := M2.p15 (S2 15)
      rw [e3]; simp only [Option.bind_some]
      refine .inl ⟨_, rfl, ?_, ?_, rfl, ?_, _, M3, K2.s 15 _ (by omega), ?_⟩
      · dsimp only; rw [ec, Nat.add_zero]
      · dsimp only; rw [es, ho]
      · rw [ec]; exact cb
      · intro c hc2
        obtain ⟨a1, a2, a3, a4, a5, a6⟩ := I2 c (by omega)
        refine ⟨by omega, a2, a3, by rw [sup_n _ _ (by omega)]; exact a4, fun z => absurd z Bool.false_ne_true, fun _ => ?_⟩
        rw [sup_s]
        cases w with
        | false => exact a6 rfl
        | true =>
          have := a5 rfl
          rw [this.1, en_eq p (f := ft p c) (e := t) (by omega) (by omega) this.2 (fun _ => ho)]
    | true =>
      rw [ho, Bool.true_and] at eo
      simp only [if_true]
      cases w with
      | true =>
        simp only [if_true]
        rw [eo] at ec
        obtain ⟨h3, e3, M3⟩ := M2.p15 (i32 (t : Nat))
        rw [e3]; simp only [Option.bind_some]
        refine .inl ⟨_, rfl, ?_, ?_, rfl, ?_, _, M3, K2.s 15 _ (by omega), ?_⟩
        · dsimp only; rw [ec]; rfl
        · dsimp only; rw [es, ho]
        · rw [ec]; exact cb
        · intro c hc2
          obtain ⟨a1, a2, a3, a4, a5, a6⟩ := I2 c (by rw [ec] at hc2; exact hc2)
          refine ⟨by omega, a2, a3, by rw [sup_n _ _ (by omega)]; exact a4, fun _ => ⟨by rw [sup_s]; congr 1; omega, fun j x y => ?_⟩, fun z => absurd z.symm Bool.false_ne_true⟩
          rcases Nat.lt_or_ge j t with q | q
          · exact (a5 rfl).2 j x q
          · obtain rfl : j = t := by omega
            exact ho
      | false =>
        simp only [if_neg Bool.false_ne_true]
        have eo1 : opn p t = true := eo
        rw [eo1, if_pos rfl] at ec
        rw [ceq (by omega)]
        by_cases q : (cnt (opn p) t : Int) - 1 = z
        · rw [if_pos q]
          refine .inr ⟨_, rfl, _, _, .inl rfl, S2, M2, K2, by dsimp only; omega, ?_, ?_⟩
          · have a := cnt_mono (opn p) (show t ≤ 1001 by omega)
            have : cnt (opn p) t ≤ nop p := a
            dsimp only
            omega
          · refine ⟨fun _ _ => ?_, fun _ => by omega⟩
            obtain ⟨a1, a2, a3, a4, a5, a6⟩ := I2 z.toNat (by omega)
            exact ⟨a4, a6 rfl⟩
        · rw [if_neg q]
          obtain ⟨h3, e3, M3⟩ := M2.p14 (i32 (t : Nat))
          rw [e3]; simp only [Option.bind_some]
          obtain ⟨h4, e4, M4⟩ := M3.p15 (i32 (t : Nat))
          rw [e4]; simp only [Option.bind_some]
          refine .inl ⟨_, rfl, ?_, ?_, rfl, ?_, _, M4, (K2.s 14 _ (by omega)).s 15 _ (by omega), ?_⟩
          · dsimp only; rw [ec]; rfl
          · dsimp only; rw [es, ho]
          · rw [ec]; omega
          · intro c hc2
            have hct : cnt (opn p) t = c := by omega
            have hft := ft_at ht eo1 hct
            rw [hft]
            refine ⟨by omega, eo1, hct, by rw [sup_n _ _ (by omega), sup_s], fun _ => ⟨by rw [sup_s]; congr 1; omega, fun j x y => ?_⟩, fun z => absurd z.symm Bool.false_ne_true⟩
            obtain rfl : j = t := by omega
            exact ho) (fun s I => by
    obtain ⟨h2, x, w, y⟩ := s
    obtain ⟨rfl, hw, rfl, cb, S2, M2, K2, I2⟩ := I
    dsimp only at hw M2 I2 cb ⊢
    have hnc : cnt (opn p) 1001 = nop p := rfl
    unfold fX9_goesTo_B7 fX9_goesTo_b7
    dsimp only
    rw [L_1000, ilt_t (by omega)]
    refine ⟨_, rfl, _, _, .inr rfl, S2, M2, K2, by dsimp only; omega, by dsimp only; omega, ?_⟩
    refine ⟨fun hz0 hlt => ?_, fun _ => by dsimp only; omega⟩
    obtain ⟨a1, a2, a3, a4, a5, a6⟩ := I2 z.toNat (by omega)
    refine ⟨a4, ?_⟩
    cases w with
    | false => exact a6 rfl
    | true =>
      have := a5 rfl
      rw [this.1, en_eq p (f := ft p z.toNat) (e := 1001) (by omega) (by omega) this.2 (fun z => absurd z (by omega))]) (h, i32 (0 : Nat), false, i32 (0 : Nat)) ⟨rfl, rfl, rfl, by dsimp only [cnt]; omega, S, M, Kp.rf A S, fun c hc => absurd hc (by simp only [cnt]; omega)⟩ 5000 (by omega)
  obtain ⟨g, v, ev, S', M', K', r1, r2, r3, r4⟩ := E1
  refine ⟨g, S', v, ?_, M', K', r1, r2, r3, r4⟩
  unfold fX9_goesTo
  have f2 : xloop (fX9_goesTo_B7 102 (i32 z)) 5000 (h, 0, false, 0) = some e := f
  rw [f2]
  rcases ev with rfl | rfl <;> rfl
