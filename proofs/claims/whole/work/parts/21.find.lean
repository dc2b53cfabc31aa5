/-! the model's found speeds -/
theorem emod_0 {x s : Int} : (x.tmod s = 0) = (x % s = 0) := by
  apply propext
  constructor
  · intro q
    exact Int.emod_eq_zero_of_dvd (Int.dvd_of_tmod_eq_zero q)
  · intro q
    exact Int.tmod_eq_zero_of_dvd (Int.dvd_of_emod_eq_zero q)
theorem mfit {h0 h : XH} {A : Nat → Nat → Int32} {S : Nat → Int32} {Z : Int64} (M : MdAt h0 h A S Z) {p : Nat → Int} (G : PgAt A p) (hV : VP p) {ex v : Int} (hx : -2147483648 ≤ ex ∧ ex < 2147483648) (hv : -1000 ≤ v ∧ v ≤ 1000) : xloop (fX9_finds_B36 h 102 (i32 ex) (i32 (msr p)) (i32 v)) 5000 (true, i32 0) = some (fit p ex v) := by
  have hr := hV.rd
  have hm := msr_rng hV
  have step : ∀ i : Nat, (i : Int) < p 76 → fX9_finds_B36 h 102 (i32 ex) (i32 (msr p)) (i32 v) (true, i32 i) = some (if okk p ex v i = true then .inl (true, i32 (i + 1 : Nat)) else .inl (false, i32 (i + 1 : Nat))) := fun i hi => by
    have rt := hV.rdt i hi
    have mb := mulb (a := v) (b := p (77 + 2 * i)) (A := 1000) (B := 500) (by omega) (by omega)
    unfold fX9_finds_B36 fX9_finds_b36 fX9_finds_J93
    rw [M.r0]; simp only [Option.bind_some]
    rw [L_76, M.pg G (by omega)]; simp only [Option.bind_some, L_0, L_1, L_2, L_77, i32_add, i32_mul, if_true]
    rw [show (76 : Int).toNat = 76 from rfl, ile_f (by omega), ceq (by omega), M.pg G (by omega), M.pg G (by omega)]; simp only [Option.bind_some, i32_mul, i32_sub]
    rw [show (77 + 2 * (i : Int)).toNat = 77 + 2 * i by omega, show (77 + 2 * (i : Int) + 1).toNat = 78 + 2 * i by omega, ieq_f (by omega), i32_rem (by omega) (by omega), ceq (by have := tmod_rng (a := v * p (77 + 2 * i) - p (78 + 2 * i)) (b := (msr p : Int)) (by omega); omega)]
    unfold okk
    by_cases q1 : (i : Int) = ex
    · rw [if_pos q1, decide_eq_true q1, Bool.true_or, if_pos rfl]; rfl
    · rw [if_neg q1, decide_eq_false q1, Bool.false_or]
      simp only [emod_0, decide_eq_true_eq]
      split <;> rfl
  have fin : ∀ b : Bool, fX9_finds_B36 h 102 (i32 ex) (i32 (msr p)) (i32 v) (b, i32 (p 76).toNat) = some (.inr b) := fun b => by
    unfold fX9_finds_B36 fX9_finds_b36
    rw [M.r0]; simp only [Option.bind_some]
    rw [L_76, M.pg G (by omega)]; simp only [Option.bind_some]
    rw [show (76 : Int).toNat = 76 from rfl, ile_t (by omega)]
  by_cases q : fit p ex v = true
  · have q2 := (allb_iff _ _).mp q
    rw [q]
    exact xl_run (fX9_finds_B36 h 102 (i32 ex) (i32 (msr p)) (i32 v)) (fun i => (true, i32 (i : Nat))) (p 76).toNat true (fun i hi => by rw [step i (by omega), if_pos (q2 i hi)]) (fin true) 5000 (by omega)
  · have q0 : fit p ex v = false := by simpa using q
    have hex : ∃ k, k < (p 76).toNat ∧ ¬ okk p ex v k = true := by
      apply Classical.byContradiction
      intro z
      exact q ((allb_iff _ _).mpr fun i hi => Classical.byContradiction fun y => z ⟨i, hi, y⟩)
    obtain ⟨k, ⟨k1, k2⟩, k3⟩ := pk_least _ hex
    rw [q0]
    have f := xl_run (fX9_finds_B36 h 102 (i32 ex) (i32 (msr p)) (i32 v)) (fun i => (decide (i ≤ k), i32 (i : Nat))) (k + 1) false (fun i hi => by
      rw [decide_eq_true (show i ≤ k by omega), step i (by omega)]
      by_cases e : i = k
      · subst e
        rw [if_neg k2, decide_eq_false (by omega)]
      · rw [if_pos (Classical.byContradiction fun z => k3 i (by omega) ⟨by omega, z⟩), decide_eq_true (by omega)]) (by
      rw [decide_eq_false (show ¬ k + 1 ≤ k by omega)]
      by_cases e : k + 1 = (p 76).toNat
      · rw [e]; exact fin false
      · unfold fX9_finds_B36 fX9_finds_b36
        rw [M.r0]; simp only [Option.bind_some]
        rw [L_76, M.pg G (by omega)]; simp only [Option.bind_some]
        rw [show (76 : Int).toNat = 76 from rfl, ile_f (by omega)]
        rfl) 5000 (by omega)
    exact f
def FnAt (A : Nat → Nat → Int32) (p : Nat → Int) (ex : Int) (n : Nat) : Prop := ∀ j : Nat, j < n → fitL p ex j = true → A 4 (cnt (fitL p ex) j) = i32 ((j : Int) - p 93)
theorem finds_ok {h0 h : XH} {A : Nat → Nat → Int32} {S : Nat → Int32} {Z : Int64} (M : MdAt h0 h A S Z) {p : Nat → Int} (G : PgAt A p) (hV : VP p) {ex : Int} (hx : -2147483648 ≤ ex ∧ ex < 2147483648) : ∃ h' A' S', fX9_finds h 102 (i32 ex) = some h' ∧ MdAt h0 h' A' S' Z ∧ Kp A A' S S' ∧ S' 12 = i32 (nc p ex) ∧ FnAt A' p ex (2 * p 93 + 1).toNat := by
  have hl := hV.lim
  unfold fX9_finds
  rw [M.c]; simp only [Option.bind_some]
  rw [mmsr_ok M G hV]; simp only [Option.bind_some]
  obtain ⟨h1, e1, M1⟩ := M.p12 0
  rw [e1]; simp only [Option.bind_some]
  rw [M1.r0]; simp only [Option.bind_some]
  rw [L_93, M1.pg G (by omega)]; simp only [Option.bind_some, i32_neg, L_0]
  obtain ⟨e, f, I⟩ := xl_inv (fX9_finds_B19 102 (i32 ex) (i32 (msr p))) (fun i s => s.2 = i32 ((i : Int) - p 93) ∧ ∃ A' S', MdAt h0 s.1 A' S' Z ∧ Kp A A' S S' ∧ S' 12 = i32 (cnt (fitL p ex) i) ∧ FnAt A' p ex i) (2 * p 93 + 1).toNat (fun h' => ∃ A' S', MdAt h0 h' A' S' Z ∧ Kp A A' S S' ∧ S' 12 = i32 (cnt (fitL p ex) (2 * p 93 + 1).toNat) ∧ FnAt A' p ex (2 * p 93 + 1).toNat) (fun i s hi I => by
    obtain ⟨h2, x⟩ := s
    obtain ⟨rfl, A2, S2, M2, K2, c2, F2⟩ := I
    dsimp only at M2 ⊢
    have G2 := G.kp K2
    have hc := cnt_le (fitL p ex) i
    unfold fX9_finds_B19 fX9_finds_b19
    dsimp only
    rw [M2.r0]; simp only [Option.bind_some]
    rw [L_93, M2.pg G2 (by omega)]; simp only [Option.bind_some, L_0]
    rw [show (93 : Int).toNat = 93 from rfl, ilt_f (by omega), mfit M2 G2 hV hx (by omega)]; simp only [Option.bind_some]
    rw [show fit p ex ((i : Int) - p 93) = fitL p ex i from rfl, L_1, i32_add, show ((i : Int) - p 93 + 1) = ((i + 1 : Nat) : Int) - p 93 by omega]
    cases hf : fitL p ex i with
    | true =>
      rw [if_pos rfl, M2.r11]; simp only [Option.bind_some]
      rw [M2.i12]; simp only [Option.bind_some]
      rw [c2]
      obtain ⟨h3, e3, M3⟩ := M2.s4 (i := (cnt (fitL p ex) i : Nat)) (i32 ((i : Int) - p 93)) (by omega)
      rw [e3]; simp only [Option.bind_some]
      rw [M3.i12]; simp only [Option.bind_some]
      rw [c2, i32_add]
      obtain ⟨h4, e4, M4⟩ := M3.p12 (i32 ((cnt (fitL p ex) i : Nat) + 1))
      rw [e4]; simp only [Option.bind_some]
      refine ⟨_, rfl, rfl, _, _, M4, (K2.a 4 _ (by omega)).s 12 _ (by omega), ?_, ?_⟩
      · rw [sup_s]; simp only [cnt, hf, if_true]; rfl
      · intro j hj hfj
        rw [aup_s]
        by_cases q : j = i
        · subst q
          simp [upd]
        · have lt : cnt (fitL p ex) j < cnt (fitL p ex) i := by
            have a := cnt_mono (fitL p ex) (show j + 1 ≤ i by omega)
            simp only [cnt, hfj, if_true] at a
            omega
          have ne : ¬ cnt (fitL p ex) j = ((cnt (fitL p ex) i : Nat) : Int).toNat := by omega
          simp only [upd, if_neg ne]
          exact F2 j (by omega) hfj
    | false =>
      rw [if_neg Bool.false_ne_true]
      refine ⟨_, rfl, rfl, A2, S2, M2, K2, ?_, ?_⟩
      · simp only [cnt, hf, if_neg Bool.false_ne_true, Nat.add_zero]; exact c2
      · intro j hj hfj
        by_cases q : j = i
        · subst q; rw [hf] at hfj; exact absurd hfj Bool.false_ne_true
        · exact F2 j (by omega) hfj) (fun s I => by
    obtain ⟨h2, x⟩ := s
    obtain ⟨rfl, A2, S2, M2, K2, c2, F2⟩ := I
    dsimp only at M2
    unfold fX9_finds_B19 fX9_finds_b19
    dsimp only
    rw [M2.r0]; simp only [Option.bind_some]
    rw [L_93, M2.pg (G.kp K2) (by omega)]; simp only [Option.bind_some]
    rw [show (93 : Int).toNat = 93 from rfl, ilt_t (by omega)]
    exact ⟨_, rfl, A2, S2, M2, K2, c2, F2⟩) (h1, i32 (-p 93)) ⟨by show i32 (-p 93) = i32 _; congr 1; omega, _, _, M1, (Kp.rf A S).s 12 _ (by omega), sup_s _ _ _, fun j hj => absurd hj (by omega)⟩ 5000 (by omega)
  obtain ⟨A', S', M', K', c', F'⟩ := I
  refine ⟨e, A', S', ?_, M', K', c', F'⟩
  rw [show (93 : Int).toNat = 93 from rfl, f]
  rfl
