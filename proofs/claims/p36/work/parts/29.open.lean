/-! an opening -/
noncomputable def stl (p : Nat → Int) (f n : Nat) : Bool := allb (fun i => decide ((trn p (f + i) - trn p f) % (msr p : Int) = 0)) n
theorem cnt_imp {P Q : Nat → Bool} : ∀ {n : Nat}, (∀ i, i < n → P i = true → Q i = true) → cnt P n ≤ cnt Q n
  | 0, _ => Nat.le_refl _
  | n + 1, h => by
    have a := cnt_imp (n := n) (P := P) (Q := Q) (fun i hi => h i (by omega))
    have b := h n (by omega)
    simp only [cnt]
    by_cases q : P n = true
    · rw [if_pos q, if_pos (b q)]; omega
    · rw [if_neg q]; split <;> omega
theorem one_bit {N r0 n : Nat} (hr : r0 < n) (h0 : N.testBit r0 = true) : cnt (fun i => N.testBit i) n = 1 ↔ ∀ r, r < n → N.testBit r = true → r = r0 := by
  constructor
  · intro c r hr2 hb
    apply Classical.byContradiction
    intro ne
    have e1 : cnt (fun i => decide (r0 = i)) n = 1 := by
      have := cnt_set (P := fun _ => false) (r := r0) hr rfl
      simp only [Bool.false_or] at this
      rw [this, cnt_false (fun _ _ => rfl)]
    have e2 := cnt_set (P := fun i => decide (r0 = i)) (r := r) hr2 (decide_eq_false (by omega))
    have := cnt_imp (P := fun i => decide (r0 = i) || decide (r = i)) (Q := fun i => N.testBit i) (n := n) (fun i _ hi => by
      rw [Bool.or_eq_true, decide_eq_true_eq, decide_eq_true_eq] at hi
      rcases hi with rfl | rfl
      · exact h0
      · exact hb)
    omega
  · intro a
    have e1 := cnt_set (P := fun _ => false) (r := r0) hr rfl
    simp only [Bool.false_or] at e1
    rw [cnt_false (fun _ _ => rfl)] at e1
    rw [Nat.zero_add] at e1
    rw [← e1]
    apply cnt_congr
    intro i hi
    cases hb : N.testBit i with
    | true => rw [a i hi hb, decide_eq_true rfl]
    | false =>
      rw [decide_eq_false]
      intro z
      subst z
      rw [h0] at hb
      exact absurd hb.symm Bool.false_ne_true
theorem mod_sub0 {a b s : Int} : (a - b) % s = 0 ↔ a % s = b % s := by
  exact (Int.emod_eq_emod_iff_emod_sub_eq_zero).symm
noncomputable def aOpen (p : Nat → Int) (z w : Int) : Int :=
  if z < 0 then -1001 else if 0 ≤ w ∧ w ≤ 3 then (if z < nop p then
    (if w = 0 then (ft p z.toNat : Int) else if w = 1 then ((en p (ft p z.toNat) - ft p z.toNat : Nat) : Int) else if w = 2 then (smN p (ft p z.toNat) (en p (ft p z.toNat) - ft p z.toNat) : Int) else if stl p (ft p z.toNat) (en p (ft p z.toNat) - ft p z.toNat) = true then 1 else 0)
    else -1004) else -1001
theorem ft_ok {p : Nat → Int} {z : Int} (h0 : 0 ≤ z) (h : z < nop p) : ft p z.toNat ≤ 1000 ∧ opn p (ft p z.toNat) = true ∧ ft p z.toNat < en p (ft p z.toNat) ∧ en p (ft p z.toNat) ≤ 1001 := by
  have q1 : z.toNat < cnt (opn p) 1001 := by unfold nop at h; omega
  obtain ⟨n1, n2, n3⟩ := nth_ok _ q1
  have a : ft p z.toNat < 1001 := n1
  have b : opn p (ft p z.toNat) = true := n2
  obtain ⟨e1, e2, e3, e4⟩ := en_ok p (f := ft p z.toNat) (by omega)
  refine ⟨by omega, b, ?_, e2⟩
  rcases Nat.lt_or_ge (ft p z.toNat) (en p (ft p z.toNat)) with q | q
  · exact q
  · have e : en p (ft p z.toNat) = ft p z.toNat := by omega
    have x := e4 (by omega)
    rw [e] at x
    unfold opn at b
    rw [x, Bool.false_and] at b
    exact absurd b Bool.false_ne_true
noncomputable def aSmear (p : Nat → Int) (z q : Int) : Int :=
  if z < 0 then -1001 else if 0 ≤ q ∧ q ≤ p 0 - 1 then (if z < nop p then (sma p (ft p z.toNat) (en p (ft p z.toNat) - ft p z.toNat) q : Int) else -1004) else -1001
