/-! an opening -/
noncomputable def stl (p : Nat → Int) (f n : Nat) : Bool := allb (fun i => decide ((trn p (f + i) - trn p f) % (msr p : Int) = 0)) n
theorem cnt_imp {P Q : Nat → Bool} : ∀ {n : Nat}, (∀ i, i < n → P i = true → Q i = true) → cnt P n ≤ cnt Q n
  | 0, _ => Nat.le_refl _
  | n + 1, h => by
    have a := cnt_imp (n := n) (P := P) (Q := Q) (fun i hi => h i (by omega))
    have b := h n (by omega)
    simp only [cnt]
    by_cases q : P n = true
    · rw [if_pos q, if_pos (b q)]; omega
    · rw [if_neg q]; split <;> omega
theorem one_bit {N r0 n : Nat} (hr : r0 < n) (h0 : N.testBit r0 = true) : cnt (fun i => N.testBit i) n = 1 ↔ ∀ r, r < n → N.testBit r = true → r = r0 := by
  constructor
  · intro c r hr2 hb
    apply Classical.byContradiction
    intro ne
    have e1 : cnt (fun i => decide (r0 = i)) n = 1 := by
      have := cnt_set (P := fun _ => false) (r := r0) hr rfl
      simp only [Bool.false_or] at this
      rw [this, cnt_false (fun _ _ => rfl)]
    have e2 := cnt_set (P := fun i => decide (r0 = i)) (r := r) hr2 (decide_eq_false (by omega))
    have := cnt_imp (P := fun i => decide (r0 = i) || decide (r = i)) (Q := fun i => N.testBit i) (n := n) (fun i _ hi => by
      rw [Bool.or_eq_true, decide_eq_true_eq, decide_eq_true_eq] at hi
      rcases hi with rfl | rfl
      · exact h0
      · exact hb)
    omega
  · intro a
    have e1 := cnt_set (P := fun _ => false) (r := r0) hr rfl
    simp only [Bool.false_or] at e1
    rw [cnt_false (fun _ _ => rfl)] at e1
    rw [Nat.zero_add] at e1
    rw [← e1]
    apply cnt_congr
    intro i hi
    cases hb : N.testBit i with
    | true => rw [a i hi hb, decide_eq_true rfl]
    | false =>
      rw [decide_eq_false]
      intro z
      subst z
      rw [h0] at hb
      exact absurd hb.symm Bool.false_ne_true
theorem mod_sub0 {a b s : Int} : (a - b) % s = 0 ↔ a % s = b % s := by
  exact (Int.emod_eq_emod_iff_emod_sub_eq_zero).symm
theorem clooks {h : XH} {p : Nat → Int} (H : NowAt h p) (hV : VP p) {f n : Nat} (hf : f + n ≤ 1001) (hn : 1 ≤ n) : fX6_looksTheSame h 2 (i32 (f : Nat)) (i32 (n : Nat)) = some (stl p f n) := by
  have hm := msr_rng hV
  have hB : bset (rsd p (msr p) f 1) n < 2 ^ 60 := bset_lt (rsd_lt p f 1 (by omega)) n
  have e := ctmod H.w hV (dv := msr p) (fi := f) (nu := n) (pe := 1) (by omega) (by omega) (fun i hi => by omega)
  rw [Int.toNat_natCast] at e
  unfold fX6_looksTheSame
  rw [obb H.w.c, obb (cmsr_ok H.w hV), obb H.w.c, L_1, obb e, obb (bitCountJ_ok (Nat.lt_trans hB (by decide)))]
  have rs : ∀ i, (rsd p (msr p) f 1 i : Int) = trn p (f + i) % (msr p : Int) := fun i => by
    have := s_mod hV (trn p (f + i))
    unfold rsd
    rw [show ((f : Int) + i * 1).toNat = f + i by omega]
    omega
  have r0 : (bset (rsd p (msr p) f 1) n).testBit (rsd p (msr p) f 1 0) = true := (bset_at _ _ n).mpr ⟨0, by omega, rfl⟩
  have rl := rsd_lt p f 1 (show 1 ≤ (msr p : Int) ∧ (msr p : Int) ≤ 60 by omega)
  have c64 := cnt_le (fun i => (bset (rsd p (msr p) f 1) n).testBit i) 64
  have ob := one_bit (n := 64) (Nat.lt_trans (rl 0) (by decide)) r0
  have key : cnt (fun i => (bset (rsd p (msr p) f 1) n).testBit i) 64 = 1 ↔ stl p f n = true := by
    rw [ob]
    unfold stl
    rw [allb_iff]
    constructor
    · intro a i hi
      have := a (rsd p (msr p) f 1 i) (Nat.lt_trans (rl i) (by decide)) ((bset_at _ _ n).mpr ⟨i, hi, rfl⟩)
      rw [decide_eq_true_eq, mod_sub0, ← rs, this, rs, Nat.add_zero]
    · intro a r hr hb
      obtain ⟨i, i1, i2⟩ := (bset_at _ _ n).mp hb
      have b := a i i1
      rw [decide_eq_true_eq, mod_sub0, ← rs] at b
      have c := rs 0
      rw [Nat.add_zero] at c
      omega
  generalize cnt (fun i => (bset (rsd p (msr p) f 1) n).testBit i) 64 = x at c64 key
  rw [ceq (by omega)]
  by_cases q : stl p f n = true
  · rw [if_pos (by have := key.mpr q; omega), q]
  · rw [if_neg (fun z => q (key.mp (by omega)))]
    rw [Bool.not_eq_true] at q
    rw [q]
theorem mstill {h0 h : XH} {A : Nat → Nat → Int32} {S : Nat → Int32} {Z : Int64} (M : MdAt h0 h A S Z) {p : Nat → Int} (G : PgAt A p) (L : LdAt A S p) (hV : VP p) {f e : Nat} (h14 : S 14 = i32 (f : Nat)) (h15 : S 15 = i32 ((e : Int) - 1)) (he : f < e ∧ e ≤ 1001) : fX9_isStill h 102 = some (stl p f (e - f)) := by
  have hm := msr_rng hV
  unfold fX9_isStill
  rw [obb M.c, obb (mmsr_ok M G hV), obb M.i14, h14]
  have r := xl_run (fX9_isStill_B12 h 102 (i32 (msr p))) (fun i => (allb (fun i => decide ((trn p (f + i) - trn p f) % (msr p : Int) = 0)) i, i32 (f + i : Nat))) (e - f) (stl p f (e - f)) (fun i hi => by
    have t1 := trn_rng hV (f + i)
    have t0 := trn_rng hV f
    have tm := tmod_rng (a := trn p (f + i) % p 0 - trn p f % p 0) (b := (msr p : Int)) (by omega)
    have m1 := mk_mod hV (trn p (f + i))
    have m0 := mk_mod hV (trn p f)
    have hn := hV.n
    have sm := sub_mod_s (x := trn p (f + i)) (y := trn p f) (s_dvd hV)
    unfold fX9_isStill_B12 fX9_isStill_b12 fX9_isStill_J49
    rw [obb M.i15, h15, ilt_f (by omega), obb M.r2, obb (M.a1 (by omega)), obb M.r2, obb M.i14, h14, obb (M.a1 (by omega))]
    rw [Int.toNat_natCast, Int.toNat_natCast, L.1 _ (by omega), L.1 _ (by omega), L_0, ieq_f (by omega), i32_sub, i32_rem (by omega) (by omega), ceq (by omega)]
    simp only [allb, L_1, i32_add, emod_0]
    rw [sm]
    cases allb (fun i => decide ((trn p (f + i) - trn p f) % (msr p : Int) = 0)) i with
    | false => rfl
    | true =>
      rw [if_pos rfl, Bool.true_and]
      by_cases q : (trn p (f + i) - trn p f) % (msr p : Int) = 0
      · rw [if_pos q, decide_eq_true q]; rfl
      · rw [if_neg q, decide_eq_false q]; rfl) (by
    unfold fX9_isStill_B12 fX9_isStill_b12
    rw [obb M.i15, h15, ilt_t (by omega)]
    rfl) 5000 (by omega)
  have r2 : xloop (fX9_isStill_B12 h 102 (i32 (msr p))) 5000 (true, i32 (f : Nat)) = some (stl p f (e - f)) := r
  rw [obb r2]
theorem lays_op2 {h0 h : XH} {A : Nat → Nat → Int32} {S : Nat → Int32} {Z : Int64} (M : MdAt h0 h A S Z) {p : Nat → Int} (G : PgAt A p) (hV : VP p) : ∃ h' A' S', fX9_laysTurns h 102 = some h' ∧ MdAt h0 h' A' S' Z ∧ Kp A A' S S' ∧ LdAt A' S' p ∧ S' 14 = S 14 ∧ S' 15 = S 15 := by
  obtain ⟨h', f, e, M', T⟩ := lays_ok M G hV
  exact ⟨h', _, _, e, M', ((Kp.rf A S).a 1 f (by omega)).s 3 _ (by omega), ⟨T, sup_s _ _ _⟩, sup_n _ _ (by omega), sup_n _ _ (by omega)⟩
noncomputable def aOpen (p : Nat → Int) (z w : Int) : Int :=
  if z < 0 then -1001 else if 0 ≤ w ∧ w ≤ 3 then (if z < nop p then
    (if w = 0 then (ft p z.toNat : Int) else if w = 1 then ((en p (ft p z.toNat) - ft p z.toNat : Nat) : Int) else if w = 2 then (smN p (ft p z.toNat) (en p (ft p z.toNat) - ft p z.toNat) : Int) else if stl p (ft p z.toNat) (en p (ft p z.toNat) - ft p z.toNat) = true then 1 else 0)
    else -1004) else -1001
theorem ft_ok {p : Nat → Int} {z : Int} (h0 : 0 ≤ z) (h : z < nop p) : ft p z.toNat ≤ 1000 ∧ opn p (ft p z.toNat) = true ∧ ft p z.toNat < en p (ft p z.toNat) ∧ en p (ft p z.toNat) ≤ 1001 := by
  have q1 : z.toNat < cnt (opn p) 1001 := by unfold nop at h; omega
  obtain ⟨n1, n2, n3⟩ := nth_ok _ q1
  have a : ft p z.toNat < 1001 := n1
  have b : opn p (ft p z.toNat) = true := n2
  obtain ⟨e1, e2, e3, e4⟩ := en_ok p (f := ft p z.toNat) (by omega)
  refine ⟨by omega, b, ?_, e2⟩
  rcases Nat.lt_or_ge (ft p z.toNat) (en p (ft p z.toNat)) with q | q
  · exact q
  · have e : en p (ft p z.toNat) = ft p z.toNat := by omega
    have x := e4 (by omega)
    rw [e] at x
    unfold opn at b
    rw [x, Bool.false_and] at b
    exact absurd b Bool.false_ne_true
theorem cOpen {h : XH} {p : Nat → Int} (H : NowAt h p) (hV : VP p) {z w : Int} (hz : -2147483648 ≤ z ∧ z < 2147483648) (hw : -2147483648 ≤ w ∧ w < 2147483648) : fX8_opening h 0 (i32 z) (i32 w) = some (i32 (aOpen p z w)) := by
  unfold fX8_opening aOpen
  rw [L_0, clt (by omega)]
  by_cases q0 : z < 0
  · rw [if_pos q0, if_pos q0]; rfl
  rw [if_neg q0, if_neg q0, L_3, obb (within_ok hw (by omega) (by omega))]
  simp only [decide_eq_true_eq]
  by_cases q1 : 0 ≤ w ∧ w ≤ 3
  · rw [if_pos q1, if_pos q1, obb H.n, obb H.n3, obb H.d.c, obb (cfirstT H.d hV (by omega))]
    by_cases q2 : z < nop p
    · obtain ⟨f1, f2, f3, f4⟩ := ft_ok (by omega) q2
      rw [if_pos q2, if_pos q2, cle (by omega), if_pos (by omega), obb H.n, obb H.n3, obb H.d.c, obb (cticks H.d hV f1), L_1, L_2, ceq (by omega), ceq (by omega), ceq (by omega)]
      by_cases w0 : w = 0
      · rw [if_pos w0, if_pos w0]
      rw [if_neg w0, if_neg w0]
      by_cases w1 : w = 1
      · rw [if_pos w1, if_pos w1]
      rw [if_neg w1, if_neg w1]
      by_cases w2 : w = 2
      · rw [if_pos w2, if_pos w2, obb H.n, obb H.n0, obb H.w.c, obb (csmeared H hV (by omega))]
      rw [if_neg w2, if_neg w2, obb H.n, obb H.n0, obb H.w.c, obb (clooks H hV (by omega) (by omega))]
      split <;> rfl
    · rw [if_neg q2, if_neg q2, ile_f (by omega)]; rfl
  · rw [if_neg q1, if_neg q1]; rfl
theorem mOpen {h0 h : XH} {A : Nat → Nat → Int32} {S : Nat → Int32} {Z : Int64} (M : MdAt h0 h A S Z) {p : Nat → Int} (G : PgAt A p) (hV : VP p) {z w : Int} (hz : -2147483648 ≤ z ∧ z < 2147483648) (hw : -2147483648 ≤ w ∧ w < 2147483648) : MOp h0 A S Z (aOpen p z w) (fX9_opening h 102 (i32 z) (i32 w)) := by
  unfold fX9_opening aOpen
  rw [L_0, clt (by omega)]
  by_cases q0 : z < 0
  · rw [if_pos q0, if_pos q0]; exact ⟨h, A, S, rfl, M, Kp.rf A S⟩
  rw [if_neg q0, if_neg q0, L_3, obb (in_ok hw (by omega) (by omega))]
  simp only [decide_eq_true_eq]
  by_cases q1 : 0 ≤ w ∧ w ≤ 3
  · obtain ⟨h1, S1, v, e1, M1, K1, r1, r2, r3, -⟩ := goes_ok M G hV (z := z) (by omega)
    rw [if_pos q1, if_pos q1, obb M.c, obb e1, clt (by omega)]
    by_cases q2 : z < nop p
    · obtain ⟨f1, f2, f3, f4⟩ := ft_ok (by omega) q2
      obtain ⟨s14, s15⟩ := r3 (by omega) q2
      obtain ⟨h2, A2, S2, e2, M2, K2, L2, k14, k15⟩ := lays_op2 M1 (G.kp K1) hV
      rw [s14] at k14
      rw [s15] at k15
      have G2 := (G.kp K1).kp K2
      have K := K1.tr K2
      rw [if_pos q2, if_pos (r2.mpr q2), obb M1.c, obb e2, L_1, L_2, ceq (by omega), ceq (by omega), ceq (by omega)]
      by_cases w0 : w = 0
      · rw [if_pos w0, if_pos w0, obb M2.i14, k14]; exact ⟨h2, A2, S2, rfl, M2, K⟩
      rw [if_neg w0, if_neg w0]
      by_cases w1 : w = 1
      · rw [if_pos w1, if_pos w1, obb M2.i15, obb M2.i14, k14, k15, i32_sub, i32_add]
        refine ⟨h2, A2, S2, ?_, M2, K⟩
        congr 3
        omega
      rw [if_neg w1, if_neg w1]
      by_cases w2 : w = 2
      · rw [if_pos w2, if_pos w2, obb M2.c, obb (msmeared M2 G2 L2 hV k14 k15 (by omega))]; exact ⟨h2, A2, S2, rfl, M2, K⟩
      rw [if_neg w2, if_neg w2, obb M2.c, obb (mstill M2 G2 L2 hV k14 k15 (by omega))]
      split
      · exact ⟨h2, A2, S2, rfl, M2, K⟩
      · exact ⟨h2, A2, S2, rfl, M2, K⟩
    · rw [if_neg q2, if_neg (fun y => q2 (r2.mp y))]; exact ⟨h1, A, S1, rfl, M1, K1⟩
  · rw [if_neg q1, if_neg q1]; exact ⟨h, A, S, rfl, M, Kp.rf A S⟩
noncomputable def aSmear (p : Nat → Int) (z q : Int) : Int :=
  if z < 0 then -1001 else if 0 ≤ q ∧ q ≤ p 0 - 1 then (if z < nop p then (sma p (ft p z.toNat) (en p (ft p z.toNat) - ft p z.toNat) q : Int) else -1004) else -1001
theorem cSmear {h : XH} {p : Nat → Int} (H : NowAt h p) (hV : VP p) {z w : Int} (hz : -2147483648 ≤ z ∧ z < 2147483648) (hw : -2147483648 ≤ w ∧ w < 2147483648) : fX8_smear h 0 (i32 z) (i32 w) = some (i32 (aSmear p z w)) := by
  have hn := hV.n
  unfold fX8_smear aSmear
  rw [L_0, clt (by omega)]
  by_cases q0 : z < 0
  · rw [if_pos q0, if_pos q0]; rfl
  rw [if_neg q0, if_neg q0, obb H.c, obb (cplace H hV hw)]
  simp only [decide_eq_true_eq]
  by_cases q1 : 0 ≤ w ∧ w ≤ p 0 - 1
  · rw [if_pos q1, if_pos q1, obb H.n, obb H.n3, obb H.d.c, obb (cfirstT H.d hV (by omega))]
    by_cases q2 : z < nop p
    · obtain ⟨f1, f2, f3, f4⟩ := ft_ok (by omega) q2
      have e := ctmod H.w hV (dv := p 0) (fi := (ft p z.toNat : Nat)) (nu := (en p (ft p z.toNat) - ft p z.toNat : Nat)) (pe := 1) (by omega) (by omega) (fun i hi => by omega)
      rw [Int.toNat_natCast] at e
      rw [if_pos q2, if_pos q2, cle (by omega), if_pos (by omega), obb H.n, obb H.n0, obb H.n, obb H.n0, obb H.w.i3, obb H.n, obb H.n3, obb H.d.c, obb (cticks H.d hV f1), obb H.w.c, L_1, obb e, obb H.n, obb H.n0, obb H.w.c, obb (cmarks H hV (by omega))]
    · rw [if_neg q2, if_neg q2, ile_f (by omega)]; rfl
  · rw [if_neg q1, if_neg q1]; rfl
theorem mSmear {h0 h : XH} {A : Nat → Nat → Int32} {S : Nat → Int32} {Z : Int64} (M : MdAt h0 h A S Z) {p : Nat → Int} (G : PgAt A p) (hV : VP p) {z w : Int} (hz : -2147483648 ≤ z ∧ z < 2147483648) (hw : -2147483648 ≤ w ∧ w < 2147483648) : MOp h0 A S Z (aSmear p z w) (fX9_smear h 102 (i32 z) (i32 w)) := by
  have hn := hV.n
  unfold fX9_smear aSmear
  rw [L_0, clt (by omega)]
  by_cases q0 : z < 0
  · rw [if_pos q0, if_pos q0]; exact ⟨h, A, S, rfl, M, Kp.rf A S⟩
  rw [if_neg q0, if_neg q0, obb M.c, obb (mplace M G hV hw)]
  simp only [decide_eq_true_eq]
  by_cases q1 : 0 ≤ w ∧ w ≤ p 0 - 1
  · obtain ⟨h1, S1, v, e1, M1, K1, r1, r2, r3, -⟩ := goes_ok M G hV (z := z) (by omega)
    rw [if_pos q1, if_pos q1, obb M.c, obb e1, clt (by omega)]
    by_cases q2 : z < nop p
    · obtain ⟨f1, f2, f3, f4⟩ := ft_ok (by omega) q2
      obtain ⟨s14, s15⟩ := r3 (by omega) q2
      obtain ⟨h2, A2, S2, e2, M2, K2, L2, k14, k15⟩ := lays_op2 M1 (G.kp K1) hV
      rw [s14] at k14
      rw [s15] at k15
      have G2 := (G.kp K1).kp K2
      have K := K1.tr K2
      rw [if_pos q2, if_pos (r2.mpr q2), obb M1.c, obb e2, obb M2.c, obb (msmear M2 G2 L2 hV k14 k15 (by omega) (by omega))]
      exact ⟨h2, A2, S2, rfl, M2, K⟩
    · rw [if_neg q2, if_neg (fun y => q2 (r2.mp y))]; exact ⟨h1, A, S1, rfl, M1, K1⟩
  · rw [if_neg q1, if_neg q1]; exact ⟨h, A, S, rfl, M, Kp.rf A S⟩
