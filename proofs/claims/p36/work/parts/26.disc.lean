/-! the disc: when it is open -/
theorem xl_inv2 {σ ε : Type} (b : σ → Option (σ ⊕ ε)) (I : Nat → σ → Prop) (k : Nat) (E : ε → Prop) (hs : ∀ i s, i < k → I i s → (∃ s', b s = some (.inl s') ∧ I (i + 1) s') ∨ (∃ e, b s = some (.inr e) ∧ E e)) (he : ∀ s, I k s → ∃ e, b s = some (.inr e) ∧ E e) : ∀ s, I 0 s → ∀ f, k < f → ∃ e, xloop b f s = some e ∧ E e := by
  have key : ∀ (d i f : Nat) (s : σ), i + d = k → d < f → I i s → ∃ e, xloop b f s = some e ∧ E e := by
    intro d
    induction d with
    | zero =>
      intro i f s h1 h2 hI
      obtain ⟨f, rfl⟩ : ∃ g, f = g + 1 := ⟨f - 1, by omega⟩
      have : i = k := by omega
      subst this
      obtain ⟨e, q1, q2⟩ := he s hI
      exact ⟨e, by simp only [xloop, q1], q2⟩
    | succ d ih =>
      intro i f s h1 h2 hI
      obtain ⟨f, rfl⟩ : ∃ g, f = g + 1 := ⟨f - 1, by omega⟩
      rcases hs i s (by omega) hI with ⟨s', q1, q2⟩ | ⟨e, q1, q2⟩
      · obtain ⟨e, q3, q4⟩ := ih (i + 1) f s' (by omega) (by omega) q2
        exact ⟨e, by simp only [xloop, q1, q3], q4⟩
      · exact ⟨e, by simp only [xloop, q1], q2⟩
  intro s hI f hf
  exact key k 0 f s (by omega) hf hI
theorem i32_64 {z : Int} (h : 0 ≤ z ∧ z < 2147483648) : (i32 z).toInt64 = lN z.toNat := by
  apply Int64.toInt_inj.mp
  rw [Int32.toInt_toInt64, i32_toInt (by omega)]
  show z = (Int64.ofInt (z.toNat : Int)).toInt
  rw [Int64.toInt_ofInt, Int.bmod_eq_of_le] <;> (simp; omega)
theorem sh_31 : ∀ k, k < 32 → ((nI k &&& 31).toBitVec.smod 32).toNat = k := by decide +kernel
theorem shr_ok {N : Nat} (hN : N < 2 ^ 31) {k : Nat} (hk : k < 32) : nI N >>> (nI k &&& 31) = nI (N >>> k) := by
  apply Int32.toBitVec_inj.mp
  rw [Int32.toBitVec_shiftRight]
  show (BitVec.ofNat 32 N).sshiftRight' _ = BitVec.ofNat 32 _
  rw [BitVec.sshiftRight', BitVec.sshiftRight_eq_of_msb_false (by
    rw [BitVec.msb_eq_decide, decide_eq_false_iff_not, BitVec.toNat_ofNat]; omega)]
  rw [sh_31 k hk]
  apply BitVec.eq_of_toNat_eq
  rw [BitVec.toNat_ushiftRight, BitVec.toNat_ofNat, BitVec.toNat_ofNat, Nat.mod_eq_of_lt (by omega), Nat.mod_eq_of_lt]
  exact Nat.lt_of_le_of_lt (by rw [Nat.shiftRight_eq_div_pow]; exact Nat.div_le_self _ _) (show N < 2 ^ 32 by omega)
theorem and1_ok (M : Nat) : nI M &&& 1 = nI (M % 2) := by
  show nI M &&& nI 1 = _
  rw [nx_and, Nat.and_one_is_mod]
theorem bit_ok {z k : Int} (hz : 0 ≤ z ∧ z < 2147483648) (hk : 0 ≤ k ∧ k < 32) : ((i32 z >>> (i32 k &&& 31)) &&& 1 = 1) ↔ z.toNat.testBit k.toNat = true := by
  have e1 : i32 z = nI z.toNat := by rw [nI_i32]; congr 1; omega
  have e2 : i32 k = nI k.toNat := by rw [nI_i32]; congr 1; omega
  rw [e1, e2, shr_ok (by omega) (by omega), and1_ok, Nat.testBit_eq_decide_div_mod_eq, Nat.shiftRight_eq_div_pow, decide_eq_true_eq]
  rw [show (1 : Int32) = nI 1 from rfl, nI_i32, nI_i32, i32_eq (by omega)]
  omega
noncomputable def op (p : Nat → Int) (t : Nat) : Bool := (p 95).toNat.testBit ((-(p 96 + p 97 * t)) % p 94).toNat
theorem VP.op95 {p : Nat → Int} (hV : VP p) : 0 ≤ p 95 ∧ p 95 < 1073741824 := by
  have h := hV.2.2.2.2.2.2.2.2.2.2.2.2.2.1
  have hm := hV.m
  have a : (2 : Nat) ^ (p 94).toNat ≤ 2 ^ 30 := Nat.pow_le_pow_right (by decide) (by omega)
  have b : ((2 : Int) ^ (p 94).toNat) = ((2 ^ (p 94).toNat : Nat) : Int) := by norm_cast
  have h2 := h.2
  rw [b] at h2
  have c : (2 : Nat) ^ 30 = 1073741824 := by decide
  omega
theorem cop {h : XH} {p : Nat → Int} (H : DiAt h 10 p) (hV : VP p) {t : Nat} (ht : t ≤ 1000) : fX1_isOpenAt h 10 (i32 t) = some (op p t) := by
  have hm := hV.m
  have h95 := hV.op95
  have h96 := hV.2.2.2.2.2.2.2.2.2.2.2.2.2.2.1
  have h97 := hV.2.2.2.2.2.2.2.2.2.2.2.2.2.2.2
  have mb := mulb (a := p 97) (b := t) (A := 1000) (B := 1000) (by omega) (by omega)
  have m1 := Int.emod_nonneg (-(p 96 + p 97 * t)) (show p 94 ≠ 0 by omega)
  have m2 := Int.emod_lt_of_pos (-(p 96 + p 97 * t)) (show 0 < p 94 by omega)
  unfold fX1_isOpenAt
  rw [H.i1, H.i2, H.i3, H.i0]; simp only [Option.bind_some, i32_mul, i32_add, i32_neg]
  rw [mod_ok (by omega) (by omega)]; simp only [Option.bind_some]
  rw [i32_64 (by omega), hasBit_ok (by omega) (by omega)]
  rfl
/-- isSeen -/
noncomputable def aSeen (p : Nat → Int) (z : Int) : Int := if isT z = true then (if op p z.toNat = true then 1 else 0) else -1001
/-! openings -/
noncomputable def opn (p : Nat → Int) (t : Nat) : Bool := op p t && (decide (t = 0) || !op p (t - 1))
theorem copens {h : XH} {p : Nat → Int} (H : DiAt h 10 p) (hV : VP p) {t : Nat} (ht : t ≤ 1000) : fX1_opensAt h 10 (i32 t) = some (opn p t) := by
  unfold fX1_opensAt
  rw [H.c]; simp only [Option.bind_some]
  rw [cop H hV ht]; simp only [Option.bind_some, L_0, L_1, i32_sub]
  rw [ceq (by omega)]
  unfold opn
  cases op p t with
  | false => rfl
  | true =>
    rw [if_pos rfl, Bool.true_and]
    by_cases q : t = 0
    · rw [if_pos (by omega), decide_eq_true q]; rfl
    · rw [if_neg (by omega), decide_eq_false q, show (t : Int) - 1 = ((t - 1 : Nat) : Int) by omega, cop H hV (by omega)]; simp only [Option.bind_some, Bool.false_or]
      cases op p (t - 1) <;> rfl
noncomputable def nop (p : Nat → Int) : Nat := cnt (opn p) 1001
theorem copenings {h : XH} {p : Nat → Int} (H : DiAt h 10 p) (hV : VP p) : fX1_openings h 10 = some (i32 (nop p)) := by
  unfold fX1_openings
  have f := xl_run (fX1_openings_B4 h 10) (fun t => (i32 (cnt (opn p) t : Nat), i32 (t : Nat))) 1001 (i32 (nop p)) (fun t ht => by
    unfold fX1_openings_B4 fX1_openings_b4
    rw [L_1000, ilt_f (by omega), H.c]; simp only [Option.bind_some]
    rw [copens H hV (by omega)]; simp only [Option.bind_some, L_1, i32_add, cnt]
    cases opn p t <;> rfl) (by
    unfold fX1_openings_B4 fX1_openings_b4
    rw [L_1000, ilt_t (by omega)]
    rfl) 5000 (by omega)
  have f2 : xloop (fX1_openings_B4 h 10) 5000 (0, 0) = some (i32 (nop p)) := f
  rw [f2]
  rfl
/-- the k-th opening's first tick, or none -/
noncomputable def ft (p : Nat → Int) (k : Nat) : Nat := nth (opn p) 1001 k
/-- the first tick from f on at which it is shut -/
noncomputable def en (p : Nat → Int) (f : Nat) : Nat := lst (fun j => !op p j) (1001 - f) f
theorem en_ok (p : Nat → Int) {f : Nat} (hf : f ≤ 1001) : f ≤ en p f ∧ en p f ≤ 1001 ∧ (∀ j, f ≤ j → j < en p f → op p j = true) ∧ (en p f < 1001 → op p (en p f) = false) := by
  obtain ⟨a, b, c, d⟩ := lst_ok (P := fun j => !op p j) (1001 - f) f
  refine ⟨a, by unfold en; omega, fun j x y => by simpa using c j x y, fun x => ?_⟩
  have := d (by unfold en at x; omega)
  unfold en
  simpa using this
theorem en_eq (p : Nat → Int) {f e : Nat} (h1 : f ≤ e) (h2 : e ≤ 1001) (h3 : ∀ j, f ≤ j → j < e → op p j = true) (h4 : e < 1001 → op p e = false) : en p f = e := by
  obtain ⟨a, b, c, d⟩ := en_ok p (f := f) (by omega)
  rcases Nat.lt_trichotomy (en p f) e with q | q | q
  · have x := d (by omega)
    rw [h3 _ a q] at x
    exact absurd x (by decide)
  · exact q
  · have x := h4 (by omega)
    rw [c _ h1 q] at x
    exact absurd x (by decide)
