theorem cMarkOf {h : XH} {p : Nat → Int} (H : NowAt h p) (hV : VP p) {i : Int} (hi : 0 ≤ i ∧ i < p 0) : fX6_markOf h 2 (i32 i) = some (i32 (p (1 + i.toNat))) := by
  unfold fX6_markOf
  rw [H.w.r0]; simp only [Option.bind_some]
  rw [H.w.mark hV hi]
  rfl
def aMark (p : Nat → Int) (z q : Int) : Int := if isT z = true then (if decide (0 ≤ q ∧ q ≤ p 0 - 1) = true then p (1 + ((q - trn p z.toNat) % p 0).toNat) else -1001) else -1001
theorem cMark {h : XH} {p : Nat → Int} (H : NowAt h p) (hV : VP p) {z q : Int} (hz : -2147483648 ≤ z ∧ z < 2147483648) (hq : -2147483648 ≤ q ∧ q < 2147483648) : fX8_markAt h 0 (i32 z) (i32 q) = some (i32 (aMark p z q)) := by
  unfold fX8_markAt aMark
  have hn := hV.n
  rw [ctick hz]; simp only [Option.bind_some]
  split
  · rename_i y
    simp only [isT, decide_eq_true_eq] at y
    rw [H.c]; simp only [Option.bind_some]
    rw [cplace H hV hq]; simp only [Option.bind_some]
    split
    · rename_i x
      simp only [decide_eq_true_eq] at x
      have hr := trn_rng hV z.toNat
      have hm := mk_mod hV (q - trn p z.toNat)
      rw [H.n]; simp only [Option.bind_some]
      rw [H.n0]; simp only [Option.bind_some]
      rw [H.w.c]; simp only [Option.bind_some]
      have e : i32 z = i32 (z.toNat : Int) := by congr 1; omega
      rw [e, cturn_ok H.w hV (by omega)]; simp only [Option.bind_some]
      rw [H.w.i3]; simp only [Option.bind_some, i32_sub]
      rw [mod_ok (by omega) (by omega)]; simp only [Option.bind_some]
      rw [cMarkOf H hV hm]
      rfl
    · rfl
  · rfl
/-! the step -/
noncomputable def wst (p : Nat → Int) (d : Int) : Int := if 2 * (d % (msr p : Int)) ≤ msr p then d % (msr p : Int) else d % (msr p : Int) - msr p
theorem wst_rng {p : Nat → Int} (hV : VP p) (d : Int) : -30 ≤ wst p d ∧ wst p d ≤ 30 := by
  have := s_mod hV d
  have := msr_rng hV
  unfold wst
  split <;> omega
theorem cStepB {h : XH} {p : Nat → Int} (H : NowAt h p) (hV : VP p) {a b : Nat} (ha : a ≤ 1000) (hb : b ≤ 1000) : fX6_stepBetween h 2 (i32 a) (i32 b) (i32 (msr p)) = some (i32 (wst p (trn p b - trn p a))) := by
  unfold fX6_stepBetween wst
  have r1 := trn_rng hV a
  have r2 := trn_rng hV b
  have r3 := msr_rng hV
  have r4 := s_mod hV (trn p b - trn p a)
  rw [H.w.c]; simp only [Option.bind_some]
  rw [cturn_ok H.w hV hb]; simp only [Option.bind_some]
  rw [cturn_ok H.w hV ha]; simp only [Option.bind_some, i32_sub]
  rw [mod_ok (by omega) (by omega)]; simp only [Option.bind_some, L_2, i32_mul, i32_sub]
  rw [cle (by omega)]
  split <;> rfl
noncomputable def aStep (p : Nat → Int) (a b : Int) : Int := if isT a = true then (if isT b = true then wst p (trn p b.toNat - trn p a.toNat) else -1001) else -1001
theorem cStep {h : XH} {p : Nat → Int} (H : NowAt h p) (hV : VP p) {a b : Int} (ha : -2147483648 ≤ a ∧ a < 2147483648) (hb : -2147483648 ≤ b ∧ b < 2147483648) : fX8_step h 0 (i32 a) (i32 b) = some (i32 (aStep p a b)) := by
  unfold fX8_step aStep
  rw [ctick ha]; simp only [Option.bind_some]
  split
  · rename_i y
    simp only [isT, decide_eq_true_eq] at y
    rw [ctick hb]; simp only [Option.bind_some]
    split
    · rename_i x
      simp only [isT, decide_eq_true_eq] at x
      rw [H.n]; simp only [Option.bind_some]
      rw [H.n0]; simp only [Option.bind_some]
      rw [H.w.c]; simp only [Option.bind_some]
      rw [cmsr_ok H.w hV]; simp only [Option.bind_some]
      have e1 : i32 a = i32 (a.toNat : Int) := by congr 1; omega
      have e2 : i32 b = i32 (b.toNat : Int) := by congr 1; omega
      rw [e1, e2, cStepB H hV (by omega) (by omega)]
      rfl
    · rfl
  · rfl
/-! flashes -/
def nfl (p : Nat → Int) : Int := (1000 - p 74) / p 75 + 1
def tkf (p : Nat → Int) (k : Int) : Int := p 74 + k * p 75
theorem nfl_rng {p : Nat → Int} (hV : VP p) : 1 ≤ nfl p ∧ nfl p ≤ 1001 := by
  have h1 := hV.first
  have h2 := hV.per
  unfold nfl
  have a := Int.ediv_nonneg (show 0 ≤ 1000 - p 74 by omega) (show 0 ≤ p 75 by omega)
  have b := Int.ediv_le_self (p 75) (show 0 ≤ 1000 - p 74 by omega)
  omega
theorem tkf_rng {p : Nat → Int} (hV : VP p) {k : Int} (hk : 0 ≤ k ∧ k ≤ nfl p - 1) : 0 ≤ tkf p k ∧ tkf p k ≤ 1000 := by
  have h1 := hV.first
  have h2 := hV.per
  unfold nfl at hk
  unfold tkf
  have a := Int.mul_nonneg hk.1 (show 0 ≤ p 75 by omega)
  have b := Int.ediv_mul_le (1000 - p 74) (show p 75 ≠ 0 by omega)
  have c := Int.mul_le_mul_of_nonneg_right (show k ≤ (1000 - p 74) / p 75 by omega) (show 0 ≤ p 75 by omega)
  omega
theorem tdiv_pos {a b : Int} (ha : 0 ≤ a) : a.tdiv b = a / b := Int.tdiv_eq_ediv_of_nonneg ha
theorem cnfl {h : XH} {a : Nat} {p : Nat → Int} (H : FlAt h a p) (hV : VP p) : fX2_number h a = some (i32 (nfl p)) := by
  unfold fX2_number nfl
  have h1 := hV.first
  have h2 := hV.per
  rw [H.i1, H.i0]; simp only [Option.bind_some, L_0, L_1, L_1000, i32_sub]
  rw [ile_f (by omega), ieq_f (by omega), i32_div (by omega) (by omega), tdiv_pos (by omega), i32_add]
theorem ctkf {h : XH} {a : Nat} {p : Nat → Int} (H : FlAt h a p) (k : Int) : fX2_tickOf h a (i32 k) = some (i32 (tkf p k)) := by
  unfold fX2_tickOf tkf
  rw [H.i1, H.i0]; simp only [Option.bind_some, i32_mul, i32_add]
def isF (p : Nat → Int) (z : Int) : Bool := decide (0 ≤ z ∧ z ≤ nfl p - 1)
theorem cflash {h : XH} {p : Nat → Int} (H : NowAt h p) (hV : VP p) {z : Int} (hz : -2147483648 ≤ z ∧ z < 2147483648) : fX8_isFlash h 0 (i32 z) = some (isF p z) := by
  unfold fX8_isFlash isF
  have := nfl_rng hV
  rw [H.n]; simp only [Option.bind_some]
  rw [H.n1]; simp only [Option.bind_some]
  rw [H.f.c]; simp only [Option.bind_some]
  rw [cnfl H.f hV]; simp only [Option.bind_some, L_0, L_1, i32_sub]
  rw [within_ok hz (by omega) (by omega)]
  rfl
/-- the first place, from k on, at most f places farther -/
def lst (P : Nat → Bool) : Nat → Nat → Nat
  | 0, k => k
  | f + 1, k => if P k then k else lst P f (k + 1)
theorem lst_ok {P : Nat → Bool} : ∀ (f k : Nat), k ≤ lst P f k ∧ lst P f k ≤ k + f ∧ (∀ j, k ≤ j → j < lst P f k → P j = false) ∧ (lst P f k < k + f → P (lst P f k) = true)
  | 0, k => ⟨Nat.le_refl _, Nat.le_refl _, fun j a b => by simp only [lst] at b; omega, fun h => by simp only [lst] at h; omega⟩
  | f + 1, k => by
    simp only [lst]
    split
    · rename_i q
      exact ⟨by omega, by omega, fun j a b => by omega, fun _ => q⟩
    · rename_i q
      obtain ⟨a, b, c, d⟩ := lst_ok (P := P) f (k + 1)
      refine ⟨by omega, by omega, fun j x y => ?_, fun x => d (by omega)⟩
      rcases Nat.lt_or_ge k j with w | w
      · exact c j w y
      · obtain rfl : k = j := by omega
        simpa using q
noncomputable def smP (p : Nat → Int) (z : Int) : Nat → Bool := fun k => decide ((trn p (tkf p z).toNat - trn p (tkf p k).toNat) % (msr p : Int) = 0)
noncomputable def erl (p : Nat → Int) (z : Int) : Nat := lst (smP p z) z.toNat 0
theorem wst_0 {p : Nat → Int} (hV : VP p) (d : Int) : wst p d = 0 ↔ d % (msr p : Int) = 0 := by
  have := s_mod hV d
  have := msr_rng hV
  unfold wst
  split <;> omega
