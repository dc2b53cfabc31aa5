theorem i32_div {a b : Int} (ha : -2147483648 < a ∧ a < 2147483648) (hb : -2147483648 ≤ b ∧ b < 2147483648) : i32 a / i32 b = i32 (a.tdiv b) := by
  apply Int32.toInt_inj.mp
  rw [Int32.toInt_div, i32_toInt (by omega), i32_toInt hb]
  have h1 : (a.tdiv b).natAbs ≤ a.natAbs := by
    rw [Int.natAbs_tdiv]; exact Nat.div_le_self _ _
  rw [i32_toInt (by omega), Int.bmod_eq_of_le] <;> (simp; omega)
def NowAt (h : XH) (p : Nat → Int) : Prop := h 0 = some (.inl (8, [.ref 1, .ref 11, .ref 93, .ref 95, .ref 99])) ∧ StAt h 1 p
theorem NowAt.c {h : XH} {p : Nat → Int} (H : NowAt h p) : xco h 0 8 = some () := gC H.1
theorem NowAt.n {h : XH} {p : Nat → Int} (H : NowAt h p) : xgR h 0 8 0 = some 1 := gR H.1 0 rfl
theorem NowAt.n0 {h : XH} {p : Nat → Int} (H : NowAt h p) : xgR h 1 5 0 = some 2 := H.2.r0
theorem NowAt.n1 {h : XH} {p : Nat → Int} (H : NowAt h p) : xgR h 1 5 1 = some 6 := H.2.r1
theorem NowAt.n2 {h : XH} {p : Nat → Int} (H : NowAt h p) : xgR h 1 5 2 = some 7 := H.2.r2
theorem NowAt.n3 {h : XH} {p : Nat → Int} (H : NowAt h p) : xgR h 1 5 3 = some 10 := H.2.r3
theorem NowAt.sc {h : XH} {p : Nat → Int} (H : NowAt h p) : xco h 1 5 = some () := H.2.c
theorem NowAt.w {h : XH} {p : Nat → Int} (H : NowAt h p) : WhAt h 2 p := H.2.w
theorem NowAt.f {h : XH} {p : Nat → Int} (H : NowAt h p) : FlAt h 6 p := H.2.f
theorem NowAt.rd {h : XH} {p : Nat → Int} (H : NowAt h p) : RdAt h 7 p := H.2.rd
theorem NowAt.d {h : XH} {p : Nat → Int} (H : NowAt h p) : DiAt h 10 p := H.2.d
def isT (z : Int) : Bool := decide (0 ≤ z ∧ z ≤ 1000)
theorem ctick {z : Int} (hz : -2147483648 ≤ z ∧ z < 2147483648) : fX8_isTick (i32 z) = some (isT z) := by
  unfold fX8_isTick
  rw [L_0, L_1000, within_ok hz (by omega) (by omega)]
  rfl
theorem cplace {h : XH} {p : Nat → Int} (H : NowAt h p) (hV : VP p) {z : Int} (hz : -2147483648 ≤ z ∧ z < 2147483648) : fX8_isPlace h 0 (i32 z) = some (decide (0 ≤ z ∧ z ≤ p 0 - 1)) := by
  unfold fX8_isPlace
  have := hV.n
  rw [H.n]; simp only [Option.bind_some]
  rw [H.n0]; simp only [Option.bind_some]
  rw [H.w.i3]; simp only [Option.bind_some, L_0, L_1, i32_sub]
  rw [within_ok hz (by omega) (by omega)]
  rfl
theorem mk_mod {p : Nat → Int} (hV : VP p) (x : Int) : 0 ≤ x % p 0 ∧ x % p 0 < p 0 := ⟨Int.emod_nonneg _ (by have := hV.n; omega), Int.emod_lt_of_pos _ (by have := hV.n; omega)⟩
theorem s_dvd {p : Nat → Int} (hV : VP p) : (msr p : Int) ∣ p 0 := by
  have e : p 0 = ((p 0).toNat : Int) := by have := hV.n; omega
  rw [e]
  exact Int.ofNat_dvd.mpr (msr_dvd hV)
theorem s_mod {p : Nat → Int} (hV : VP p) (x : Int) : 0 ≤ x % (msr p : Int) ∧ x % (msr p : Int) < msr p := ⟨Int.emod_nonneg _ (by have := msr_rng hV; omega), Int.emod_lt_of_pos _ (by have := msr_rng hV; omega)⟩
theorem sub_mod_n {n x y : Int} : (x - y % n) % n = (x - y) % n := by rw [Int.sub_emod, Int.emod_emod, ← Int.sub_emod]
theorem sub_mod_s {s n x y : Int} (h : s ∣ n) : (x % n - y % n) % s = (x - y) % s := by rw [Int.sub_emod, Int.emod_emod_of_dvd _ h, Int.emod_emod_of_dvd _ h, ← Int.sub_emod]
/-! turn -/
def aTurn (p : Nat → Int) (z : Int) : Int := if isT z = true then trn p z.toNat % p 0 else -1001
theorem cTurn {h : XH} {p : Nat → Int} (H : NowAt h p) (hV : VP p) {z : Int} (hz : -2147483648 ≤ z ∧ z < 2147483648) : fX8_turn h 0 (i32 z) = some (i32 (aTurn p z)) := by
  unfold fX8_turn aTurn
  rw [ctick hz]; simp only [Option.bind_some]
  split
  · rename_i q
    simp only [isT, decide_eq_true_eq] at q
    have hn := hV.n
    have hr := trn_rng hV z.toNat
    rw [H.n]; simp only [Option.bind_some]
    rw [H.n0]; simp only [Option.bind_some]
    rw [H.w.c]; simp only [Option.bind_some]
    have e : i32 z = i32 (z.toNat : Int) := by congr 1; omega
    rw [e, cturn_ok H.w hV (by omega)]; simp only [Option.bind_some]
    rw [H.w.i3]; simp only [Option.bind_some]
    rw [mod_ok (by omega) (by omega)]
    rfl
  · rfl
