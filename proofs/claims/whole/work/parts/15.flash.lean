/-! what a reading call of the model leaves: page, text, back, typed, fault, and the hash -/
def Kp (A A' : Nat → Nat → Int32) (S S' : Nat → Int32) : Prop := A' 0 = A 0 ∧ A' 2 = A 2 ∧ S' 1 = S 1 ∧ S' 5 = S 5 ∧ S' 6 = S 6
theorem Kp.rf (A : Nat → Nat → Int32) (S : Nat → Int32) : Kp A A S S := ⟨rfl, rfl, rfl, rfl, rfl⟩
theorem Kp.tr {A B C : Nat → Nat → Int32} {S T U : Nat → Int32} (h : Kp A B S T) (k : Kp B C T U) : Kp A C S U := ⟨k.1.trans h.1, k.2.1.trans h.2.1, k.2.2.1.trans h.2.2.1, k.2.2.2.1.trans h.2.2.2.1, k.2.2.2.2.trans h.2.2.2.2⟩
theorem Kp.a {A B : Nat → Nat → Int32} {S T : Nat → Int32} (h : Kp A B S T) (k : Nat) (f : Nat → Int32) (hk : k ≠ 0 ∧ k ≠ 2) : Kp A (aup B k f) S T := ⟨by rw [aup_n _ _ (Ne.symm hk.1)]; exact h.1, by rw [aup_n _ _ (Ne.symm hk.2)]; exact h.2.1, h.2.2⟩
theorem Kp.s {A B : Nat → Nat → Int32} {S T : Nat → Int32} (h : Kp A B S T) (k : Nat) (v : Int32) (hk : k ≠ 1 ∧ k ≠ 5 ∧ k ≠ 6) : Kp A B S (sup T k v) := ⟨h.1, h.2.1, by rw [sup_n _ _ (Ne.symm hk.1)]; exact h.2.2.1, by rw [sup_n _ _ (Ne.symm hk.2.1)]; exact h.2.2.2.1, by rw [sup_n _ _ (Ne.symm hk.2.2)]; exact h.2.2.2.2⟩
theorem PgAt.kp {A A' : Nat → Nat → Int32} {S S' : Nat → Int32} {p : Nat → Int} (G : PgAt A p) (K : Kp A A' S S') : PgAt A' p := fun k hk => by rw [K.1]; exact G k hk
def MOp (h0 : XH) (A : Nat → Nat → Int32) (S : Nat → Int32) (Z : Int64) (r : Int) (res : Option (Int32 × XH)) : Prop := ∃ h' A' S', res = some (i32 r, h') ∧ MdAt h0 h' A' S' Z ∧ Kp A A' S S'
def LdAt (A : Nat → Nat → Int32) (S : Nat → Int32) (p : Nat → Int) : Prop := TnAt A p 1000 ∧ S 3 = i32 (msr p)
/-- turns laid, and nothing else that counts -/
theorem lays_op {h0 h : XH} {A : Nat → Nat → Int32} {S : Nat → Int32} {Z : Int64} (M : MdAt h0 h A S Z) {p : Nat → Int} (G : PgAt A p) (hV : VP p) : ∃ h' A' S', fX9_laysTurns h 102 = some h' ∧ MdAt h0 h' A' S' Z ∧ Kp A A' S S' ∧ LdAt A' S' p := by
  obtain ⟨h', f, e, M', T⟩ := lays_ok M G hV
  exact ⟨h', _, _, e, M', ((Kp.rf A S).a 1 f (by omega)).s 3 _ (by omega), T, sup_s _ _ _⟩
theorem i32_div {a b : Int} (ha : -2147483648 < a ∧ a < 2147483648) (hb : -2147483648 ≤ b ∧ b < 2147483648) : i32 a / i32 b = i32 (a.tdiv b) := by
  apply Int32.toInt_inj.mp
  rw [Int32.toInt_div, i32_toInt (by omega), i32_toInt hb]
  have h1 : (a.tdiv b).natAbs ≤ a.natAbs := by
    rw [Int.natAbs_tdiv]; exact Nat.div_le_self _ _
  rw [i32_toInt (by omega), Int.bmod_eq_of_le] <;> (simp; omega)
def NowAt (h : XH) (p : Nat → Int) : Prop := h 0 = some (.inl (8, [.ref 1, .ref 11, .ref 93, .ref 95, .ref 99])) ∧ StAt h 1 p
theorem NowAt.c {h : XH} {p : Nat → Int} (H : NowAt h p) : xco h 0 8 = some () := gC H.1
theorem NowAt.n {h : XH} {p : Nat → Int} (H : NowAt h p) : xgR h 0 8 0 = some 1 := gR H.1 0 rfl
theorem NowAt.n0 {h : XH} {p : Nat → Int} (H : NowAt h p) : xgR h 1 5 0 = some 2 := H.2.r0
theorem NowAt.n1 {h : XH} {p : Nat → Int} (H : NowAt h p) : xgR h 1 5 1 = some 6 := H.2.r1
theorem NowAt.n2 {h : XH} {p : Nat → Int} (H : NowAt h p) : xgR h 1 5 2 = some 7 := H.2.r2
theorem NowAt.n3 {h : XH} {p : Nat → Int} (H : NowAt h p) : xgR h 1 5 3 = some 10 := H.2.r3
theorem NowAt.sc {h : XH} {p : Nat → Int} (H : NowAt h p) : xco h 1 5 = some () := H.2.c
theorem NowAt.w {h : XH} {p : Nat → Int} (H : NowAt h p) : WhAt h 2 p := H.2.w
theorem NowAt.f {h : XH} {p : Nat → Int} (H : NowAt h p) : FlAt h 6 p := H.2.f
theorem NowAt.rd {h : XH} {p : Nat → Int} (H : NowAt h p) : RdAt h 7 p := H.2.rd
theorem NowAt.d {h : XH} {p : Nat → Int} (H : NowAt h p) : DiAt h 10 p := H.2.d
def isT (z : Int) : Bool := decide (0 ≤ z ∧ z ≤ 1000)
theorem ctick {z : Int} (hz : -2147483648 ≤ z ∧ z < 2147483648) : fX8_isTick (i32 z) = some (isT z) := by
  unfold fX8_isTick
  rw [L_0, L_1000, within_ok hz (by omega) (by omega)]
  rfl
theorem mtick {z : Int} (hz : -2147483648 ≤ z ∧ z < 2147483648) : fX9_isTick (i32 z) = some (isT z) := by
  unfold fX9_isTick
  rw [L_0, L_1000, in_ok hz (by omega) (by omega)]
  rfl
theorem cplace {h : XH} {p : Nat → Int} (H : NowAt h p) (hV : VP p) {z : Int} (hz : -2147483648 ≤ z ∧ z < 2147483648) : fX8_isPlace h 0 (i32 z) = some (decide (0 ≤ z ∧ z ≤ p 0 - 1)) := by
  unfold fX8_isPlace
  have := hV.n
  rw [H.n]; simp only [Option.bind_some]
  rw [H.n0]; simp only [Option.bind_some]
  rw [H.w.i3]; simp only [Option.bind_some, L_0, L_1, i32_sub]
  rw [within_ok hz (by omega) (by omega)]
  rfl
theorem mplace {h0 h : XH} {A : Nat → Nat → Int32} {S : Nat → Int32} {Z : Int64} (M : MdAt h0 h A S Z) {p : Nat → Int} (G : PgAt A p) (hV : VP p) {z : Int} (hz : -2147483648 ≤ z ∧ z < 2147483648) : fX9_isCell h 102 (i32 z) = some (decide (0 ≤ z ∧ z ≤ p 0 - 1)) := by
  unfold fX9_isCell
  have := hV.n
  rw [M.c]; simp only [Option.bind_some]
  rw [cells_ok M G]; simp only [Option.bind_some, L_0, L_1, i32_sub]
  rw [in_ok hz (by omega) (by omega)]
  rfl
theorem mk_mod {p : Nat → Int} (hV : VP p) (x : Int) : 0 ≤ x % p 0 ∧ x % p 0 < p 0 := ⟨Int.emod_nonneg _ (by have := hV.n; omega), Int.emod_lt_of_pos _ (by have := hV.n; omega)⟩
theorem s_dvd {p : Nat → Int} (hV : VP p) : (msr p : Int) ∣ p 0 := by
  have e : p 0 = ((p 0).toNat : Int) := by have := hV.n; omega
  rw [e]
  exact Int.ofNat_dvd.mpr (msr_dvd hV)
theorem s_mod {p : Nat → Int} (hV : VP p) (x : Int) : 0 ≤ x % (msr p : Int) ∧ x % (msr p : Int) < msr p := ⟨Int.emod_nonneg _ (by have := msr_rng hV; omega), Int.emod_lt_of_pos _ (by have := msr_rng hV; omega)⟩
theorem sub_mod_n {n x y : Int} : (x - y % n) % n = (x - y) % n := by rw [Int.sub_emod, Int.emod_emod, ← Int.sub_emod]
theorem sub_mod_s {s n x y : Int} (h : s ∣ n) : (x % n - y % n) % s = (x - y) % s := by rw [Int.sub_emod, Int.emod_emod_of_dvd _ h, Int.emod_emod_of_dvd _ h, ← Int.sub_emod]
/-! turn -/
def aTurn (p : Nat → Int) (z : Int) : Int := if isT z = true then trn p z.toNat % p 0 else -1001
theorem cTurn {h : XH} {p : Nat → Int} (H : NowAt h p) (hV : VP p) {z : Int} (hz : -2147483648 ≤ z ∧ z < 2147483648) : fX8_turn h 0 (i32 z) = some (i32 (aTurn p z)) := by
  unfold fX8_turn aTurn
  rw [ctick hz]; simp only [Option.bind_some]
  split
  · rename_i q
    simp only [isT, decide_eq_true_eq] at q
    have hn := hV.n
    have hr := trn_rng hV z.toNat
    rw [H.n]; simp only [Option.bind_some]
    rw [H.n0]; simp only [Option.bind_some]
    rw [H.w.c]; simp only [Option.bind_some]
    have e : i32 z = i32 (z.toNat : Int) := by congr 1; omega
    rw [e, cturn_ok H.w hV (by omega)]; simp only [Option.bind_some]
    rw [H.w.i3]; simp only [Option.bind_some]
    rw [mod_ok (by omega) (by omega)]
    rfl
  · rfl
theorem mTurn {h0 h : XH} {A : Nat → Nat → Int32} {S : Nat → Int32} {Z : Int64} (M : MdAt h0 h A S Z) {p : Nat → Int} (G : PgAt A p) (hV : VP p) {z : Int} (hz : -2147483648 ≤ z ∧ z < 2147483648) : MOp h0 A S Z (aTurn p z) (fX9_turn h 102 (i32 z)) := by
  unfold fX9_turn aTurn
  rw [mtick hz]; simp only [Option.bind_some]
  split
  · rename_i q
    simp only [isT, decide_eq_true_eq] at q
    rw [M.c]; simp only [Option.bind_some]
    obtain ⟨h', A', S', e, M', K, L⟩ := lays_op M G hV
    rw [e]; simp only [Option.bind_some]
    rw [M'.r2]; simp only [Option.bind_some]
    rw [M'.a1 (by omega), L.1 _ (by omega)]
    exact ⟨h', A', S', rfl, M', K⟩
  · exact ⟨h, A, S, rfl, M, Kp.rf A S⟩
