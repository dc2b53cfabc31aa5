/-! numbers: Int32 as integers -/
def i32 (z : Int) : Int32 := Int32.ofInt z
theorem i32_toInt {z : Int} (h : -2147483648 ≤ z ∧ z < 2147483648) : (i32 z).toInt = z := by
  unfold i32
  rw [Int32.toInt_ofInt]
  rw [Int.bmod_eq_of_le] <;> (simp; omega)
theorem i32_of (x : Int32) : i32 x.toInt = x := Int32.ofInt_toInt x
theorem i32_rng (x : Int32) : -2147483648 ≤ x.toInt ∧ x.toInt < 2147483648 := by
  have a := x.le_toInt
  have b := x.toInt_lt
  omega
theorem i32_ex (x : Int32) : ∃ z : Int, -2147483648 ≤ z ∧ z < 2147483648 ∧ x = i32 z := ⟨x.toInt, (i32_rng x).1, (i32_rng x).2, (i32_of x).symm⟩
theorem i32_add (a b : Int) : i32 a + i32 b = i32 (a + b) := (Int32.ofInt_add a b).symm
theorem i32_sub (a b : Int) : i32 a - i32 b = i32 (a - b) := (Int32.ofInt_sub a b).symm
theorem i32_mul (a b : Int) : i32 a * i32 b = i32 (a * b) := (Int32.ofInt_mul a b).symm
theorem i32_neg (a : Int) : -i32 a = i32 (-a) := (Int32.ofInt_neg a).symm
theorem i32_le {a b : Int} (h : (-2147483648 ≤ a ∧ a < 2147483648) ∧ (-2147483648 ≤ b ∧ b < 2147483648)) : (i32 a ≤ i32 b) = (a ≤ b) := by
  rw [Int32.le_iff_toInt_le, i32_toInt h.1, i32_toInt h.2]
theorem i32_lt {a b : Int} (h : (-2147483648 ≤ a ∧ a < 2147483648) ∧ (-2147483648 ≤ b ∧ b < 2147483648)) : (i32 a < i32 b) = (a < b) := by
  rw [Int32.lt_iff_toInt_lt, i32_toInt h.1, i32_toInt h.2]
theorem i32_eq {a b : Int} (h : (-2147483648 ≤ a ∧ a < 2147483648) ∧ (-2147483648 ≤ b ∧ b < 2147483648)) : (i32 a = i32 b) = (a = b) := by
  rw [← Int32.toInt_inj, i32_toInt h.1, i32_toInt h.2]
theorem i32_clamp {z : Int} (h : 0 ≤ z ∧ z < 2147483648) : (i32 z).toNatClampNeg = z.toNat := by
  unfold Int32.toNatClampNeg
  rw [i32_toInt (by omega)]
theorem L_0 : (0 : Int32) = i32 0 := by decide
theorem L_1 : (1 : Int32) = i32 1 := by decide
theorem L_2 : (2 : Int32) = i32 2 := by decide
theorem L_3 : (3 : Int32) = i32 3 := by decide
theorem L_4 : (4 : Int32) = i32 4 := by decide
theorem L_5 : (5 : Int32) = i32 5 := by decide
theorem L_8 : (8 : Int32) = i32 8 := by decide
theorem L_9 : (9 : Int32) = i32 9 := by decide
theorem L_m1 : (-1 : Int32) = i32 (-1) := by decide
theorem L_1000 : (1000 : Int32) = i32 1000 := by decide
theorem tdiv_tmod (a b : Int) : a - a.tdiv b * b = a.tmod b := by
  have := Int.tmod_add_mul_tdiv a b
  rw [Int.mul_comm] at this
  omega
theorem i32_rem {a b : Int} (ha : -2147483648 < a ∧ a < 2147483648) (hb : -2147483648 ≤ b ∧ b < 2147483648) : xrem (i32 a) (i32 b) = i32 (a.tmod b) := by
  unfold xrem
  have hd : i32 a / i32 b = i32 (a.tdiv b) := by
    apply Int32.toInt_inj.mp
    rw [Int32.toInt_div, i32_toInt (by omega), i32_toInt hb]
    have h1 : (a.tdiv b).natAbs ≤ a.natAbs := by
      rw [Int.natAbs_tdiv]; exact Nat.div_le_self _ _
    rw [i32_toInt (by omega), Int.bmod_eq_of_le] <;> (simp; omega)
  rw [hd, i32_mul, i32_sub, tdiv_tmod]
theorem ile_t {a b : Int} {α : Sort _} {x y : α} (h : -2147483648 ≤ a ∧ a ≤ b ∧ b < 2147483648) : (if i32 a ≤ i32 b then x else y) = x := if_pos (by rw [i32_le (by omega)]; exact h.2.1)
theorem ile_f {a b : Int} {α : Sort _} {x y : α} (h : -2147483648 ≤ b ∧ b < a ∧ a < 2147483648) : (if i32 a ≤ i32 b then x else y) = y := if_neg (by rw [i32_le (by omega)]; omega)
theorem ilt_t {a b : Int} {α : Sort _} {x y : α} (h : -2147483648 ≤ a ∧ a < b ∧ b < 2147483648) : (if i32 a < i32 b then x else y) = x := if_pos (by rw [i32_lt (by omega)]; exact h.2.1)
theorem ilt_f {a b : Int} {α : Sort _} {x y : α} (h : -2147483648 ≤ b ∧ b ≤ a ∧ a < 2147483648) : (if i32 a < i32 b then x else y) = y := if_neg (by rw [i32_lt (by omega)]; omega)
theorem ieq_t {a b : Int} {α : Sort _} {x y : α} (h : a = b) : (if i32 a = i32 b then x else y) = x := if_pos (by rw [h])
theorem ieq_f {a b : Int} {α : Sort _} {x y : α} (h : (-2147483648 ≤ a ∧ a < 2147483648) ∧ (-2147483648 ≤ b ∧ b < 2147483648) ∧ a ≠ b) : (if i32 a = i32 b then x else y) = y := if_neg (by rw [i32_eq ⟨h.1, h.2.1⟩]; exact h.2.2)
theorem cle {a b : Int} {α : Sort _} {x y : α} (h : (-2147483648 ≤ a ∧ a < 2147483648) ∧ (-2147483648 ≤ b ∧ b < 2147483648)) : (if i32 a ≤ i32 b then x else y) = (if a ≤ b then x else y) := by
  by_cases q : a ≤ b
  · rw [if_pos q, ile_t (by omega)]
  · rw [if_neg q, ile_f (by omega)]
theorem clt {a b : Int} {α : Sort _} {x y : α} (h : (-2147483648 ≤ a ∧ a < 2147483648) ∧ (-2147483648 ≤ b ∧ b < 2147483648)) : (if i32 a < i32 b then x else y) = (if a < b then x else y) := by
  by_cases q : a < b
  · rw [if_pos q, ilt_t (by omega)]
  · rw [if_neg q, ilt_f (by omega)]
theorem ceq {a b : Int} {α : Sort _} {x y : α} (h : (-2147483648 ≤ a ∧ a < 2147483648) ∧ (-2147483648 ≤ b ∧ b < 2147483648)) : (if i32 a = i32 b then x else y) = (if a = b then x else y) := by
  by_cases q : a = b
  · rw [if_pos q, ieq_t q]
  · rw [if_neg q, ieq_f ⟨h.1, h.2, q⟩]
theorem emod_tmod {a b : Int} (hb : 0 < b) : a % b = if 0 ≤ a.tmod b then a.tmod b else a.tmod b + b := by
  have r1 : -b < a.tmod b ∧ a.tmod b < b := ⟨by have := Int.lt_tmod_of_pos a hb; omega, Int.tmod_lt_of_pos a hb⟩
  have e := Int.tmod_add_mul_tdiv a b
  have h1 : a % b = (a.tmod b) % b := by
    conv => lhs; rw [← e]
    rw [Int.add_mul_emod_self_left]
  rw [h1]
  split
  · exact Int.emod_eq_of_lt (by assumption) r1.2
  · have : a.tmod b % b = (a.tmod b + b) % b := by rw [Int.add_emod_right]
    rw [this]
    exact Int.emod_eq_of_lt (by omega) (by omega)
theorem tmod_rng {a b : Int} (hb : 0 < b) : -b < a.tmod b ∧ a.tmod b < b := ⟨by have := Int.lt_tmod_of_pos a hb; omega, Int.tmod_lt_of_pos a hb⟩
theorem mod_ok {a b : Int} (ha : -2147483648 < a ∧ a < 2147483648) (hb : 0 < b ∧ b < 1073741824) : fX8_mod (i32 a) (i32 b) = some (i32 (a % b)) := by
  unfold fX8_mod
  have r1 := tmod_rng (a := a) hb.1
  rw [i32_rem ha (by omega), L_0, ilt_t (by omega), ieq_f (by omega), cle (by omega), i32_add, emod_tmod hb.1]
  by_cases h : 0 ≤ a.tmod b
  · rw [if_pos h, if_pos h]
  · rw [if_neg h, if_neg h]
/-! loops -/
theorem xl_run {σ ε : Type} (b : σ → Option (σ ⊕ ε)) (S : Nat → σ) (k : Nat) (e : ε) (hs : ∀ i, i < k → b (S i) = some (.inl (S (i + 1)))) (he : b (S k) = some (.inr e)) : ∀ f, k < f → xloop b f (S 0) = some e := by
  have key : ∀ (d i f : Nat), i + d = k → d < f → xloop b f (S i) = some e := by
    intro d
    induction d with
    | zero =>
      intro i f h1 h2
      obtain ⟨f, rfl⟩ : ∃ g, f = g + 1 := ⟨f - 1, by omega⟩
      have : i = k := by omega
      subst this
      simp only [xloop, he]
    | succ d ih =>
      intro i f h1 h2
      obtain ⟨f, rfl⟩ : ∃ g, f = g + 1 := ⟨f - 1, by omega⟩
      simp only [xloop, hs i (by omega)]
      exact ih (i + 1) f (by omega) (by omega)
  intro f hf
  exact key k 0 f (by omega) hf
theorem xl_inv {σ ε : Type} (b : σ → Option (σ ⊕ ε)) (I : Nat → σ → Prop) (k : Nat) (E : ε → Prop) (hs : ∀ i s, i < k → I i s → ∃ s', b s = some (.inl s') ∧ I (i + 1) s') (he : ∀ s, I k s → ∃ e, b s = some (.inr e) ∧ E e) : ∀ s, I 0 s → ∀ f, k < f → ∃ e, xloop b f s = some e ∧ E e := by
  have key : ∀ (d i f : Nat) (s : σ), i + d = k → d < f → I i s → ∃ e, xloop b f s = some e ∧ E e := by
    intro d
    induction d with
    | zero =>
      intro i f s h1 h2 hI
      obtain ⟨f, rfl⟩ : ∃ g, f = g + 1 := ⟨f - 1, by omega⟩
      have : i = k := by omega
      subst this
      obtain ⟨e, q1, q2⟩ := he s hI
      exact ⟨e, by simp only [xloop, q1], q2⟩
    | succ d ih =>
      intro i f s h1 h2 hI
      obtain ⟨f, rfl⟩ : ∃ g, f = g + 1 := ⟨f - 1, by omega⟩
      obtain ⟨s', q1, q2⟩ := hs i s (by omega) hI
      obtain ⟨e, q3, q4⟩ := ih (i + 1) f s' (by omega) (by omega) q2
      exact ⟨e, by simp only [xloop, q1, q3], q4⟩
  intro s hI f hf
  exact key k 0 f s (by omega) hf hI
/-- counting -/
def cnt (P : Nat → Bool) : Nat → Nat
  | 0 => 0
  | n + 1 => cnt P n + (if P n then 1 else 0)
theorem cnt_le (P : Nat → Bool) : ∀ n, cnt P n ≤ n
  | 0 => Nat.le_refl _
  | n + 1 => by have := cnt_le P n; simp only [cnt]; split <;> omega
theorem cnt_congr {P Q : Nat → Bool} : ∀ {n : Nat}, (∀ i, i < n → P i = Q i) → cnt P n = cnt Q n
  | 0, _ => rfl
  | n + 1, h => by simp only [cnt, h n (by omega), cnt_congr (n := n) (fun i hi => h i (by omega))]
theorem cnt_mono (P : Nat → Bool) {a b : Nat} (h : a ≤ b) : cnt P a ≤ cnt P b := by
  obtain ⟨d, rfl⟩ := Nat.exists_eq_add_of_le h
  induction d with
  | zero => exact Nat.le_refl _
  | succ d ih => have := ih (by omega); show cnt P a ≤ cnt P (a + d) + _; split <;> omega
