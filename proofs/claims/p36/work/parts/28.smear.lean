/-! what smears -/
def cbs (c : Nat → Bool) (g : Nat → Nat) : Nat → Nat
  | 0 => 0
  | n + 1 => if c n = true then cbs c g n ||| 2 ^ g n else cbs c g n
theorem cbs_at (c : Nat → Bool) (g : Nat → Nat) (r : Nat) : ∀ n, (cbs c g n).testBit r = true ↔ ∃ i, i < n ∧ c i = true ∧ g i = r
  | 0 => by simp [cbs]
  | n + 1 => by
    have ih := cbs_at c g r n
    simp only [cbs]
    by_cases q : c n = true
    · rw [if_pos q, setBit_at, Bool.or_eq_true, decide_eq_true_eq, ih]
      constructor
      · rintro (⟨i, a, b⟩ | h)
        · exact ⟨i, by omega, b⟩
        · exact ⟨n, by omega, q, h⟩
      · rintro ⟨i, a, b, d⟩
        rcases Nat.lt_or_ge i n with w | w
        · exact Or.inl ⟨i, w, b, d⟩
        · obtain rfl : i = n := by omega
          exact Or.inr d
    · rw [if_neg q, ih]
      constructor
      · rintro ⟨i, a, b⟩
        exact ⟨i, by omega, b⟩
      · rintro ⟨i, a, b, d⟩
        have : i ≠ n := fun z => q (z ▸ b)
        exact ⟨i, by omega, b, d⟩
theorem cbs_lt {c : Nat → Bool} {g : Nat → Nat} {k n : Nat} (h : ∀ i, i < n → c i = true → g i < k) : cbs c g n < 2 ^ k := by
  induction n with
  | zero => simp only [cbs]; exact Nat.two_pow_pos k
  | succ n ih =>
    have a := ih (fun i hi => h i (by omega))
    simp only [cbs]
    split
    · rename_i q
      exact Nat.or_lt_two_pow a (Nat.pow_lt_pow_right (by decide) (h n (by omega) q))
    · exact a
theorem sm16 : ∀ W, W < 16 → ∀ m : Nat, m < 4 → nI W ||| ((1 : Int32) <<< (i32 (m : Int) &&& 31)) = nI (W ||| 2 ^ m) := by decide +kernel
theorem sm8 : ∀ W, W < 8 → ∀ m : Nat, m < 3 → nI W ||| ((1 : Int32) <<< (i32 (m : Int) &&& 31)) = nI (W ||| 2 ^ m) := by decide +kernel
theorem sm0 : ∀ W, W < 8 → nI W ||| i32 0 = nI W := by decide +kernel
theorem sms : ∀ W, W < 16 → nI W >>> ((1 : Int32) &&& 31) = nI (W >>> 1) := by decide +kernel
def bc (N : Nat) : Nat := cnt (fun i => N.testBit i) 32
theorem bc_le (N : Nat) : bc N ≤ 32 := cnt_le _ 32
theorem smc : ∀ W, W < 8 → (decide (nI W &&& (nI W - 1) = 0) = decide (bc W ≤ 1)) := by decide +kernel
/-- the marks seen at a place from tick f on, for n ticks -/
noncomputable def smv (p : Nat → Int) (q : Int) (t : Nat) : Int := p (1 + ((q - trn p t) % p 0).toNat)
noncomputable def sma (p : Nat → Int) (f n : Nat) (q : Int) : Nat := cbs (fun i => decide (0 < smv p q (f + i))) (fun i => (smv p q (f + i) - 1).toNat) n
theorem smv_rng {p : Nat → Int} (hV : VP p) (q : Int) (t : Nat) : 0 ≤ smv p q t ∧ smv p q t ≤ 3 := by
  have m := mk_mod hV (q - trn p t)
  have := hV.n
  exact hV.mk _ (by omega)
theorem sma_lt {p : Nat → Int} (hV : VP p) (f n : Nat) (q : Int) : sma p f n q < 8 := cbs_lt (k := 3) (fun i _ hc => by
  have := smv_rng hV q (f + i)
  simp only [decide_eq_true_eq] at hc
  omega)
theorem trn_mod_sub {n : Int} (q t : Int) : (q - t % n) % n = (q - t) % n := sub_mod_n
/-- how many places smear -/
noncomputable def smN (p : Nat → Int) (f n : Nat) : Nat := cnt (fun q => decide (1 < bc (sma p f n (q : Nat)))) (p 0).toNat
theorem obb {α β : Type} {o : Option α} {a : α} (h : o = some a) {f : α → Option β} : o.bind f = f a := by rw [h]; rfl
