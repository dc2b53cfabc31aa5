/-! what smears -/
def cbs (c : Nat → Bool) (g : Nat → Nat) : Nat → Nat
  | 0 => 0
  | n + 1 => if c n = true then cbs c g n ||| 2 ^ g n else cbs c g n
theorem cbs_at (c : Nat → Bool) (g : Nat → Nat) (r : Nat) : ∀ n, (cbs c g n).testBit r = true ↔ ∃ i, i < n ∧ c i = true ∧ g i = r
  | 0 => by simp [cbs]
  | n + 1 => by
    have ih := cbs_at c g r n
    simp only [cbs]
    by_cases q : c n = true
    · rw [if_pos q, setBit_at, Bool.or_eq_true, decide_eq_true_eq, ih]
      constructor
      · rintro (⟨i, a, b⟩ | h)
        · exact ⟨i, by omega, b⟩
        · exact ⟨n, by omega, q, h⟩
      · rintro ⟨i, a, b, d⟩
        rcases Nat.lt_or_ge i n with w | w
        · exact Or.inl ⟨i, w, b, d⟩
        · obtain rfl : i = n := by omega
          exact Or.inr d
    · rw [if_neg q, ih]
      constructor
      · rintro ⟨i, a, b⟩
        exact ⟨i, by omega, b⟩
      · rintro ⟨i, a, b, d⟩
        have : i ≠ n := fun z => q (z ▸ b)
        exact ⟨i, by omega, b, d⟩
theorem cbs_lt {c : Nat → Bool} {g : Nat → Nat} {k n : Nat} (h : ∀ i, i < n → c i = true → g i < k) : cbs c g n < 2 ^ k := by
  induction n with
  | zero => simp only [cbs]; exact Nat.two_pow_pos k
  | succ n ih =>
    have a := ih (fun i hi => h i (by omega))
    simp only [cbs]
    split
    · rename_i q
      exact Nat.or_lt_two_pow a (Nat.pow_lt_pow_right (by decide) (h n (by omega) q))
    · exact a
theorem sm16 : ∀ W, W < 16 → ∀ m : Nat, m < 4 → nI W ||| ((1 : Int32) <<< (i32 (m : Int) &&& 31)) = nI (W ||| 2 ^ m) := by decide +kernel
theorem sm8 : ∀ W, W < 8 → ∀ m : Nat, m < 3 → nI W ||| ((1 : Int32) <<< (i32 (m : Int) &&& 31)) = nI (W ||| 2 ^ m) := by decide +kernel
theorem sm0 : ∀ W, W < 8 → nI W ||| i32 0 = nI W := by decide +kernel
theorem sms : ∀ W, W < 16 → nI W >>> ((1 : Int32) &&& 31) = nI (W >>> 1) := by decide +kernel
def bc (N : Nat) : Nat := cnt (fun i => N.testBit i) 32
theorem bc_ok {N : Nat} (h : N < 2 ^ 31) : fJ6_bitCount_0f7a4 (nI N) = some (i32 (bc N : Nat)) := bitCountI_ok h
theorem bc_le (N : Nat) : bc N ≤ 32 := cnt_le _ 32
theorem smc : ∀ W, W < 8 → (decide (nI W &&& (nI W - 1) = 0) = decide (bc W ≤ 1)) := by decide +kernel
/-- the marks seen at a place from tick f on, for n ticks -/
noncomputable def smv (p : Nat → Int) (q : Int) (t : Nat) : Int := p (1 + ((q - trn p t) % p 0).toNat)
noncomputable def sma (p : Nat → Int) (f n : Nat) (q : Int) : Nat := cbs (fun i => decide (0 < smv p q (f + i))) (fun i => (smv p q (f + i) - 1).toNat) n
theorem smv_rng {p : Nat → Int} (hV : VP p) (q : Int) (t : Nat) : 0 ≤ smv p q t ∧ smv p q t ≤ 3 := by
  have m := mk_mod hV (q - trn p t)
  have := hV.n
  exact hV.mk _ (by omega)
theorem sma_lt {p : Nat → Int} (hV : VP p) (f n : Nat) (q : Int) : sma p f n q < 8 := cbs_lt (k := 3) (fun i _ hc => by
  have := smv_rng hV q (f + i)
  simp only [decide_eq_true_eq] at hc
  omega)
theorem msmear {h0 h : XH} {A : Nat → Nat → Int32} {S : Nat → Int32} {Z : Int64} (M : MdAt h0 h A S Z) {p : Nat → Int} (G : PgAt A p) (L : LdAt A S p) (hV : VP p) {f e : Nat} (h14 : S 14 = i32 (f : Nat)) (h15 : S 15 = i32 ((e : Int) - 1)) (he : f ≤ e ∧ e ≤ 1001) {q : Int} (hq : 0 ≤ q ∧ q < p 0) : fX9_smearAt h 102 (i32 q) = some (i32 (sma p f (e - f) q : Nat)) := by
  have hn := hV.n
  unfold fX9_smearAt
  rw [M.i14, h14]; simp only [Option.bind_some]
  have r := xl_run (fX9_smearAt_B7 h 102 (i32 q)) (fun i => (i32 (sma p f i q : Nat), i32 (f + i : Nat))) (e - f) (i32 (sma p f (e - f) q : Nat)) (fun i hi => by
    have v := smv_rng hV q (f + i)
    have lt := sma_lt hV f i q
    have nx : sma p f (i + 1) q = if decide (0 < smv p q (f + i)) = true then sma p f i q ||| 2 ^ (smv p q (f + i) - 1).toNat else sma p f i q := rfl
    unfold fX9_smearAt_B7 fX9_smearAt_b7
    rw [M.i15, h15]; simp only [Option.bind_some]
    rw [ilt_f (by omega), M.c]; simp only [Option.bind_some]
    rw [seen_ok M G L hV (by omega) hq]; simp only [Option.bind_some]
    rw [show p (1 + ((q - trn p (f + i)) % p 0).toNat) = smv p q (f + i) from rfl, L_0, cle (by omega), nx]
    simp only [decide_eq_true_eq, xlet, i32_add, i32_sub]
    by_cases c : smv p q (f + i) ≤ 0
    · rw [if_pos c, if_neg (by omega)]
      have := sm0 _ lt
      rw [nI_i32] at this
      rw [this, L_1, i32_add]
      rfl
    · rw [if_neg c, if_pos (by omega)]
      have := sm8 _ lt (smv p q (f + i) - 1).toNat (by omega)
      rw [nI_i32, nI_i32, show (((smv p q (f + i) - 1).toNat : Nat) : Int) = smv p q (f + i) - 1 by omega] at this
      rw [L_1] at this ⊢
      rw [i32_sub, this, i32_add]
      rfl) (by
    unfold fX9_smearAt_B7 fX9_smearAt_b7
    rw [M.i15, h15]; simp only [Option.bind_some]
    rw [ilt_t (by omega)]) 5000 (by omega)
  have r2 : xloop (fX9_smearAt_B7 h 102 (i32 q)) 5000 (0, i32 (f : Nat)) = some (i32 (sma p f (e - f) q : Nat)) := r
  rw [r2]
  rfl
theorem trn_mod_sub {n : Int} (q t : Int) : (q - t % n) % n = (q - t) % n := sub_mod_n
theorem cmarks {h : XH} {p : Nat → Int} (H : NowAt h p) (hV : VP p) {f n : Nat} {q : Int} (hq : 0 ≤ q ∧ q < p 0) : fX6_marksPassing h 2 (i32 q) (lN (bset (rsd p (p 0) f 1) n)) = some (i32 (sma p f n q : Nat)) := by
  have hn := hV.n
  have hB : bset (rsd p (p 0) f 1) n < 2 ^ 60 := bset_lt (rsd_lt p f 1 (by omega)) n
  let g : Nat → Nat := fun r => (p (1 + ((q - (r : Nat)) % p 0).toNat)).toNat
  let c : Nat → Bool := fun r => (bset (rsd p (p 0) f 1) n).testBit r
  have gr : ∀ r, (0 ≤ p (1 + ((q - (r : Nat)) % p 0).toNat) ∧ p (1 + ((q - (r : Nat)) % p 0).toNat) ≤ 3) := fun r => by
    have m := mk_mod hV (q - (r : Nat))
    exact hV.mk _ (by omega)
  have g4 : ∀ r, g r < 4 := fun r => by
    have := gr r
    show (p (1 + ((q - (r : Nat)) % p 0).toNat)).toNat < 4
    omega
  have W16 : ∀ i, cbs c g i < 16 := fun i => cbs_lt (k := 4) (fun r _ _ => g4 r)
  unfold fX6_marksPassing
  have r := xl_run (fX6_marksPassing_B6 h 2 (i32 q) (lN (bset (rsd p (p 0) f 1) n))) (fun i => (i32 (cbs c g i : Nat), i32 (i : Nat))) (p 0).toNat (i32 (cbs c g (p 0).toNat : Nat)) (fun i hi => by
    have nx : cbs c g (i + 1) = if c i = true then cbs c g i ||| 2 ^ g i else cbs c g i := rfl
    have m := mk_mod hV (q - (i : Nat))
    unfold fX6_marksPassing_B6 fX6_marksPassing_b6
    rw [H.w.i3]; simp only [Option.bind_some]
    rw [ile_f (by omega), hasBit_ok (by omega) (by omega)]; simp only [Option.bind_some, Int.toNat_natCast]
    rw [show (bset (rsd p (p 0) f 1) n).testBit i = c i from rfl, nx, i32_sub, mod_ok (by omega) (by omega), H.w.c]; simp only [Option.bind_some]
    rw [cMarkOf H hV (by omega)]; simp only [Option.bind_some, xlet]
    by_cases hc : c i = true
    · rw [if_pos hc, if_pos hc]
      have := sm16 _ (W16 i) (g i) (g4 i)
      have hg : ((g i : Nat) : Int) = p (1 + ((q - (i : Nat)) % p 0).toNat) := by
        have := gr i
        show (((p (1 + ((q - (i : Nat)) % p 0).toNat)).toNat : Nat) : Int) = _
        omega
      rw [nI_i32, nI_i32, hg] at this
      rw [this, L_1, i32_add]
      rfl
    · rw [if_neg hc, if_neg hc, L_1, i32_add]
      rfl) (by
    unfold fX6_marksPassing_B6 fX6_marksPassing_b6
    rw [H.w.i3]; simp only [Option.bind_some]
    rw [ile_t (by omega)]) 5000 (by omega)
  have r2 : xloop (fX6_marksPassing_B6 h 2 (i32 q) (lN (bset (rsd p (p 0) f 1) n))) 5000 (0, 0) = some (i32 (cbs c g (p 0).toNat : Nat)) := r
  rw [r2]; simp only [Option.bind_some]
  have := sms _ (W16 (p 0).toNat)
  rw [nI_i32] at this
  rw [this, nI_i32]
  congr 3
  apply Nat.eq_of_testBit_eq
  intro j
  rw [Bool.eq_iff_iff, Nat.testBit_shiftRight]
  unfold sma
  rw [cbs_at, cbs_at]
  constructor
  · rintro ⟨r, r1, r2, r3⟩
    obtain ⟨i, i1, i2⟩ := (bset_at _ r n).mp r2
    have e : (((trn p (f + i) % p 0).toNat : Nat) : Int) = trn p (f + i) % p 0 := by have := mk_mod hV (trn p (f + i)); omega
    have e2 : (r : Int) = trn p (f + i) % p 0 := by
      rw [← i2]
      unfold rsd
      rw [show ((f : Int) + i * 1).toNat = f + i by omega]
      exact e
    have e3 : g r = (smv p q (f + i)).toNat := by
      show (p (1 + ((q - (r : Nat)) % p 0).toNat)).toNat = _
      rw [e2, trn_mod_sub]
      rfl
    have v := smv_rng hV q (f + i)
    refine ⟨i, i1, ?_, ?_⟩
    · rw [decide_eq_true_eq]; omega
    · omega
  · rintro ⟨i, i1, i2, i3⟩
    rw [decide_eq_true_eq] at i2
    have m := mk_mod hV (trn p (f + i))
    refine ⟨(trn p (f + i) % p 0).toNat, by omega, (bset_at _ _ n).mpr ⟨i, i1, ?_⟩, ?_⟩
    · unfold rsd
      rw [show ((f : Int) + i * 1).toNat = f + i by omega]
    · show (p (1 + ((q - (((trn p (f + i) % p 0).toNat : Nat) : Int)) % p 0).toNat)).toNat = _
      rw [show (((trn p (f + i) % p 0).toNat : Nat) : Int) = trn p (f + i) % p 0 by omega, trn_mod_sub]
      show (smv p q (f + i)).toNat = _
      omega
/-- how many places smear -/
noncomputable def smN (p : Nat → Int) (f n : Nat) : Nat := cnt (fun q => decide (1 < bc (sma p f n (q : Nat)))) (p 0).toNat
theorem obb {α β : Type} {o : Option α} {a : α} (h : o = some a) {f : α → Option β} : o.bind f = f a := by rw [h]; rfl
theorem csm_st {h : XH} {p : Nat → Int} (H : NowAt h p) (hV : VP p) {f n k : Nat} (hk : (k : Int) < p 0) : fX6_smearedPlaces_B18 h 2 (lN (bset (rsd p (p 0) f 1) n)) (i32 (cnt (fun q => decide (1 < bc (sma p f n (q : Nat)))) k : Nat), i32 (k : Nat)) = some (.inl (i32 (cnt (fun q => decide (1 < bc (sma p f n (q : Nat)))) (k + 1) : Nat), i32 (k + 1 : Nat))) := by
  have hn := hV.n
  have lt := sma_lt hV f n (k : Nat)
  have c32 := bc_le (sma p f n (k : Nat))
  have bo := bc_ok (N := sma p f n (k : Nat)) (Nat.lt_trans lt (by decide))
  rw [nI_i32] at bo
  have nx : cnt (fun q => decide (1 < bc (sma p f n (q : Nat)))) (k + 1) = cnt (fun q => decide (1 < bc (sma p f n (q : Nat)))) k + (if decide (1 < bc (sma p f n (k : Nat))) = true then 1 else 0) := rfl
  rw [nx]
  unfold fX6_smearedPlaces_B18 fX6_smearedPlaces_b18
  rw [obb H.w.i3, ile_f (by omega), obb H.w.c, obb (cmarks H hV (by omega)), obb bo]
  generalize bc (sma p f n (k : Nat)) = x at c32
  generalize cnt (fun q => decide (1 < bc (sma p f n (q : Nat)))) k = y
  rw [L_1, cle (by omega), i32_add, i32_add]
  by_cases q : x ≤ 1
  · rw [if_pos (by omega), decide_eq_false (by omega)]; rfl
  · rw [if_neg (by omega), decide_eq_true (by omega)]; rfl
theorem csmeared {h : XH} {p : Nat → Int} (H : NowAt h p) (hV : VP p) {f n : Nat} (hf : f + n ≤ 1001) : fX6_smearedPlaces h 2 (i32 (f : Nat)) (i32 (n : Nat)) = some (i32 (smN p f n : Nat)) := by
  have hn := hV.n
  unfold fX6_smearedPlaces
  rw [H.w.i3, H.w.c]; simp only [Option.bind_some]
  rw [L_1, ctmod H.w hV (by omega) (by omega) (fun i hi => by omega)]; simp only [Option.bind_some, Int.toNat_natCast]
  have r := xl_run (fX6_smearedPlaces_B18 h 2 (lN (bset (rsd p (p 0) f 1) n))) (fun k => (i32 (cnt (fun q => decide (1 < bc (sma p f n (q : Nat)))) k : Nat), i32 (k : Nat))) (p 0).toNat (i32 (smN p f n : Nat)) (fun k hk => by
    exact csm_st H hV (by omega)) (by
    unfold fX6_smearedPlaces_B18 fX6_smearedPlaces_b18
    rw [H.w.i3]; simp only [Option.bind_some]
    rw [ile_t (by omega)]
    rfl) 5000 (by omega)
  have r2 : xloop (fX6_smearedPlaces_B18 h 2 (lN (bset (rsd p (p 0) f 1) n))) 5000 (0, 0) = some (i32 (smN p f n : Nat)) := r
  rw [r2]
  rfl
theorem msmeared {h0 h : XH} {A : Nat → Nat → Int32} {S : Nat → Int32} {Z : Int64} (M : MdAt h0 h A S Z) {p : Nat → Int} (G : PgAt A p) (L : LdAt A S p) (hV : VP p) {f e : Nat} (h14 : S 14 = i32 (f : Nat)) (h15 : S 15 = i32 ((e : Int) - 1)) (he : f ≤ e ∧ e ≤ 1001) : fX9_smeared h 102 = some (i32 (smN p f (e - f) : Nat)) := by
  have hn := hV.n
  unfold fX9_smeared
  have r := xl_run (fX9_smeared_B4 h 102) (fun k => (i32 (cnt (fun q => decide (1 < bc (sma p f (e - f) (q : Nat)))) k : Nat), i32 (k : Nat))) (p 0).toNat (i32 (smN p f (e - f) : Nat)) (fun k hk => by
    have lt := sma_lt hV f (e - f) (k : Nat)
    unfold fX9_smeared_B4 fX9_smeared_b4
    rw [M.c]; simp only [Option.bind_some]
    rw [cells_ok M G]; simp only [Option.bind_some]
    rw [ile_f (by omega), msmear M G L hV h14 h15 he (by omega)]; simp only [Option.bind_some]
    have sc := smc _ lt
    rw [decide_eq_decide, nI_i32, L_1, L_0] at sc
    rw [L_1, L_0, i32_add, i32_add, i32_add]
    show (if _ then some (Sum.inl (_, i32 ((k + 1 : Nat) : Int))) else _) = some (Sum.inl (i32 ((cnt _ k + (if decide (1 < bc (sma p f (e - f) (k : Nat))) = true then 1 else 0) : Nat) : Int), _))
    by_cases q : bc (sma p f (e - f) (k : Nat)) ≤ 1
    · rw [if_pos (sc.mpr q), decide_eq_false (by omega)]; rfl
    · rw [if_neg (fun z => q (sc.mp z)), decide_eq_true (by omega)]; rfl) (by
    unfold fX9_smeared_B4 fX9_smeared_b4
    rw [M.c]; simp only [Option.bind_some]
    rw [cells_ok M G]; simp only [Option.bind_some]
    rw [ile_t (by omega)]
    rfl) 5000 (by omega)
  have r2 : xloop (fX9_smeared_B4 h 102) 5000 (0, 0) = some (i32 (smN p f (e - f) : Nat)) := r
  rw [r2]
  rfl
