theorem nx_and (a b : Nat) : nI a &&& nI b = nI (a &&& b) := by
  apply Int32.toBitVec_inj.1
  show BitVec.ofNat 32 a &&& BitVec.ofNat 32 b = BitVec.ofNat 32 (a &&& b)
  apply BitVec.eq_of_getLsbD_eq
  intro i hi
  simp [hi]
theorem wb_tb (n : Nat) : (lN n).toBitVec = BitVec.ofNat 64 n := rfl
theorem wb_inj {a b : Int64} (h : a.toBitVec = b.toBitVec) : a = b := Int64.toBitVec_inj.mp h
theorem wb_tn {n : Nat} (h : n < 2 ^ 64) : (lN n).toBitVec.toNat = n := by rw [wb_tb, BitVec.toNat_ofNat, Nat.mod_eq_of_lt h]
theorem wb_of (x : Int64) : ∃ n, n < 2 ^ 64 ∧ x = lN n := ⟨x.toBitVec.toNat, x.toBitVec.isLt, wb_inj (by rw [wb_tb]; simp)⟩
theorem wb_of32 (x : Int32) : ∃ n, n < 2 ^ 32 ∧ x = nI n := ⟨x.toBitVec.toNat, x.toBitVec.isLt, Int32.toBitVec_inj.mp (by show _ = BitVec.ofNat 32 _; simp)⟩
theorem wb_c : ∀ k, k < 64 → ((nI k).toInt64 &&& 63) = lN k := by decide +kernel
theorem wb_cu : ∀ k, k < 64 → ((nI k).toInt64.toUInt64 &&& Int64.toUInt64 63) = UInt64.ofNat k := by decide +kernel
theorem wb_sm : ∀ k, k < 64 → (BitVec.ofNat 64 k).smod 64 = BitVec.ofNat 64 k := by decide +kernel
theorem wb_pw {a b : Nat} (h : a ≤ b) : 2 ^ b = 2 ^ a * 2 ^ (b - a) := by rw [← Nat.pow_add]; congr 1; omega
theorem wb_lt2 {a b : Nat} (h : a < b) : 2 ^ a < 2 ^ b := Nat.pow_lt_pow_right (by decide) h
theorem wb_mod (n : Nat) : lN n = lN (n % 2 ^ 64) := wb_inj (by rw [wb_tb, wb_tb]; apply BitVec.eq_of_toNat_eq; rw [BitVec.toNat_ofNat, BitVec.toNat_ofNat, Nat.mod_mod])
theorem wb_shr {n k : Nat} (hn : n < 2 ^ 64) (hk : k < 64) : ((lN n).toUInt64 >>> ((nI k).toInt64.toUInt64 &&& Int64.toUInt64 63)).toInt64 = lN (n / 2 ^ k) := by
  rw [wb_cu k hk]
  apply wb_inj
  apply BitVec.eq_of_toNat_eq
  show ((lN n).toUInt64 >>> UInt64.ofNat k).toNat = (BitVec.ofNat 64 _).toNat
  have h1 : (UInt64.ofNat k).toNat = k := by
    show (BitVec.ofNat 64 k).toNat = k
    rw [BitVec.toNat_ofNat, Nat.mod_eq_of_lt (by omega)]
  have h2 : (lN n).toUInt64.toNat = n := wb_tn hn
  rw [UInt64.toNat_shiftRight, h1, h2, Nat.mod_eq_of_lt hk, Nat.shiftRight_eq_div_pow, BitVec.toNat_ofNat, Nat.mod_eq_of_lt (Nat.lt_of_le_of_lt (Nat.div_le_self _ _) hn)]
theorem wb_shl (n : Nat) {k : Nat} (hk : k < 64) : lN n <<< ((nI k).toInt64 &&& 63) = lN (n * 2 ^ k) := by
  rw [wb_c k hk]
  apply wb_inj
  rw [Int64.toBitVec_shiftLeft, wb_tb, wb_tb, wb_tb, wb_sm k hk]
  apply BitVec.eq_of_toNat_eq
  rw [BitVec.shiftLeft_eq', BitVec.toNat_shiftLeft, BitVec.toNat_ofNat, BitVec.toNat_ofNat, BitVec.toNat_ofNat, Nat.mod_eq_of_lt (show k < 2 ^ 64 by omega), Nat.shiftLeft_eq, Nat.mul_mod, Nat.mod_mod, ← Nat.mul_mod]
theorem wb_and {a b : Nat} (ha : a < 2 ^ 64) (hb : b < 2 ^ 64) : lN a &&& lN b = lN (a &&& b) := by
  apply wb_inj
  rw [Int64.toBitVec_and, wb_tb, wb_tb, wb_tb]
  apply BitVec.eq_of_toNat_eq
  rw [BitVec.toNat_and, BitVec.toNat_ofNat, BitVec.toNat_ofNat, BitVec.toNat_ofNat, Nat.mod_eq_of_lt ha, Nat.mod_eq_of_lt hb, Nat.mod_eq_of_lt (Nat.and_lt_two_pow _ hb)]
theorem wb_or {a b : Nat} (ha : a < 2 ^ 64) (hb : b < 2 ^ 64) : lN a ||| lN b = lN (a ||| b) := by
  apply wb_inj
  rw [Int64.toBitVec_or, wb_tb, wb_tb, wb_tb]
  apply BitVec.eq_of_toNat_eq
  rw [BitVec.toNat_or, BitVec.toNat_ofNat, BitVec.toNat_ofNat, BitVec.toNat_ofNat, Nat.mod_eq_of_lt ha, Nat.mod_eq_of_lt hb, Nat.mod_eq_of_lt (Nat.or_lt_two_pow ha hb)]
theorem wb_mask {n k : Nat} (hn : n < 2 ^ 64) (hk : k < 64) : lN n &&& lN (2 ^ k - 1) = lN (n % 2 ^ k) := by
  rw [wb_and hn (by have := wb_lt2 hk; omega), Nat.and_two_pow_sub_one_eq_mod]
theorem wb_a1 {n : Nat} (hn : n < 2 ^ 64) : lN n &&& 1 = lN (n % 2) := wb_mask (k := 1) hn (by decide)
theorem wb_bit {n k : Nat} (hn : n < 2 ^ 64) (hk : k < 64) : ((lN n).toUInt64 >>> ((nI k).toInt64.toUInt64 &&& Int64.toUInt64 63)).toInt64 &&& 1 = lN (n / 2 ^ k % 2) := by
  rw [wb_shr hn hk, wb_a1 (Nat.lt_of_le_of_lt (Nat.div_le_self _ _) hn)]
/-! sets of small numbers as longs -/
theorem nI_i32 (k : Nat) : nI k = i32 k := rfl
theorem lg_cmp0 (x y : Int64) : lg_cmp x y = 0 ↔ x = y := by
  unfold lg_cmp
  rcases lg_tri x y with h | h | h
  · have := lg_lt_not h
    have := lg_lt_ne h
    simp [*]
  · subst h
    simp
  · have := lg_lt_not h
    have := lg_lt_ne h
    simp only [h]
    simp
    intro q
    exact this q.symm
theorem hasBit_ok {N : Nat} (hN : N < 2 ^ 64) {k : Int} (hk : 0 ≤ k ∧ k < 64) : fX8_hasBit (lN N) (i32 k) = some (N.testBit k.toNat) := by
  unfold fX8_hasBit xlushr
  have e : i32 k = nI k.toNat := by rw [nI_i32]; congr 1; omega
  rw [e, wb_bit hN (by omega)]
  have h1 : (1 : Int64) = lN 1 := by decide
  rw [h1]
  have h2 : N / 2 ^ k.toNat % 2 = if N.testBit k.toNat then 1 else 0 := by
    rw [Nat.testBit_eq_decide_div_mod_eq]
    split
    · rename_i q; simpa using q
    · rename_i q; simp at q; omega
  rw [h2]
  cases N.testBit k.toNat with
  | true => exact if_pos ((lg_cmp0 (lN 1) (lN 1)).mpr rfl)
  | false => rw [if_neg (fun q => absurd ((lg_cmp0 _ _).mp q) (by decide))]
theorem setBit_ok {N : Nat} (hN : N < 2 ^ 60) {k : Int} (hk : 0 ≤ k ∧ k < 60) : lN N ||| xlshl (1 : Int64) (i32 k) = lN (N ||| 2 ^ k.toNat) ∧ N ||| 2 ^ k.toNat < 2 ^ 60 := by
  have e : i32 k = nI k.toNat := by rw [nI_i32]; congr 1; omega
  have h1 : (1 : Int64) = lN 1 := by decide
  have hp : 2 ^ k.toNat < 2 ^ 60 := Nat.pow_lt_pow_right (by decide) (by omega)
  refine ⟨?_, Nat.or_lt_two_pow hN hp⟩
  unfold xlshl
  rw [e, h1, wb_shl 1 (by omega), Nat.one_mul, wb_or (by omega) (by omega)]
theorem setBit_at (N k i : Nat) : (N ||| 2 ^ k).testBit i = (N.testBit i || decide (k = i)) := by
  rw [Nat.testBit_or, Nat.testBit_two_pow]
/-! counting bits, byte by byte -/
theorem byt_and {d m : Nat} (X Y : Nat) (hd : d < 256) (hm : m < 256) : (256 * X + d) &&& (256 * Y + m) = 256 * (X &&& Y) + (d &&& m) := by
  apply Nat.eq_of_testBit_eq
  intro i
  have e : (256 : Nat) = 2 ^ 8 := by decide
  rw [Nat.testBit_and, e, Nat.testBit_two_pow_mul_add _ (by omega), Nat.testBit_two_pow_mul_add _ (by omega), Nat.testBit_two_pow_mul_add _ (Nat.lt_of_le_of_lt Nat.and_le_left (by omega))]
  split
  · rw [Nat.testBit_and]
  · rw [Nat.testBit_and]
theorem byt_shr {d m : Nat} (X Y k : Nat) (hd : d < 256) (hk : k ≤ 8) (hm : m < 2 ^ (8 - k)) : ((256 * X + d) >>> k) &&& (256 * Y + m) = 256 * ((X >>> k) &&& Y) + ((d >>> k) &&& m) := by
  have hm2 : m < 256 := Nat.lt_of_lt_of_le hm (by
    have : 2 ^ (8 - k) ≤ 2 ^ 8 := Nat.pow_le_pow_right (by decide) (by omega)
    exact this)
  apply Nat.eq_of_testBit_eq
  intro i
  have e : (256 : Nat) = 2 ^ 8 := by decide
  rw [Nat.testBit_and, Nat.testBit_shiftRight, e, Nat.testBit_two_pow_mul_add _ (by omega), Nat.testBit_two_pow_mul_add _ (by omega), Nat.testBit_two_pow_mul_add _ (Nat.lt_of_le_of_lt Nat.and_le_right (by omega))]
  by_cases hi : i < 8
  · rw [if_pos hi, if_pos hi, Nat.testBit_and, Nat.testBit_shiftRight]
    by_cases hk2 : k + i < 8
    · rw [if_pos hk2]
    · have : m.testBit i = false := Nat.testBit_lt_two_pow (Nat.lt_of_lt_of_le hm (Nat.pow_le_pow_right (by decide) (by omega)))
      rw [this]
      simp
  · rw [if_neg hi, if_neg hi, if_neg (by omega), Nat.testBit_and, Nat.testBit_shiftRight]
    congr 2
    omega
def pA (m X : Nat) : Nat := X - ((X >>> 1) &&& m)
def pC (m X : Nat) : Nat := (X &&& m) + ((X >>> 2) &&& m)
theorem pA_le (m X : Nat) : (X >>> 1) &&& m ≤ X := Nat.le_trans Nat.and_le_left (by rw [Nat.shiftRight_eq_div_pow]; exact Nat.div_le_self _ _)
theorem pA_b (X Y : Nat) {d : Nat} (hd : d < 256) : pA (256 * Y + 85) (256 * X + d) = 256 * pA Y X + pA 85 d := by
  unfold pA
  rw [byt_shr X Y 1 hd (by omega) (by decide)]
  have := pA_le Y X
  have := pA_le 85 d
  omega
theorem pC_b (X Y : Nat) {d : Nat} (hd : d < 256) : pC (256 * Y + 51) (256 * X + d) = 256 * pC Y X + pC 51 d := by
  unfold pC
  rw [byt_shr X Y 2 hd (by omega) (by decide), byt_and X Y hd (by omega)]
  omega
def pT (d : Nat) : Nat := pC 51 (pA 85 d)
theorem pT_small : ∀ d, d < 256 → pA 85 d < 256 ∧ pT d ≤ 68 ∧ pT d % 16 ≤ 4 := by decide +kernel
theorem pop8 : ∀ d, d < 256 → (pT d + pT d / 16) % 16 = cnt (fun i => d.testBit i) 8 := by decide +kernel
theorem pC_A_b (X Y Z : Nat) {d : Nat} (hd : d < 256) : pC (256 * Z + 51) (pA (256 * Y + 85) (256 * X + d)) = 256 * pC Z (pA Y X) + pT d := by
  rw [pA_b X Y hd, pC_b _ Z (pT_small d hd).1]
  rfl
theorem pC_A_0 : pC 0 (pA 0 0) = 0 := by decide
/-- (Y + Y/16) with the low half of each byte kept -/
theorem pD_b (X M : Nat) {c : Nat} (hc : c ≤ 68) (hX : X % 16 ≤ 4) : ((256 * X + c) + (256 * X + c) >>> 4) &&& (256 * M + 15) = 256 * ((X + X >>> 4) &&& M) + (c + c / 16) % 16 := by
  rw [Nat.shiftRight_eq_div_pow, Nat.shiftRight_eq_div_pow]
  have e : 256 * X + c + (256 * X + c) / 2 ^ 4 = 256 * (X + X / 2 ^ 4) + (16 * (X % 16) + c + c / 16) := by
    simp only [Nat.reducePow]
    omega
  rw [e, byt_and _ _ (by omega) (by omega)]
  congr 1
  rw [show (15 : Nat) = 2 ^ 4 - 1 from rfl, Nat.and_two_pow_sub_one_eq_mod]
  simp only [Nat.reducePow]
  omega
theorem cnt_add (P : Nat → Bool) (a : Nat) : ∀ b, cnt P (a + b) = cnt P a + cnt (fun i => P (a + i)) b
  | 0 => rfl
  | b + 1 => by
    show cnt P (a + b) + _ = _
    rw [cnt_add P a b]
    exact Nat.add_assoc _ _ _
theorem cnt_byte (X : Nat) {d : Nat} (hd : d < 256) (n : Nat) : cnt (fun i => (256 * X + d).testBit i) (8 + n) = cnt (fun i => d.testBit i) 8 + cnt (fun i => X.testBit i) n := by
  rw [cnt_add]
  have e : (256 : Nat) = 2 ^ 8 := by decide
  congr 1
  · apply cnt_congr
    intro i hi
    rw [e, Nat.testBit_two_pow_mul_add _ (by omega), if_pos hi]
  · apply cnt_congr
    intro i hi
    rw [e, Nat.testBit_two_pow_mul_add _ (by omega), if_neg (by omega)]
    congr 1
    omega
theorem cnt8_le (d : Nat) : cnt (fun i => d.testBit i) 8 ≤ 8 := cnt_le _ 8
theorem bytes8 {N : Nat} (h : N < 2 ^ 64) : ∃ d0 d1 d2 d3 d4 d5 d6 d7 : Nat, d0 < 256 ∧ d1 < 256 ∧ d2 < 256 ∧ d3 < 256 ∧ d4 < 256 ∧ d5 < 256 ∧ d6 < 256 ∧ d7 < 256 ∧ N = (256 * (256 * (256 * (256 * (256 * (256 * (256 * (256 * 0 + d7) + d6) + d5) + d4) + d3) + d2) + d1) + d0) := by
  refine ⟨N % 256, N / 256 % 256, N / 65536 % 256, N / 16777216 % 256, N / 4294967296 % 256, N / 1099511627776 % 256, N / 281474976710656 % 256, N / 72057594037927936 % 256, ?_⟩
  refine ⟨by omega, by omega, by omega, by omega, by omega, by omega, by omega, by omega, by omega⟩
theorem bytes4 {N : Nat} (h : N < 2 ^ 32) : ∃ d0 d1 d2 d3 : Nat, d0 < 256 ∧ d1 < 256 ∧ d2 < 256 ∧ d3 < 256 ∧ N = (256 * (256 * (256 * (256 * 0 + d3) + d2) + d1) + d0) := by
  refine ⟨N % 256, N / 256 % 256, N / 65536 % 256, N / 16777216 % 256, ?_⟩
  refine ⟨by omega, by omega, by omega, by omega, by omega⟩
theorem pop64a {N : Nat} (h : N < 2 ^ 64) : ∃ e0 e1 e2 e3 e4 e5 e6 e7 : Nat, e0 ≤ 8 ∧ e1 ≤ 8 ∧ e2 ≤ 8 ∧ e3 ≤ 8 ∧ e4 ≤ 8 ∧ e5 ≤ 8 ∧ e6 ≤ 8 ∧ e7 ≤ 8 ∧ (pC 3689348814741910323 (pA 6148914691236517205 N) + (pC 3689348814741910323 (pA 6148914691236517205 N)) >>> 4) &&& 1085102592571150095 = (256 * (256 * (256 * (256 * (256 * (256 * (256 * (256 * 0 + e7) + e6) + e5) + e4) + e3) + e2) + e1) + e0) ∧ cnt (fun i => N.testBit i) 64 = e0 + e1 + e2 + e3 + e4 + e5 + e6 + e7 ∧ pC 3689348814741910323 (pA 6148914691236517205 N) < 2 ^ 63 := by
  obtain ⟨d0, d1, d2, d3, d4, d5, d6, d7, h0, h1, h2, h3, h4, h5, h6, h7, rfl⟩ := bytes8 h
  have hA : pC 3689348814741910323 (pA 6148914691236517205 (256 * (256 * (256 * (256 * (256 * (256 * (256 * (256 * 0 + d7) + d6) + d5) + d4) + d3) + d2) + d1) + d0)) = (256 * (256 * (256 * (256 * (256 * (256 * (256 * (256 * 0 + pT d7) + pT d6) + pT d5) + pT d4) + pT d3) + pT d2) + pT d1) + pT d0) := by
    rw [show (3689348814741910323 : Nat) = (256 * (256 * (256 * (256 * (256 * (256 * (256 * (256 * 0 + 51) + 51) + 51) + 51) + 51) + 51) + 51) + 51) from rfl, show (6148914691236517205 : Nat) = (256 * (256 * (256 * (256 * (256 * (256 * (256 * (256 * 0 + 85) + 85) + 85) + 85) + 85) + 85) + 85) + 85) from rfl]
    rw [pC_A_b _ _ _ h0, pC_A_b _ _ _ h1, pC_A_b _ _ _ h2, pC_A_b _ _ _ h3, pC_A_b _ _ _ h4, pC_A_b _ _ _ h5, pC_A_b _ _ _ h6, pC_A_b _ _ _ h7, pC_A_0]
  refine ⟨cnt (fun i => d0.testBit i) 8, cnt (fun i => d1.testBit i) 8, cnt (fun i => d2.testBit i) 8, cnt (fun i => d3.testBit i) 8, cnt (fun i => d4.testBit i) 8, cnt (fun i => d5.testBit i) 8, cnt (fun i => d6.testBit i) 8, cnt (fun i => d7.testBit i) 8, cnt8_le _, cnt8_le _, cnt8_le _, cnt8_le _, cnt8_le _, cnt8_le _, cnt8_le _, cnt8_le _, ?_, ?_, ?_⟩
  · rw [hA, show (1085102592571150095 : Nat) = (256 * (256 * (256 * (256 * (256 * (256 * (256 * (256 * 0 + 15) + 15) + 15) + 15) + 15) + 15) + 15) + 15) from rfl]
    have p0 := pT_small d0 h0
    have p1 := pT_small d1 h1
    have p2 := pT_small d2 h2
    have p3 := pT_small d3 h3
    have p4 := pT_small d4 h4
    have p5 := pT_small d5 h5
    have p6 := pT_small d6 h6
    have p7 := pT_small d7 h7
    rw [pD_b _ _ p0.2.1 (by omega), pD_b _ _ p1.2.1 (by omega), pD_b _ _ p2.2.1 (by omega), pD_b _ _ p3.2.1 (by omega), pD_b _ _ p4.2.1 (by omega), pD_b _ _ p5.2.1 (by omega), pD_b _ _ p6.2.1 (by omega), pD_b _ _ p7.2.1 (by omega)]
    rw [pop8 d0 h0, pop8 d1 h1, pop8 d2 h2, pop8 d3 h3, pop8 d4 h4, pop8 d5 h5, pop8 d6 h6, pop8 d7 h7]
    rfl
  · show cnt _ (8 + (8 + (8 + (8 + (8 + (8 + (8 + (8 + 0)))))))) = _
    rw [cnt_byte _ h0, cnt_byte _ h1, cnt_byte _ h2, cnt_byte _ h3, cnt_byte _ h4, cnt_byte _ h5, cnt_byte _ h6, cnt_byte _ h7]
    show cnt (fun i => d0.testBit i) 8 + (cnt (fun i => d1.testBit i) 8 + (cnt (fun i => d2.testBit i) 8 + (cnt (fun i => d3.testBit i) 8 + (cnt (fun i => d4.testBit i) 8 + (cnt (fun i => d5.testBit i) 8 + (cnt (fun i => d6.testBit i) 8 + (cnt (fun i => d7.testBit i) 8 + 0))))))) = _
    omega
  · rw [hA]
    have p0 := pT_small d0 h0
    have p1 := pT_small d1 h1
    have p2 := pT_small d2 h2
    have p3 := pT_small d3 h3
    have p4 := pT_small d4 h4
    have p5 := pT_small d5 h5
    have p6 := pT_small d6 h6
    have p7 := pT_small d7 h7
    simp only [Nat.reducePow]
    omega
theorem pop32a {N : Nat} (h : N < 2 ^ 32) : ∃ e0 e1 e2 e3 : Nat, e0 ≤ 8 ∧ e1 ≤ 8 ∧ e2 ≤ 8 ∧ e3 ≤ 8 ∧ (pC 858993459 (pA 1431655765 N) + (pC 858993459 (pA 1431655765 N)) >>> 4) &&& 252645135 = (256 * (256 * (256 * (256 * 0 + e3) + e2) + e1) + e0) ∧ cnt (fun i => N.testBit i) 32 = e0 + e1 + e2 + e3 ∧ pC 858993459 (pA 1431655765 N) < 2 ^ 31 := by
  obtain ⟨d0, d1, d2, d3, h0, h1, h2, h3, rfl⟩ := bytes4 h
  have hA : pC 858993459 (pA 1431655765 (256 * (256 * (256 * (256 * 0 + d3) + d2) + d1) + d0)) = (256 * (256 * (256 * (256 * 0 + pT d3) + pT d2) + pT d1) + pT d0) := by
    rw [show (858993459 : Nat) = (256 * (256 * (256 * (256 * 0 + 51) + 51) + 51) + 51) from rfl, show (1431655765 : Nat) = (256 * (256 * (256 * (256 * 0 + 85) + 85) + 85) + 85) from rfl]
    rw [pC_A_b _ _ _ h0, pC_A_b _ _ _ h1, pC_A_b _ _ _ h2, pC_A_b _ _ _ h3, pC_A_0]
  refine ⟨cnt (fun i => d0.testBit i) 8, cnt (fun i => d1.testBit i) 8, cnt (fun i => d2.testBit i) 8, cnt (fun i => d3.testBit i) 8, cnt8_le _, cnt8_le _, cnt8_le _, cnt8_le _, ?_, ?_, ?_⟩
  · rw [hA, show (252645135 : Nat) = (256 * (256 * (256 * (256 * 0 + 15) + 15) + 15) + 15) from rfl]
    have p0 := pT_small d0 h0
    have p1 := pT_small d1 h1
    have p2 := pT_small d2 h2
    have p3 := pT_small d3 h3
    rw [pD_b _ _ p0.2.1 (by omega), pD_b _ _ p1.2.1 (by omega), pD_b _ _ p2.2.1 (by omega), pD_b _ _ p3.2.1 (by omega)]
    rw [pop8 d0 h0, pop8 d1 h1, pop8 d2 h2, pop8 d3 h3]
    rfl
  · show cnt _ (8 + (8 + (8 + (8 + 0)))) = _
    rw [cnt_byte _ h0, cnt_byte _ h1, cnt_byte _ h2, cnt_byte _ h3]
    show cnt (fun i => d0.testBit i) 8 + (cnt (fun i => d1.testBit i) 8 + (cnt (fun i => d2.testBit i) 8 + (cnt (fun i => d3.testBit i) 8 + 0))) = _
    omega
  · rw [hA]
    have p0 := pT_small d0 h0
    have p1 := pT_small d1 h1
    have p2 := pT_small d2 h2
    have p3 := pT_small d3 h3
    simp only [Nat.reducePow]
    omega
theorem lush {n : Nat} (hn : n < 2 ^ 64) {k : Nat} (hk : k < 64) {x : Int32} (hx : x = i32 k) : xlushr (lN n) x = lN (n >>> k) := by
  unfold xlushr
  rw [hx, ← nI_i32, wb_shr hn hk, Nat.shiftRight_eq_div_pow]
theorem fold64 {e0 e1 e2 e3 e4 e5 e6 e7 V V1 V2 V3 V4 V5 V6 V7 W : Nat} (k0 : e0 ≤ 8) (k1 : e1 ≤ 8) (k2 : e2 ≤ 8) (k3 : e3 ≤ 8) (k4 : e4 ≤ 8) (k5 : e5 ≤ 8) (k6 : e6 ≤ 8) (k7 : e7 ≤ 8) (r0 : V = 256 * V1 + e0) (r1 : V1 = 256 * V2 + e1) (r2 : V2 = 256 * V3 + e2) (r3 : V3 = 256 * V4 + e3) (r4 : V4 = 256 * V5 + e4) (r5 : V5 = 256 * V6 + e5) (r6 : V6 = 256 * V7 + e6) (r7 : V7 = e7) (hW : W = V + V / 256) : (W + W / 65536 + (W + W / 65536) / 4294967296) % 128 = e0 + e1 + e2 + e3 + e4 + e5 + e6 + e7 := by
  have a1 : V / 256 = V1 := by rw [r0]; clear r0 r1 r2 r3 r4 r5 r6 r7 hW; omega
  have b0 : V = 65536 * V2 + (256 * e1 + e0) := by rw [r0, r1]; clear r0 r1 r2 r3 r4 r5 r6 r7 hW a1; omega
  have b1 : V1 = 65536 * V3 + (256 * e2 + e1) := by rw [r1, r2]; clear r0 r1 r2 r3 r4 r5 r6 r7 hW a1 b0; omega
  have b2 : V2 = 65536 * V4 + (256 * e3 + e2) := by rw [r2, r3]; clear r0 r1 r2 r3 r4 r5 r6 r7 hW a1 b0 b1; omega
  have b3 : V3 = 65536 * V5 + (256 * e4 + e3) := by rw [r3, r4]; clear r0 r1 r2 r3 r4 r5 r6 r7 hW a1 b0 b1 b2; omega
  have b4 : V4 = 65536 * V6 + (256 * e5 + e4) := by rw [r4, r5]; clear r0 r1 r2 r3 r4 r5 r6 r7 hW a1 b0 b1 b2 b3; omega
  have b5 : V5 = 65536 * V7 + (256 * e6 + e5) := by rw [r5, r6]; clear r0 r1 r2 r3 r4 r5 r6 r7 hW a1 b0 b1 b2 b3 b4; omega
  have a2 : W / 65536 = V2 + V3 := by
    rw [hW, a1]
    clear r0 r1 r2 r3 r4 r5 r6 r7 hW a1 b2 b3 b4 b5
    omega
  have c0 : V = 4294967296 * V4 + (65536 * (256 * e3 + e2) + (256 * e1 + e0)) := by rw [b0, b2]; clear r0 r1 r2 r3 r4 r5 r6 r7 hW a1 a2 b0 b1 b2 b3 b4 b5; omega
  have c1 : V1 = 4294967296 * V5 + (65536 * (256 * e4 + e3) + (256 * e2 + e1)) := by rw [b1, b3]; clear r0 r1 r2 r3 r4 r5 r6 r7 hW a1 a2 b0 b1 b2 b3 b4 b5 c0; omega
  have c2 : V2 = 4294967296 * V6 + (65536 * (256 * e5 + e4) + (256 * e3 + e2)) := by rw [b2, b4]; clear r0 r1 r2 r3 r4 r5 r6 r7 hW a1 a2 b0 b1 b2 b3 b4 b5 c0 c1; omega
  have c3 : V3 = 4294967296 * V7 + (65536 * (256 * e6 + e5) + (256 * e4 + e3)) := by rw [b3, b5]; clear r0 r1 r2 r3 r4 r5 r6 r7 hW a1 a2 b0 b1 b2 b3 b4 b5 c0 c1 c2; omega
  have d : (W + W / 65536) / 4294967296 = V4 + V5 + V6 + V7 := by
    rw [a2, hW, a1]
    clear r0 r1 r2 r3 r4 r5 r6 r7 hW a1 a2 b0 b1 b2 b3 b4 b5
    omega
  rw [d, a2, hW, a1]
  clear hW a1 a2 b0 b1 b2 b3 b4 b5 c0 c1 c2 c3 d
  omega
theorem fold32 {e0 e1 e2 e3 V V1 V2 V3 : Nat} (k0 : e0 ≤ 8) (k1 : e1 ≤ 8) (k2 : e2 ≤ 8) (k3 : e3 ≤ 8) (r0 : V = 256 * V1 + e0) (r1 : V1 = 256 * V2 + e1) (r2 : V2 = 256 * V3 + e2) (r3 : V3 = e3) : (V + V / 256 + (V + V / 256) / 65536) % 64 = e0 + e1 + e2 + e3 := by
  have a1 : V / 256 = V1 := by rw [r0]; clear r0 r1 r2 r3; omega
  have b0 : V = 65536 * V2 + (256 * e1 + e0) := by rw [r0, r1]; clear r0 r1 r2 r3 a1; omega
  have b1 : V1 = 65536 * V3 + (256 * e2 + e1) := by rw [r1, r2]; clear r0 r1 r2 r3 a1 b0; omega
  have a2 : (V + V / 256) / 65536 = V2 + V3 := by
    rw [a1]
    clear r0 r1 r2 r3 a1
    omega
  rw [a2, a1]
  clear a1 a2 b0 b1
  omega
theorem bitCountJ_ok {N : Nat} (h : N < 2 ^ 64) : fJ13_bitCount_95d88 (lN N) = some (i32 (cnt (fun i => N.testBit i) 64)) := by
  obtain ⟨e0, e1, e2, e3, e4, e5, e6, e7, k0, k1, k2, k3, k4, k5, k6, k7, q1, q2, q3⟩ := pop64a h
  unfold fJ13_bitCount_95d88
  simp only [xlet]
  have c1 : (6148914691236517205 : Int64) = lN 6148914691236517205 := by decide
  have c2 : (3689348814741910323 : Int64) = lN 3689348814741910323 := by decide
  have c3 : (1085102592571150095 : Int64) = lN 1085102592571150095 := by decide
  have lA := pA_le 6148914691236517205 N
  have y1 : lN N - (xlushr (lN N) 1 &&& 6148914691236517205) = lN (pA 6148914691236517205 N) := by
    rw [lush h (k := 1) (by omega) (by decide), c1, wb_and (by rw [Nat.shiftRight_eq_div_pow]; omega) (by decide), lN_sub lA]
    rfl
  have hA : pA 6148914691236517205 N < 2 ^ 64 := by unfold pA; omega
  rw [y1]
  have y2 : (lN (pA 6148914691236517205 N) &&& 3689348814741910323) + (xlushr (lN (pA 6148914691236517205 N)) 2 &&& 3689348814741910323) = lN (pC 3689348814741910323 (pA 6148914691236517205 N)) := by
    rw [lush hA (k := 2) (by omega) (by decide), c2, wb_and hA (by decide), wb_and (by rw [Nat.shiftRight_eq_div_pow]; omega) (by decide), lN_add]
    rfl
  rw [y2]
  generalize pC 3689348814741910323 (pA 6148914691236517205 N) = Y at q1 q3 ⊢
  have y3 : (lN Y + xlushr (lN Y) 4) &&& (1085102592571150095 : Int64) = lN ((Y + Y >>> 4) &&& 1085102592571150095) := by
    rw [lush (by omega) (k := 4) (by omega) (by decide), c3, lN_add, wb_and (by rw [Nat.shiftRight_eq_div_pow]; omega) (by decide)]
  rw [y3, q1]
  generalize hV : (256 * (256 * (256 * (256 * (256 * (256 * (256 * (256 * 0 + e7) + e6) + e5) + e4) + e3) + e2) + e1) + e0) = V
  have hVb : V < 2 ^ 60 := by omega
  rw [lush (by omega) (k := 8) (by omega) (by decide), lN_add, lush (by rw [Nat.shiftRight_eq_div_pow]; omega) (k := 16) (by omega) (by decide), lN_add]
  generalize hW : V + V >>> 8 = W
  rw [Nat.shiftRight_eq_div_pow] at hW
  have hWb : W < 2 ^ 61 := by omega
  rw [lush (by rw [Nat.shiftRight_eq_div_pow]; omega) (k := 32) (by omega) (by decide), lN_add, lN_i]
  have c4 : (127 : Int32) = nI 127 := by decide
  rw [c4, nx_and, nI_i32]
  rw [show (127 : Nat) = 2 ^ 7 - 1 from rfl, Nat.and_two_pow_sub_one_eq_mod, q2]
  congr 3
  rw [Nat.shiftRight_eq_div_pow, Nat.shiftRight_eq_div_pow]
  simp only [Nat.reducePow] at hW hVb hWb ⊢
  clear q1 q2 q3 y1 y2 y3 hA lA c1 c2 c3 c4 h
  obtain ⟨V7, r7⟩ : ∃ x, x = 256 * 0 + e7 := ⟨_, rfl⟩
  obtain ⟨V6, r6⟩ : ∃ x, x = 256 * V7 + e6 := ⟨_, rfl⟩
  obtain ⟨V5, r5⟩ : ∃ x, x = 256 * V6 + e5 := ⟨_, rfl⟩
  obtain ⟨V4, r4⟩ : ∃ x, x = 256 * V5 + e4 := ⟨_, rfl⟩
  obtain ⟨V3, r3⟩ : ∃ x, x = 256 * V4 + e3 := ⟨_, rfl⟩
  obtain ⟨V2, r2⟩ : ∃ x, x = 256 * V3 + e2 := ⟨_, rfl⟩
  obtain ⟨V1, r1⟩ : ∃ x, x = 256 * V2 + e1 := ⟨_, rfl⟩
  rw [← r7, ← r6, ← r5, ← r4, ← r3, ← r2, ← r1] at hV
  exact fold64 k0 k1 k2 k3 k4 k5 k6 k7 hV.symm r1 r2 r3 r4 r5 r6 (by omega) hW.symm
theorem ush {n : Nat} (hn : n < 2 ^ 32) {k : Nat} {x : Int32} (hx : ((x.toUInt32 &&& Int32.toUInt32 31).toBitVec % 32).toNat = k) : xushr (nI n) x = nI (n >>> k) := by
  unfold xushr
  rw [pk_ushrN hn _ k hx, Nat.shiftRight_eq_div_pow]
