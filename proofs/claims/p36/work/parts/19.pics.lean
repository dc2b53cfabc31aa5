/-! sets of residues -/
def bset (g : Nat → Nat) : Nat → Nat
  | 0 => 0
  | n + 1 => bset g n ||| 2 ^ g n
theorem bset_at (g : Nat → Nat) (r : Nat) : ∀ n, (bset g n).testBit r = true ↔ ∃ i, i < n ∧ g i = r
  | 0 => by simp [bset]
  | n + 1 => by
    simp only [bset, setBit_at, Bool.or_eq_true, decide_eq_true_eq, bset_at g r n]
    constructor
    · rintro (⟨i, a, b⟩ | h)
      · exact ⟨i, by omega, b⟩
      · exact ⟨n, by omega, h⟩
    · rintro ⟨i, a, b⟩
      rcases Nat.lt_or_ge i n with q | q
      · exact Or.inl ⟨i, q, b⟩
      · obtain rfl : i = n := by omega
        exact Or.inr b
theorem bset_lt {g : Nat → Nat} (hg : ∀ i, g i < 60) : ∀ n, bset g n < 2 ^ 60
  | 0 => by simp [bset]
  | n + 1 => Nat.or_lt_two_pow (bset_lt hg n) (Nat.pow_lt_pow_right (by decide) (hg n))
theorem cnt_set {P : Nat → Bool} {r : Nat} : ∀ {n : Nat}, r < n → P r = false → cnt (fun i => P i || decide (r = i)) n = cnt P n + 1
  | 0, h, _ => by omega
  | n + 1, h, hp => by
    simp only [cnt]
    rcases Nat.lt_or_ge r n with q | q
    · have d : decide (r = n) = false := decide_eq_false (by omega)
      rw [cnt_set q hp]
      simp only [d, Bool.or_false]
      omega
    · obtain rfl : r = n := by omega
      have e : cnt (fun i => P i || decide (r = i)) r = cnt P r := cnt_congr (fun i hi => by rw [decide_eq_false (by omega), Bool.or_false])
      rw [e]
      simp [hp]
theorem cnt_false {P : Nat → Bool} : ∀ {n : Nat}, (∀ i, i < n → P i = false) → cnt P n = 0
  | 0, _ => rfl
  | n + 1, h => by simp only [cnt, cnt_false (n := n) (fun i hi => h i (by omega)), h n (by omega)]; rfl
theorem cnt_set' {P : Nat → Bool} {r : Nat} {n : Nat} (hp : P r = true) : cnt (fun i => P i || decide (r = i)) n = cnt P n :=
  cnt_congr (fun i _ => by
    by_cases q : r = i
    · subst q; simp [hp]
    · simp [q])
def rsd (p : Nat → Int) (dv fi pe : Int) : Nat → Nat := fun i => (trn p (fi + i * pe).toNat % dv).toNat
theorem rsd_lt (p : Nat → Int) {dv : Int} (fi pe : Int) (h : 1 ≤ dv ∧ dv ≤ 60) (i : Nat) : rsd p dv fi pe i < 60 := by
  unfold rsd
  have := Int.emod_lt_of_pos (trn p (fi + i * pe).toNat) (show 0 < dv by omega)
  omega
theorem ctmod {h : XH} {w : Nat} {p : Nat → Int} (H : WhAt h w p) (hV : VP p) {dv fi nu pe : Int} (hd : 1 ≤ dv ∧ dv ≤ 60) (hn : 0 ≤ nu ∧ nu ≤ 1001) (ht : ∀ i : Nat, (i : Int) < nu → 0 ≤ fi + i * pe ∧ fi + i * pe ≤ 1000) : fX6_turnsModulo h w (i32 dv) (i32 fi) (i32 nu) (i32 pe) = some (lN (bset (rsd p dv fi pe) nu.toNat)) := by
  have f := xl_run (fX6_turnsModulo_B6 h w (i32 dv) (i32 fi) (i32 nu) (i32 pe)) (fun i => (lN (bset (rsd p dv fi pe) i), i32 i)) nu.toNat (lN (bset (rsd p dv fi pe) nu.toNat)) (fun i hi => by
    have t := ht i (by omega)
    have r := trn_rng hV (fi + i * pe).toNat
    have m1 := Int.emod_nonneg (trn p (fi + i * pe).toNat) (show dv ≠ 0 by omega)
    have m2 := Int.emod_lt_of_pos (trn p (fi + i * pe).toNat) (show 0 < dv by omega)
    unfold fX6_turnsModulo_B6 fX6_turnsModulo_b6
    simp only [i32_add, i32_mul, L_1]
    rw [ile_f (by omega), H.c]; simp only [Option.bind_some]
    have e : i32 (fi + i * pe) = i32 ((fi + i * pe).toNat : Int) := by congr 1; omega
    rw [e, cturn_ok H hV (by omega)]; simp only [Option.bind_some]
    rw [mod_ok (by omega) (by omega)]; simp only [Option.bind_some, xlet]
    rw [(setBit_ok (bset_lt (rsd_lt p fi pe hd) i) (k := trn p (fi + i * pe).toNat % dv) (by omega)).1]
    rfl) (by
    unfold fX6_turnsModulo_B6 fX6_turnsModulo_b6
    rw [ile_t (by omega)]) 5000 (by omega)
  unfold fX6_turnsModulo
  have h0 : (0 : Int64) = lN 0 := by decide
  rw [L_0, h0]
  have f2 : xloop (fX6_turnsModulo_B6 h w (i32 dv) (i32 fi) (i32 nu) (i32 pe)) 5000 (lN 0, i32 0) = some (lN (bset (rsd p dv fi pe) nu.toNat)) := f
  rw [f2]
  rfl
noncomputable def pset (p : Nat → Int) (n : Nat) : Nat := bset (rsd p (msr p) (p 74) (p 75)) n
noncomputable def pics (p : Nat → Int) : Nat := cnt (fun r => (pset p (nfl p).toNat).testBit r) 64
theorem pset_lt {p : Nat → Int} (hV : VP p) (n : Nat) : pset p n < 2 ^ 60 := bset_lt (rsd_lt p _ _ (by have := msr_rng hV; omega)) n
theorem cpics {h : XH} {p : Nat → Int} (H : NowAt h p) (hV : VP p) : fX5_differentPictures h 1 = some (i32 (pics p)) := by
  have hn := nfl_rng hV
  have hr := msr_rng hV
  unfold fX5_differentPictures
  rw [H.n0, H.n1]; simp only [Option.bind_some]
  rw [H.w.c]; simp only [Option.bind_some]
  rw [cmsr_ok H.w hV, H.f.i0, H.f.c, H.f.i1]; simp only [Option.bind_some]
  rw [cnfl H.f hV]; simp only [Option.bind_some]
  rw [ctmod H.w hV (by omega) (by omega) (fun i hi => tkf_rng hV (by omega))]; simp only [Option.bind_some]
  rw [bitCountJ_ok (N := bset (rsd p (msr p) (p 74) (p 75)) (nfl p).toNat) (Nat.lt_trans (pset_lt hV _) (by decide))]
  rfl
/-! seems -/
noncomputable def aSeems (p : Nat → Int) (w : Int) : Int := if decide (0 ≤ w ∧ w ≤ 3) = true then (if w = 3 then (pics p : Int) else (cnt (sgn p w) (nfl p - 1).toNat : Int)) else -1001
theorem cSeems {h : XH} {p : Nat → Int} (H : NowAt h p) (hV : VP p) {w : Int} (hw : -2147483648 ≤ w ∧ w < 2147483648) : fX8_seems h 0 (i32 w) = some (i32 (aSeems p w)) := by
  unfold fX8_seems aSeems
  simp only [L_0, L_3, L_m1001]
  rw [within_ok hw (by omega) (by omega)]; simp only [Option.bind_some]
  split
  · rename_i q
    simp only [decide_eq_true_eq] at q
    rw [ceq (by omega), H.n]; simp only [Option.bind_some]
    rw [H.sc]; simp only [Option.bind_some]
    split
    · rw [cpics H hV]; rfl
    · rw [cseem H hV (by omega)]; rfl
  · rfl
/-! stillPeriod -/
noncomputable def stP (p : Nat → Int) (a : Int) : Nat → Bool := fun k => decide (p 62 * (a + k) % (msr p : Int) = 0)
noncomputable def aStill (p : Nat → Int) (a b : Int) : Int := if decide (1 ≤ a ∧ a ≤ 500) = true then (if decide (a ≤ b ∧ b ≤ 500) = true then (if lst (stP p a) (b - a + 1).toNat 0 < (b - a + 1).toNat then a + (lst (stP p a) (b - a + 1).toNat 0 : Int) else -1004) else -1001) else -1001
theorem cStill {h : XH} {p : Nat → Int} (H : NowAt h p) (hV : VP p) {a b : Int} (ha : -2147483648 ≤ a ∧ a < 2147483648) (hb : -2147483648 ≤ b ∧ b < 2147483648) : fX8_stillPeriod h 0 (i32 a) (i32 b) = some (i32 (aStill p a b)) := by
  unfold fX8_stillPeriod aStill
  have hs := hV.speed
  have hr := msr_rng hV
  simp only [L_1, L_500, L_m1001, L_m1004]
  rw [within_ok ha (by omega) (by omega)]; simp only [Option.bind_some]
  split
  · rename_i y
    simp only [decide_eq_true_eq] at y
    rw [within_ok hb (by omega) (by omega)]; simp only [Option.bind_some]
    split
    · rename_i x
      simp only [decide_eq_true_eq] at x
      rw [H.n]; simp only [Option.bind_some]
      rw [H.n0]; simp only [Option.bind_some]
      rw [H.w.c]; simp only [Option.bind_some]
      rw [cmsr_ok H.w hV]; simp only [Option.bind_some]
      obtain ⟨l1, l2, l3, l4⟩ := lst_ok (P := stP p a) (b - a + 1).toNat 0
      have step : ∀ i : Nat, (i : Int) < b - a + 1 → fX8_stillPeriod_B40 h 0 (i32 b) (i32 (msr p)) (i32 (a + i)) = some (if stP p a i = true then .inr (.inl (i32 (a + i))) else .inl (i32 (a + (i + 1 : Nat)))) := fun i hi => by
        have mb := mulb (a := p 62) (b := a + i) (A := 1000) (B := 500) (by omega) (by omega)
        have m := s_mod hV (p 62 * (a + i))
        unfold fX8_stillPeriod_B40 fX8_stillPeriod_b40
        rw [ilt_f (by omega), H.n]; simp only [Option.bind_some]
        rw [H.n0]; simp only [Option.bind_some]
        rw [H.w.i5]; simp only [Option.bind_some, i32_mul, L_0, L_1, i32_add]
        rw [mod_ok (by omega) (by omega)]; simp only [Option.bind_some]
        rw [ceq (by omega)]
        unfold stP
        simp only [decide_eq_true_eq]
        split
        · rfl
        · congr 3; omega
      by_cases q : lst (stP p a) (b - a + 1).toNat 0 < (b - a + 1).toNat
      · rw [if_pos q]
        have f := xl_run (fX8_stillPeriod_B40 h 0 (i32 b) (i32 (msr p))) (fun i => i32 (a + i)) (lst (stP p a) (b - a + 1).toNat 0) (.inl (i32 (a + (lst (stP p a) (b - a + 1).toNat 0 : Nat)))) (fun i hi => by rw [step i (by omega), if_neg (by rw [l3 i (by omega) hi]; exact Bool.false_ne_true)]) (by rw [step _ (by omega), if_pos (l4 (by omega))]) 5000 (by omega)
        have e0 : i32 a = i32 (a + (0 : Nat)) := by congr 1; omega
        rw [e0, f]
        rfl
      · rw [if_neg q]
        have f := xl_run (fX8_stillPeriod_B40 h 0 (i32 b) (i32 (msr p))) (fun i => i32 (a + i)) (b - a + 1).toNat (.inr ()) (fun i hi => by rw [step i (by omega), if_neg (by rw [l3 i (by omega) (by omega)]; exact Bool.false_ne_true)]) (by
          unfold fX8_stillPeriod_B40 fX8_stillPeriod_b40
          rw [ilt_t (by omega)]) 5000 (by omega)
        have e0 : i32 a = i32 (a + (0 : Nat)) := by congr 1; omega
        rw [e0, f]
        rfl
    · rfl
  · rfl
theorem tmod_0 {a b : Int} (hb : 0 < b) : a.tmod b = 0 ↔ a % b = 0 := by
  have := tmod_rng (a := a) hb
  rw [emod_tmod hb]
  split <;> omega
