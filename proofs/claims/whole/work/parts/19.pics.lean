/-! sets of residues -/
def bset (g : Nat → Nat) : Nat → Nat
  | 0 => 0
  | n + 1 => bset g n ||| 2 ^ g n
theorem bset_at (g : Nat → Nat) (r : Nat) : ∀ n, (bset g n).testBit r = true ↔ ∃ i, i < n ∧ g i = r
  | 0 => by simp [bset]
  | n + 1 => by
    simp only [bset, setBit_at, Bool.or_eq_true, decide_eq_true_eq, bset_at g r n]
    constructor
    · rintro (⟨i, a, b⟩ | h)
      · exact ⟨i, by omega, b⟩
      · exact ⟨n, by omega, h⟩
    · rintro ⟨i, a, b⟩
      rcases Nat.lt_or_ge i n with q | q
      · exact Or.inl ⟨i, q, b⟩
      · obtain rfl : i = n := by omega
        exact Or.inr b
theorem bset_lt {g : Nat → Nat} (hg : ∀ i, g i < 60) : ∀ n, bset g n < 2 ^ 60
  | 0 => by simp [bset]
  | n + 1 => Nat.or_lt_two_pow (bset_lt hg n) (Nat.pow_lt_pow_right (by decide) (hg n))
theorem cnt_set {P : Nat → Bool} {r : Nat} : ∀ {n : Nat}, r < n → P r = false → cnt (fun i => P i || decide (r = i)) n = cnt P n + 1
  | 0, h, _ => by omega
  | n + 1, h, hp => by
    simp only [cnt]
    rcases Nat.lt_or_ge r n with q | q
    · have d : decide (r = n) = false := decide_eq_false (by omega)
      rw [cnt_set q hp]
      simp only [d, Bool.or_false]
      omega
    · obtain rfl : r = n := by omega
      have e : cnt (fun i => P i || decide (r = i)) r = cnt P r := cnt_congr (fun i hi => by rw [decide_eq_false (by omega), Bool.or_false])
      rw [e]
      simp [hp]
theorem cnt_false {P : Nat → Bool} : ∀ {n : Nat}, (∀ i, i < n → P i = false) → cnt P n = 0
  | 0, _ => rfl
  | n + 1, h => by simp only [cnt, cnt_false (n := n) (fun i hi => h i (by omega)), h n (by omega)]; rfl
theorem cnt_set' {P : Nat → Bool} {r : Nat} {n : Nat} (hp : P r = true) : cnt (fun i => P i || decide (r = i)) n = cnt P n :=
  cnt_congr (fun i _ => by
    by_cases q : r = i
    · subst q; simp [hp]
    · simp [q])
def rsd (p : Nat → Int) (dv fi pe : Int) : Nat → Nat := fun i => (trn p (fi + i * pe).toNat % dv).toNat
theorem rsd_lt (p : Nat → Int) {dv : Int} (fi pe : Int) (h : 1 ≤ dv ∧ dv ≤ 60) (i : Nat) : rsd p dv fi pe i < 60 := by
  unfold rsd
  have := Int.emod_lt_of_pos (trn p (fi + i * pe).toNat) (show 0 < dv by omega)
  omega
theorem ctmod {h : XH} {w : Nat} {p : Nat → Int} (H : WhAt h w p) (hV : VP p) {dv fi nu pe : Int} (hd : 1 ≤ dv ∧ dv ≤ 60) (hn : 0 ≤ nu ∧ nu ≤ 1001) (ht : ∀ i : Nat, (i : Int) < nu → 0 ≤ fi + i * pe ∧ fi + i * pe ≤ 1000) : fX6_turnsModulo h w (i32 dv) (i32 fi) (i32 nu) (i32 pe) = some (lN (bset (rsd p dv fi pe) nu.toNat)) := by
  have f := xl_run (fX6_turnsModulo_B6 h w (i32 dv) (i32 fi) (i32 nu) (i32 pe)) (fun i => (lN (bset (rsd p dv fi pe) i), i32 i)) nu.toNat (lN (bset (rsd p dv fi pe) nu.toNat)) (fun i hi => by
    have t := ht i (by omega)
    have r := trn_rng hV (fi + i * pe).toNat
    have m1 := Int.emod_nonneg (trn p (fi + i * pe).toNat) (show dv ≠ 0 by omega)
    have m2 := Int.emod_lt_of_pos (trn p (fi + i * pe).toNat) (show 0 < dv by omega)
    unfold fX6_turnsModulo_B6 fX6_turnsModulo_b6
    simp only [i32_add, i32_mul, L_1]
    rw [ile_f (by omega), H.c]; simp only [Option.bind_some]
    have e : i32 (fi + i * pe) = i32 ((fi + i * pe).toNat : Int) := by congr 1; omega
    rw [e, cturn_ok H hV (by omega)]; simp only [Option.bind_some]
    rw [mod_ok (by omega) (by omega)]; simp only [Option.bind_some, xlet]
    rw [(setBit_ok (bset_lt (rsd_lt p fi pe hd) i) (k := trn p (fi + i * pe).toNat % dv) (by omega)).1]
    rfl) (by
    unfold fX6_turnsModulo_B6 fX6_turnsModulo_b6
    rw [ile_t (by omega)]) 5000 (by omega)
  unfold fX6_turnsModulo
  have h0 : (0 : Int64) = lN 0 := by decide
  rw [L_0, h0]
  have f2 : xloop (fX6_turnsModulo_B6 h w (i32 dv) (i32 fi) (i32 nu) (i32 pe)) 5000 (lN 0, i32 0) = some (lN (bset (rsd p dv fi pe) nu.toNat)) := f
  rw [f2]
  rfl
noncomputable def pset (p : Nat → Int) (n : Nat) : Nat := bset (rsd p (msr p) (p 74) (p 75)) n
noncomputable def pics (p : Nat → Int) : Nat := cnt (fun r => (pset p (nfl p).toNat).testBit r) 64
theorem pset_lt {p : Nat → Int} (hV : VP p) (n : Nat) : pset p n < 2 ^ 60 := bset_lt (rsd_lt p _ _ (by have := msr_rng hV; omega)) n
theorem cpics {h : XH} {p : Nat → Int} (H : NowAt h p) (hV : VP p) : fX5_differentPictures h 1 = some (i32 (pics p)) := by
  have hn := nfl_rng hV
  have hr := msr_rng hV
  unfold fX5_differentPictures
  rw [H.n0, H.n1]; simp only [Option.bind_some]
  rw [H.w.c]; simp only [Option.bind_some]
  rw [cmsr_ok H.w hV, H.f.i0, H.f.c, H.f.i1]; simp only [Option.bind_some]
  rw [cnfl H.f hV]; simp only [Option.bind_some]
  rw [ctmod H.w hV (by omega) (by omega) (fun i hi => tkf_rng hV (by omega))]; simp only [Option.bind_some]
  rw [bitCountJ_ok (N := bset (rsd p (msr p) (p 74) (p 75)) (nfl p).toNat) (Nat.lt_trans (pset_lt hV _) (by decide))]
  rfl
theorem mpics {h0 h : XH} {A : Nat → Nat → Int32} {S : Nat → Int32} {Z : Int64} (M : MdAt h0 h A S Z) {p : Nat → Int} (G : PgAt A p) (L : LdAt A S p) (hV : VP p) : MOp h0 A S Z (pics p) (fX9_pictures h 102) := by
  have hn := nfl_rng hV
  have hr := msr_rng hV
  have hp0 := hV.n
  unfold fX9_pictures
  rw [M.c]; simp only [Option.bind_some]
  rw [mmsr_ok M G hV]; simp only [Option.bind_some, L_0]
  obtain ⟨e, e1, h1, w1, rfl, M1, W1⟩ := xl_inv (fX9_pictures_B9 102 (i32 (msr p)) (i32 0)) (fun i s => ∃ (h' : XH) (w : Nat → Int32), s = (h', i32 i) ∧ MdAt h0 h' (aup A 3 w) S Z ∧ ∀ r, r < i → w r = i32 0) 60 (fun e => ∃ (h' : XH) (w : Nat → Int32), e = h' ∧ MdAt h0 h' (aup A 3 w) S Z ∧ ∀ r, r < 60 → w r = i32 0) (by
    rintro i s hi ⟨h', w, rfl, M', W'⟩
    unfold fX9_pictures_B9 fX9_pictures_b9
    simp only [L_60, L_1, i32_add]
    rw [ile_f (by omega), M'.r10]; simp only [Option.bind_some]
    obtain ⟨h'', e'', M''⟩ := M'.s3 (i := i) (vp_nar .boolean 0) (by omega)
    rw [e'']
    refine ⟨_, rfl, h'', _, rfl, by rw [aup_s, aup_aup] at M''; exact M'', fun r hr => ?_⟩
    unfold upd
    split
    · decide
    · exact W' r (by omega)) (by
    rintro s ⟨h', w, rfl, M', W'⟩
    refine ⟨h', ?_, h', w, rfl, M', W'⟩
    unfold fX9_pictures_B9 fX9_pictures_b9
    simp only [L_60]
    exact ile_t (by omega)) (h, i32 0) ⟨h, A 3, rfl, by
      have : aup A 3 (A 3) = A := by funext j; unfold aup; split <;> simp_all
      rw [this]; exact M, fun r hr => by omega⟩ 5000 (by omega)
  rw [e1]; simp only [Option.bind_some]
  have G1 := G.up w1 (k := 3) (by omega)
  have T1 : ∀ w, TnAt (aup A 3 w) p 1000 := fun w j hj => by rw [aup_n _ _ (by omega)]; exact L.1 j hj
  obtain ⟨e, e2, h2, w2, rfl, M2⟩ := xl_inv (fX9_pictures_B30 102 (i32 (msr p))) (fun i s => ∃ (h' : XH) (w : Nat → Int32), s = (h', i32 (cnt (fun r => (pset p i).testBit r) 64), i32 i) ∧ MdAt h0 h' (aup A 3 w) S Z ∧ ∀ r, r < 60 → w r = if (pset p i).testBit r then i32 1 else i32 0) (nfl p).toNat (fun e => ∃ (h' : XH) (w : Nat → Int32), e = (h', i32 (pics p)) ∧ MdAt h0 h' (aup A 3 w) S Z) (by
    rintro i s hi ⟨h', w, rfl, M', W'⟩
    have G' := G.up w (k := 3) (by omega)
    have t := tkf_rng hV (k := i) (by omega)
    have m := mk_mod hV (trn p (tkf p i).toNat)
    have m2 := s_mod hV (trn p (tkf p i).toNat)
    unfold fX9_pictures_B30 fX9_pictures_b30 fX9_pictures_J68
    rw [M'.c]; simp only [Option.bind_some, L_0, L_1, i32_add]
    rw [mnfl M' G' hV]; simp only [Option.bind_some]
    rw [ile_f (by omega), M'.r2]; simp only [Option.bind_some]
    rw [mtkf M' G']; simp only [Option.bind_some]
    rw [M'.a1 (by omega), T1 w _ (by omega)]; simp only [Option.bind_some]
    rw [ieq_f (by omega), M'.r10, i32_rem (by omega) (by omega), Int.tmod_eq_emod_of_nonneg m.1, Int.emod_emod_of_dvd _ (s_dvd hV)]; simp only [Option.bind_some]
    rw [M'.a3 (by omega)]; simp only [Option.bind_some]
    rw [aup_s, W' _ (by omega)]
    obtain ⟨h'', e'', M''⟩ := M'.s3 (i := trn p (tkf p i).toNat % (msr p : Int)) (vp_nar .boolean 1) (by omega)
    simp only [L_1] at e'' M''
    simp only [e'', Option.bind_some]
    have hg : rsd p (msr p) (p 74) (p 75) i = (trn p (tkf p i).toNat % (msr p : Int)).toNat := rfl
    have step : pset p (i + 1) = pset p i ||| 2 ^ (trn p (tkf p i).toNat % (msr p : Int)).toNat := rfl
    have cs : cnt (fun r => (pset p (i + 1)).testBit r) 64 = cnt (fun r => (pset p i).testBit r || decide ((trn p (tkf p i).toNat % (msr p : Int)).toNat = r)) 64 := cnt_congr (fun r _ => by rw [step, setBit_at])
    have W2 : ∀ r, r < 60 → upd (aup A 3 w 3) (trn p (tkf p i).toNat % (msr p : Int)).toNat (vp_nar .boolean (i32 1)) r = if (pset p (i + 1)).testBit r then i32 1 else i32 0 := by
      intro r hr
      rw [aup_s, step, setBit_at]
      unfold upd
      split
      · rename_i q
        subst q
        simp
        decide
      · rename_i q
        rw [W' r hr, decide_eq_false (Ne.symm q), Bool.or_false]
    cases hq : (pset p i).testBit (trn p (tkf p i).toNat % (msr p : Int)).toNat with
    | true =>
      rw [if_pos rfl, ieq_f (by omega)]
      refine ⟨_, rfl, h'', _, ?_, by rw [aup_s, aup_aup] at M''; exact M'', by rw [aup_s] at W2; exact W2⟩
      rw [cs, cnt_set' hq]
      simp [xbi, L_0, i32_add]
    | false =>
      rw [if_neg Bool.false_ne_true, ieq_t rfl]
      refine ⟨_, rfl, h'', _, ?_, by rw [aup_s, aup_aup] at M''; exact M'', by rw [aup_s] at W2; exact W2⟩
      rw [cs, cnt_set (by omega) hq]
      simp [xbi, L_1, i32_add]) (by
    rintro s ⟨h', w, rfl, M', W'⟩
    refine ⟨_, ?_, h', w, rfl, M'⟩
    have G' := G.up w (k := 3) (by omega)
    unfold fX9_pictures_B30 fX9_pictures_b30
    rw [M'.c]; simp only [Option.bind_some]
    rw [mnfl M' G' hV]; simp only [Option.bind_some]
    rw [ile_t (by omega)]
    rfl) (e, i32 0, i32 0) ⟨e, w1, by rw [cnt_false (fun i _ => by simp [pset, bset])]; rfl, M1, fun r hr => by rw [W1 r hr]; simp [pset, bset]⟩ 5000 (by omega)
  rw [e2]
  exact ⟨h2, _, _, rfl, M2, (Kp.rf A S).a 3 _ (by omega)⟩
/-! seems -/
noncomputable def aSeems (p : Nat → Int) (w : Int) : Int := if decide (0 ≤ w ∧ w ≤ 3) = true then (if w = 3 then (pics p : Int) else (cnt (sgn p w) (nfl p - 1).toNat : Int)) else -1001
theorem cSeems {h : XH} {p : Nat → Int} (H : NowAt h p) (hV : VP p) {w : Int} (hw : -2147483648 ≤ w ∧ w < 2147483648) : fX8_seems h 0 (i32 w) = some (i32 (aSeems p w)) := by
  unfold fX8_seems aSeems
  simp only [L_0, L_3, L_m1001]
  rw [within_ok hw (by omega) (by omega)]; simp only [Option.bind_some]
  split
  · rename_i q
    simp only [decide_eq_true_eq] at q
    rw [ceq (by omega), H.n]; simp only [Option.bind_some]
    rw [H.sc]; simp only [Option.bind_some]
    split
    · rw [cpics H hV]; rfl
    · rw [cseem H hV (by omega)]; rfl
  · rfl
theorem mSeems {h0 h : XH} {A : Nat → Nat → Int32} {S : Nat → Int32} {Z : Int64} (M : MdAt h0 h A S Z) {p : Nat → Int} (G : PgAt A p) (hV : VP p) {w : Int} (hw : -2147483648 ≤ w ∧ w < 2147483648) : MOp h0 A S Z (aSeems p w) (fX9_seems h 102 (i32 w)) := by
  unfold fX9_seems aSeems
  simp only [L_0, L_3, L_m1001]
  rw [in_ok hw (by omega) (by omega)]; simp only [Option.bind_some]
  split
  · rename_i q
    simp only [decide_eq_true_eq] at q
    rw [M.c]; simp only [Option.bind_some]
    obtain ⟨h', A', S', e, M', K, L⟩ := lays_op M G hV
    rw [e]; simp only [Option.bind_some]
    rw [ceq (by omega), M'.c]; simp only [Option.bind_some]
    split
    · obtain ⟨h2, A2, S2, e2, M2, K2⟩ := mpics M' (G.kp K) L hV
      rw [e2]
      exact ⟨h2, A2, S2, rfl, M2, K.tr K2⟩
    · rw [mseem M' (G.kp K) L hV (by omega)]
      exact ⟨h', A', S', rfl, M', K⟩
  · exact ⟨h, A, S, rfl, M, Kp.rf A S⟩
/-! stillPeriod -/
noncomputable def stP (p : Nat → Int) (a : Int) : Nat → Bool := fun k => decide (p 62 * (a + k) % (msr p : Int) = 0)
noncomputable def aStill (p : Nat → Int) (a b : Int) : Int := if decide (1 ≤ a ∧ a ≤ 500) = true then (if decide (a ≤ b ∧ b ≤ 500) = true then (if lst (stP p a) (b - a + 1).toNat 0 < (b - a + 1).toNat then a + (lst (stP p a) (b - a + 1).toNat 0 : Int) else -1004) else -1001) else -1001
theorem cStill {h : XH} {p : Nat → Int} (H : NowAt h p) (hV : VP p) {a b : Int} (ha : -2147483648 ≤ a ∧ a < 2147483648) (hb : -2147483648 ≤ b ∧ b < 2147483648) : fX8_stillPeriod h 0 (i32 a) (i32 b) = some (i32 (aStill p a b)) := by
  unfold fX8_stillPeriod aStill
  have hs := hV.speed
  have hr := msr_rng hV
  simp only [L_1, L_500, L_m1001, L_m1004]
  rw [within_ok ha (by omega) (by omega)]; simp only [Option.bind_some]
  split
  · rename_i y
    simp only [decide_eq_true_eq] at y
    rw [within_ok hb (by omega) (by omega)]; simp only [Option.bind_some]
    split
    · rename_i x
      simp only [decide_eq_true_eq] at x
      rw [H.n]; simp only [Option.bind_some]
      rw [H.n0]; simp only [Option.bind_some]
      rw [H.w.c]; simp only [Option.bind_some]
      rw [cmsr_ok H.w hV]; simp only [Option.bind_some]
      obtain ⟨l1, l2, l3, l4⟩ := lst_ok (P := stP p a) (b - a + 1).toNat 0
      have step : ∀ i : Nat, (i : Int) < b - a + 1 → fX8_stillPeriod_B40 h 0 (i32 b) (i32 (msr p)) (i32 (a + i)) = some (if stP p a i = true then .inr (.inl (i32 (a + i))) else .inl (i32 (a + (i + 1 : Nat)))) := fun i hi => by
        have mb := mulb (a := p 62) (b := a + i) (A := 1000) (B := 500) (by omega) (by omega)
        have m := s_mod hV (p 62 * (a + i))
        unfold fX8_stillPeriod_B40 fX8_stillPeriod_b40
        rw [ilt_f (by omega), H.n]; simp only [Option.bind_some]
        rw [H.n0]; simp only [Option.bind_some]
        rw [H.w.i5]; simp only [Option.bind_some, i32_mul, L_0, L_1, i32_add]
        rw [mod_ok (by omega) (by omega)]; simp only [Option.bind_some]
        rw [ceq (by omega)]
        unfold stP
        simp only [decide_eq_true_eq]
        split
        · rfl
        · congr 3; omega
      by_cases q : lst (stP p a) (b - a + 1).toNat 0 < (b - a + 1).toNat
      · rw [if_pos q]
        have f := xl_run (fX8_stillPeriod_B40 h 0 (i32 b) (i32 (msr p))) (fun i => i32 (a + i)) (lst (stP p a) (b - a + 1).toNat 0) (.inl (i32 (a + (lst (stP p a) (b - a + 1).toNat 0 : Nat)))) (fun i hi => by rw [step i (by omega), if_neg (by rw [l3 i (by omega) hi]; exact Bool.false_ne_true)]) (by rw [step _ (by omega), if_pos (l4 (by omega))]) 5000 (by omega)
        have e0 : i32 a = i32 (a + (0 : Nat)) := by congr 1; omega
        rw [e0, f]
        rfl
      · rw [if_neg q]
        have f := xl_run (fX8_stillPeriod_B40 h 0 (i32 b) (i32 (msr p))) (fun i => i32 (a + i)) (b - a + 1).toNat (.inr ()) (fun i hi => by rw [step i (by omega), if_neg (by rw [l3 i (by omega) (by omega)]; exact Bool.false_ne_true)]) (by
          unfold fX8_stillPeriod_B40 fX8_stillPeriod_b40
          rw [ilt_t (by omega)]) 5000 (by omega)
        have e0 : i32 a = i32 (a + (0 : Nat)) := by congr 1; omega
        rw [e0, f]
        rfl
    · rfl
  · rfl
theorem tmod_0 {a b : Int} (hb : 0 < b) : a.tmod b = 0 ↔ a % b = 0 := by
  have := tmod_rng (a := a) hb
  rw [emod_tmod hb]
  split <;> omega
theorem mStill {h0 h : XH} {A : Nat → Nat → Int32} {S : Nat → Int32} {Z : Int64} (M : MdAt h0 h A S Z) {p : Nat → Int} (G : PgAt A p) (hV : VP p) {a b : Int} (ha : -2147483648 ≤ a ∧ a < 2147483648) (hb : -2147483648 ≤ b ∧ b < 2147483648) : fX9_stillPeriod h 102 (i32 a) (i32 b) = some (i32 (aStill p a b)) := by
  unfold fX9_stillPeriod aStill
  have hs := hV.speed
  have hr := msr_rng hV
  simp only [L_1, L_500, L_m1001, L_m1004]
  rw [in_ok ha (by omega) (by omega)]; simp only [Option.bind_some]
  split
  · rename_i y
    simp only [decide_eq_true_eq] at y
    rw [in_ok hb (by omega) (by omega)]; simp only [Option.bind_some]
    split
    · rename_i x
      simp only [decide_eq_true_eq] at x
      rw [M.c]; simp only [Option.bind_some]
      rw [mmsr_ok M G hV]; simp only [Option.bind_some]
      obtain ⟨l1, l2, l3, l4⟩ := lst_ok (P := stP p a) (b - a + 1).toNat 0
      have step : ∀ i : Nat, (i : Int) < b - a + 1 → fX9_stillPeriod_B34 h 102 (i32 b) (i32 (msr p)) (i32 (a + i)) = some (if stP p a i = true then .inr (.inl (i32 (a + i))) else .inl (i32 (a + (i + 1 : Nat)))) := fun i hi => by
        have mb := mulb (a := p 62) (b := a + i) (A := 1000) (B := 500) (by omega) (by omega)
        have m := tmod_rng (a := p 62 * (a + i)) (b := msr p) (by omega)
        unfold fX9_stillPeriod_B34 fX9_stillPeriod_b34
        rw [ilt_f (by omega), M.r0]; simp only [Option.bind_some, L_62]
        rw [M.pg G (by omega)]; simp only [Option.bind_some, i32_mul, L_0, L_1, i32_add, Int.reduceToNat]
        rw [ieq_f (by omega), i32_rem (by omega) (by omega), ceq (by omega)]
        unfold stP
        simp only [decide_eq_true_eq, tmod_0 (show 0 < (msr p : Int) by omega)]
        split
        · rfl
        · congr 3; omega
      by_cases q : lst (stP p a) (b - a + 1).toNat 0 < (b - a + 1).toNat
      · rw [if_pos q]
        have f := xl_run (fX9_stillPeriod_B34 h 102 (i32 b) (i32 (msr p))) (fun i => i32 (a + i)) (lst (stP p a) (b - a + 1).toNat 0) (.inl (i32 (a + (lst (stP p a) (b - a + 1).toNat 0 : Nat)))) (fun i hi => by rw [step i (by omega), if_neg (by rw [l3 i (by omega) hi]; exact Bool.false_ne_true)]) (by rw [step _ (by omega), if_pos (l4 (by omega))]) 5000 (by omega)
        have e0 : i32 a = i32 (a + (0 : Nat)) := by congr 1; omega
        rw [e0, f]
        rfl
      · rw [if_neg q]
        have f := xl_run (fX9_stillPeriod_B34 h 102 (i32 b) (i32 (msr p))) (fun i => i32 (a + i)) (b - a + 1).toNat (.inr ()) (fun i hi => by rw [step i (by omega), if_neg (by rw [l3 i (by omega) (by omega)]; exact Bool.false_ne_true)]) (by
          unfold fX9_stillPeriod_B34 fX9_stillPeriod_b34
          rw [ilt_t (by omega)]) 5000 (by omega)
        have e0 : i32 a = i32 (a + (0 : Nat)) := by congr 1; omega
        rw [e0, f]
        rfl
    · rfl
  · rfl
