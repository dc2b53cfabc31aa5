/-! which speeds fit -/
def allb (P : Nat → Bool) : Nat → Bool
  | 0 => true
  | n + 1 => allb P n && P n
theorem allb_iff (P : Nat → Bool) : ∀ n, allb P n = true ↔ ∀ i, i < n → P i = true
  | 0 => by simp [allb]
  | n + 1 => by
    simp only [allb, Bool.and_eq_true, allb_iff P n]
    constructor
    · rintro ⟨a, b⟩ i hi
      rcases Nat.lt_or_ge i n with q | q
      · exact a i q
      · obtain rfl : i = n := by omega
        exact b
    · intro a
      exact ⟨fun i hi => a i (by omega), a n (by omega)⟩
theorem allb_congr {P Q : Nat → Bool} : ∀ {n : Nat}, (∀ i, i < n → P i = Q i) → allb P n = allb Q n
  | 0, _ => rfl
  | n + 1, h => by simp only [allb, h n (by omega), allb_congr (n := n) (fun i hi => h i (by omega))]
noncomputable def okk (p : Nat → Int) (ex v : Int) : Nat → Bool := fun k => decide ((k : Int) = ex) || decide ((v * p (77 + 2 * k) - p (78 + 2 * k)) % (msr p : Int) = 0)
noncomputable def fit (p : Nat → Int) (ex v : Int) : Bool := allb (okk p ex v) (p 76).toNat
theorem okk_mod (p : Nat → Int) (ex v : Int) (k : Nat) : okk p ex (v % (msr p : Int)) k = okk p ex v k := by
  unfold okk
  congr 2
  rw [Int.sub_emod, Int.mul_emod, Int.emod_emod, ← Int.mul_emod, ← Int.sub_emod]
theorem fit_mod (p : Nat → Int) (ex v : Int) : fit p ex (v % (msr p : Int)) = fit p ex v := allb_congr (fun i _ => okk_mod p ex v i)
theorem fit_neg (p : Nat → Int) {ex : Int} (v : Int) (h : ex < 0) : fit p ex v = fit p (-1) v := allb_congr (fun i _ => by
  have d1 : decide ((i : Int) = ex) = false := decide_eq_false (by omega)
  have d2 : decide ((i : Int) = -1) = false := decide_eq_false (by omega)
  unfold okk
  rw [d1, d2])
theorem cfit {h : XH} {a : Nat} {p : Nat → Int} (H : RdAt h a p) (hV : VP p) {ex v : Int} (hx : -2147483648 ≤ ex ∧ ex < 2147483648) (hv : -1000 ≤ v ∧ v ≤ 1000) : fX4_allFit h a (i32 v) (i32 (msr p)) (i32 ex) = some (fit p ex v) := by
  have hr := hV.rd
  have hm := msr_rng hV
  have step : ∀ i : Nat, (i : Int) < p 76 → fX4_allFit_B3 h a (i32 v) (i32 (msr p)) (i32 ex) (i32 i) = some (if okk p ex v i = true then .inl (i32 (i + 1 : Nat)) else .inr (.inl ())) := fun i hi => by
    have rt := hV.rdt i hi
    have mb := mulb (a := v) (b := p (77 + 2 * i)) (A := 1000) (B := 500) (by omega) (by omega)
    have m := s_mod hV (v * p (77 + 2 * i) - p (78 + 2 * i))
    unfold fX4_allFit_B3 fX4_allFit_b3
    rw [H.i2]; simp only [Option.bind_some, L_0, L_1, i32_add]
    rw [ile_f (by omega), ceq (by omega), H.r0]; simp only [Option.bind_some]
    rw [H.tk hV (by omega), H.r1]; simp only [Option.bind_some]
    rw [H.sp hV (by omega)]; simp only [Option.bind_some, Int.toNat_natCast, i32_mul, i32_sub]
    rw [mod_ok (by omega) (by omega)]; simp only [Option.bind_some]
    rw [ceq (by omega)]
    unfold okk
    by_cases q1 : (i : Int) = ex
    · rw [if_pos q1, decide_eq_true q1, Bool.true_or, if_pos rfl]; rfl
    · rw [if_neg q1, decide_eq_false q1, Bool.false_or]
      simp only [decide_eq_true_eq]
      split <;> rfl
  unfold fX4_allFit
  rw [L_0, show i32 0 = i32 ((0 : Nat) : Int) from rfl]
  by_cases q : fit p ex v = true
  · have q2 := (allb_iff _ _).mp q
    have f := xl_run (fX4_allFit_B3 h a (i32 v) (i32 (msr p)) (i32 ex)) (fun i => i32 i) (p 76).toNat (.inr ()) (fun i hi => by rw [step i (by omega), if_pos (q2 i hi)]) (by
      unfold fX4_allFit_B3 fX4_allFit_b3
      rw [H.i2]; simp only [Option.bind_some]
      rw [ile_t (by omega)]) 5000 (by omega)
    rw [f, q]
    rfl
  · have q0 : fit p ex v = false := by simpa using q
    have hex : ∃ k, k < (p 76).toNat ∧ ¬ okk p ex v k = true := by
      apply Classical.byContradiction
      intro z
      exact q ((allb_iff _ _).mpr fun i hi => Classical.byContradiction fun y => z ⟨i, hi, y⟩)
    obtain ⟨k, ⟨k1, k2⟩, k3⟩ := pk_least _ hex
    have f := xl_run (fX4_allFit_B3 h a (i32 v) (i32 (msr p)) (i32 ex)) (fun i => i32 i) k (.inl ()) (fun i hi => by
      rw [step i (by omega), if_pos (Classical.byContradiction fun z => k3 i hi ⟨by omega, z⟩)]) (by rw [step k (by omega), if_neg k2]) 5000 (by omega)
    rw [f, q0]
    rfl
/-! the class's set of fitting remainders -/
noncomputable def fset (p : Nat → Int) (ex : Int) : Nat → Nat
  | 0 => 0
  | r + 1 => if fit p ex r = true then fset p ex r ||| 2 ^ r else fset p ex r
theorem fset_lt (p : Nat → Int) (ex : Int) : ∀ r, r ≤ 60 → fset p ex r < 2 ^ 60
  | 0, _ => by simp [fset]
  | r + 1, h => by
    simp only [fset]
    split
    · exact Nat.or_lt_two_pow (fset_lt p ex r (by omega)) (Nat.pow_lt_pow_right (by decide) (by omega))
    · exact fset_lt p ex r (by omega)
theorem fset_at (p : Nat → Int) (ex : Int) (j : Nat) : ∀ r, (fset p ex r).testBit j = (decide (j < r) && fit p ex j)
  | 0 => by simp [fset]
  | r + 1 => by
    simp only [fset]
    by_cases q : j = r
    · subst q
      cases h : fit p ex j with
      | true => rw [if_pos rfl, setBit_at]; simp
      | false => rw [if_neg Bool.false_ne_true, fset_at p ex j j]; simp [h]
    · have e : decide (j < r + 1) = decide (j < r) := by simp only [decide_eq_decide]; omega
      split
      · rw [setBit_at, fset_at p ex j r, e, decide_eq_false (Ne.symm q), Bool.or_false]
      · rw [fset_at p ex j r, e]
theorem xup_xup (h : XH) (a : Nat) (e e' : XE) : xup (xup h a e) a e' = xup h a e' := by
  funext b
  by_cases q : b = a <;> simp [xup, q]
def caF (s l : Int32) (z : Int64) : XE := .inl (0, [.ref 100, .ref 101, .int s, .int l, .long z])
def CaSh (h : XH) : Prop := ∃ s l z fb fc, h 99 = some (caF s l z) ∧ h 100 = some (.inr (0, 60, .inl fb)) ∧ h 101 = some (.inr (0, 60, .inl fc))
def CaAt (h : XH) (p : Nat → Int) (ex : Int) : Prop := h 99 = some (caF (i32 (msr p)) (i32 (p 93)) (lN (fset p ex (msr p))))
/-- the class's scratch: 99 to 101 -/
def Sc (h h' : XH) : Prop := (∀ b, b < 99 ∨ 101 < b → h' b = h b) ∧ CaSh h'
theorem Sc.rf {h : XH} (H : CaSh h) : Sc h h := ⟨fun _ _ => rfl, H⟩
theorem Sc.tr {a b c : XH} (h : Sc a b) (k : Sc b c) : Sc a c := ⟨fun x hx => (k.1 x hx).trans (h.1 x hx), k.2⟩
theorem NowAt.fr {h h' : XH} {p : Nat → Int} (H : NowAt h p) (q : ∀ b, b ≤ 10 → h' b = h b) : NowAt h' p := ⟨(q 0 (by omega)).trans H.1, H.2.fr (fun k hk => q _ (by omega))⟩
theorem NowAt.scf {h h' : XH} {p : Nat → Int} (H : NowAt h p) (q : Sc h h') : NowAt h' p := H.fr (fun b hb => q.1 b (by omega))
theorem cfind {h : XH} {p : Nat → Int} (H : NowAt h p) (hV : VP p) (hC : CaSh h) {ex : Int} (hx : -2147483648 ≤ ex ∧ ex < 2147483648) : ∃ h', fX8_findWithout h 0 (i32 ex) = some (99, h') ∧ Sc h h' ∧ CaAt h' p ex := by
  obtain ⟨s, l, z, fb, fc, c1, c2, c3⟩ := hC
  have hm := msr_rng hV
  have hlim := hV.lim
  have r4 : xgR h 0 8 4 = some 99 := gR H.1 4 rfl
  unfold fX8_findWithout
  rw [r4, H.n]; simp only [Option.bind_some]
  rw [H.n0, H.n2]; simp only [Option.bind_some]
  rw [H.w.c]; simp only [Option.bind_some]
  rw [cmsr_ok H.w hV, gC c1]; simp only [Option.bind_some]
  have find : fX0_find h 99 (i32 (msr p)) 7 (i32 ex) = some (xup h 99 (caF (i32 (msr p)) (i32 (p 93)) (lN (fset p ex (msr p))))) := by
    unfold fX0_find
    rw [gP c1 2 _ (Nat.le_of_ble_eq_true rfl)]; simp only [Option.bind_some]
    have H1 : ∀ e, NowAt (xup h 99 e) p := fun e => H.fr (fun b hb => xup_n _ _ (by omega))
    rw [(H1 _).rd.i3]; simp only [Option.bind_some]
    rw [gP (xup_s _ _ _) 3 _ (Nat.le_of_ble_eq_true rfl)]; simp only [Option.bind_some]
    rw [gP (xup_s _ _ _) 4 _ (Nat.le_of_ble_eq_true rfl)]; simp only [Option.bind_some, xup_xup]
    have h0 : (0 : Int64) = lN 0 := by decide
    rw [L_0, h0]
    have f := xl_run (fX0_find_B21 99 7 (i32 ex)) (fun r => (xup h 99 (caF (i32 (msr p)) (i32 (p 93)) (lN (fset p ex r))), i32 r)) (msr p) (xup h 99 (caF (i32 (msr p)) (i32 (p 93)) (lN (fset p ex (msr p))))) (fun r hr => by
      have c1' : ∀ z, (xup h 99 (caF (i32 (msr p)) (i32 (p 93)) z)) 99 = some (caF (i32 (msr p)) (i32 (p 93)) z) := fun z => xup_s _ _ _
      unfold fX0_find_B21 fX0_find_b21
      rw [gI (c1' _) 2 rfl]; simp only [Option.bind_some, L_1, i32_add]
      rw [ile_f (by omega), (H1 _).rd.c]; simp only [Option.bind_some]
      rw [cfit (H1 _).rd hV hx (by omega)]; simp only [Option.bind_some, fset]
      split
      · rw [gJ (c1' _) 4 rfl]; simp only [Option.bind_some]
        rw [(setBit_ok (fset_lt p ex r (by omega)) (k := r) (by omega)).1, gP (c1' _) 4 _ (Nat.le_of_ble_eq_true rfl)]; simp only [Option.bind_some, xup_xup, Int.toNat_natCast]
        rfl
      · rfl) (by
      unfold fX0_find_B21 fX0_find_b21
      dsimp only
      rw [gI (show (xup h 99 (caF (i32 (msr p)) (i32 (p 93)) (lN (fset p ex (msr p))))) 99 = some (.inl (0, _)) from xup_s _ _ _) 2 rfl]; simp only [Option.bind_some]
      rw [ile_t (by omega)]) 5000 (by omega)
    have f2 : xloop (fX0_find_B21 99 7 (i32 ex)) 5000 (xup h 99 (.inl (0, [.ref 100, .ref 101, .int (i32 (msr p)), .int (i32 (p 93)), .long (lN 0)])), i32 0) = some (xup h 99 (caF (i32 (msr p)) (i32 (p 93)) (lN (fset p ex (msr p))))) := f
    refine Eq.trans ?_ (congrArg (fun o => Option.bind o fun e => some e) f2)
    rfl
  rw [find]; simp only [Option.bind_some]
  have H1 : NowAt (xup h 99 (caF (i32 (msr p)) (i32 (p 93)) (lN (fset p ex (msr p))))) p := H.fr (fun b hb => xup_n _ _ (by omega))
  rw [gR H1.1 4 rfl]
  exact ⟨_, rfl, ⟨fun b hb => xup_n _ _ (by omega), _, _, _, fb, fc, xup_s _ _ _, (xup_n _ _ (by omega)).trans c2, (xup_n _ _ (by omega)).trans c3⟩, xup_s _ _ _⟩
theorem CaAt.c {h : XH} {p : Nat → Int} {ex : Int} (H : CaAt h p ex) : xco h 99 0 = some () := gC H
theorem chas {h : XH} {p : Nat → Int} {ex : Int} (H : CaAt h p ex) (hV : VP p) {v : Int} (hv : -1000 ≤ v ∧ v ≤ 1000) : fX0_has h 99 (i32 v) = some (fit p ex v) := by
  unfold fX0_has
  have hm := msr_rng hV
  have m := s_mod hV v
  rw [gJ H 4 rfl, gI H 2 rfl]; simp only [Option.bind_some]
  rw [mod_ok (by omega) (by omega)]; simp only [Option.bind_some]
  rw [hasBit_ok (Nat.lt_trans (fset_lt p ex (msr p) (by omega)) (by decide)) (by omega), fset_at, decide_eq_true (by omega), Bool.true_and]
  have e : (((v % (msr p : Int)).toNat : Nat) : Int) = v % (msr p : Int) := by omega
  rw [e, fit_mod]
  rfl
/-- the speeds from minus the limit on, by their places -/
noncomputable def fitL (p : Nat → Int) (ex : Int) : Nat → Bool := fun i => fit p ex ((i : Int) - p 93)
noncomputable def nc (p : Nat → Int) (ex : Int) : Nat := cnt (fitL p ex) (2 * p 93 + 1).toNat
theorem nc_le {p : Nat → Int} (hV : VP p) (ex : Int) : nc p ex ≤ 2001 := by
  have := hV.lim
  have := cnt_le (fitL p ex) (2 * p 93 + 1).toNat
  unfold nc
  omega
theorem cnumber {h : XH} {p : Nat → Int} {ex : Int} (H : CaAt h p ex) (hV : VP p) : fX0_number h 99 = some (i32 (nc p ex)) := by
  have hl := hV.lim
  unfold fX0_number
  rw [gI H 3 rfl]; simp only [Option.bind_some, i32_neg, L_0]
  have f := xl_run (fX0_number_B8 h 99) (fun i => (i32 (cnt (fitL p ex) i), i32 ((i : Int) - p 93))) (2 * p 93 + 1).toNat (i32 (nc p ex)) (fun i hi => by
    unfold fX0_number_B8 fX0_number_b8
    rw [gI H 3 rfl]; simp only [Option.bind_some]
    rw [ilt_f (by omega), H.c]; simp only [Option.bind_some]
    rw [chas H hV (by omega)]; simp only [Option.bind_some, L_1, i32_add]
    have e : ((i : Int) - p 93 + 1) = ((i + 1 : Nat) : Int) - p 93 := by omega
    rw [e]
    rw [show fit p ex ((i : Int) - p 93) = fitL p ex i from rfl]
    simp only [cnt]
    cases fitL p ex i <;> rfl) (by
    unfold fX0_number_B8 fX0_number_b8
    rw [gI H 3 rfl]; simp only [Option.bind_some]
    rw [ilt_t (by omega)]
    rfl) 5000 (by omega)
  have f2 : xloop (fX0_number_B8 h 99) 5000 (i32 0, i32 (-p 93)) = some (i32 (nc p ex)) := by
    refine Eq.trans ?_ f
    congr 3
    omega
  rw [f2]
  rfl
