/-! the best period -/
theorem cnt_sum (P Q R : Nat → Bool) : ∀ n, (∀ i, i < n → (if R i = true then 1 else 0) = (if P i = true then 1 else 0) + (if Q i = true then 1 else 0)) → cnt R n = cnt P n + cnt Q n
  | 0, _ => rfl
  | n + 1, h => by
    have a := cnt_sum P Q R n (fun i hi => h i (by omega))
    have b := h n (by omega)
    simp only [cnt]
    omega
theorem cnt_no {P : Nat → Bool} : ∀ {n : Nat}, (∀ i, i < n → P i = false) → cnt P n = 0
  | 0, _ => rfl
  | n + 1, h => by simp only [cnt, h n (by omega), cnt_no (n := n) (fun i hi => h i (by omega))]; rfl
theorem cnt_sel (P Q' Q : Nat → Bool) : ∀ n, (∀ j, j < n → P j = true → Q' (cnt P j) = Q j) → cnt Q' (cnt P n) = cnt (fun i => P i && Q i) n
  | 0, _ => rfl
  | n + 1, h => by
    have ih := cnt_sel P Q' Q n (fun j hj => h j (by omega))
    cases q : P n with
    | true => simp only [cnt, q, Bool.true_and, if_true, ih, h n (by omega) q]
    | false => simp only [cnt, q, Bool.false_and, Bool.false_eq_true, if_false, Nat.add_zero, ih]
def mx (f : Nat → Nat) : Nat → Nat
  | 0 => 0
  | n + 1 => max (mx f n) (f n)
theorem mx_le {f : Nat → Nat} {k : Nat} : ∀ {n : Nat}, mx f n ≤ k ↔ ∀ q, q < n → f q ≤ k
  | 0 => by simp [mx]
  | n + 1 => by
    simp only [mx, Nat.max_le, mx_le (n := n)]
    constructor
    · rintro ⟨a, b⟩ q hq
      rcases Nat.lt_or_ge q n with z | z
      · exact a q z
      · obtain rfl : q = n := by omega
        exact b
    · intro a
      exact ⟨fun q hq => a q (by omega), a n (by omega)⟩
theorem mx_congr {f g : Nat → Nat} : ∀ {n : Nat}, (∀ q, q < n → f q = g q) → mx f n = mx g n
  | 0, _ => rfl
  | n + 1, h => by simp only [mx, h n (by omega), mx_congr (n := n) (fun q hq => h q (by omega))]
theorem mx_up {f g : Nat → Nat} {n q0 d : Nat} (hq : q0 < n) (h : ∀ q, q < n → g q = f q + (if q = q0 then d else 0)) : mx g n = max (mx f n) (g q0) := by
  apply Nat.le_antisymm
  · rw [mx_le]
    intro q hq2
    have a := (mx_le (f := f) (k := mx f n) (n := n)).mp (Nat.le_refl _) q hq2
    have b := h q hq2
    by_cases e : q = q0
    · subst e; exact Nat.le_max_right _ _
    · rw [if_neg e] at b
      exact Nat.le_trans (by omega) (Nat.le_max_left _ _)
  · rw [Nat.max_le]
    constructor
    · rw [mx_le]
      intro q hq2
      have a := (mx_le (f := g) (k := mx g n) (n := n)).mp (Nat.le_refl _) q hq2
      have b := h q hq2
      omega
    · exact (mx_le (f := g) (k := mx g n) (n := n)).mp (Nat.le_refl _) q0 hq
theorem mx_0 {f : Nat → Nat} {n : Nat} (h : ∀ q, q < n → f q = 0) : mx f n = 0 := by
  have := (mx_le (f := f) (k := 0) (n := n)).mpr (fun q hq => by rw [h q hq]; exact Nat.le_refl _)
  omega
noncomputable def NL (p : Nat → Int) : Nat := (2 * p 93 + 1).toNat
noncomputable def rst (p : Nat → Int) (per : Int) : Nat := mx (fun q => cnt (fun i => fitL p (-1) i && decide ((((i : Int) - p 93) * per) % (msr p : Int) = q)) (NL p)) (msr p)
theorem rst_le {p : Nat → Int} (hV : VP p) (per : Int) : rst p per ≤ 2001 := by
  have hl := hV.lim
  unfold rst
  rw [mx_le]
  intro q _
  have := cnt_le (fun i => fitL p (-1) i && decide ((((i : Int) - p 93) * per) % (msr p : Int) = q)) (NL p)
  have : NL p ≤ 2001 := by unfold NL; omega
  omega
theorem xmmax_ok {a b : Nat} (h : a < 100000 ∧ b < 100000) : xmmax (i32 a) (i32 b) = i32 (max a b : Nat) := by
  unfold xmmax
  rw [clt (by omega)]
  split
  · congr 1; omega
  · congr 1; omega
/-! the class -/
def CaH (h0 h : XH) (F : XE) (f g : Nat → Int32) : Prop := (∀ b, b < 99 ∨ 101 < b → h b = h0 b) ∧ h 99 = some F ∧ h 100 = some (.inr (0, 60, .inl f)) ∧ h 101 = some (.inr (0, 60, .inl g))
theorem CaH.sf {h0 h : XH} {F : XE} {f g : Nat → Int32} (H : CaH h0 h F f g) (v : Nat → Int32) : CaH h0 (xup h 100 (.inr (0, 60, .inl v))) F v g := ⟨fun b hb => (xup_n _ _ (by omega)).trans (H.1 b hb), (xup_n _ _ (by omega)).trans H.2.1, xup_s _ _ _, (xup_n _ _ (by omega)).trans H.2.2.2⟩
theorem CaH.sg {h0 h : XH} {F : XE} {f g : Nat → Int32} (H : CaH h0 h F f g) (v : Nat → Int32) : CaH h0 (xup h 101 (.inr (0, 60, .inl v))) F f v := ⟨fun b hb => (xup_n _ _ (by omega)).trans (H.1 b hb), (xup_n _ _ (by omega)).trans H.2.1, (xup_n _ _ (by omega)).trans H.2.2.1, xup_s _ _ _⟩
theorem CaH.put0 {h0 h : XH} {F : XE} {f g : Nat → Int32} (H : CaH h0 h F f g) {i : Int} (v : Int32) (hi : 0 ≤ i ∧ i < 60) : ∃ h', fX8_put h 100 (i32 i) v = some h' ∧ CaH h0 h' F (upd f i.toNat v) g := by
  refine ⟨_, put_ok H.2.2.1 (by omega) v (by omega), ?_⟩
  rw [if_pos (by omega)]
  exact H.sf _
theorem CaH.put1 {h0 h : XH} {F : XE} {f g : Nat → Int32} (H : CaH h0 h F f g) {i : Int} (v : Int32) (hi : 0 ≤ i ∧ i < 60) : ∃ h', fX8_put h 101 (i32 i) v = some h' ∧ CaH h0 h' F f (upd g i.toNat v) := by
  refine ⟨_, put_ok H.2.2.2 (by omega) v (by omega), ?_⟩
  rw [if_pos (by omega)]
  exact H.sg _
theorem CaH.at0 {h0 h : XH} {F : XE} {f g : Nat → Int32} (H : CaH h0 h F f g) {i : Int} (hi : 0 ≤ i ∧ i < 60) : fX8_at h 100 (i32 i) = some (f i.toNat) := by
  rw [at_ok H.2.2.1 (by omega) (by omega), if_pos (by omega)]
theorem CaH.at1 {h0 h : XH} {F : XE} {f g : Nat → Int32} (H : CaH h0 h F f g) {i : Int} (hi : 0 ≤ i ∧ i < 60) : fX8_at h 101 (i32 i) = some (g i.toNat) := by
  rw [at_ok H.2.2.2 (by omega) (by omega), if_pos (by omega)]
noncomputable def caP (p : Nat → Int) : XE := caF (i32 (msr p)) (i32 (p 93)) (lN (fset p (-1) (msr p)))
theorem CaH.ca {h0 h : XH} {p : Nat → Int} {f g : Nat → Int32} (H : CaH h0 h (caP p) f g) : CaAt h p (-1) := H.2.1
theorem CaH.sc {h0 h : XH} {p : Nat → Int} {f g : Nat → Int32} (H : CaH h0 h (caP p) f g) : Sc h0 h := ⟨H.1, _, _, _, f, g, H.2.1, H.2.2.1, H.2.2.2⟩
noncomputable def byr (p : Nat → Int) (q : Nat) : Nat := cnt (fun j => fitL p (-1) j && decide (((j : Int) - p 93) % (msr p : Int) = q)) (NL p)
theorem ccbr {h0 h : XH} {p : Nat → Int} (hV : VP p) {f g : Nat → Int32} (H : CaH h0 h (caP p) f g) : ∃ h' f', fX0_countByRemainder h 99 = some h' ∧ CaH h0 h' (caP p) f' g ∧ ∀ q : Nat, q < msr p → f' q = i32 (byr p q) := by
  have hl := hV.lim
  have hm := msr_rng hV
  unfold fX0_countByRemainder
  obtain ⟨h1, e1, f1, H1, z1⟩ := xl_inv (fX0_countByRemainder_B2 99) (fun i s => s.2 = i32 (i : Nat) ∧ ∃ f', CaH h0 s.1 (caP p) f' g ∧ ∀ q : Nat, q < i → f' q = 0) (msr p) (fun h' => ∃ f', CaH h0 h' (caP p) f' g ∧ ∀ q : Nat, q < msr p → f' q = 0) (fun i s hi I => by
    obtain ⟨h2, x⟩ := s
    obtain ⟨rfl, f2, H2, z2⟩ := I
    dsimp only at H2 ⊢
    unfold fX0_countByRemainder_B2 fX0_countByRemainder_b2
    dsimp only
    rw [gI H2.ca 2 rfl]; simp only [Option.bind_some]
    rw [ile_f (by omega), gR H2.ca 0 rfl]; simp only [Option.bind_some]
    obtain ⟨h3, e3, H3⟩ := H2.put0 (i := i) 0 (by omega)
    rw [e3]; simp only [Option.bind_some, L_1, i32_add]
    refine ⟨_, rfl, rfl, _, H3, ?_⟩
    intro q hq
    simp only [upd, Int.toNat_natCast]
    split
    · rfl
    · exact z2 q (by omega)) (fun s I => by
    obtain ⟨h2, x⟩ := s
    obtain ⟨rfl, f2, H2, z2⟩ := I
    dsimp only at H2 ⊢
    unfold fX0_countByRemainder_B2 fX0_countByRemainder_b2
    dsimp only
    rw [gI H2.ca 2 rfl]; simp only [Option.bind_some]
    rw [ile_t (by omega)]
    exact ⟨_, rfl, f2, H2, z2⟩) (h, i32 (0 : Nat)) ⟨rfl, f, H, fun q hq => absurd hq (by omega)⟩ 5000 (by omega)
  rw [L_0, show i32 0 = i32 ((0 : Nat) : Int) from rfl, e1]; simp only [Option.bind_some]
  rw [gI H1.ca 3 rfl]; simp only [Option.bind_some, i32_neg]
  obtain ⟨h4, e4, f4, H4, z4⟩ := xl_inv (fX0_countByRemainder_B31 99) (fun i s => s.2 = i32 ((i : Int) - p 93) ∧ ∃ f', CaH h0 s.1 (caP p) f' g ∧ ∀ q : Nat, q < msr p → f' q = i32 (cnt (fun j => fitL p (-1) j && decide (((j : Int) - p 93) % (msr p : Int) = q)) i)) (NL p) (fun h' => ∃ f', CaH h0 h' (caP p) f' g ∧ ∀ q : Nat, q < msr p → f' q = i32 (byr p q)) (fun i s hi I => by
    obtain ⟨h2, x⟩ := s
    obtain ⟨rfl, f2, H2, z2⟩ := I
    dsimp only at H2 ⊢
    have hi2 : i < (2 * p 93 + 1).toNat := hi
    have m := s_mod hV ((i : Int) - p 93)
    unfold fX0_countByRemainder_B31 fX0_countByRemainder_b31
    dsimp only
    rw [gI H2.ca 3 rfl]; simp only [Option.bind_some]
    rw [ilt_f (by omega), gI H2.ca 2 rfl]; simp only [Option.bind_some]
    rw [mod_ok (by omega) (by omega), H2.ca.c]; simp only [Option.bind_some]
    rw [chas H2.ca hV (by omega)]; simp only [Option.bind_some, L_1, i32_add]
    rw [show fit p (-1) ((i : Int) - p 93) = fitL p (-1) i from rfl, show ((i : Int) - p 93 + 1) = ((i + 1 : Nat) : Int) - p 93 by omega]
    cases hf : fitL p (-1) i with
    | true =>
      rw [if_pos rfl, gR H2.ca 0 rfl]; simp only [Option.bind_some]
      rw [H2.at0 (by omega), z2 _ (by omega)]; simp only [Option.bind_some, i32_add]
      obtain ⟨h3, e3, H3⟩ := H2.put0 (i := ((i : Int) - p 93) % (msr p : Int)) (i32 ((cnt (fun j => fitL p (-1) j && decide (((j : Int) - p 93) % (msr p : Int) = ((((i : Int) - p 93) % (msr p : Int)).toNat : Nat))) i : Nat) + 1)) (by omega)
      rw [e3]; simp only [Option.bind_some]
      refine ⟨_, rfl, rfl, _, H3, ?_⟩
      intro q hq
      simp only [upd, cnt, hf, Bool.true_and]
      by_cases e : q = (((i : Int) - p 93) % (msr p : Int)).toNat
      · rw [if_pos e, ← e, decide_eq_true (show ((i : Int) - p 93) % (msr p : Int) = (q : Nat) by omega), if_pos rfl]; rfl
      · rw [if_neg e, decide_eq_false (show ¬ ((i : Int) - p 93) % (msr p : Int) = (q : Nat) by omega), if_neg Bool.false_ne_true]
        exact z2 q hq
    | false =>
      rw [if_neg Bool.false_ne_true]
      refine ⟨_, rfl, rfl, f2, H2, ?_⟩
      intro q hq
      simp only [cnt, hf, Bool.false_and, if_neg Bool.false_ne_true, Nat.add_zero]
      exact z2 q hq) (fun s I => by
    obtain ⟨h2, x⟩ := s
    obtain ⟨rfl, f2, H2, z2⟩ := I
    dsimp only at H2 ⊢
    have hN : NL p = (2 * p 93 + 1).toNat := rfl
    unfold fX0_countByRemainder_B31 fX0_countByRemainder_b31
    dsimp only
    rw [gI H2.ca 3 rfl]; simp only [Option.bind_some]
    rw [ilt_t (by omega)]
    exact ⟨_, rfl, f2, H2, z2⟩) (h1, i32 (-p 93)) ⟨by show i32 (-p 93) = i32 _; congr 1; omega, f1, H1, fun q hq => by rw [z1 q hq]; rfl⟩ 5000 (by unfold NL; omega)
  exact ⟨h4, f4, by rw [e4]; rfl, H4, z4⟩
noncomputable def rsC (p : Nat → Int) (per : Int) (r q : Nat) : Nat := cnt (fun j => fitL p (-1) j && (decide (((j : Int) - p 93) % (msr p : Int) < r) && decide ((((j : Int) - p 93) * per) % (msr p : Int) = q))) (NL p)
theorem rsC_up {p : Nat → Int} (hV : VP p) (per : Int) {r : Nat} (hr : r < msr p) (q : Nat) : rsC p per (r + 1) q = rsC p per r q + (if q = (((r : Int) * per) % (msr p : Int)).toNat then byr p r else 0) := by
  have hm := s_mod hV ((r : Int) * per)
  have key : ∀ i : Nat, ((i : Int) - p 93) % (msr p : Int) = r → (((i : Int) - p 93) * per) % (msr p : Int) = ((r : Int) * per) % (msr p : Int) := fun i hi => by
    rw [Int.mul_emod, hi]
    conv => rhs; rw [Int.mul_emod, Int.emod_eq_of_lt (a := (r : Int)) (b := (msr p : Int)) (by omega) (by omega)]
  unfold rsC byr
  split
  · rename_i e
    apply cnt_sum
    intro i _
    cases fitL p (-1) i
    · simp
    · simp only [Bool.true_and]
      by_cases a : ((i : Int) - p 93) % (msr p : Int) = r
      · have k := key i a
        rw [decide_eq_true (show ((i : Int) - p 93) % (msr p : Int) < (r + 1 : Nat) by omega), decide_eq_false (show ¬ ((i : Int) - p 93) % (msr p : Int) < (r : Nat) by omega), decide_eq_true a, decide_eq_true (show (((i : Int) - p 93) * per) % (msr p : Int) = q by omega)]
        rfl
      · rw [decide_eq_false a, show decide (((i : Int) - p 93) % (msr p : Int) < (r + 1 : Nat)) = decide (((i : Int) - p 93) % (msr p : Int) < r) by simp only [decide_eq_decide]; omega]
        simp
  · rename_i e
    rw [Nat.add_zero]
    apply cnt_congr
    intro i _
    congr 1
    by_cases a : ((i : Int) - p 93) % (msr p : Int) = r
    · have k := key i a
      rw [decide_eq_false (show ¬ (((i : Int) - p 93) * per) % (msr p : Int) = q by omega), Bool.and_false, Bool.and_false]
    · rw [show decide (((i : Int) - p 93) % (msr p : Int) < (r + 1 : Nat)) = decide (((i : Int) - p 93) % (msr p : Int) < r) by simp only [decide_eq_decide]; omega]
theorem rsC_0 {p : Nat → Int} (hV : VP p) (per : Int) (q : Nat) : rsC p per 0 q = 0 := by
  apply cnt_no
  intro i _
  have := s_mod hV ((i : Int) - p 93)
  rw [decide_eq_false (show ¬ ((i : Int) - p 93) % (msr p : Int) < (0 : Nat) by omega)]
  simp
theorem rsC_s {p : Nat → Int} (hV : VP p) (per : Int) : mx (rsC p per (msr p)) (msr p) = rst p per := by
  apply mx_congr
  intro q _
  apply cnt_congr
  intro i _
  have := s_mod hV ((i : Int) - p 93)
  rw [decide_eq_true this.2, Bool.true_and]
theorem rsC_le {p : Nat → Int} (hV : VP p) (per : Int) (r q : Nat) : rsC p per r q ≤ 2001 := by
  have hl := hV.lim
  have := cnt_le (fun j => fitL p (-1) j && (decide (((j : Int) - p 93) % (msr p : Int) < r) && decide ((((j : Int) - p 93) * per) % (msr p : Int) = q))) (NL p)
  have : NL p ≤ 2001 := by unfold NL; omega
  unfold rsC
  omega
theorem crest {h0 h : XH} {p : Nat → Int} (hV : VP p) {f g : Nat → Int32} (H : CaH h0 h (caP p) f g) (hf : ∀ q : Nat, q < msr p → f q = i32 (byr p q)) {per : Int} (hp : 1 ≤ per ∧ per ≤ 500) : ∃ h' g', fX0_restOf h 99 (i32 per) = some (i32 (rst p per), h') ∧ CaH h0 h' (caP p) f g' := by
  have hm := msr_rng hV
  unfold fX0_restOf
  obtain ⟨h1, e1, g1, H1, z1⟩ := xl_inv (fX0_restOf_B2 99 (i32 per)) (fun i s => s.2 = i32 (i : Nat) ∧ ∃ g', CaH h0 s.1 (caP p) f g' ∧ ∀ q : Nat, q < i → g' q = 0) (msr p) (fun h' => ∃ g', CaH h0 h' (caP p) f g' ∧ ∀ q : Nat, q < msr p → g' q = 0) (fun i s hi I => by
    obtain ⟨h2, x⟩ := s
    obtain ⟨rfl, f2, H2, z2⟩ := I
    dsimp only at H2 ⊢
    unfold fX0_restOf_B2 fX0_restOf_b2
    dsimp only
    rw [gI H2.ca 2 rfl]; simp only [Option.bind_some]
    rw [ile_f (by omega), gR H2.ca 1 rfl]; simp only [Option.bind_some]
    obtain ⟨h3, e3, H3⟩ := H2.put1 (i := i) 0 (by omega)
    rw [e3]; simp only [Option.bind_some, L_1, i32_add]
    refine ⟨_, rfl, rfl, _, H3, ?_⟩
    intro q hq
    simp only [upd, Int.toNat_natCast]
    split
    · rfl
    · exact z2 q (by omega)) (fun s I => by
    obtain ⟨h2, x⟩ := s
    obtain ⟨rfl, f2, H2, z2⟩ := I
    dsimp only at H2 ⊢
    unfold fX0_restOf_B2 fX0_restOf_b2
    dsimp only
    rw [gI H2.ca 2 rfl]; simp only [Option.bind_some]
    rw [ile_t (by omega)]
    exact ⟨_, rfl, f2, H2, z2⟩) (h, i32 (0 : Nat)) ⟨rfl, g, H, fun q hq => absurd hq (by omega)⟩ 5000 (by omega)
  rw [L_0, show i32 0 = i32 ((0 : Nat) : Int) from rfl, e1]; simp only [Option.bind_some]
  obtain ⟨e, e4, e5, g4, H4⟩ := xl_inv (fX0_restOf_B29 99 (i32 per)) (fun r s => s.2.2 = i32 (r : Nat) ∧ s.2.1 = i32 (mx (rsC p per r) (msr p) : Nat) ∧ ∃ g', CaH h0 s.1 (caP p) f g' ∧ ∀ q : Nat, q < msr p → g' q = i32 (rsC p per r q : Nat)) (msr p) (fun s => s.2 = i32 (rst p per) ∧ ∃ g', CaH h0 s.1 (caP p) f g') (fun r s hr I => by
    obtain ⟨h2, x, y⟩ := s
    obtain ⟨rfl, rfl, g2, H2, z2⟩ := I
    dsimp only at H2 ⊢
    have mb := mulb (a := (r : Int)) (b := per) (A := 60) (B := 500) (by omega) (by omega)
    have m := s_mod hV ((r : Int) * per)
    unfold fX0_restOf_B29 fX0_restOf_b29
    dsimp only
    rw [gI H2.ca 2 rfl]; simp only [Option.bind_some]
    rw [ile_f (by omega), i32_mul, mod_ok (by omega) (by omega)]; simp only [Option.bind_some]
    rw [gR H2.ca 1 rfl, gR H2.ca 0 rfl]; simp only [Option.bind_some]
    rw [H2.at1 (by omega), H2.at0 (by omega), z2 _ (by omega), Int.toNat_natCast, hf _ hr]; simp only [Option.bind_some, i32_add]
    obtain ⟨h3, e3, H3⟩ := H2.put1 (i := ((r : Int) * per) % (msr p : Int)) (i32 ((rsC p per r (((r : Int) * per) % (msr p : Int)).toNat : Nat) + (byr p r : Nat))) (by omega)
    rw [e3]; simp only [Option.bind_some]
    rw [gR H3.ca 1 rfl]; simp only [Option.bind_some]
    rw [H3.at1 (by omega)]; simp only [Option.bind_some, L_1, i32_add]
    have up := fun q => rsC_up hV per hr q
    have u0 := up (((r : Int) * per) % (msr p : Int)).toNat
    rw [if_pos rfl] at u0
    have ev : upd g2 (((r : Int) * per) % (msr p : Int)).toNat (i32 ((rsC p per r (((r : Int) * per) % (msr p : Int)).toNat : Nat) + (byr p r : Nat))) (((r : Int) * per) % (msr p : Int)).toNat = i32 (rsC p per (r + 1) (((r : Int) * per) % (msr p : Int)).toNat : Nat) := by
      simp only [upd, if_true]
      rw [u0]
      congr 1
    have b1 : mx (rsC p per r) (msr p) ≤ 2001 := mx_le.mpr fun q _ => rsC_le hV per r q
    have b2 := rsC_le hV per (r + 1) (((r : Int) * per) % (msr p : Int)).toNat
    rw [ev, xmmax_ok (by omega)]
    refine ⟨_, rfl, rfl, ?_, _, H3, ?_⟩
    · dsimp only
      rw [mx_up (f := rsC p per r) (g := rsC p per (r + 1)) (q0 := (((r : Int) * per) % (msr p : Int)).toNat) (by omega) (fun q _ => up q)]
    · intro q hq
      simp only [upd]
      split
      · rename_i e
        subst e
        rw [u0]; congr 1
      · rename_i e
        rw [z2 q hq, up q, if_neg e]
        rfl) (fun s I => by
    obtain ⟨h2, x, y⟩ := s
    obtain ⟨rfl, rfl, g2, H2, z2⟩ := I
    dsimp only at H2 ⊢
    unfold fX0_restOf_B29 fX0_restOf_b29
    dsimp only
    rw [gI H2.ca 2 rfl]; simp only [Option.bind_some]
    rw [ile_t (by omega)]
    exact ⟨_, rfl, by dsimp only; rw [rsC_s hV], g2, H2⟩) (h1, i32 (0 : Nat), i32 (0 : Nat)) ⟨rfl, by dsimp only; rw [mx_0 (fun q _ => rsC_0 hV per q)], g1, H1, fun q hq => by rw [z1 q hq, rsC_0 hV per q]; rfl⟩ 5000 (by omega)
  rw [e4]
  refine ⟨e.1, g4, ?_, H4⟩
  rw [← e5]
  rfl
