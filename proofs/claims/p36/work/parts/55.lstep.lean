/-! the law's step -/
def Fm (p : Nat → Int) (z : Int) : Int := p (1 + (z % p 0).toNat)
theorem Fm_cong {p : Nat → Int} {x y : Int} (h : x % p 0 = y % p 0) : Fm p x = Fm p y := by unfold Fm; rw [h]
theorem Fm_n (p : Nat → Int) (z q : Int) : Fm p (z + p 0 * q) = Fm p z := Fm_cong (by rw [Int.add_mul_emod_self_left])
theorem Fm_cyc {p : Nat → Int} {n : Nat} (hn : p 0 = n) (h0 : 0 < n) (s : Nat) (z : Int) : Fm p (z + s) = p (1 + ((z % p 0).toNat + s) % n) := by
  unfold Fm
  have a := Int.emod_nonneg z (show p 0 ≠ 0 by omega)
  have e : (z + (s : Int)) % p 0 = ((((z % p 0).toNat + s) % n : Nat) : Int) := by
    rw [← Int.emod_add_emod, hn]
    have e2 : z % (n : Int) = (((z % (n : Int)).toNat : Nat) : Int) := by rw [hn] at a; omega
    generalize (z % (n : Int)).toNat = i at e2
    rw [e2]
    rfl
  rw [e, Int.toNat_natCast]
theorem Fm_s {p : Nat → Int} (V : VP p) (z : Int) : Fm p (z + msr p) = Fm p z := by
  have b := V.n
  obtain ⟨n, hn⟩ : ∃ n : Nat, p 0 = n := ⟨(p 0).toNat, by omega⟩
  obtain ⟨m1, m2, m3, m4⟩ := msr_ok V
  rw [hn, Int.toNat_natCast] at m3
  rw [Fm_cyc hn (by omega)]
  have r := mk_mod V z
  exact (m3 (z % p 0).toNat (by omega)).symm
theorem Fm_sq {p : Nat → Int} (V : VP p) (z : Int) : ∀ q : Nat, Fm p (z + (msr p : Int) * q) = Fm p z
  | 0 => by simp
  | q + 1 => by
    rw [show z + (msr p : Int) * ((q + 1 : Nat) : Int) = (z + (msr p : Int) * q) + msr p by
      rw [show ((q + 1 : Nat) : Int) = (q : Int) + 1 from rfl, Int.mul_add, Int.mul_one]; omega, Fm_s V, Fm_sq V z q]
theorem Fm_dvd {p : Nat → Int} (V : VP p) {x : Int} (h : (msr p : Int) ∣ x) (z : Int) : Fm p (z + x) = Fm p z := by
  obtain ⟨q, rfl⟩ := h
  rcases Int.lt_or_le q 0 with w | w
  · have e := Fm_sq V (z + (msr p : Int) * q) (-q).toNat
    rw [show (((-q).toNat : Nat) : Int) = -q by omega, Int.mul_neg] at e
    rw [← e]
    congr 1
    omega
  · have e := Fm_sq V z q.toNat
    rw [show ((q.toNat : Nat) : Int) = q by omega] at e
    exact e
theorem Fm_per {p : Nat → Int} (V : VP p) {x : Int} (h : ∀ z, Fm p (z + x) = Fm p z) : (msr p : Int) ∣ x := by
  have b := V.n
  obtain ⟨n, hn⟩ : ∃ n : Nat, p 0 = n := ⟨(p 0).toNat, by omega⟩
  obtain ⟨m1, m2, m3, m4⟩ := msr_ok V
  have r := s_mod V x
  have e := Int.emod_add_mul_ediv x (msr p)
  apply Classical.byContradiction
  intro q
  have r0 : x % (msr p : Int) ≠ 0 := fun z => q (Int.dvd_of_emod_eq_zero z)
  refine m4 (x % (msr p : Int)).toNat (by omega) (by omega) ?_
  rw [hn, Int.toNat_natCast]
  intro i hi
  have h1 := h (i : Int)
  rw [← e, ← Int.add_assoc, Fm_dvd V (Int.dvd_mul_right _ _), show x % (msr p : Int) = (((x % (msr p : Int)).toNat : Nat) : Int) by omega, Fm_cyc hn (by omega)] at h1
  have e2 : ((i : Int) % p 0) = i := Int.emod_eq_of_lt (by omega) (by omega)
  unfold Fm at h1
  rw [e2, Int.toNat_natCast] at h1
  exact h1.symm
def stq (p : Nat → Int) (a b e : Int) : Nat → Bool := fun k => decide (Fm p ((k : Int) - e - a) = Fm p ((k : Int) - b))
theorem stq_iff {p : Nat → Int} (V : VP p) {a b e : Int} : allb (stq p a b e) (p 0).toNat = true ↔ (msr p : Int) ∣ e + a - b := by
  have n0 := V.n
  rw [allb_iff]
  unfold stq
  simp only [decide_eq_true_eq]
  constructor
  · intro h
    refine Fm_per V fun z => ?_
    have r := mk_mod V (z + e + a)
    have ee := Int.emod_add_mul_ediv (z + e + a) (p 0)
    have h1 := h ((z + e + a) % p 0).toNat (by omega)
    rw [show ((((z + e + a) % p 0).toNat : Nat) : Int) = (z + e + a) % p 0 by omega] at h1
    have a1 := Fm_n p ((z + e + a) % p 0 - e - a) ((z + e + a) / p 0)
    have a2 := Fm_n p ((z + e + a) % p 0 - b) ((z + e + a) / p 0)
    rw [show (z + e + a) % p 0 - e - a + p 0 * ((z + e + a) / p 0) = z by omega] at a1
    rw [show (z + e + a) % p 0 - b + p 0 * ((z + e + a) / p 0) = z + (e + a - b) by omega] at a2
    rw [a1, a2]
    exact h1.symm
  · intro h k hk
    have := Fm_dvd V h ((k : Int) - e - a)
    rw [show (k : Int) - e - a + (e + a - b) = (k : Int) - b by omega] at this
    exact this.symm
theorem dvd_small {s x : Int} (hs : 0 < s) (h : s ∣ x) (hx : -s < x ∧ x < s) : x = 0 := by
  have z := Int.emod_eq_zero_of_dvd h
  rcases Int.lt_or_le x 0 with q | q
  · have e : (x + s) % s = x + s := Int.emod_eq_of_lt (by omega) (by omega)
    rw [Int.add_emod_right] at e
    omega
  · have e := Int.emod_eq_of_lt q hx.2
    omega
theorem stq_p {p : Nat → Int} (V : VP p) {a b d : Int} (hd : 0 ≤ d ∧ d < msr p) : allb (stq p a b d) (p 0).toNat = true ↔ d = (b - a) % (msr p : Int) := by
  have r := s_mod V (b - a)
  have e := Int.emod_add_mul_ediv (b - a) (msr p)
  rw [stq_iff V]
  constructor
  · intro h
    have h2 := Int.dvd_add h (Int.dvd_mul_right (msr p : Int) ((b - a) / (msr p : Int)))
    rw [show d + a - b + (msr p : Int) * ((b - a) / (msr p : Int)) = d - (b - a) % (msr p : Int) by omega] at h2
    have := dvd_small (by omega) h2 (by omega)
    omega
  · intro h
    have h2 := Int.dvd_mul_right (msr p : Int) (-((b - a) / (msr p : Int)))
    rw [Int.mul_neg] at h2
    rw [show d + a - b = -((msr p : Int) * ((b - a) / (msr p : Int))) by omega]
    exact h2
theorem stq_m {p : Nat → Int} (V : VP p) {a b d : Int} (hd : 0 ≤ d ∧ d < msr p) (h0 : 0 < (b - a) % (msr p : Int)) : allb (stq p a b (-d)) (p 0).toNat = true ↔ d = msr p - (b - a) % (msr p : Int) := by
  have r := s_mod V (b - a)
  have e := Int.emod_add_mul_ediv (b - a) (msr p)
  rw [stq_iff V]
  constructor
  · intro h
    have h2 := Int.dvd_add h (Int.dvd_mul_right (msr p : Int) ((b - a) / (msr p : Int) + 1))
    rw [Int.mul_add, Int.mul_one, show -d + a - b + ((msr p : Int) * ((b - a) / (msr p : Int)) + msr p) = msr p - d - (b - a) % (msr p : Int) by omega] at h2
    have := dvd_small (by omega) h2 (by omega)
    omega
  · intro h
    have h2 := Int.dvd_mul_right (msr p : Int) (-((b - a) / (msr p : Int) + 1))
    rw [Int.mul_neg, Int.mul_add, Int.mul_one] at h2
    rw [show -d + a - b = -((msr p : Int) * ((b - a) / (msr p : Int)) + msr p) by omega]
    exact h2
theorem lst24 {h : XH} {p : Nat → Int} (M : MkAt h p) (V : VP p) {a b d g e : Int} (ha : 0 ≤ a ∧ a < p 0) (hb : 0 ≤ b ∧ b < p 0) (hge : g * d = e) (he : -100 ≤ e ∧ e ≤ 100) : xloop (fL_step_B24 h 102 (i32 (p 0)) (i32 a) (i32 b) (i32 d) (i32 g)) 5000 (true, (0 : Int32)) = some (allb (stq p a b e) (p 0).toNat) := by
  have n0 := V.n
  have f := xl_run (fL_step_B24 h 102 (i32 (p 0)) (i32 a) (i32 b) (i32 d) (i32 g)) (fun k => (allb (stq p a b e) k, i32 (k : Nat))) (p 0).toNat (allb (stq p a b e) (p 0).toNat) (fun k hk => by
    have r1 := mk_mod V ((k : Int) - e - a)
    have r2 := mk_mod V ((k : Int) - b)
    have m1 := V.mk ((((k : Int) - e - a) % p 0).toNat) (by omega)
    have m2 := V.mk ((((k : Int) - b) % p 0).toNat) (by omega)
    unfold fL_step_B24 fL_step_b24 fL_step_J68
    dsimp only
    have a1 : allb (stq p a b e) (k + 1) = (allb (stq p a b e) k && stq p a b e k) := rfl
    rw [ile_f (by omega), a1, L_1, i32_add]
    by_cases q : allb (stq p a b e) k = true
    · rw [if_pos q, i32_mul, hge, i32_sub, i32_sub, i32_sub, obb (lmod_ok (by omega) (by omega)), obb (mk_at M V r1), obb (lmod_ok (by omega) (by omega)), obb (mk_at M V r2), ceq (by omega), q]
      have s1 : stq p a b e k = decide (p (1 + (((k : Int) - e - a) % p 0).toNat) = p (1 + (((k : Int) - b) % p 0).toNat)) := rfl
      rw [s1]
      by_cases z : p (1 + (((k : Int) - e - a) % p 0).toNat) = p (1 + (((k : Int) - b) % p 0).toNat)
      · rw [if_pos z, decide_eq_true z]; rfl
      · rw [if_neg z, decide_eq_false z]; rfl
    · rw [if_neg q]
      simp only [Bool.not_eq_true] at q
      rw [q]
      rfl) (by
    unfold fL_step_B24 fL_step_b24
    dsimp only
    rw [ile_t (by omega)]) 5000 (by omega)
  exact f
theorem xl_go {σ ε : Type} {b : σ → Option (σ ⊕ ε)} {f : Nat} {s s' : σ} (h : b s = some (.inl s')) : xloop b (f + 1) s = xloop b f s' := by rw [xloop, h]
theorem xl_end {σ ε : Type} {b : σ → Option (σ ⊕ ε)} {f : Nat} {s : σ} {e : ε} (h : b s = some (.inr e)) : xloop b (f + 1) s = some e := by rw [xloop, h]
theorem lst12 {h : XH} {p : Nat → Int} (M : MkAt h p) (V : VP p) {a b d : Int} (ha : 0 ≤ a ∧ a < p 0) (hb : 0 ≤ b ∧ b < p 0) (hd : 0 ≤ d ∧ d ≤ 60) : xloop (fL_step_B12 h 102 (i32 (p 0)) (i32 a) (i32 b) (i32 d)) 5000 (1 : Int32) = some (if allb (stq p a b d) (p 0).toNat = true then .inl (i32 1) else if allb (stq p a b (-d)) (p 0).toNat = true then .inl (i32 (-1)) else .inr ()) := by
  have l1 := lst24 M V (d := d) (g := 1) (e := d) ha hb (by omega) (by omega)
  have l2 := lst24 M V (d := d) (g := -1) (e := -d) ha hb (by omega) (by omega)
  have b1 : fL_step_B12 h 102 (i32 (p 0)) (i32 a) (i32 b) (i32 d) (1 : Int32) = some (if allb (stq p a b d) (p 0).toNat = true then .inr (.inl (i32 1)) else .inl (i32 (-1))) := by
    unfold fL_step_B12 fL_step_b12
    rw [L_m1, L_1, ilt_f (by omega), obb l1]
    split
    · rfl
    · rfl
  have b2 : fL_step_B12 h 102 (i32 (p 0)) (i32 a) (i32 b) (i32 d) (i32 (-1)) = some (if allb (stq p a b (-d)) (p 0).toNat = true then .inr (.inl (i32 (-1))) else .inl (i32 (-3))) := by
    unfold fL_step_B12 fL_step_b12
    rw [L_m1, ilt_f (by omega), obb l2]
    split
    · rfl
    · rfl
  have b3 : fL_step_B12 h 102 (i32 (p 0)) (i32 a) (i32 b) (i32 d) (i32 (-3)) = some (.inr (.inr ())) := by
    unfold fL_step_B12 fL_step_b12
    rw [L_m1, ilt_t (by omega)]
  by_cases q : allb (stq p a b d) (p 0).toNat = true
  · rw [if_pos q] at b1 ⊢
    exact xl_end b1
  · rw [if_neg q] at b1 ⊢
    refine (xl_go b1).trans ?_
    by_cases q2 : allb (stq p a b (-d)) (p 0).toNat = true
    · rw [if_pos q2] at b2 ⊢
      exact xl_end b2
    · rw [if_neg q2] at b2 ⊢
      exact (xl_go b2).trans (xl_end b3)
theorem lstep {h : XH} {p : Nat → Int} (M : MkAt h p) (V : VP p) {a b : Int} (ha : 0 ≤ a ∧ a < p 0) (hb : 0 ≤ b ∧ b < p 0) : fL_step h 102 (i32 (p 0)) (i32 a) (i32 b) = some (i32 (wst p (b - a))) := by
  have n0 := V.n
  have ms := msr_rng V
  have r := s_mod V (b - a)
  unfold fL_step
  by_cases w : 2 * ((b - a) % (msr p : Int)) ≤ msr p
  · -- forward
    have e : wst p (b - a) = (b - a) % (msr p : Int) := if_pos w
    have f := xl_run (fL_step_B3 h 102 (i32 (p 0)) (i32 a) (i32 b)) (fun k => i32 (k : Nat)) ((b - a) % (msr p : Int)).toNat (.inl (i32 ((b - a) % (msr p : Int)), i32 1)) (fun k hk => by
      unfold fL_step_B3 fL_step_b3
      rw [ilt_f (by omega), obb (lst12 M V ha hb (by omega)), if_neg (fun q => by have := (stq_p V (by omega)).mp q; omega), if_neg (fun q => by have := (stq_m V (by omega) (by omega)).mp q; omega)]
      dsimp only
      rw [L_1, i32_add]
      rfl) (by
      unfold fL_step_B3 fL_step_b3
      rw [ilt_f (by omega), obb (lst12 M V ha hb (by omega)), if_pos ((stq_p V (by omega)).mpr (by omega))]
      rw [show (((((b - a) % (msr p : Int)).toNat : Nat)) : Int) = (b - a) % (msr p : Int) by omega]) 5000 (by omega)
    have f2 : xloop (fL_step_B3 h 102 (i32 (p 0)) (i32 a) (i32 b)) 5000 (0 : Int32) = some (.inl (i32 ((b - a) % (msr p : Int)), i32 1)) := f
    rw [obb f2, e]
    dsimp only
    rw [i32_mul, Int.one_mul]
  · have e : wst p (b - a) = (b - a) % (msr p : Int) - msr p := if_neg w
    have f := xl_run (fL_step_B3 h 102 (i32 (p 0)) (i32 a) (i32 b)) (fun k => i32 (k : Nat)) (msr p - (b - a) % (msr p : Int)).toNat (.inl (i32 (msr p - (b - a) % (msr p : Int)), i32 (-1))) (fun k hk => by
      unfold fL_step_B3 fL_step_b3
      rw [ilt_f (by omega), obb (lst12 M V ha hb (by omega)), if_neg (fun q => by have := (stq_p V (by omega)).mp q; omega), if_neg (fun q => by have := (stq_m V (by omega) (by omega)).mp q; omega)]
      dsimp only
      rw [L_1, i32_add]
      rfl) (by
      unfold fL_step_B3 fL_step_b3
      rw [ilt_f (by omega), obb (lst12 M V ha hb (by omega)), if_neg (fun q => by have := (stq_p V (by omega)).mp q; omega), if_pos ((stq_m V (by omega) (by omega)).mpr (by omega))]
      rw [show (((msr p - (b - a) % (msr p : Int)).toNat : Nat) : Int) = msr p - (b - a) % (msr p : Int) by omega]) 5000 (by omega)
    have f2 : xloop (fL_step_B3 h 102 (i32 (p 0)) (i32 a) (i32 b)) 5000 (0 : Int32) = some (.inl (i32 (msr p - (b - a) % (msr p : Int)), i32 (-1))) := f
    rw [obb f2, e]
    dsimp only
    rw [i32_mul]
    congr 2
    omega
theorem wst_cong {p : Nat → Int} {x y : Int} (h : x % (msr p : Int) = y % (msr p : Int)) : wst p x = wst p y := by unfold wst; rw [h]
theorem lstep2 {h : XH} {p : Nat → Int} (M : MkAt h p) (V : VP p) (t u : Nat) : fL_step h 102 (i32 (p 0)) (i32 (trn p t % p 0)) (i32 (trn p u % p 0)) = some (i32 (wst p (trn p u - trn p t))) := by
  rw [lstep M V (mk_mod V _) (mk_mod V _), wst_cong (sub_mod_s (s_dvd V))]
