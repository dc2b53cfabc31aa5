/-! the measure -/
def cyc (n : Nat) (f : Nat → Int) (s : Nat) : Prop := ∀ i, i < n → f i = f ((i + s) % n)
def lin (n : Nat) (f : Nat → Int) (s : Nat) : Prop := ∀ c, c + s < n → f c = f (c + s)
theorem cyc_n {n : Nat} {f : Nat → Int} : cyc n f n := fun i hi => by rw [Nat.add_mod_right, Nat.mod_eq_of_lt hi]
theorem cyc_mul {n : Nat} {f : Nat → Int} {s : Nat} (h : cyc n f s) : ∀ (q i : Nat), i < n → f i = f ((i + q * s) % n)
  | 0, i, hi => by rw [Nat.zero_mul, Nat.add_zero, Nat.mod_eq_of_lt hi]
  | q + 1, i, hi => by
    have h1 := cyc_mul h q i hi
    have h2 := h ((i + q * s) % n) (Nat.mod_lt _ (by omega))
    rw [h1, h2]
    congr 1
    rw [Nat.mod_add_mod]
    congr 1
    rw [Nat.add_mul]
    omega
theorem cyc_mod {n : Nat} {f : Nat → Int} {s : Nat} (h : cyc n f s) : cyc n f (n % s) := by
  intro i hi
  have h1 := cyc_mul h (n / s) ((i + n % s) % n) (Nat.mod_lt _ (by omega))
  rw [h1, Nat.mod_add_mod]
  have e : i + n % s + n / s * s = i + n := by
    have := Nat.mod_add_div n s
    rw [Nat.mul_comm] at this
    omega
  rw [e, Nat.add_mod_right, Nat.mod_eq_of_lt hi]
def IsMsr (n : Nat) (f : Nat → Int) (s : Nat) : Prop := 1 ≤ s ∧ s ≤ n ∧ cyc n f s ∧ ∀ t, 1 ≤ t → t < s → ¬ cyc n f t
theorem msr_ex {n : Nat} {f : Nat → Int} (hn : 0 < n) : ∃ s, IsMsr n f s := by
  obtain ⟨k, ⟨h1, h2⟩, h3⟩ := pk_least (fun t => 1 ≤ t ∧ cyc n f t) ⟨n, hn, cyc_n⟩
  refine ⟨k, h1, ?_, h2, fun t ht hl hc => h3 t hl ⟨ht, hc⟩⟩
  rcases Nat.lt_or_ge n k with q | q
  · exact absurd ⟨hn, cyc_n⟩ (h3 n q)
  · exact q
noncomputable def msr (p : Nat → Int) : Nat := Classical.epsilon (IsMsr (p 0).toNat (fun i => p (1 + i)))
theorem msr_ok {p : Nat → Int} (hV : VP p) : IsMsr (p 0).toNat (fun i => p (1 + i)) (msr p) :=
  Classical.epsilon_spec (msr_ex (by have := hV.n; omega))
theorem msr_rng {p : Nat → Int} (hV : VP p) : 1 ≤ msr p ∧ (msr p : Int) ≤ p 0 ∧ msr p ≤ 60 := by
  have h := msr_ok hV
  have := hV.n
  have h1 := h.1
  have h2 := h.2.1
  omega
theorem msr_dvd {p : Nat → Int} (hV : VP p) : msr p ∣ (p 0).toNat := by
  obtain ⟨h1, h2, h3, h4⟩ := msr_ok hV
  rcases Nat.eq_zero_or_pos ((p 0).toNat % msr p) with q | q
  · exact Nat.dvd_of_mod_eq_zero q
  · exact absurd (cyc_mod h3) (h4 _ q (Nat.mod_lt _ h1))
theorem lin_of_cyc {n : Nat} {f : Nat → Int} {s : Nat} (h : cyc n f s) : lin n f s := fun c hc => by
  have := h c (by omega)
  rwa [Nat.mod_eq_of_lt hc] at this
theorem lin_mul {n : Nat} {f : Nat → Int} {s : Nat} (h : lin n f s) : ∀ (q c : Nat), c + q * s < n → f c = f (c + q * s)
  | 0, c, _ => by simp
  | q + 1, c, hc => by
    rw [Nat.add_mul] at hc
    have h1 := lin_mul h q c (by omega)
    have h2 := h (c + q * s) (by omega)
    rw [h1, h2]
    congr 1
    rw [Nat.add_mul]
    omega
theorem cyc_of_lin {n : Nat} {f : Nat → Int} {s : Nat} (hs : s < n) (hd : s ∣ n) (h : lin n f s) : cyc n f s := by
  intro i hi
  rcases Nat.lt_or_ge (i + s) n with q | q
  · rw [Nat.mod_eq_of_lt q]; exact h i q
  · have e : (i + s) % n = i + s - n := by
      rw [Nat.mod_eq_sub_mod q, Nat.mod_eq_of_lt (by omega)]
    rw [e]
    obtain ⟨k, hk⟩ := hd
    have hk1 : 1 ≤ k := by
      rcases Nat.eq_zero_or_pos k with z | z
      · subst z; omega
      · exact z
    have h1 := lin_mul h (k - 1) (i + s - n) (by
      have : (k - 1) * s = n - s := by rw [Nat.sub_mul, hk, Nat.mul_comm]; simp
      omega)
    rw [h1]
    congr 1
    have : (k - 1) * s = n - s := by rw [Nat.sub_mul, hk, Nat.mul_comm]; simp
    omega
/-! the class's measure -/
theorem same_step {h : XH} {w : Nat} {p : Nat → Int} (H : WhAt h w p) (hV : VP p) {s i : Nat} (hs : 1 ≤ s ∧ s ≤ 60) (hi : (i : Int) + s < p 0) : fX6_isSameTurnedBy_B2 h w (i32 s) (i32 i) = some (if p (1 + i) = p (1 + (i + s)) then .inl (i32 (i + 1 : Nat)) else .inr (.inl ())) := by
  unfold fX6_isSameTurnedBy_B2 fX6_isSameTurnedBy_b2
  have hn := hV.n
  rw [H.i3]
  simp only [Option.bind_some]
  rw [i32_add, ile_f (by omega), H.r0]
  simp only [Option.bind_some]
  rw [H.mark hV (by omega), H.mark hV (by omega)]
  simp only [Option.bind_some]
  have m1 := hV.mk i (by omega)
  have m2 := hV.mk (i + s) (by omega)
  rw [show ((i : Int)).toNat = i by omega, show ((i : Int) + (s : Int)).toNat = i + s by omega, L_1, i32_add]
  rw [ceq (by omega)]
  split <;> rfl
theorem same_t {h : XH} {w : Nat} {p : Nat → Int} (H : WhAt h w p) (hV : VP p) {s : Nat} (hs : 1 ≤ s ∧ (s : Int) ≤ p 0) (hl : lin (p 0).toNat (fun i => p (1 + i)) s) : fX6_isSameTurnedBy h w (i32 s) = some true := by
  unfold fX6_isSameTurnedBy
  have hn := hV.n
  have e := xl_run (fX6_isSameTurnedBy_B2 h w (i32 s)) (fun i => i32 i) ((p 0).toNat - s) (.inr ()) (fun i hi => by
    rw [same_step H hV (by omega) (by omega), if_pos (hl i (by omega))]) (by
    unfold fX6_isSameTurnedBy_B2 fX6_isSameTurnedBy_b2
    rw [H.i3]
    simp only [Option.bind_some]
    rw [i32_add, ile_t (by omega)]) 5000 (by omega)
  rw [L_0, show i32 0 = i32 ((0 : Nat) : Int) from rfl, e]
  rfl
theorem same_f {h : XH} {w : Nat} {p : Nat → Int} (H : WhAt h w p) (hV : VP p) {s : Nat} (hs : 1 ≤ s ∧ (s : Int) ≤ p 0) (hl : ¬ lin (p 0).toNat (fun i => p (1 + i)) s) : fX6_isSameTurnedBy h w (i32 s) = some false := by
  unfold fX6_isSameTurnedBy
  have hn := hV.n
  have hex : ∃ c, c + s < (p 0).toNat ∧ p (1 + c) ≠ p (1 + (c + s)) := by
    apply Classical.byContradiction
    intro q
    exact hl fun c hc => Classical.byContradiction fun z => q ⟨c, hc, z⟩
  obtain ⟨k, ⟨h1, h2⟩, h3⟩ := pk_least _ hex
  have e := xl_run (fX6_isSameTurnedBy_B2 h w (i32 s)) (fun i => i32 i) k (.inl ()) (fun i hi => by
    rw [same_step H hV (by omega) (by omega), if_pos (Classical.byContradiction fun z => h3 i hi ⟨by omega, z⟩)]) (by
    rw [same_step H hV (by omega) (by omega), if_neg h2]) 5000 (by omega)
  rw [L_0, show i32 0 = i32 ((0 : Nat) : Int) from rfl, e]
  rfl
theorem cmsr_ok {h : XH} {w : Nat} {p : Nat → Int} (H : WhAt h w p) (hV : VP p) : fX6_measure h w = some (i32 (msr p)) := by
  unfold fX6_measure
  have hn := hV.n
  obtain ⟨m1, m2, m3, m4⟩ := msr_ok hV
  have hd := msr_dvd hV
  have step : ∀ i, i < msr p - 1 → fX6_measure_B2 h w (i32 (1 + i : Nat)) = some (.inl (i32 (1 + (i + 1) : Nat))) := by
    intro i hi
    unfold fX6_measure_B2 fX6_measure_b2
    rw [H.i3]
    simp only [Option.bind_some]
    rw [ile_f (by omega), mod_ok (by omega) (by omega)]
    simp only [Option.bind_some]
    have r := Int.emod_lt_of_pos (p 0) (show 0 < ((1 + i : Nat) : Int) by omega)
    have r0 := Int.emod_nonneg (p 0) (show ((1 + i : Nat) : Int) ≠ 0 by omega)
    rw [L_0, ceq (by omega), H.c]
    simp only [Option.bind_some]
    rw [L_1, i32_add]
    split
    · rename_i hz
      have hdv : (1 + i) ∣ (p 0).toNat := by
        have : ((1 + i : Nat) : Int) ∣ p 0 := Int.dvd_of_emod_eq_zero hz
        have e : p 0 = ((p 0).toNat : Int) := by omega
        rw [e] at this
        exact Int.ofNat_dvd.mp this
      rw [same_f H hV (by omega) (fun hl => m4 (1 + i) (by omega) (by omega) (cyc_of_lin (by omega) hdv hl))]
      rfl
    · rfl
  rcases Nat.lt_or_ge (msr p) (p 0).toNat with q | q
  · have e := xl_run (fX6_measure_B2 h w) (fun i => i32 (1 + i : Nat)) (msr p - 1) (.inl (i32 (msr p))) step (by
      unfold fX6_measure_B2 fX6_measure_b2
      rw [H.i3]
      simp only [Option.bind_some]
      rw [show 1 + (msr p - 1) = msr p by omega, ile_f (by omega), mod_ok (by omega) (by omega)]
      simp only [Option.bind_some]
      have hz : p 0 % (msr p : Int) = 0 := by
        have e : p 0 = ((p 0).toNat : Int) := by omega
        rw [e]
        exact Int.emod_eq_zero_of_dvd (Int.ofNat_dvd.mpr hd)
      rw [hz, L_0, ieq_t rfl, H.c]
      simp only [Option.bind_some]
      rw [same_t H hV (by omega) (lin_of_cyc m3)]
      rfl) 5000 (by omega)
    rw [L_1, show i32 1 = i32 ((1 + 0 : Nat) : Int) from rfl, e]
    rfl
  · have e := xl_run (fX6_measure_B2 h w) (fun i => i32 (1 + i : Nat)) (msr p - 1) (.inr ()) step (by
      unfold fX6_measure_B2 fX6_measure_b2
      rw [H.i3]
      simp only [Option.bind_some]
      rw [ile_t (by omega)]) 5000 (by omega)
    rw [L_1, show i32 1 = i32 ((1 + 0 : Nat) : Int) from rfl, e]
    simp only [Option.bind_some]
    rw [H.i3]
    simp only [Option.bind_some]
    congr 2
    omega
