/-! the candidates, one by one -/
noncomputable def clq (p : Nat → Int) (per : Int) (i q : Nat) : Nat := cnt (fun j => fitL p (-1) j && decide ((((j : Int) - p 93) * per) % (msr p : Int) = q)) i
theorem clq_s (p : Nat → Int) (per : Int) (i q : Nat) : clq p per (i + 1) q = clq p per i q + (if (fitL p (-1) i && decide ((((i : Int) - p 93) * per) % (msr p : Int) = q)) = true then 1 else 0) := rfl
theorem clq_f {p : Nat → Int} {per : Int} {i q : Nat} (h : fitL p (-1) i = false) : clq p per (i + 1) q = clq p per i q := by
  rw [clq_s, h]
  rfl
theorem clq_t {p : Nat → Int} {per : Int} {i : Nat} (V : VP p) (h : fitL p (-1) i = true) (q : Nat) : clq p per (i + 1) q = clq p per i q + (if q = ((((i : Int) - p 93) * per) % (msr p : Int)).toNat then 1 else 0) := by
  have r := s_mod V (((i : Int) - p 93) * per)
  rw [clq_s, h, Bool.true_and]
  congr 1
  by_cases z : (((i : Int) - p 93) * per) % (msr p : Int) = q
  · rw [if_pos (decide_eq_true z), if_pos (by omega)]
  · rw [if_neg (by rw [decide_eq_true_eq]; exact z), if_neg (by omega)]
theorem clq_le (p : Nat → Int) (per : Int) (i q : Nat) : clq p per i q ≤ i := cnt_le _ _
theorem mclq_le (p : Nat → Int) (per : Int) (i n : Nat) : mx (clq p per i) n ≤ i := mx_le.mpr (fun q _ => clq_le p per i q)
noncomputable def gp (w : Int) (s : Option Int) : Int := match s with
  | none => 100000
  | some b => ((b - w).natAbs : Int)
theorem acand_at {p : Nat → Int} (V : VP p) {i : Nat} (hi : i < NL p) (h : fitL p (-1) i = true) : aCand p (cnt (fitL p (-1)) i : Nat) = (i : Int) - p 93 := by
  have l := V.lim
  have m := cnt_mono (fitL p (-1)) (show i + 1 ≤ NL p by omega)
  have e : cnt (fitL p (-1)) (i + 1) = cnt (fitL p (-1)) i + (if fitL p (-1) i then 1 else 0) := rfl
  rw [h] at e
  simp only [if_true] at e
  have lt : cnt (fitL p (-1)) i < nc p (-1) := by
    show _ < cnt (fitL p (-1)) (NL p)
    omega
  obtain ⟨a, b, c⟩ := nth_ok (fitL p (-1)) lt
  have ei := cnt_inj b h c
  unfold aCand
  rw [if_pos (by omega), if_pos (by omega), Int.toNat_natCast]
  rw [ei]
section
variable {h : XH} {p : Nat → Int}
theorem lJ169 (V : VP p) {f : Nat → Int32} (A : h 105 = some (.inr (0, 60, .inl f))) {per w : Int} (hp : 1 ≤ per ∧ per ≤ 20) {i : Nat} (hi : i < NL p) (hF : fitL p (-1) i = true) (Q : ∀ q, q < msr p → f q = i32 (clq p per i q : Nat)) (x0 : Nat) (x3 x4 x5 x6 s0 : Int32) : ∃ h' f', fL_readings_J169 h x0 (i32 (msr p)) x3 x4 x5 x6 105 (i32 per) (i32 (mx (clq p per i) (msr p) : Nat)) (i32 ((i : Int) - p 93)) s0 = some (.inl (h', x4, x6, s0, i32 (mx (clq p per (i + 1)) (msr p) : Nat), i32 (((i + 1 : Nat) : Int) - p 93))) ∧ h' 105 = some (.inr (0, 60, .inl f')) ∧ (∀ q, q < msr p → f' q = i32 (clq p per (i + 1) q : Nat)) ∧ ∀ x, x ≠ 105 → h' x = h x := by
  have l := V.lim
  have hm := msr_rng V
  have hN : (i : Int) < 2 * p 93 + 1 := by unfold NL at hi; omega
  have mb := mulb (a := (i : Int) - p 93) (b := per) (A := 1000) (B := 20) (by omega) (by omega)
  have r := s_mod V (((i : Int) - p 93) * per)
  have up := clq_t V hF (per := per)
  obtain ⟨c, hc⟩ : ∃ c : Nat, (((i : Int) - p 93) * per) % (msr p : Int) = c := ⟨_, (Int.toNat_of_nonneg r.1).symm⟩
  rw [hc, Int.toNat_natCast] at up
  rw [hc] at r
  have g1 := xget A (i := c) (by omega) (by omega)
  rw [Q c (by omega)] at g1
  obtain ⟨h1, s1, A1, u1⟩ := xset A (i := c) (i32 ((clq p per i c + 1 : Nat) : Int)) (by omega) (by omega)
  have g2 := xget A1 (i := c) (by omega) (by omega)
  rw [upd_s] at g2
  have b1 := clq_le p per i c
  have b2 := mclq_le p per i (msr p)
  have uc := up c
  rw [if_pos rfl] at uc
  have mxu := mx_up (n := msr p) (q0 := c) (d := 1) (by omega) (fun q _ => up q)
  refine ⟨h1, _, ?_, A1, fun q hq => ?_, u1⟩
  · unfold fL_readings_J169 fL_readings_J211
    rw [i32_mul, obb (lmod_ok (by omega) (by omega)), hc, obb g1, L_1, i32_add, show (clq p per i c : Int) + 1 = ((clq p per i c + 1 : Nat) : Int) from rfl, obb s1, obb g2, cle (by omega), i32_add, mxu, uc, show (i : Int) - p 93 + 1 = ((i + 1 : Nat) : Int) - p 93 by omega]
    by_cases z : ((clq p per i c + 1 : Nat) : Int) ≤ (mx (clq p per i) (msr p) : Nat)
    · rw [if_pos z, Nat.max_eq_left (by omega)]
    · rw [if_neg z, obb g2, Nat.max_eq_right (by omega)]
  · rw [up q]
    by_cases z : q = c
    · rw [z, upd_s, if_pos rfl]
    · rw [upd_n _ _ z, if_neg z, Q q hq]
      rfl
theorem lstp84 (R : RX h p) {f : Nat → Int32} (A : h 105 = some (.inr (0, 60, .inl f))) {per w : Int} (hp : 1 ≤ per ∧ per ≤ 20) (hw : -1000 ≤ w ∧ w ≤ 1000) {i : Nat} (hi : i < NL p) (Q : ∀ q, q < msr p → f q = i32 (clq p per i q : Nat)) : ∃ h' f', fL_readings_B84 0 (i32 (msr p)) (i32 (p 93)) (i32 w) 105 (i32 per) (h, i32 (cnt (fitL p (-1)) i : Nat), i32 (nrV (nrC p w i)), i32 (gp w (nrC p w i)), i32 (mx (clq p per i) (msr p) : Nat), i32 ((i : Int) - p 93)) = some (.inl (h', i32 (cnt (fitL p (-1)) (i + 1) : Nat), i32 (nrV (nrC p w (i + 1))), i32 (gp w (nrC p w (i + 1))), i32 (mx (clq p per (i + 1)) (msr p) : Nat), i32 (((i + 1 : Nat) : Int) - p 93))) ∧ h' 105 = some (.inr (0, 60, .inl f')) ∧ RX h' p ∧ (∀ q, q < msr p → f' q = i32 (clq p per (i + 1) q : Nat)) ∧ ∀ x, 101 < x → x ≠ 105 → h' x = h x := by
  have V := R.V
  have l := V.lim
  have hm := msr_rng V
  have hN : (i : Int) < 2 * p 93 + 1 := by unfold NL at hi; omega
  have ec : cnt (fitL p (-1)) (i + 1) = cnt (fitL p (-1)) i + (if fitL p (-1) i then 1 else 0) := rfl
  have nx : nrC p w (i + 1) = if fitL p (-1) i = true then nrS w ((i : Int) - p 93) (nrC p w i) else nrC p w i := rfl
  have nb := nrC_rng V w i (by unfold NL at hi; omega)
  have cl := cnt_le (fitL p (-1)) i
  obtain ⟨h1, e1, R1, u1⟩ := lfits R (v := (i : Int) - p 93) (ex := -1) (by omega) (by omega)
  rw [show fit p (-1) ((i : Int) - p 93) = fitL p (-1) i from rfl, ← L_m1] at e1
  cases hF : fitL p (-1) i with
  | false =>
    rw [hF] at e1
    rw [hF, if_neg Bool.false_ne_true] at nx
    rw [hF] at ec
    have ec2 : cnt (fitL p (-1)) (i + 1) = cnt (fitL p (-1)) i := ec
    refine ⟨h1, f, ?_, (u1 105 (by omega)).trans A, R1, fun q hq => by rw [clq_f hF]; exact Q q hq, fun x a _ => u1 x a⟩
    unfold fL_readings_B84 fL_readings_b84
    dsimp only
    rw [ilt_f (by omega), obb e1]
    dsimp only
    rw [if_neg Bool.false_ne_true, ec2, nx, L_1, i32_add, mx_congr (fun q _ => clq_f hF), show (i : Int) - p 93 + 1 = ((i + 1 : Nat) : Int) - p 93 by omega]
  | true =>
    rw [hF] at e1
    rw [hF, if_pos rfl] at nx
    rw [hF] at ec
    have ec2 : cnt (fitL p (-1)) (i + 1) = cnt (fitL p (-1)) i + 1 := ec
    obtain ⟨h2, e2, R2, u2⟩ := R1.op (cCand R1.N V R1.ca (z := (cnt (fitL p (-1)) i : Nat)) (by omega))
    rw [acand_at V hi hF] at e2
    obtain ⟨h3, f3, e3, A3, Q3, u3⟩ := lJ169 V ((u2 105 (by omega)).trans ((u1 105 (by omega)).trans A)) (w := w) hp hi hF Q 0 (i32 (p 93)) (i32 (cnt (fitL p (-1)) (i + 1) : Nat)) (i32 w) (i32 (nrV (nrC p w (i + 1)))) (i32 (gp w (nrC p w (i + 1))))
    have fin : fL_readings_J137 h2 0 (i32 (msr p)) (i32 (p 93)) (i32 (cnt (fitL p (-1)) (i + 1) : Nat)) (i32 w) (i32 (nrV (nrC p w i))) (i32 (gp w (nrC p w i))) 105 (i32 per) (i32 (mx (clq p per i) (msr p) : Nat)) (i32 ((i : Int) - p 93)) (i32 (((i : Int) - p 93 - w).natAbs : Int)) = some (.inl (h3, i32 (cnt (fitL p (-1)) (i + 1) : Nat), i32 (nrV (nrC p w (i + 1))), i32 (gp w (nrC p w (i + 1))), i32 (mx (clq p per (i + 1)) (msr p) : Nat), i32 (((i + 1 : Nat) : Int) - p 93))) := by
      unfold fL_readings_J137 fL_readings_J153
      rw [nx] at e3 ⊢
      cases hq : nrC p w i with
      | none =>
        rw [hq] at e3
        rw [show gp w none = 100000 from rfl, ile_f (by omega), ile_f (by omega)]
        exact e3
      | some b =>
        have hb := nb b hq
        rw [hq] at e3
        rw [show gp w (some b) = ((b - w).natAbs : Int) from rfl]
        simp only [nrS] at e3 ⊢
        by_cases z : (b - w).natAbs ≤ ((i : Int) - p 93 - w).natAbs
        · rw [if_pos z] at e3 ⊢
          rw [ile_t (by omega), ile_t (by omega)]
          exact e3
        · rw [if_neg z] at e3 ⊢
          rw [ile_f (by omega), ile_f (by omega)]
          exact e3
    refine ⟨h3, f3, ?_, A3, R2.re (fun x hx => u3 x (by omega)), Q3, fun x a b => (u3 x b).trans ((u2 x a).trans (u1 x a))⟩
    unfold fL_readings_B84 fL_readings_b84
    dsimp only
    rw [ilt_f (by omega), obb e1]
    dsimp only
    rw [if_pos rfl, obb R1.c, obb e2]
    dsimp only
    rw [if_pos rfl, L_1, i32_add, show (cnt (fitL p (-1)) i : Int) + 1 = (cnt (fitL p (-1)) (i + 1) : Nat) by rw [ec2]; rfl, i32_sub, i32_sub, cle (by omega)]
    by_cases z : (i : Int) - p 93 ≤ w
    · rw [if_pos z, show w - ((i : Int) - p 93) = (((i : Int) - p 93 - w).natAbs : Int) by omega]
      exact fin
    · rw [if_neg z, show (i : Int) - p 93 - w = (((i : Int) - p 93 - w).natAbs : Int) by omega]
      exact fin
theorem lall84 (R : RX h p) (A : h 105 = some (.inr (0, 60, .inl (fun _ => 0)))) {per w : Int} (hp : 1 ≤ per ∧ per ≤ 20) (hw : -1000 ≤ w ∧ w ≤ 1000) : ∃ h', xloop (fL_readings_B84 0 (i32 (msr p)) (i32 (p 93)) (i32 w) 105 (i32 per)) 5000 (h, (0 : Int32), (-1004 : Int32), (100000 : Int32), (0 : Int32), i32 (-p 93)) = some (.inr (h', i32 (nc p (-1) : Nat), i32 (aNear p w), i32 (rst p per : Nat))) ∧ RX h' p ∧ ∀ x, 101 < x → x ≠ 105 → h' x = h x := by
  have V := R.V
  have l := V.lim
  have an : aNear p w = nrV (nrC p w (NL p)) := if_pos hw
  obtain ⟨e, he, h', rfl, R', u'⟩ := xl_inv (fL_readings_B84 0 (i32 (msr p)) (i32 (p 93)) (i32 w) 105 (i32 per)) (fun i s => ∃ (h' : XH) (f : Nat → Int32), s = (h', i32 (cnt (fitL p (-1)) i : Nat), i32 (nrV (nrC p w i)), i32 (gp w (nrC p w i)), i32 (mx (clq p per i) (msr p) : Nat), i32 ((i : Int) - p 93)) ∧ h' 105 = some (.inr (0, 60, .inl f)) ∧ RX h' p ∧ (∀ q, q < msr p → f q = i32 (clq p per i q : Nat)) ∧ ∀ x, 101 < x → x ≠ 105 → h' x = h x) (NL p) (fun e => ∃ h' : XH, e = .inr (h', i32 (nc p (-1) : Nat), i32 (aNear p w), i32 (rst p per : Nat)) ∧ RX h' p ∧ ∀ x, 101 < x → x ≠ 105 → h' x = h x) (by
    rintro i s hi ⟨h1, f1, rfl, A1, R1, Q1, u1⟩
    obtain ⟨h2, f2, e2, A2, R2, Q2, u2⟩ := lstp84 R1 A1 hp hw hi Q1
    exact ⟨_, e2, h2, f2, rfl, A2, R2, Q2, fun x a b => (u2 x a b).trans (u1 x a b)⟩) (by
    rintro s ⟨h1, f1, rfl, A1, R1, Q1, u1⟩
    refine ⟨.inr (h1, i32 (nc p (-1) : Nat), i32 (aNear p w), i32 (rst p per : Nat)), ?_, h1, rfl, R1, u1⟩
    unfold fL_readings_B84 fL_readings_b84
    dsimp only
    rw [ilt_t (by unfold NL; omega), an]
    rfl) (h, (0 : Int32), (-1004 : Int32), (100000 : Int32), (0 : Int32), i32 (-p 93)) ⟨h, _, by
      rw [show mx (clq p per 0) (msr p) = 0 from mx_0 (fun _ _ => rfl), show ((0 : Nat) : Int) - p 93 = -p 93 by omega]
      rfl, A, R, fun _ _ => rfl, fun _ _ _ => rfl⟩ 5000 (by unfold NL; omega)
  exact ⟨h', he, R', u'⟩
/-! the best period -/
theorem bp_ok (V : VP p) : ∀ k, (1 ≤ (bp p k).1 ∧ (bp p k).1 ≤ k + 1) ∧ (bp p k).2 = rst p ((bp p k).1 : Nat) ∧ ∀ j : Nat, 1 ≤ j → j ≤ k + 1 → (bp p k).2 ≤ rst p (j : Nat)
  | 0 => ⟨⟨Nat.le_refl _, Nat.le_refl _⟩, rfl, fun j a b => by
    have : j = 1 := by omega
    subst this
    exact Nat.le_refl _⟩
  | k + 1 => by
    obtain ⟨a, b, c⟩ := bp_ok V k
    have e : bp p (k + 1) = if (bp p k).2 ≤ rst p ((k + 2 : Nat) : Int) then bp p k else (k + 2, rst p ((k + 2 : Nat) : Int)) := rfl
    rw [e]
    by_cases q : (bp p k).2 ≤ rst p ((k + 2 : Nat) : Int)
    · rw [if_pos q]
      refine ⟨⟨a.1, by omega⟩, b, fun j j1 j2 => ?_⟩
      rcases Nat.lt_or_ge j (k + 2) with z | z
      · exact c j j1 (by omega)
      · have : j = k + 2 := by omega
        subst this
        exact q
    · rw [if_neg q]
      refine ⟨⟨by show 1 ≤ k + 2; omega, Nat.le_refl _⟩, rfl, fun j j1 j2 => ?_⟩
      show rst p ((k + 2 : Nat) : Int) ≤ _
      rcases Nat.lt_or_ge j (k + 2) with z | z
      · have := c j j1 (by omega)
        omega
      · have : j = k + 2 := by omega
        subst this
        exact Nat.le_refl _
theorem rst_pos (V : VP p) (h : nc p (-1) ≠ 0) (per : Int) : 1 ≤ rst p per := by
  have ex : ∃ i, i < NL p ∧ fitL p (-1) i = true := by
    apply Classical.byContradiction
    intro q
    refine h (cnt_no (fun i hi => ?_))
    cases z : fitL p (-1) i with
    | false => rfl
    | true => exact absurd ⟨i, hi, z⟩ q
  obtain ⟨i, hi, hF⟩ := ex
  have r := s_mod V (((i : Int) - p 93) * per)
  have b := (mx_le (f := clq p per (NL p)) (k := rst p per) (n := msr p)).mp (Nat.le_refl _) ((((i : Int) - p 93) * per) % (msr p : Int)).toNat (by omega)
  have c := clq_t V hF (per := per) ((((i : Int) - p 93) * per) % (msr p : Int)).toNat
  rw [if_pos rfl] at c
  have m : clq p per (i + 1) ((((i : Int) - p 93) * per) % (msr p : Int)).toNat ≤ clq p per (NL p) ((((i : Int) - p 93) * per) % (msr p : Int)).toNat := cnt_mono _ (by omega)
  omega
end
