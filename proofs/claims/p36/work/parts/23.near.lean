/-! the nearest speed -/
theorem xmabs_ok {a : Int} (h : -2147483648 < a ∧ a < 2147483648) : xmabs (i32 a) = i32 (a.natAbs : Int) := by
  unfold xmabs
  rw [L_0, cle (by omega), i32_sub]
  split
  · congr 1; omega
  · congr 1; omega
/-- one more speed seen: keep the nearer, the earlier of two as near -/
def nrS (w v : Int) (s : Option Int) : Option Int := match s with
  | none => some v
  | some b => if (b - w).natAbs ≤ (v - w).natAbs then some b else some v
def nrV (s : Option Int) : Int := match s with
  | none => -1004
  | some b => b
noncomputable def nrC (p : Nat → Int) (w : Int) : Nat → Option Int := itr (fun j x => if fitL p (-1) j = true then nrS w ((j : Int) - p 93) x else x) none
noncomputable def aNear (p : Nat → Int) (w : Int) : Int := if -1000 ≤ w ∧ w ≤ 1000 then nrV (nrC p w (2 * p 93 + 1).toNat) else -1001
theorem nrC_rng {p : Nat → Int} (hV : VP p) (w : Int) : ∀ i, i ≤ (2 * p 93 + 1).toNat → ∀ b, nrC p w i = some b → -1000 ≤ b ∧ b ≤ 1000
  | 0, _, b, h => by simp [nrC, itr] at h
  | i + 1, hi, b, h => by
    have hl := hV.lim
    have ih := nrC_rng hV w i (by omega)
    unfold nrC at h ih
    simp only [itr] at h
    split at h
    · cases hq : itr (fun (j : Nat) x => if fitL p (-1) j = true then nrS w ((j : Int) - p 93) x else x) none i with
      | none => rw [hq] at h; simp only [nrS, Option.some.injEq] at h; omega
      | some b2 =>
        have := ih b2 hq
        rw [hq] at h
        simp only [nrS] at h
        split at h
        · simp only [Option.some.injEq] at h; omega
        · simp only [Option.some.injEq] at h; omega
    · exact ih b h
def nrD0 (w : Int) (s : Option Int) : Int := match s with
  | none => 0
  | some b => ((b - w).natAbs : Int)
theorem cnear {h : XH} {p : Nat → Int} (H : CaAt h p (-1)) (hV : VP p) {w : Int} (hw : -1000 ≤ w ∧ w ≤ 1000) : fX0_nearestTo h 99 (i32 w) = some (i32 (nrV (nrC p w (2 * p 93 + 1).toNat))) := by
  have hl := hV.lim
  unfold fX0_nearestTo
  rw [gI H 3 rfl]; simp only [Option.bind_some, i32_neg, L_m1004, L_0]
  have f := xl_run (fX0_nearestTo_B13 h 99 (i32 w)) (fun i => (i32 (nrV (nrC p w i)), i32 (nrD0 w (nrC p w i)), i32 ((i : Int) - p 93))) (2 * p 93 + 1).toNat (i32 (nrV (nrC p w (2 * p 93 + 1).toNat))) (fun i hi => by
    have hb := nrC_rng hV w i (by omega)
    have nx : nrC p w (i + 1) = if fitL p (-1) i = true then nrS w ((i : Int) - p 93) (nrC p w i) else nrC p w i := rfl
    rw [nx]
    unfold fX0_nearestTo_B13 fX0_nearestTo_b13 fX0_nearestTo_J44
    rw [gI H 3 rfl]; simp only [Option.bind_some]
    rw [ilt_f (by omega), i32_sub, xmabs_ok (by omega), H.c]; simp only [Option.bind_some]
    rw [chas H hV (by omega)]; simp only [Option.bind_some, L_1, L_m1004, i32_add]
    rw [show fit p (-1) ((i : Int) - p 93) = fitL p (-1) i from rfl, show ((i : Int) - p 93 + 1) = ((i + 1 : Nat) : Int) - p 93 by omega]
    cases hq : nrC p w i with
    | none =>
      rw [show nrV none = -1004 from rfl, if_pos rfl]
      cases fitL p (-1) i <;> rfl
    | some b =>
      have := hb b hq
      rw [show nrV (some b) = b from rfl, show nrD0 w (some b) = ((b - w).natAbs : Int) from rfl, ceq (by omega), if_neg (show ¬ b = -1004 by omega), cle (by omega)]
      cases fitL p (-1) i with
      | false =>
        simp only [if_neg Bool.false_ne_true]
        split <;> rfl
      | true =>
        simp only [if_true, nrS]
        by_cases q : (b - w).natAbs ≤ ((i : Int) - p 93 - w).natAbs
        · rw [if_pos (by omega), if_pos q]; rfl
        · rw [if_neg (by omega), if_neg q]; rfl) (by
    unfold fX0_nearestTo_B13 fX0_nearestTo_b13
    rw [gI H 3 rfl]; simp only [Option.bind_some]
    rw [ilt_t (by omega)]) 5000 (by omega)
  have e0 : xloop (fX0_nearestTo_B13 h 99 (i32 w)) 5000 (i32 (-1004), i32 0, i32 (-p 93)) = some (i32 (nrV (nrC p w (2 * p 93 + 1).toNat))) := by
    refine Eq.trans ?_ f
    show xloop _ 5000 (i32 (-1004), i32 0, i32 (-p 93)) = xloop _ 5000 (i32 (-1004), i32 0, i32 (((0 : Nat) : Int) - p 93))
    congr 4
    omega
  rw [e0]
  rfl
theorem cNear {h : XH} {p : Nat → Int} (H : NowAt h p) (hV : VP p) (hC : CaSh h) {w : Int} (hw : -2147483648 ≤ w ∧ w < 2147483648) : COp h (aNear p w) (fX8_nearest h 0 (i32 w)) := by
  unfold fX8_nearest aNear
  rw [L_m1000, L_1000, within_ok hw (by omega) (by omega)]; simp only [Option.bind_some, decide_eq_true_eq]
  by_cases q : -1000 ≤ w ∧ w ≤ 1000
  · rw [if_pos q, if_pos q, H.c, L_m1]; simp only [Option.bind_some]
    obtain ⟨h', e, s, C⟩ := cfind H hV hC (ex := -1) (by omega)
    rw [e]; simp only [Option.bind_some]
    rw [C.c]; simp only [Option.bind_some]
    rw [cnear C hV q]
    exact ⟨_, rfl, s⟩
  · rw [if_neg q, if_neg q]
    exact ⟨h, rfl, Sc.rf hC⟩
noncomputable def fnV (A : Nat → Nat → Int32) (m : Nat) : Int := (A 4 m).toInt
theorem FnAt.v {A : Nat → Nat → Int32} {p : Nat → Int} (hV : VP p) {ex : Int} (F : FnAt A p ex (2 * p 93 + 1).toNat) {m : Nat} (h : m < nc p ex) : A 4 m = i32 (fnV A m) ∧ -1000 ≤ fnV A m ∧ fnV A m ≤ 1000 := by
  have hl := hV.lim
  obtain ⟨n1, n2, n3⟩ := nth_ok (fitL p ex) (n := (2 * p 93 + 1).toNat) (m := m) h
  have e := F.at h
  have e2 : fnV A m = (nth (fitL p ex) (2 * p 93 + 1).toNat m : Int) - p 93 := by
    unfold fnV
    rw [e, i32_toInt (by omega)]
  exact ⟨by rw [e, e2], by omega, by omega⟩
theorem FnAt.j {A : Nat → Nat → Int32} {p : Nat → Int} (hV : VP p) {ex : Int} (F : FnAt A p ex (2 * p 93 + 1).toNat) {j : Nat} (hj : j < (2 * p 93 + 1).toNat) (hf : fitL p ex j = true) : fnV A (cnt (fitL p ex) j) = (j : Int) - p 93 := by
  have hl := hV.lim
  unfold fnV
  rw [F j hj hf, i32_toInt (by omega)]
