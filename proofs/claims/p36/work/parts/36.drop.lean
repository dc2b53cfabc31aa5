/-! dropping a reading -/
def dr (p : Nat → Int) (i : Nat) (m : Int) : Nat → Int := fun j => if 77 + 2 * i ≤ j ∧ (j : Int) < m then p (j + 2) else if j = 76 then p 76 - 1 else p j
noncomputable def oDropR (p : Nat → Int) (z : Int) : Int × Option (Nat → Int) := if 0 ≤ z ∧ z ≤ p 76 - 1 then (p 76 - 1, some (dr p z.toNat (77 + 2 * (p 76 - 1)))) else (-1001, none)
theorem dr_76 (p : Nat → Int) (i : Nat) (m : Int) : dr p i m 76 = p 76 - 1 := by
  unfold dr
  rw [if_neg (by omega), if_pos rfl]
theorem dr_lo (p : Nat → Int) (i : Nat) (m : Int) {j : Nat} (h : j < 76) : dr p i m j = p j := by
  unfold dr
  rw [if_neg (by omega), if_neg (by omega)]
theorem dr_hi (p : Nat → Int) (i : Nat) {m : Int} {j : Nat} (h : j ≠ 76) (hm : m ≤ j) : dr p i m j = p j := by
  unfold dr
  rw [if_neg (by omega), if_neg h]
theorem vDropR {p : Nat → Int} (hV : VP p) (z : Int) : VO (oDropR p z).2 := by
  have hr := hV.rd
  unfold oDropR
  split
  · rename_i q
    obtain ⟨r1, r2, r3, r4, r5, r6, r7, r8⟩ := hV.lo
    refine VO.so (hV.hi (fun i hi => dr_lo p _ _ (by omega)) ?_)
    rw [dr_lo p _ _ (by omega), dr_lo p _ _ (by omega), dr_76, dr_hi p _ (j := 93) (by omega) (by omega), dr_hi p _ (j := 94) (by omega) (by omega), dr_hi p _ (j := 95) (by omega) (by omega), dr_hi p _ (j := 96) (by omega) (by omega), dr_hi p _ (j := 97) (by omega) (by omega)]
    refine ⟨r1, r2, by omega, fun k hk => ?_, r5, r6, r7, r8⟩
    unfold dr
    by_cases w : z.toNat ≤ k
    · rw [if_pos (by omega), if_pos (by omega)]
      exact r4 (k + 1) (by omega)
    · rw [if_neg (by omega), if_neg (by omega), if_neg (by omega), if_neg (by omega)]
      exact r4 k (by omega)
  · exact VO.no
