/-! changes of speed -/
def CP (p : Nat → Int) : Prop := (0 ≤ p 63 ∧ p 63 ≤ 5) ∧ ∀ k : Nat, (k : Int) < p 63 → 0 ≤ p (64 + 2 * k) ∧ p (64 + 2 * k) ≤ 1000
theorem VP.cp {p : Nat → Int} (hV : VP p) : CP p := ⟨hV.ch, fun k hk => by have := hV.cht k hk; omega⟩
noncomputable def poc (p : Nat → Int) (z : Int) : Nat := lst (fun k => decide (z ≤ p (64 + 2 * k))) (p 63).toNat 0
theorem poc_ok {p : Nat → Int} (h : CP p) (z : Int) : (poc p z : Int) ≤ p 63 ∧ (∀ j, j < poc p z → p (64 + 2 * j) < z) ∧ ((poc p z : Int) < p 63 → z ≤ p (64 + 2 * poc p z)) := by
  have h1 := h.1
  obtain ⟨a, b, c, d⟩ := lst_ok (P := fun k => decide (z ≤ p (64 + 2 * k))) (p 63).toNat 0
  unfold poc
  refine ⟨by omega, fun j hj => ?_, fun hj => ?_⟩
  · have := c j (by omega) hj
    simp only [decide_eq_false_iff_not] at this
    omega
  · have := d (by omega)
    simpa using this
theorem poc_eq {p : Nat → Int} (h : CP p) {z : Int} {i : Nat} (hi : (i : Int) ≤ p 63) (a : ∀ j, j < i → p (64 + 2 * j) < z) (b : (i : Int) < p 63 → z ≤ p (64 + 2 * i)) : poc p z = i := by
  obtain ⟨x, y, w⟩ := poc_ok h z
  rcases Nat.lt_trichotomy (poc p z) i with q | q | q
  · have := a _ q
    have := w (by omega)
    omega
  · exact q
  · have := y _ q
    have := b (by omega)
    omega
theorem wtk {h : XH} {p : Nat → Int} (H : WhAt h 2 p) (hc : p 63 ≤ 5) {i : Nat} (hi : (i : Int) < p 63) : fX8_at h 4 (i32 (i : Nat)) = some (i32 (p (64 + 2 * i))) := by
  obtain ⟨fm, ft, fs, s0, s1, s2, s3, sm, sc⟩ := H
  have e : fX8_at h 4 (i32 (i : Nat)) = _ := at_ok s2 (by omega) (by omega)
  rw [e, if_pos (by omega), Int.toNat_natCast, (sc i (by omega) hi).1]
theorem cpoc {h : XH} {p : Nat → Int} (H : WhAt h 2 p) (hC : CP p) {z : Int} (hz : -2147483648 ≤ z ∧ z < 2147483648) : fX6_placeOfChange h 2 (i32 z) = some (i32 (poc p z : Nat)) := by
  have h1 := hC.1
  obtain ⟨x, y, w⟩ := poc_ok hC z
  unfold fX6_placeOfChange
  have r1 : xgR h 2 6 1 = some 4 := H.r1
  have r := xl_run (fX6_placeOfChange_B2 h 2 (i32 z)) (fun i => i32 (i : Nat)) (poc p z) (i32 (poc p z : Nat)) (fun i hi => by
    have b := hC.2 i (by omega)
    have := y i hi
    unfold fX6_placeOfChange_B2 fX6_placeOfChange_b2
    rw [obb H.i6, ile_f (by omega), obb r1, obb (wtk H (by omega) (by omega)), ile_f (by omega), L_1, i32_add]
    rfl) (by
    unfold fX6_placeOfChange_B2 fX6_placeOfChange_b2
    rw [obb H.i6, cle (by omega)]
    by_cases q : (poc p z : Int) < p 63
    · have b := hC.2 _ q
      have := w q
      rw [if_neg (by omega), obb r1, obb (wtk H (by omega) q), ile_t (by omega)]
    · rw [if_pos (by omega)]) 5000 (by omega)
  have r2 : xloop (fX6_placeOfChange_B2 h 2 (i32 z)) 5000 0 = some (i32 (poc p z : Nat)) := r
  rw [obb r2]
noncomputable def hch (p : Nat → Int) (z : Int) : Bool := decide ((poc p z : Int) < p 63 ∧ p (64 + 2 * poc p z) = z)
theorem chch {h : XH} {p : Nat → Int} (H : WhAt h 2 p) (hC : CP p) {z : Int} (hz : -2147483648 ≤ z ∧ z < 2147483648) : fX6_hasChange h 2 (i32 z) = some (hch p z) := by
  have h1 := hC.1
  obtain ⟨x, y, w⟩ := poc_ok hC z
  have r1 : xgR h 2 6 1 = some 4 := H.r1
  unfold fX6_hasChange hch
  rw [obb H.c, obb (cpoc H hC hz), obb H.i6, cle (by omega)]
  by_cases q : (poc p z : Int) < p 63
  · have b := hC.2 _ q
    rw [if_neg (by omega), obb r1, obb (wtk H (by omega) q), ceq (by omega)]
    by_cases q2 : p (64 + 2 * poc p z) = z
    · rw [if_pos q2, decide_eq_true ⟨q, q2⟩]
    · rw [if_neg q2, decide_eq_false (fun a => q2 a.2)]
  · rw [if_pos (by omega), decide_eq_false (fun a => q a.1)]
/-- a change dropped -/
def dc (p : Nat → Int) (i : Nat) (m : Int) : Nat → Int := fun j => if 64 + 2 * i ≤ j ∧ (j : Int) < m then p (j + 2) else if j = 63 then p 63 - 1 else p j
noncomputable def oDropC (p : Nat → Int) (z : Int) : Int × Option (Nat → Int) := if hch p z = true then (p 63 - 1, some (dc p (poc p z) (64 + 2 * (p 63 - 1)))) else (-1001, none)
theorem dc_63 (p : Nat → Int) (i : Nat) (m : Int) : dc p i m 63 = p 63 - 1 := by
  unfold dc
  rw [if_neg (by omega), if_pos rfl]
theorem dc_lo (p : Nat → Int) (i : Nat) (m : Int) {j : Nat} (h : j < 63) : dc p i m j = p j := by
  unfold dc
  rw [if_neg (by omega), if_neg (by omega)]
theorem dc_hi (p : Nat → Int) (i : Nat) {m : Int} {j : Nat} (h : j ≠ 63) (hm : m ≤ j) : dc p i m j = p j := by
  unfold dc
  rw [if_neg (by omega), if_neg h]
theorem VP.chg {p p' : Nat → Int} (hV : VP p) (e : ∀ i, (i < 62 ∨ 74 ≤ i) → p' i = p i) (r : (-1000 ≤ p' 62 ∧ p' 62 ≤ 1000) ∧ (0 ≤ p' 63 ∧ p' 63 ≤ 5) ∧ (∀ k : Nat, (k : Int) < p' 63 → (1 ≤ p' (64 + 2 * k) ∧ p' (64 + 2 * k) ≤ 1000) ∧ (-1000 ≤ p' (65 + 2 * k) ∧ p' (65 + 2 * k) ≤ 1000)) ∧ (∀ j k : Nat, j < k → (k : Int) < p' 63 → p' (64 + 2 * j) < p' (64 + 2 * k))) : VP p' := by
  have hr := hV.rd
  obtain ⟨a, b, c, -, -, -, -, s1, s2, s3, s4, s5, s6, s7, s8, s9⟩ := hV
  refine ⟨by rw [e 0 (by omega)]; exact a, fun k hk => by rw [e _ (by omega)]; exact b k hk, by rw [e 61 (by omega)]; exact c, r.1, r.2.1, r.2.2.1, r.2.2.2, ?_⟩
  rw [e 74 (by omega), e 75 (by omega), e 76 (by omega), e 93 (by omega), e 94 (by omega), e 95 (by omega), e 96 (by omega), e 97 (by omega)]
  exact ⟨s1, s2, s3, fun k hk => by rw [e _ (by omega), e _ (by omega)]; exact s4 k hk, s5, s6, s7, s8, s9⟩
theorem vDropC {p : Nat → Int} (hV : VP p) (z : Int) : VO (oDropC p z).2 := by
  have hc := hV.ch
  unfold oDropC
  split
  · rename_i q
    simp only [hch, decide_eq_true_eq] at q
    refine VO.so (hV.chg (fun i hi => ?_) ?_)
    · rcases hi with w | w
      · exact dc_lo p _ _ (by omega)
      · exact dc_hi p _ (by omega) (by omega)
    · rw [dc_63, dc_lo p _ _ (show 62 < 63 by omega)]
      refine ⟨hV.speed, by omega, fun k hk => ?_, fun j k h1 h2 => ?_⟩
      · unfold dc
        by_cases w : poc p z ≤ k
        · rw [if_pos (by omega), if_pos (by omega)]
          exact hV.cht (k + 1) (by omega)
        · rw [if_neg (by omega), if_neg (by omega), if_neg (by omega), if_neg (by omega)]
          exact hV.cht k (by omega)
      · unfold dc
        by_cases w : poc p z ≤ k
        · rw [if_pos (show 64 + 2 * poc p z ≤ 64 + 2 * k ∧ ((64 + 2 * k : Nat) : Int) < 64 + 2 * (p 63 - 1) by omega)]
          by_cases w2 : poc p z ≤ j
          · rw [if_pos (by omega)]
            exact hV.srt (j + 1) (k + 1) (by omega) (by omega)
          · rw [if_neg (by omega), if_neg (by omega)]
            exact hV.srt j (k + 1) (by omega) (by omega)
        · rw [if_neg (by omega), if_neg (by omega), if_neg (by omega), if_neg (by omega)]
          exact hV.srt j k h1 (by omega)
  · exact VO.no
