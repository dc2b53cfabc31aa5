/-! changes of speed -/
def CP (p : Nat → Int) : Prop := (0 ≤ p 63 ∧ p 63 ≤ 5) ∧ ∀ k : Nat, (k : Int) < p 63 → 0 ≤ p (64 + 2 * k) ∧ p (64 + 2 * k) ≤ 1000
theorem VP.cp {p : Nat → Int} (hV : VP p) : CP p := ⟨hV.ch, fun k hk => by have := hV.cht k hk; omega⟩
noncomputable def poc (p : Nat → Int) (z : Int) : Nat := lst (fun k => decide (z ≤ p (64 + 2 * k))) (p 63).toNat 0
theorem poc_ok {p : Nat → Int} (h : CP p) (z : Int) : (poc p z : Int) ≤ p 63 ∧ (∀ j, j < poc p z → p (64 + 2 * j) < z) ∧ ((poc p z : Int) < p 63 → z ≤ p (64 + 2 * poc p z)) := by
  have h1 := h.1
  obtain ⟨a, b, c, d⟩ := lst_ok (P := fun k => decide (z ≤ p (64 + 2 * k))) (p 63).toNat 0
  unfold poc
  refine ⟨by omega, fun j hj => ?_, fun hj => ?_⟩
  · have := c j (by omega) hj
    simp only [decide_eq_false_iff_not] at this
    omega
  · have := d (by omega)
    simpa using this
theorem poc_eq {p : Nat → Int} (h : CP p) {z : Int} {i : Nat} (hi : (i : Int) ≤ p 63) (a : ∀ j, j < i → p (64 + 2 * j) < z) (b : (i : Int) < p 63 → z ≤ p (64 + 2 * i)) : poc p z = i := by
  obtain ⟨x, y, w⟩ := poc_ok h z
  rcases Nat.lt_trichotomy (poc p z) i with q | q | q
  · have := a _ q
    have := w (by omega)
    omega
  · exact q
  · have := y _ q
    have := b (by omega)
    omega
theorem wtk {h : XH} {p : Nat → Int} (H : WhAt h 2 p) (hc : p 63 ≤ 5) {i : Nat} (hi : (i : Int) < p 63) : fX8_at h 4 (i32 (i : Nat)) = some (i32 (p (64 + 2 * i))) := by
  obtain ⟨fm, ft, fs, s0, s1, s2, s3, sm, sc⟩ := H
  have e : fX8_at h 4 (i32 (i : Nat)) = _ := at_ok s2 (by omega) (by omega)
  rw [e, if_pos (by omega), Int.toNat_natCast, (sc i (by omega) hi).1]
theorem cpoc {h : XH} {p : Nat → Int} (H : WhAt h 2 p) (hC : CP p) {z : Int} (hz : -2147483648 ≤ z ∧ z < 2147483648) : fX6_placeOfChange h 2 (i32 z) = some (i32 (poc p z : Nat)) := by
  have h1 := hC.1
  obtain ⟨x, y, w⟩ := poc_ok hC z
  unfold fX6_placeOfChange
  have r1 : xgR h 2 6 1 = some 4 := H.r1
  have r := xl_run (fX6_placeOfChange_B2 h 2 (i32 z)) (fun i => i32 (i : Nat)) (poc p z) (i32 (poc p z : Nat)) (fun i hi => by
    have b := hC.2 i (by omega)
    have := y i hi
    unfold fX6_placeOfChange_B2 fX6_placeOfChange_b2
    rw [obb H.i6, ile_f (by omega), obb r1, obb (wtk H (by omega) (by omega)), ile_f (by omega), L_1, i32_add]
    rfl) (by
    unfold fX6_placeOfChange_B2 fX6_placeOfChange_b2
    rw [obb H.i6, cle (by omega)]
    by_cases q : (poc p z : Int) < p 63
    · have b := hC.2 _ q
      have := w q
      rw [if_neg (by omega), obb r1, obb (wtk H (by omega) q), ile_t (by omega)]
    · rw [if_pos (by omega)]) 5000 (by omega)
  have r2 : xloop (fX6_placeOfChange_B2 h 2 (i32 z)) 5000 0 = some (i32 (poc p z : Nat)) := r
  rw [obb r2]
theorem mtk {h0 h : XH} {A : Nat → Nat → Int32} {S : Nat → Int32} {Z : Int64} (M : MdAt h0 h A S Z) {p : Nat → Int} (G : PgAt A p) (hc : p 63 ≤ 5) {i : Nat} (hi : (i : Int) < p 63) : fX9_tickOf h 102 (i32 (i : Nat)) = some (i32 (p (64 + 2 * i))) := by
  unfold fX9_tickOf
  rw [obb M.r0, L_64, L_2, i32_mul, i32_add, obb (M.pg G (by omega)), show (64 + 2 * (i : Int)).toNat = 64 + 2 * i by omega]
theorem mpoc {h0 h : XH} {A : Nat → Nat → Int32} {S : Nat → Int32} {Z : Int64} (M : MdAt h0 h A S Z) {p : Nat → Int} (G : PgAt A p) (hC : CP p) {z : Int} (hz : -2147483648 ≤ z ∧ z < 2147483648) : fX9_changeFrom h 102 (i32 z) = some (i32 (poc p z : Nat)) := by
  have h1 := hC.1
  obtain ⟨x, y, w⟩ := poc_ok hC z
  unfold fX9_changeFrom
  have r := xl_run (fX9_changeFrom_B2 h 102 (i32 z)) (fun i => i32 (i : Nat)) (poc p z) (i32 (poc p z : Nat)) (fun i hi => by
    have b := hC.2 i (by omega)
    have := y i hi
    unfold fX9_changeFrom_B2 fX9_changeFrom_b2
    rw [obb M.r0, L_63, obb (M.pg G (by omega)), show (63 : Int).toNat = 63 from rfl, ile_f (by omega), obb M.c, obb (mtk M G (by omega) (by omega)), ile_f (by omega), L_1, i32_add]
    rfl) (by
    unfold fX9_changeFrom_B2 fX9_changeFrom_b2
    rw [obb M.r0, L_63, obb (M.pg G (by omega)), show (63 : Int).toNat = 63 from rfl, cle (by omega)]
    by_cases q : (poc p z : Int) < p 63
    · have b := hC.2 _ q
      have := w q
      rw [if_neg (by omega), obb M.c, obb (mtk M G (by omega) q), ile_t (by omega)]
    · rw [if_pos (by omega)]) 5000 (by omega)
  have r2 : xloop (fX9_changeFrom_B2 h 102 (i32 z)) 5000 0 = some (i32 (poc p z : Nat)) := r
  rw [obb r2]
noncomputable def hch (p : Nat → Int) (z : Int) : Bool := decide ((poc p z : Int) < p 63 ∧ p (64 + 2 * poc p z) = z)
theorem chch {h : XH} {p : Nat → Int} (H : WhAt h 2 p) (hC : CP p) {z : Int} (hz : -2147483648 ≤ z ∧ z < 2147483648) : fX6_hasChange h 2 (i32 z) = some (hch p z) := by
  have h1 := hC.1
  obtain ⟨x, y, w⟩ := poc_ok hC z
  have r1 : xgR h 2 6 1 = some 4 := H.r1
  unfold fX6_hasChange hch
  rw [obb H.c, obb (cpoc H hC hz), obb H.i6, cle (by omega)]
  by_cases q : (poc p z : Int) < p 63
  · have b := hC.2 _ q
    rw [if_neg (by omega), obb r1, obb (wtk H (by omega) q), ceq (by omega)]
    by_cases q2 : p (64 + 2 * poc p z) = z
    · rw [if_pos q2, decide_eq_true ⟨q, q2⟩]
    · rw [if_neg q2, decide_eq_false (fun a => q2 a.2)]
  · rw [if_pos (by omega), decide_eq_false (fun a => q a.1)]
theorem mhch {h0 h : XH} {A : Nat → Nat → Int32} {S : Nat → Int32} {Z : Int64} (M : MdAt h0 h A S Z) {p : Nat → Int} (G : PgAt A p) (hC : CP p) {z : Int} (hz : -2147483648 ≤ z ∧ z < 2147483648) : fX9_isChange h 102 (i32 z) = some (hch p z) := by
  have h1 := hC.1
  obtain ⟨x, y, w⟩ := poc_ok hC z
  unfold fX9_isChange hch
  rw [obb M.c, obb (mpoc M G hC hz), obb M.r0, L_63, obb (M.pg G (by omega)), show (63 : Int).toNat = 63 from rfl, cle (by omega)]
  by_cases q : (poc p z : Int) < p 63
  · have b := hC.2 _ q
    rw [if_neg (by omega), obb M.c, obb (mtk M G (by omega) q), ceq (by omega)]
    by_cases q2 : p (64 + 2 * poc p z) = z
    · rw [if_pos q2, decide_eq_true ⟨q, q2⟩]
    · rw [if_neg q2, decide_eq_false (fun a => q2 a.2)]
  · rw [if_pos (by omega), decide_eq_false (fun a => q a.1)]
/-- a change dropped -/
def dc (p : Nat → Int) (i : Nat) (m : Int) : Nat → Int := fun j => if 64 + 2 * i ≤ j ∧ (j : Int) < m then p (j + 2) else if j = 63 then p 63 - 1 else p j
noncomputable def oDropC (p : Nat → Int) (z : Int) : Int × Option (Nat → Int) := if hch p z = true then (p 63 - 1, some (dc p (poc p z) (64 + 2 * (p 63 - 1)))) else (-1001, none)
theorem dc_63 (p : Nat → Int) (i : Nat) (m : Int) : dc p i m 63 = p 63 - 1 := by
  unfold dc
  rw [if_neg (by omega), if_pos rfl]
theorem dc_lo (p : Nat → Int) (i : Nat) (m : Int) {j : Nat} (h : j < 63) : dc p i m j = p j := by
  unfold dc
  rw [if_neg (by omega), if_neg (by omega)]
theorem dc_hi (p : Nat → Int) (i : Nat) {m : Int} {j : Nat} (h : j ≠ 63) (hm : m ≤ j) : dc p i m j = p j := by
  unfold dc
  rw [if_neg (by omega), if_neg h]
theorem VP.chg {p p' : Nat → Int} (hV : VP p) (e : ∀ i, (i < 62 ∨ 74 ≤ i) → p' i = p i) (r : (-1000 ≤ p' 62 ∧ p' 62 ≤ 1000) ∧ (0 ≤ p' 63 ∧ p' 63 ≤ 5) ∧ (∀ k : Nat, (k : Int) < p' 63 → (1 ≤ p' (64 + 2 * k) ∧ p' (64 + 2 * k) ≤ 1000) ∧ (-1000 ≤ p' (65 + 2 * k) ∧ p' (65 + 2 * k) ≤ 1000)) ∧ (∀ j k : Nat, j < k → (k : Int) < p' 63 → p' (64 + 2 * j) < p' (64 + 2 * k))) : VP p' := by
  have hr := hV.rd
  obtain ⟨a, b, c, -, -, -, -, s1, s2, s3, s4, s5, s6, s7, s8, s9⟩ := hV
  refine ⟨by rw [e 0 (by omega)]; exact a, fun k hk => by rw [e _ (by omega)]; exact b k hk, by rw [e 61 (by omega)]; exact c, r.1, r.2.1, r.2.2.1, r.2.2.2, ?_⟩
  rw [e 74 (by omega), e 75 (by omega), e 76 (by omega), e 93 (by omega), e 94 (by omega), e 95 (by omega), e 96 (by omega), e 97 (by omega)]
  exact ⟨s1, s2, s3, fun k hk => by rw [e _ (by omega), e _ (by omega)]; exact s4 k hk, s5, s6, s7, s8, s9⟩
theorem vDropC {p : Nat → Int} (hV : VP p) (z : Int) : VO (oDropC p z).2 := by
  have hc := hV.ch
  unfold oDropC
  split
  · rename_i q
    simp only [hch, decide_eq_true_eq] at q
    refine VO.so (hV.chg (fun i hi => ?_) ?_)
    · rcases hi with w | w
      · exact dc_lo p _ _ (by omega)
      · exact dc_hi p _ (by omega) (by omega)
    · rw [dc_63, dc_lo p _ _ (show 62 < 63 by omega)]
      refine ⟨hV.speed, by omega, fun k hk => ?_, fun j k h1 h2 => ?_⟩
      · unfold dc
        by_cases w : poc p z ≤ k
        · rw [if_pos (by omega), if_pos (by omega)]
          exact hV.cht (k + 1) (by omega)
        · rw [if_neg (by omega), if_neg (by omega), if_neg (by omega), if_neg (by omega)]
          exact hV.cht k (by omega)
      · unfold dc
        by_cases w : poc p z ≤ k
        · rw [if_pos (show 64 + 2 * poc p z ≤ 64 + 2 * k ∧ ((64 + 2 * k : Nat) : Int) < 64 + 2 * (p 63 - 1) by omega)]
          by_cases w2 : poc p z ≤ j
          · rw [if_pos (by omega)]
            exact hV.srt (j + 1) (k + 1) (by omega) (by omega)
          · rw [if_neg (by omega), if_neg (by omega)]
            exact hV.srt j (k + 1) (by omega) (by omega)
        · rw [if_neg (by omega), if_neg (by omega), if_neg (by omega), if_neg (by omega)]
          exact hV.srt j k h1 (by omega)
  · exact VO.no
theorem wrem {h : XH} {p : Nat → Int} (H : WhAt h 2 p) (hV : VP p) {z : Int} (hz : -2147483648 ≤ z ∧ z < 2147483648) (q : (poc p z : Int) < p 63) : ∃ h', fX6_removeChange h 2 (i32 z) = some h' ∧ WhAt h' 2 (dc p (poc p z) (64 + 2 * (p 63 - 1))) ∧ ∀ x, (x < 2 ∨ 5 < x) → h' x = h x := by
  have hc := hV.ch
  have pz := cpoc H hV.cp hz
  have Hc := H.c
  generalize poc p z = i at q pz ⊢
  obtain ⟨fm, ft, fs, s0, s1, s2, s3, sm, sc⟩ := H
  unfold fX6_removeChange
  obtain ⟨e, f, gt, gs, E0, E1, E2, E3, E4⟩ := xl_inv (fX6_removeChange_B6 2) (fun m s => s.2 = i32 ((i : Int) + m) ∧ ∃ gt gs, s.1 2 = h 2 ∧ s.1 4 = some (.inr (0, 5, .inl gt)) ∧ s.1 5 = some (.inr (0, 5, .inl gs)) ∧ (∀ k : Nat, k < 5 → (gt k = if i ≤ k ∧ (k : Int) < i + m then ft (k + 1) else ft k) ∧ (gs k = if i ≤ k ∧ (k : Int) < i + m then fs (k + 1) else fs k)) ∧ ∀ x, (x < 4 ∨ 5 < x) → s.1 x = h x) (p 63 - 1 - i).toNat (fun h' => ∃ gt gs, h' 2 = h 2 ∧ h' 4 = some (.inr (0, 5, .inl gt)) ∧ h' 5 = some (.inr (0, 5, .inl gs)) ∧ (∀ k : Nat, k < 5 → (gt k = if i ≤ k ∧ (k : Int) < p 63 - 1 then ft (k + 1) else ft k) ∧ (gs k = if i ≤ k ∧ (k : Int) < p 63 - 1 then fs (k + 1) else fs k)) ∧ ∀ x, (x < 4 ∨ 5 < x) → h' x = h x) (fun m s hm I => by
    obtain ⟨h2, x⟩ := s
    obtain ⟨rfl, gt, gs, I0, I1, I2, I3, I4⟩ := I
    dsimp only at I0 I1 I2 I4 ⊢
    have c7 := I0.trans s0
    have a1 := at_ok I1 (by omega) (i := (i : Int) + m + 1) (by omega)
    rw [if_pos (by omega)] at a1
    have e1 := put_ok I1 (by omega) (i := (i : Int) + m) (gt ((i : Int) + m + 1).toNat) (by omega)
    rw [if_pos (by omega)] at e1
    have I2' := (xup_n h2 (.inr (0, 5, .inl (upd gt ((i : Int) + m).toNat (gt ((i : Int) + m + 1).toNat)))) (show (5 : Nat) ≠ 4 by omega)).trans I2
    have c7' := (xup_n h2 (.inr (0, 5, .inl (upd gt ((i : Int) + m).toNat (gt ((i : Int) + m + 1).toNat)))) (show (2 : Nat) ≠ 4 by omega)).trans c7
    have a2 := at_ok I2' (by omega) (i := (i : Int) + m + 1) (by omega)
    rw [if_pos (by omega)] at a2
    have e2 := put_ok I2' (by omega) (i := (i : Int) + m) (gs ((i : Int) + m + 1).toNat) (by omega)
    rw [if_pos (by omega)] at e2
    unfold fX6_removeChange_B6 fX6_removeChange_b6
    dsimp only
    rw [obb (gI c7 6 rfl), L_1, i32_add, ile_f (by omega), obb (gR c7 1 rfl), obb (gR c7 1 rfl), obb a1, obb e1, obb (gR c7' 2 rfl), obb (gR c7' 2 rfl), obb a2, obb e2]
    have kx : ∀ x, x ≠ 4 → x ≠ 5 → (xup (xup h2 4 (.inr (0, 5, .inl (upd gt ((i : Int) + m).toNat (gt ((i : Int) + m + 1).toNat))))) 5 (.inr (0, 5, .inl (upd gs ((i : Int) + m).toNat (gs ((i : Int) + m + 1).toNat))))) x = h2 x := fun x a b => (xup_n _ _ b).trans (xup_n _ _ a)
    have k8 : (xup (xup h2 4 (.inr (0, 5, .inl (upd gt ((i : Int) + m).toNat (gt ((i : Int) + m + 1).toNat))))) 5 (.inr (0, 5, .inl (upd gs ((i : Int) + m).toNat (gs ((i : Int) + m + 1).toNat))))) 4 = some (.inr (0, 5, .inl (upd gt ((i : Int) + m).toNat (gt ((i : Int) + m + 1).toNat)))) := (xup_n _ _ (by omega)).trans (xup_s _ _ _)
    have k9 : (xup (xup h2 4 (.inr (0, 5, .inl (upd gt ((i : Int) + m).toNat (gt ((i : Int) + m + 1).toNat))))) 5 (.inr (0, 5, .inl (upd gs ((i : Int) + m).toNat (gs ((i : Int) + m + 1).toNat))))) 5 = some (.inr (0, 5, .inl (upd gs ((i : Int) + m).toNat (gs ((i : Int) + m + 1).toNat)))) := xup_s _ _ _
    refine ⟨_, rfl, by show i32 ((i : Int) + m + 1) = i32 ((i : Int) + (m + 1 : Nat)); congr 1 <;> omega, _, _, (kx 2 (by omega) (by omega)).trans I0, k8, k9, ?_, fun x hx => (kx x (by omega) (by omega)).trans (I4 x hx)⟩
    intro k k1
    have i3 := I3 k k1
    have i4 := I3 ((i : Int) + m + 1).toNat (by omega)
    rw [if_neg (by omega), if_neg (by omega)] at i4
    simp only [upd]
    by_cases w : k = ((i : Int) + m).toNat
    · rw [if_pos w, if_pos w, if_pos (by omega), if_pos (by omega), i4.1, i4.2, show ((i : Int) + m + 1).toNat = k + 1 by omega]
      exact ⟨rfl, rfl⟩
    · rw [if_neg w, if_neg w, i3.1, i3.2]
      by_cases w2 : i ≤ k ∧ (k : Int) < i + m
      · rw [if_pos w2, if_pos w2, if_pos (by omega), if_pos (by omega)]; exact ⟨rfl, rfl⟩
      · rw [if_neg w2, if_neg w2, if_neg (by omega), if_neg (by omega)]; exact ⟨rfl, rfl⟩) (fun s I => by
    obtain ⟨h2, x⟩ := s
    obtain ⟨rfl, gt, gs, I0, I1, I2, I3, I4⟩ := I
    dsimp only at I0 I1 I2 I4 ⊢
    have c7 := I0.trans s0
    unfold fX6_removeChange_B6 fX6_removeChange_b6
    dsimp only
    rw [obb (gI c7 6 rfl), L_1, i32_add, ile_t (by omega)]
    refine ⟨_, rfl, gt, gs, I0, I1, I2, fun k k1 => ?_, I4⟩
    have i3 := I3 k k1
    rw [show (i : Int) + ((p 63 - 1 - i).toNat : Nat) = p 63 - 1 by omega] at i3
    exact i3) (h, i32 (i : Nat)) ⟨by show i32 (i : Nat) = i32 ((i : Int) + (0 : Nat)); congr 1 <;> omega, ft, fs, rfl, s2, s3, fun k k1 => ⟨by rw [if_neg (by omega)], by rw [if_neg (by omega)]⟩, fun _ _ => rfl⟩ 5000 (by omega)
  have c7 := E0.trans s0
  obtain ⟨h3, e3, a3, u3⟩ := pfw c7 6 (.int (i32 (p 63 - 1))) (Nat.le_of_ble_eq_true rfl)
  rw [obb Hc, obb pz, obb f, obb (gI c7 6 rfl), L_1, i32_sub, obb e3]
  refine ⟨h3, rfl, ⟨fm, gt, gs, ?_, (u3 _ (by omega)).trans ((E4 3 (by omega)).trans s1), (u3 _ (by omega)).trans E1, (u3 _ (by omega)).trans E2, ?_, ?_⟩, fun x hx => (u3 x (by omega)).trans (E4 x (by omega))⟩
  · rw [dc_63, dc_lo p _ _ (show 0 < 63 by omega), dc_lo p _ _ (show 61 < 63 by omega), dc_lo p _ _ (show 62 < 63 by omega)]; exact a3
  · intro k k1 k2
    rw [dc_lo p _ _ (show 0 < 63 by omega)] at k2
    rw [dc_lo p _ _ (show 1 + k < 63 by omega)]
    exact sm k k1 k2
  · intro k k1 k2
    rw [dc_63] at k2
    have e := E3 k k1
    unfold dc
    by_cases w : i ≤ k
    · rw [if_pos (by omega), if_pos (by omega)] at e ⊢
      rw [e.1, e.2]
      exact sc (k + 1) (by omega) (by omega)
    · rw [if_neg (by omega), if_neg (by omega)] at e
      rw [if_neg (by omega), if_neg (by omega), if_neg (by omega), if_neg (by omega), e.1, e.2]
      exact sc k k1 (by omega)
theorem cDropC {h : XH} {p : Nat → Int} {P : Nat → Nat → Int} {bk nx : Nat} (N : NowAt h p) (H : HiAt h P bk nx) (hV : VP p) {z : Int} (hz : -2147483648 ≤ z ∧ z < 2147483648) : CW h p P bk (oDropC p z).1 (oDropC p z).2 (fX8_dropChange h 0 (i32 z)) := by
  have hc := hV.ch
  unfold fX8_dropChange oDropC
  rw [obb N.n, obb N.n0, obb N.w.c, obb (chch N.w hV.cp hz)]
  by_cases q : hch p z = true
  · rw [if_pos q, if_pos q]
    simp only [hch, decide_eq_true_eq] at q
    obtain ⟨h1, e1, N1, H1, u1⟩ := crem N H
    obtain ⟨h2, e2, W2, u2⟩ := wrem N1.w hV hz q.1
    have N2 : NowAt h2 (dc p (poc p z) (64 + 2 * (p 63 - 1))) := N1.wh W2 u2 (fun i hi => dc_hi p _ (by omega) (by omega))
    rw [obb (r_1 N), obb N.n, obb (h_c H), obb e1, obb N1.n, obb N1.n0, obb N1.w.c, obb e2, obb N2.n, obb N2.n0, obb N2.w.i6, dc_63]
    exact ⟨h2, _, rfl, N2, H1.fr (fun x hx => u2 x (by omega)), fun x hx => (u2 x (by omega)).trans (u1 x (by omega))⟩
  · rw [if_neg q, if_neg q]; rfl
theorem mDropC {h0 h : XH} {A : Nat → Nat → Int32} {S : Nat → Int32} {Z : Int64} (M : MdAt h0 h A S Z) {p : Nat → Int} {P : Nat → Nat → Int} {bk : Nat} (B : BkAt A S p P bk) (hV : VP p) {z : Int} (hz : -2147483648 ≤ z ∧ z < 2147483648) : MW h0 A S Z p P bk (oDropC p z).1 (oDropC p z).2 (fX9_dropChange h 102 (i32 z)) := by
  have hc := hV.ch
  unfold fX9_dropChange oDropC
  rw [obb M.c, obb (mhch M B.2.2.1 hV.cp hz)]
  by_cases q : hch p z = true
  · rw [if_pos q, if_pos q]
    simp only [hch, decide_eq_true_eq] at q
    obtain ⟨h1, A1, S1, e1, M1, B1, K1⟩ := mrec M B
    obtain ⟨h2, A2, e2, M2, B2, K2⟩ := B1.put M1 (i := 63) (by omega) (p 63 - 1)
    have pz := mpoc M1 B1.2.2.1 hV.cp hz
    have q1 := q.1
    generalize poc p z = i at q1 pz ⊢
    have st : pu p 63 (p 63 - 1) = dc p i (64 + 2 * i) := by
      funext j
      unfold pu dc
      by_cases w : j = 63
      · rw [if_pos w, if_neg (by omega)]
      · rw [if_neg w, if_neg (by omega)]
    rw [show (63 : Int).toNat = 63 from rfl, st] at B2
    obtain ⟨e, f, A3, E1, E2, E3⟩ := xl_inv (fX9_dropChange_B37 102) (fun m s => s.2 = i32 (2 * (i : Int) + m) ∧ ∃ A3, MdAt h0 s.1 A3 S1 Z ∧ BkAt A3 S1 (dc p i (64 + 2 * i + m)) (psh p P) (nb bk) ∧ Kw A2 A3 S1 S1) (2 * (p 63 - 1) - 2 * i).toNat (fun h' => ∃ A3, MdAt h0 h' A3 S1 Z ∧ BkAt A3 S1 (dc p i (64 + 2 * (p 63 - 1))) (psh p P) (nb bk) ∧ Kw A2 A3 S1 S1) (fun m s hm I => by
      obtain ⟨h3, x⟩ := s
      obtain ⟨rfl, A3, I1, I2, I3⟩ := I
      dsimp only at I1 ⊢
      obtain ⟨h4, A4, e4, M4, B4, K4⟩ := I2.put I1 (i := 64 + (2 * (i : Int) + m)) (by omega) (dc p i (64 + 2 * i + m) (64 + (2 * (i : Int) + m) + 2).toNat)
      unfold fX9_dropChange_B37 fX9_dropChange_b37
      dsimp only
      rw [obb I1.r0, L_63, obb (I1.pg I2.2.2.1 (by omega)), show (63 : Int).toNat = 63 from rfl, dc_63, L_2, i32_mul, ile_f (by omega), obb I1.r0, obb I1.r0, L_64, i32_add, i32_add, obb (I1.pg I2.2.2.1 (by omega)), obb e4, L_1, i32_add]
      refine ⟨_, rfl, by show i32 (2 * (i : Int) + m + 1) = i32 (2 * (i : Int) + (m + 1 : Nat)); congr 1 <;> omega, A4, M4, ?_, I3.tr K4⟩
      have eq : pu (dc p i (64 + 2 * i + m)) (64 + (2 * (i : Int) + m)).toNat (dc p i (64 + 2 * i + m) (64 + (2 * (i : Int) + m) + 2).toNat) = dc p i (64 + 2 * i + (m + 1 : Nat)) := by
        funext j
        unfold pu dc
        by_cases w : j = (64 + (2 * (i : Int) + m)).toNat
        · rw [if_pos w, if_neg (by omega), if_neg (by omega), if_pos (by omega)]
          congr 1; omega
        · rw [if_neg w]
          by_cases w2 : 64 + 2 * i ≤ j ∧ (j : Int) < 64 + 2 * i + m
          · rw [if_pos w2, if_pos (by omega)]
          · rw [if_neg w2, if_neg (show ¬ (64 + 2 * i ≤ j ∧ (j : Int) < 64 + 2 * i + (m + 1 : Nat)) by omega)]
      rw [eq] at B4
      exact B4) (fun s I => by
      obtain ⟨h3, x⟩ := s
      obtain ⟨rfl, A3, I1, I2, I3⟩ := I
      dsimp only at I1 ⊢
      unfold fX9_dropChange_B37 fX9_dropChange_b37
      dsimp only
      rw [obb I1.r0, L_63, obb (I1.pg I2.2.2.1 (by omega)), show (63 : Int).toNat = 63 from rfl, dc_63, L_2, i32_mul, ile_t (by omega)]
      rw [show 64 + 2 * (i : Int) + ((2 * (p 63 - 1) - 2 * i).toNat : Nat) = 64 + 2 * (p 63 - 1) by omega] at I2
      exact ⟨_, rfl, A3, I1, I2, I3⟩) (h2, i32 (2 * (i : Int))) ⟨by show i32 (2 * (i : Int)) = i32 (2 * (i : Int) + (0 : Nat)); congr 1 <;> omega, A2, M2, by rw [show 64 + 2 * (i : Int) + ((0 : Nat) : Int) = 64 + 2 * i by omega]; exact B2, Kw.rf _ _⟩ 5000 (by omega)
    rw [obb M.c, obb e1, obb M1.c, obb pz, L_63, obb M1.r0, obb (M1.pg B1.2.2.1 (by omega)), show (63 : Int).toNat = 63 from rfl, L_1, i32_sub, obb e2, L_2, i32_mul, obb f, obb E1.r0, obb (E1.pg E2.2.2.1 (by omega)), show (63 : Int).toNat = 63 from rfl, dc_63]
    exact ⟨e, A3, S1, rfl, E1, E2, K1.tr (K2.tr E3)⟩
  · rw [if_neg q, if_neg q]; exact ⟨h, A, S, rfl, M, Kp.rf A S⟩
