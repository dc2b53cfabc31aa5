/-! setSpeed -/
def ic (p : Nat → Int) (i : Nat) (a b : Int) : Nat → Int := fun j => if j = 63 then p 63 + 1 else if j = 64 + 2 * i then a else if j = 65 + 2 * i then b else if 66 + 2 * i ≤ j ∧ (j : Int) < 66 + 2 * p 63 then p (j - 2) else p j
theorem ic_lo (p : Nat → Int) (i : Nat) (a b : Int) {j : Nat} (h : j < 63) : ic p i a b j = p j := by
  unfold ic
  rw [if_neg (by omega), if_neg (by omega), if_neg (by omega), if_neg (by omega)]
theorem ic_hi (p : Nat → Int) {i : Nat} (a b : Int) {j : Nat} (h : 74 ≤ j) (hi : i < 5) (hc : p 63 ≤ 4) : ic p i a b j = p j := by
  unfold ic
  rw [if_neg (by omega), if_neg (by omega), if_neg (by omega), if_neg (by omega)]
theorem ic_63 (p : Nat → Int) (i : Nat) (a b : Int) : ic p i a b 63 = p 63 + 1 := by
  unfold ic
  rw [if_pos rfl]
theorem ic_tk (p : Nat → Int) (i : Nat) (a b : Int) {k : Nat} (h : (k : Int) < p 63 + 1) : ic p i a b (64 + 2 * k) = if k < i then p (64 + 2 * k) else if k = i then a else p (64 + 2 * (k - 1)) := by
  unfold ic
  rw [if_neg (by omega)]
  by_cases w : k < i
  · rw [if_pos w, if_neg (by omega), if_neg (by omega), if_neg (by omega)]
  · rw [if_neg w]
    by_cases w2 : k = i
    · rw [if_pos w2, if_pos (by omega)]
    · rw [if_neg w2, if_neg (by omega), if_neg (by omega), if_pos (by omega)]
      congr 1; omega
theorem ic_sp (p : Nat → Int) (i : Nat) (a b : Int) {k : Nat} (h : (k : Int) < p 63 + 1) : ic p i a b (65 + 2 * k) = if k < i then p (65 + 2 * k) else if k = i then b else p (65 + 2 * (k - 1)) := by
  unfold ic
  rw [if_neg (by omega)]
  by_cases w : k < i
  · rw [if_pos w, if_neg (by omega), if_neg (by omega), if_neg (by omega)]
  · rw [if_neg w]
    by_cases w2 : k = i
    · rw [if_pos w2, if_neg (by omega), if_pos (by omega)]
    · rw [if_neg w2, if_neg (by omega), if_neg (by omega), if_pos (by omega)]
      congr 1; omega
theorem ic_cp {p : Nat → Int} (hC : CP p) {a b : Int} (ha : 0 ≤ a ∧ a ≤ 1000) (hc : p 63 ≤ 4) : CP (ic p (poc p a) a b) ∧ poc (ic p (poc p a) a b) a = poc p a := by
  obtain ⟨x, y, w⟩ := poc_ok hC a
  have hC1 := hC.1
  have c1 : CP (ic p (poc p a) a b) := by
    refine ⟨by rw [ic_63]; omega, fun k hk => ?_⟩
    rw [ic_63] at hk
    rw [ic_tk p _ a b hk]
    split
    · exact hC.2 k (by omega)
    · split
      · exact ha
      · exact hC.2 (k - 1) (by omega)
  refine ⟨c1, poc_eq c1 (by rw [ic_63]; omega) (fun j hj => ?_) (fun _ => ?_)⟩
  · rw [ic_tk p _ a b (by omega), if_pos hj]
    exact y j hj
  · rw [ic_tk p _ a b (by omega), if_neg (by omega), if_pos rfl]
    exact Int.le_refl _
noncomputable def oSpeed (p : Nat → Int) (a b : Int) : Int × Option (Nat → Int) := if isT a = true then (if -1000 ≤ b ∧ b ≤ 1000 then (if a = 0 then (p 63, some (pu p 62 b)) else if hch p a = true then (p 63, some (pu p (65 + 2 * poc p a) b)) else if p 63 = 5 then (-1003, none) else (p 63 + 1, some (ic p (poc p a) a b))) else (-1001, none)) else (-1001, none)
theorem vSpeed {p : Nat → Int} (hV : VP p) (a b : Int) : VO (oSpeed p a b).2 := by
  have hc := hV.ch
  obtain ⟨x, y, w⟩ := poc_ok hV.cp a
  unfold oSpeed
  split
  · rename_i q0
    simp only [isT, decide_eq_true_eq] at q0
    split
    · rename_i q1
      split
      · refine VO.so (hV.chg (fun i hi => pu_n _ _ (by omega)) ⟨q1, hc, fun k hk => ?_, fun j k h1 h2 => ?_⟩)
        · rw [pu_n _ _ (by omega), pu_n _ _ (by omega)]; exact hV.cht k hk
        · rw [pu_n _ _ (by omega), pu_n _ _ (by omega)]; exact hV.srt j k h1 h2
      · rename_i a0
        split
        · rename_i q2
          simp only [hch, decide_eq_true_eq] at q2
          have e63 : pu p (65 + 2 * poc p a) b 63 = p 63 := pu_n _ _ (by omega)
          refine VO.so (hV.chg (fun i hi => pu_n _ _ (by omega)) ⟨by rw [pu_n _ _ (by omega)]; exact hV.speed, by rw [e63]; exact hc, fun k hk => ?_, fun j k h1 h2 => ?_⟩)
          · rw [e63] at hk
            rw [pu_n _ _ (by omega)]
            refine ⟨(hV.cht k hk).1, ?_⟩
            unfold pu
            split
            · exact q1
            · exact (hV.cht k hk).2
          · rw [e63] at h2
            rw [pu_n _ _ (by omega), pu_n _ _ (by omega)]; exact hV.srt j k h1 h2
        · rename_i q2
          simp only [hch, decide_eq_true_eq] at q2
          split
          · exact VO.no
          · rename_i q3
            refine VO.so (hV.chg (fun i hi => ?_) ⟨?_, ?_, fun k hk => ?_, fun j k h1 h2 => ?_⟩)
            · rcases hi with z | z
              · exact ic_lo p _ a b (by omega)
              · exact ic_hi p a b z (by omega) (by omega)
            · rw [ic_lo p _ a b (show 62 < 63 by omega)]; exact hV.speed
            · rw [ic_63]; omega
            · rw [ic_63] at hk
              rw [ic_tk p _ a b hk, ic_sp p _ a b hk]
              by_cases z1 : k < poc p a
              · rw [if_pos z1, if_pos z1]; exact hV.cht k (by omega)
              · rw [if_neg z1, if_neg z1]
                by_cases z2 : k = poc p a
                · rw [if_pos z2, if_pos z2]; exact ⟨by omega, q1⟩
                · rw [if_neg z2, if_neg z2]; exact hV.cht (k - 1) (by omega)
            · rw [ic_63] at h2
              have gt : (poc p a : Int) < p 63 → a < p (64 + 2 * poc p a) := fun z => by
                have := w z
                have : p (64 + 2 * poc p a) ≠ a := fun z2 => q2 ⟨z, z2⟩
                omega
              rw [ic_tk p _ a b (by omega), ic_tk p _ a b h2]
              by_cases z1 : k < poc p a
              · rw [if_pos z1, if_pos (by omega)]; exact hV.srt j k h1 (by omega)
              · rw [if_neg z1]
                by_cases z2 : k = poc p a
                · rw [if_pos z2, if_pos (by omega)]; exact y j (by omega)
                · rw [if_neg z2]
                  by_cases z3 : j < poc p a
                  · rw [if_pos z3]; exact hV.srt j (k - 1) (by omega) (by omega)
                  · rw [if_neg z3]
                    by_cases z4 : j = poc p a
                    · rw [if_pos z4]
                      have g := gt (by omega)
                      by_cases z5 : k - 1 = poc p a
                      · rw [z5]; exact g
                      · have := hV.srt (poc p a) (k - 1) (by omega) (by omega)
                        omega
                    · rw [if_neg z4]; exact hV.srt (j - 1) (k - 1) (by omega) (by omega)
    · exact VO.no
  · exact VO.no
theorem croom {h : XH} {p : Nat → Int} (H : WhAt h 2 p) (hV : VP p) {a : Int} (ha : -2147483648 ≤ a ∧ a < 2147483648) : fX6_hasRoomFor h 2 (i32 a) = some (decide (a = 0) || hch p a || decide (p 63 ≠ 5)) := by
  have hc := hV.ch
  unfold fX6_hasRoomFor
  rw [L_0, ceq (by omega)]
  by_cases q : a = 0
  · rw [if_pos q, decide_eq_true q, Bool.true_or, Bool.true_or]
  · rw [if_neg q, decide_eq_false q, Bool.false_or, obb H.c, obb (chch H hV.cp ha)]
    cases hch p a with
    | true => rfl
    | false =>
      rw [if_neg Bool.false_ne_true, obb H.i6, L_5, cle (by omega), Bool.false_or]
      by_cases q2 : p 63 = 5
      · rw [if_pos (by omega), decide_eq_false (fun z => z q2)]
      · rw [if_neg (by omega), decide_eq_true q2]
/-- the room made for a change -/
theorem cins {h : XH} {p : Nat → Int} (H : WhAt h 2 p) (hV : VP p) (hc4 : p 63 ≤ 4) {a : Int} (ha : 0 ≤ a ∧ a ≤ 1000) : ∃ h' w, fX6_insertChange h 2 (i32 a) = some h' ∧ WhAt h' 2 (ic p (poc p a) a w) ∧ ∀ x, (x < 2 ∨ 5 < x) → h' x = h x := by
  have hc := hV.ch
  have pz := cpoc H hV.cp (z := a) (by omega)
  have q := (poc_ok hV.cp a).1
  have Hc := H.c
  have H6 := H.i6
  generalize poc p a = i at q pz ⊢
  obtain ⟨fm, ft, fs, s0, s1, s2, s3, sm, sc⟩ := H
  unfold fX6_insertChange
  obtain ⟨e, f, gt, gs, E0, E1, E2, E3, E4⟩ := xl_inv (fX6_insertChange_B11 2 (i32 a) (i32 (i : Nat))) (fun m s => s.2 = i32 (p 63 - m) ∧ ∃ gt gs, s.1 2 = h 2 ∧ s.1 4 = some (.inr (0, 5, .inl gt)) ∧ s.1 5 = some (.inr (0, 5, .inl gs)) ∧ (∀ k : Nat, k < 5 → (gt k = if p 63 - m < k ∧ (k : Int) ≤ p 63 then ft (k - 1) else ft k) ∧ (gs k = if p 63 - m < k ∧ (k : Int) ≤ p 63 then fs (k - 1) else fs k)) ∧ ∀ x, (x < 4 ∨ 5 < x) → s.1 x = h x) (p 63 - i).toNat (fun h' => ∃ gt gs, h' 2 = h 2 ∧ h' 4 = some (.inr (0, 5, .inl gt)) ∧ h' 5 = some (.inr (0, 5, .inl gs)) ∧ (∀ k : Nat, k < 5 → (gt k = if (i : Int) < k ∧ (k : Int) ≤ p 63 then ft (k - 1) else ft k) ∧ (gs k = if (i : Int) < k ∧ (k : Int) ≤ p 63 then fs (k - 1) else fs k)) ∧ ∀ x, (x < 4 ∨ 5 < x) → h' x = h x) (fun m s hm I => by
    obtain ⟨h2, x⟩ := s
    obtain ⟨rfl, gt, gs, I0, I1, I2, I3, I4⟩ := I
    dsimp only at I0 I1 I2 I4 ⊢
    have c7 := I0.trans s0
    have a1 := at_ok I1 (by omega) (i := p 63 - m - 1) (by omega)
    rw [if_pos (by omega)] at a1
    have e1 := put_ok I1 (by omega) (i := p 63 - m) (gt (p 63 - m - 1).toNat) (by omega)
    rw [if_pos (by omega)] at e1
    have I2' := (xup_n h2 (.inr (0, 5, .inl (upd gt (p 63 - m).toNat (gt (p 63 - m - 1).toNat)))) (show (5 : Nat) ≠ 4 by omega)).trans I2
    have c7' := (xup_n h2 (.inr (0, 5, .inl (upd gt (p 63 - m).toNat (gt (p 63 - m - 1).toNat)))) (show (2 : Nat) ≠ 4 by omega)).trans c7
    have a2 := at_ok I2' (by omega) (i := p 63 - m - 1) (by omega)
    rw [if_pos (by omega)] at a2
    have e2 := put_ok I2' (by omega) (i := p 63 - m) (gs (p 63 - m - 1).toNat) (by omega)
    rw [if_pos (by omega)] at e2
    unfold fX6_insertChange_B11 fX6_insertChange_b11
    dsimp only
    rw [ile_f (by omega), obb (gR c7 1 rfl), obb (gR c7 1 rfl), L_m1, L_1, i32_sub, obb a1, obb e1, obb (gR c7' 2 rfl), obb (gR c7' 2 rfl), obb a2, obb e2, i32_add]
    have kx : ∀ x, x ≠ 4 → x ≠ 5 → (xup (xup h2 4 (.inr (0, 5, .inl (upd gt (p 63 - m).toNat (gt (p 63 - m - 1).toNat))))) 5 (.inr (0, 5, .inl (upd gs (p 63 - m).toNat (gs (p 63 - m - 1).toNat))))) x = h2 x := fun x a b => (xup_n _ _ b).trans (xup_n _ _ a)
    have k8 : (xup (xup h2 4 (.inr (0, 5, .inl (upd gt (p 63 - m).toNat (gt (p 63 - m - 1).toNat))))) 5 (.inr (0, 5, .inl (upd gs (p 63 - m).toNat (gs (p 63 - m - 1).toNat))))) 4 = some (.inr (0, 5, .inl (upd gt (p 63 - m).toNat (gt (p 63 - m - 1).toNat)))) := (xup_n _ _ (by omega)).trans (xup_s _ _ _)
    have k9 : (xup (xup h2 4 (.inr (0, 5, .inl (upd gt (p 63 - m).toNat (gt (p 63 - m - 1).toNat))))) 5 (.inr (0, 5, .inl (upd gs (p 63 - m).toNat (gs (p 63 - m - 1).toNat))))) 5 = some (.inr (0, 5, .inl (upd gs (p 63 - m).toNat (gs (p 63 - m - 1).toNat)))) := xup_s _ _ _
    refine ⟨_, rfl, by show i32 (p 63 - m + -1) = i32 (p 63 - (m + 1 : Nat)); congr 1 <;> omega, _, _, (kx 2 (by omega) (by omega)).trans I0, k8, k9, ?_, fun x hx => (kx x (by omega) (by omega)).trans (I4 x hx)⟩
    intro k k1
    have i3 := I3 k k1
    have i4 := I3 (p 63 - m - 1).toNat (by omega)
    rw [if_neg (by omega), if_neg (by omega)] at i4
    simp only [upd]
    by_cases w : k = (p 63 - m).toNat
    · rw [if_pos w, if_pos w, if_pos (by omega), if_pos (by omega), i4.1, i4.2, show (p 63 - m - 1).toNat = k - 1 by omega]
      exact ⟨rfl, rfl⟩
    · rw [if_neg w, if_neg w, i3.1, i3.2]
      by_cases w2 : p 63 - m < (k : Int) ∧ (k : Int) ≤ p 63
      · rw [if_pos w2, if_pos w2, if_pos (by omega), if_pos (by omega)]; exact ⟨rfl, rfl⟩
      · rw [if_neg w2, if_neg w2, if_neg (by omega), if_neg (by omega)]; exact ⟨rfl, rfl⟩) (fun s I => by
    obtain ⟨h2, x⟩ := s
    obtain ⟨rfl, gt, gs, I0, I1, I2, I3, I4⟩ := I
    dsimp only at I0 I1 I2 I4 ⊢
    unfold fX6_insertChange_B11 fX6_insertChange_b11
    dsimp only
    rw [ile_t (by omega)]
    refine ⟨_, rfl, gt, gs, I0, I1, I2, fun k k1 => ?_, I4⟩
    have i3 := I3 k k1
    rw [show p 63 - ((p 63 - i).toNat : Nat) = (i : Int) by omega] at i3
    exact i3) (h, i32 (p 63)) ⟨by show i32 (p 63) = i32 (p 63 - (0 : Nat)); congr 1 <;> omega, ft, fs, rfl, s2, s3, fun k k1 => ⟨by rw [if_neg (by omega)], by rw [if_neg (by omega)]⟩, fun _ _ => rfl⟩ 5000 (by omega)
  have c7 := E0.trans s0
  have e1 := put_ok E1 (by omega) (i := (i : Int)) (i32 a) (by omega)
  rw [if_pos (by omega), Int.toNat_natCast] at e1
  have c7' := (xup_n e (.inr (0, 5, .inl (upd gt i (i32 a)))) (show (2 : Nat) ≠ 4 by omega)).trans c7
  obtain ⟨h3, e3, a3, u3⟩ := pfw c7' 6 (.int (i32 (p 63 + 1))) (Nat.le_of_ble_eq_true rfl)
  rw [obb Hc, obb pz, obb H6, obb f, obb (gR c7 1 rfl), obb e1, obb (gI c7' 6 rfl), L_1, i32_add, obb e3]
  have fr : ∀ x, x ≠ 2 → x ≠ 4 → h3 x = e x := fun x p1 p2 => (u3 x p1).trans (xup_n _ _ p2)
  refine ⟨h3, (fs i).toInt, rfl, ⟨fm, upd gt i (i32 a), gs, ?_, (fr 3 (by omega) (by omega)).trans ((E4 3 (by omega)).trans s1), (u3 4 (by omega)).trans (xup_s _ _ _), (fr 5 (by omega) (by omega)).trans E2, ?_, ?_⟩, fun x hx => (fr x (by omega) (by omega)).trans (E4 x (by omega))⟩
  · rw [ic_63, ic_lo p _ _ _ (show 0 < 63 by omega), ic_lo p _ _ _ (show 61 < 63 by omega), ic_lo p _ _ _ (show 62 < 63 by omega)]; exact a3
  · intro k k1 k2
    rw [ic_lo p _ _ _ (show 0 < 63 by omega)] at k2
    rw [ic_lo p _ _ _ (show 1 + k < 63 by omega)]
    exact sm k k1 k2
  · intro k k1 k2
    rw [ic_63] at k2
    have ee := E3 k k1
    rw [ic_tk p _ _ _ k2, ic_sp p _ _ _ k2]
    simp only [upd]
    by_cases w : k < i
    · rw [if_neg (by omega), if_neg (by omega)] at ee
      rw [if_neg (by omega), if_pos w, if_pos w, ee.1, ee.2]
      exact sc k k1 (by omega)
    · by_cases w2 : k = i
      · rw [if_neg (by omega), if_neg (by omega)] at ee
        rw [if_pos w2, if_neg w, if_neg w, if_pos w2, if_pos w2, ee.2, w2, i32_of]
        exact ⟨rfl, rfl⟩
      · rw [if_pos (by omega), if_pos (by omega)] at ee
        rw [if_neg w2, if_neg w, if_neg w, if_neg w2, if_neg w2, ee.1, ee.2]
        exact sc (k - 1) (by omega) (by omega)
/-- a speed in its place -/
theorem cputs {h : XH} {p p' : Nat → Int} (H : WhAt h 2 p) (hc : p 63 ≤ 5) {i : Nat} (hi : (i : Int) < p 63) (b : Int) (e : p' = pu p (65 + 2 * i) b) : ∃ h', fX8_put h 5 (i32 (i : Nat)) (i32 b) = some h' ∧ WhAt h' 2 p' ∧ ∀ x, x ≠ 5 → h' x = h x := by
  subst e
  obtain ⟨fm, ft, fs, s0, s1, s2, s3, sm, sc⟩ := H
  have e1 : fX8_put h 5 (i32 (i : Nat)) (i32 b) = _ := put_ok s3 (by omega) (i := (i : Int)) (i32 b) (by omega)
  rw [if_pos (by omega), Int.toNat_natCast] at e1
  refine ⟨_, e1, ⟨fm, ft, upd fs i (i32 b), ?_, (xup_n _ _ (by omega)).trans s1, (xup_n _ _ (by omega)).trans s2, xup_s _ _ _, ?_, ?_⟩, fun x hx => xup_n _ _ hx⟩
  · rw [pu_n _ _ (by omega), pu_n _ _ (by omega), pu_n _ _ (by omega), pu_n _ _ (by omega)]; exact (xup_n _ _ (by omega)).trans s0
  · intro k k1 k2
    rw [pu_n _ _ (by omega)] at k2
    rw [pu_n _ _ (by omega)]; exact sm k k1 k2
  · intro k k1 k2
    rw [pu_n _ _ (by omega)] at k2
    rw [pu_n _ _ (by omega)]
    refine ⟨(sc k k1 k2).1, ?_⟩
    simp only [upd, pu]
    by_cases w : k = i
    · rw [if_pos w, if_pos (by omega)]
    · rw [if_neg w, if_neg (by omega)]; exact (sc k k1 k2).2
theorem ic_pu (p : Nat → Int) (i : Nat) (a b w : Int) : ic p i a b = pu (ic p i a w) (65 + 2 * i) b := by
  funext j
  unfold pu ic
  by_cases q : j = 65 + 2 * i
  · rw [if_pos q, if_neg (by omega), if_neg (by omega), if_pos q]
  · rw [if_neg q, if_neg q, if_neg q]
theorem cSpeedW {h : XH} {p : Nat → Int} {P : Nat → Nat → Int} {bk nx : Nat} (N : NowAt h p) (H : HiAt h P bk nx) (hV : VP p) {a b : Int} (ha : -2147483648 ≤ a ∧ a < 2147483648) (hb : -2147483648 ≤ b ∧ b < 2147483648) : CW h p P bk (oSpeed p a b).1 (oSpeed p a b).2 (fX8_setSpeed h 0 (i32 a) (i32 b)) := by
  have hc := hV.ch
  unfold fX8_setSpeed oSpeed
  rw [obb (ctick ha)]
  by_cases q0 : isT a = true
  rotate_left
  · rw [if_neg q0, if_neg q0]; rfl
  rw [if_pos q0, if_pos q0, L_m1000, L_1000, obb (within_ok hb (by omega) (by omega))]
  simp only [isT, decide_eq_true_eq] at q0 ⊢
  by_cases q1 : -1000 ≤ b ∧ b ≤ 1000
  rotate_left
  · rw [if_neg q1, if_neg q1]; rfl
  rw [if_pos q1, if_pos q1, obb N.n, obb N.n0, obb N.w.c, obb (croom N.w hV ha)]
  obtain ⟨h1, e1, N1, H1, u1⟩ := crem N H
  have go : ∀ (p' : Nat → Int) (h2 : XH), fX6_putSpeed h1 2 (i32 a) (i32 b) = some h2 → WhAt h2 2 p' → (∀ x, (x < 2 ∨ 5 < x) → h2 x = h1 x) → (∀ i, 74 ≤ i → p' i = p i) → CW h p P bk (p' 63) (some p') ((xgR h 0 8 1).bind fun v12 => (xgR h 0 8 0).bind fun v14 => (xco h v12 3).bind fun _ => (fX3_remember h v12 v14).bind fun h17 => (xgR h17 0 8 0).bind fun v19 => (xgR h17 v19 5 0).bind fun v21 => (xco h17 v21 6).bind fun _ => (fX6_putSpeed h17 v21 (i32 a) (i32 b)).bind fun h24 => (xgR h24 0 8 0).bind fun v26 => (xgR h24 v26 5 0).bind fun v28 => (xgI h24 v28 6 6).bind fun v30 => some (v30, h24)) := by
    intro p' h2 e2 W2 u2 ep
    have N2 : NowAt h2 p' := N1.wh W2 u2 ep
    rw [obb (r_1 N), obb N.n, obb (h_c H), obb e1, obb N1.n, obb N1.n0, obb N1.w.c, obb e2, obb N2.n, obb N2.n0, obb N2.w.i6]
    exact ⟨h2, _, rfl, N2, H1.fr (fun x hx => u2 x (by omega)), fun x hx => (u2 x (by omega)).trans (u1 x (by omega))⟩
  obtain ⟨x, y, w⟩ := poc_ok hV.cp a
  by_cases a0 : a = 0
  · rw [decide_eq_true a0, Bool.true_or, Bool.true_or, if_pos rfl, if_pos a0]
    obtain ⟨fm, ft, fs, s0, s1, s2, s3, sm, sc⟩ := N1.w
    obtain ⟨h2, e2, a2, u2⟩ := pfw s0 5 (.int (i32 b)) (Nat.le_of_ble_eq_true rfl)
    refine go (pu p 62 b) h2 ?_ ⟨fm, ft, fs, a2, (u2 _ (by omega)).trans s1, (u2 _ (by omega)).trans s2, (u2 _ (by omega)).trans s3, fun k k1 k2 => by rw [pu_n _ _ (by omega)]; exact sm k k1 k2, fun k k1 k2 => by rw [pu_n _ _ (by omega), pu_n _ _ (by omega)]; exact sc k k1 k2⟩ (fun x hx => u2 x (by omega)) (fun i hi => pu_n _ _ (by omega))
    unfold fX6_putSpeed
    rw [L_0, ieq_t a0, obb e2]
  · rw [decide_eq_false a0, Bool.false_or, if_neg a0]
    cases hq : hch p a with
    | true =>
      rw [Bool.true_or, if_pos rfl, if_pos rfl]
      have q2 := hq
      simp only [hch, decide_eq_true_eq] at q2
      obtain ⟨h2, e2, W2, u2⟩ := cputs N1.w hc.2 q2.1 b rfl
      have r2 : xgR h1 2 6 2 = some 5 := N1.w.r2
      have g := go (pu p (65 + 2 * poc p a) b) h2 (by
        unfold fX6_putSpeed
        rw [L_0, ieq_f (by omega), obb N1.w.c, obb (chch N1.w hV.cp ha), hq, if_pos rfl, obb r2, obb N1.w.c, obb (cpoc N1.w hV.cp ha), obb e2]) W2 (fun x hx => u2 x (by omega)) (fun i hi => pu_n _ _ (by omega))
      rw [pu_n _ _ (show 63 ≠ 65 + 2 * poc p a by omega)] at g
      exact g
    | false =>
      rw [Bool.false_or, if_neg Bool.false_ne_true]
      by_cases q3 : p 63 = 5
      · rw [decide_eq_false (fun z => z q3), if_neg Bool.false_ne_true, if_pos q3]; rfl
      · rw [decide_eq_true q3, if_pos rfl, if_neg q3]
        obtain ⟨h2, w2, e2, W2, u2⟩ := cins N1.w hV (by omega) (a := a) q0
        obtain ⟨cp2, pe2⟩ := ic_cp hV.cp (b := w2) q0 (show p 63 ≤ 4 by omega)
        have pz := cpoc W2 cp2 ha
        rw [pe2] at pz
        obtain ⟨h3, e3, W3, u3⟩ := cputs W2 (by rw [ic_63]; omega) (i := poc p a) (by rw [ic_63]; omega) b (ic_pu p (poc p a) a b w2)
        have r2 : xgR h2 2 6 2 = some 5 := W2.r2
        have g := go (ic p (poc p a) a b) h3 (by
          unfold fX6_putSpeed
          rw [L_0, ieq_f (by omega), obb N1.w.c, obb (chch N1.w hV.cp ha), hq, if_neg Bool.false_ne_true, obb N1.w.c, obb e2, obb r2, obb W2.c, obb pz, obb e3]) W3 (fun x hx => (u3 x (by omega)).trans (u2 x hx)) (fun i hi => ic_hi p a b hi (by omega) (by omega))
        rw [ic_63] at g
        exact g
/-- the model's shift, m steps of it -/
def sh (p : Nat → Int) (m : Int) : Nat → Int := fun j => if 66 + 2 * p 63 - m ≤ j ∧ (j : Int) < 66 + 2 * p 63 then p (j - 2) else p j
