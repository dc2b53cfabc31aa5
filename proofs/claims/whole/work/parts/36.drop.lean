/-! dropping a reading -/
def dr (p : Nat → Int) (i : Nat) (m : Int) : Nat → Int := fun j => if 77 + 2 * i ≤ j ∧ (j : Int) < m then p (j + 2) else if j = 76 then p 76 - 1 else p j
noncomputable def oDropR (p : Nat → Int) (z : Int) : Int × Option (Nat → Int) := if 0 ≤ z ∧ z ≤ p 76 - 1 then (p 76 - 1, some (dr p z.toNat (77 + 2 * (p 76 - 1)))) else (-1001, none)
theorem dr_76 (p : Nat → Int) (i : Nat) (m : Int) : dr p i m 76 = p 76 - 1 := by
  unfold dr
  rw [if_neg (by omega), if_pos rfl]
theorem dr_lo (p : Nat → Int) (i : Nat) (m : Int) {j : Nat} (h : j < 76) : dr p i m j = p j := by
  unfold dr
  rw [if_neg (by omega), if_neg (by omega)]
theorem dr_hi (p : Nat → Int) (i : Nat) {m : Int} {j : Nat} (h : j ≠ 76) (hm : m ≤ j) : dr p i m j = p j := by
  unfold dr
  rw [if_neg (by omega), if_neg h]
theorem vDropR {p : Nat → Int} (hV : VP p) (z : Int) : VO (oDropR p z).2 := by
  have hr := hV.rd
  unfold oDropR
  split
  · rename_i q
    obtain ⟨r1, r2, r3, r4, r5, r6, r7, r8⟩ := hV.lo
    refine VO.so (hV.hi (fun i hi => dr_lo p _ _ (by omega)) ?_)
    rw [dr_lo p _ _ (by omega), dr_lo p _ _ (by omega), dr_76, dr_hi p _ (j := 93) (by omega) (by omega), dr_hi p _ (j := 94) (by omega) (by omega), dr_hi p _ (j := 95) (by omega) (by omega), dr_hi p _ (j := 96) (by omega) (by omega), dr_hi p _ (j := 97) (by omega) (by omega)]
    refine ⟨r1, r2, by omega, fun k hk => ?_, r5, r6, r7, r8⟩
    unfold dr
    by_cases w : z.toNat ≤ k
    · rw [if_pos (by omega), if_pos (by omega)]
      exact r4 (k + 1) (by omega)
    · rw [if_neg (by omega), if_neg (by omega), if_neg (by omega), if_neg (by omega)]
      exact r4 k (by omega)
  · exact VO.no
theorem rrem {h : XH} {p : Nat → Int} (H : RdAt h 7 p) (hV : VP p) {z : Int} (q : 0 ≤ z ∧ z ≤ p 76 - 1) : ∃ h', fX4_remove h 7 (i32 z) = some h' ∧ RdAt h' 7 (dr p z.toNat (77 + 2 * (p 76 - 1))) ∧ ∀ x, (x < 7 ∨ 9 < x) → h' x = h x := by
  have hr := hV.rd
  obtain ⟨ft, fs, s0, s1, s2, sc⟩ := H
  unfold fX4_remove
  obtain ⟨e, f, gt, gs, E0, E1, E2, E3, E4⟩ := xl_inv (fX4_remove_B2 7) (fun m s => s.2 = i32 (z + m) ∧ ∃ gt gs, s.1 7 = h 7 ∧ s.1 8 = some (.inr (0, 8, .inl gt)) ∧ s.1 9 = some (.inr (0, 8, .inl gs)) ∧ (∀ k : Nat, k < 8 → (gt k = if z ≤ k ∧ (k : Int) < z + m then ft (k + 1) else ft k) ∧ (gs k = if z ≤ k ∧ (k : Int) < z + m then fs (k + 1) else fs k)) ∧ ∀ x, (x < 7 ∨ 9 < x) → s.1 x = h x) (p 76 - 1 - z).toNat (fun h' => ∃ gt gs, h' 7 = h 7 ∧ h' 8 = some (.inr (0, 8, .inl gt)) ∧ h' 9 = some (.inr (0, 8, .inl gs)) ∧ (∀ k : Nat, k < 8 → (gt k = if z ≤ k ∧ (k : Int) < p 76 - 1 then ft (k + 1) else ft k) ∧ (gs k = if z ≤ k ∧ (k : Int) < p 76 - 1 then fs (k + 1) else fs k)) ∧ ∀ x, (x < 7 ∨ 9 < x) → h' x = h x) (fun m s hm I => by
    obtain ⟨h2, x⟩ := s
    obtain ⟨rfl, gt, gs, I0, I1, I2, I3, I4⟩ := I
    dsimp only at I0 I1 I2 I4 ⊢
    have c7 := I0.trans s0
    have a1 := at_ok I1 (by omega) (i := z + m + 1) (by omega)
    rw [if_pos (by omega)] at a1
    have e1 := put_ok I1 (by omega) (i := z + m) (gt (z + m + 1).toNat) (by omega)
    rw [if_pos (by omega)] at e1
    have I2' := (xup_n h2 (.inr (0, 8, .inl (upd gt (z + m).toNat (gt (z + m + 1).toNat)))) (show (9 : Nat) ≠ 8 by omega)).trans I2
    have c7' := (xup_n h2 (.inr (0, 8, .inl (upd gt (z + m).toNat (gt (z + m + 1).toNat)))) (show (7 : Nat) ≠ 8 by omega)).trans c7
    have a2 := at_ok I2' (by omega) (i := z + m + 1) (by omega)
    rw [if_pos (by omega)] at a2
    have e2 := put_ok I2' (by omega) (i := z + m) (gs (z + m + 1).toNat) (by omega)
    rw [if_pos (by omega)] at e2
    unfold fX4_remove_B2 fX4_remove_b2
    dsimp only
    rw [obb (gI c7 2 rfl), L_1, i32_add, ile_f (by omega), obb (gR c7 0 rfl), obb (gR c7 0 rfl), obb a1, obb e1, obb (gR c7' 1 rfl), obb (gR c7' 1 rfl), obb a2, obb e2]
    have kx : ∀ x, x ≠ 8 → x ≠ 9 → (xup (xup h2 8 (.inr (0, 8, .inl (upd gt (z + m).toNat (gt (z + m + 1).toNat))))) 9 (.inr (0, 8, .inl (upd gs (z + m).toNat (gs (z + m + 1).toNat))))) x = h2 x := fun x a b => (xup_n _ _ b).trans (xup_n _ _ a)
    have k8 : (xup (xup h2 8 (.inr (0, 8, .inl (upd gt (z + m).toNat (gt (z + m + 1).toNat))))) 9 (.inr (0, 8, .inl (upd gs (z + m).toNat (gs (z + m + 1).toNat))))) 8 = some (.inr (0, 8, .inl (upd gt (z + m).toNat (gt (z + m + 1).toNat)))) := (xup_n _ _ (by omega)).trans (xup_s _ _ _)
    have k9 : (xup (xup h2 8 (.inr (0, 8, .inl (upd gt (z + m).toNat (gt (z + m + 1).toNat))))) 9 (.inr (0, 8, .inl (upd gs (z + m).toNat (gs (z + m + 1).toNat))))) 9 = some (.inr (0, 8, .inl (upd gs (z + m).toNat (gs (z + m + 1).toNat)))) := xup_s _ _ _
    refine ⟨_, rfl, by show i32 (z + m + 1) = i32 (z + (m + 1 : Nat)); congr 1; omega, _, _, (kx 7 (by omega) (by omega)).trans I0, k8, k9, ?_, fun x hx => (kx x (by omega) (by omega)).trans (I4 x hx)⟩
    intro k k1
    have i3 := I3 k k1
    have i4 := I3 (z + m + 1).toNat (by omega)
    rw [if_neg (by omega), if_neg (by omega)] at i4
    simp only [upd]
    by_cases w : k = (z + m).toNat
    · rw [if_pos w, if_pos w, if_pos (by omega), if_pos (by omega), i4.1, i4.2, show (z + m + 1).toNat = k + 1 by omega]
      exact ⟨rfl, rfl⟩
    · rw [if_neg w, if_neg w, i3.1, i3.2]
      by_cases w2 : z ≤ (k : Int) ∧ (k : Int) < z + m
      · rw [if_pos w2, if_pos w2, if_pos (by omega), if_pos (by omega)]; exact ⟨rfl, rfl⟩
      · rw [if_neg w2, if_neg w2, if_neg (by omega), if_neg (by omega)]; exact ⟨rfl, rfl⟩) (fun s I => by
    obtain ⟨h2, x⟩ := s
    obtain ⟨rfl, gt, gs, I0, I1, I2, I3, I4⟩ := I
    dsimp only at I0 I1 I2 I4 ⊢
    have c7 := I0.trans s0
    unfold fX4_remove_B2 fX4_remove_b2
    dsimp only
    rw [obb (gI c7 2 rfl), L_1, i32_add, ile_t (by omega)]
    refine ⟨_, rfl, gt, gs, I0, I1, I2, fun k k1 => ?_, I4⟩
    have i3 := I3 k k1
    rw [show z + ((p 76 - 1 - z).toNat : Nat) = p 76 - 1 by omega] at i3
    exact i3) (h, i32 z) ⟨by show i32 z = i32 (z + (0 : Nat)); congr 1; omega, ft, fs, rfl, s1, s2, fun k k1 => ⟨by rw [if_neg (by omega)], by rw [if_neg (by omega)]⟩, fun _ _ => rfl⟩ 5000 (by omega)
  have c7 := E0.trans s0
  obtain ⟨h3, e3, a3, u3⟩ := pfw c7 2 (.int (i32 (p 76 - 1))) (Nat.le_of_ble_eq_true rfl)
  rw [obb f, obb (gI c7 2 rfl), L_1, i32_sub, obb e3]
  refine ⟨h3, rfl, ⟨gt, gs, ?_, (u3 _ (by omega)).trans E1, (u3 _ (by omega)).trans E2, ?_⟩, fun x hx => (u3 x (by omega)).trans (E4 x hx)⟩
  · rw [dr_76, dr_hi p _ (j := 93) (by omega) (by omega)]; exact a3
  · intro k k1 k2
    rw [dr_76] at k2
    have e := E3 k k1
    unfold dr
    by_cases w : z.toNat ≤ k
    · rw [if_pos (by omega), if_pos (by omega)] at e ⊢
      rw [e.1, e.2]
      exact sc (k + 1) (by omega) (by omega)
    · rw [if_neg (by omega), if_neg (by omega)] at e
      rw [if_neg (by omega), if_neg (by omega), if_neg (by omega), if_neg (by omega), e.1, e.2]
      exact sc k k1 (by omega)
theorem cDropR {h : XH} {p : Nat → Int} {P : Nat → Nat → Int} {bk nx : Nat} (N : NowAt h p) (H : HiAt h P bk nx) (hV : VP p) {z : Int} (hz : -2147483648 ≤ z ∧ z < 2147483648) : CW h p P bk (oDropR p z).1 (oDropR p z).2 (fX8_dropReading h 0 (i32 z)) := by
  have hr := hV.rd
  unfold fX8_dropReading oDropR
  rw [obb N.c, obb (cisrd N hV hz)]
  simp only [decide_eq_true_eq]
  by_cases q : 0 ≤ z ∧ z ≤ p 76 - 1
  · rw [if_pos q, if_pos q]
    obtain ⟨h1, e1, N1, H1, u1⟩ := crem N H
    obtain ⟨h2, e2, R2, u2⟩ := rrem N1.rd hV q
    have N2 : NowAt h2 (dr p z.toNat (77 + 2 * (p 76 - 1))) := N1.rdw R2 u2 (fun i hi => by
      rcases hi with w | w
      · exact dr_lo p _ _ w
      · exact dr_hi p _ (by omega) (by omega))
    rw [obb (r_1 N), obb N.n, obb (h_c H), obb e1, obb N1.n, obb N1.n2, obb N1.rd.c, obb e2, obb N2.n, obb N2.n2, obb N2.rd.i2, dr_76]
    exact ⟨h2, _, rfl, N2, H1.fr (fun x hx => u2 x (by omega)), fun x hx => (u2 x (by omega)).trans (u1 x (by omega))⟩
  · rw [if_neg q, if_neg q]; rfl
theorem mDropR {h0 h : XH} {A : Nat → Nat → Int32} {S : Nat → Int32} {Z : Int64} (M : MdAt h0 h A S Z) {p : Nat → Int} {P : Nat → Nat → Int} {bk : Nat} (B : BkAt A S p P bk) (hV : VP p) {z : Int} (hz : -2147483648 ≤ z ∧ z < 2147483648) : MW h0 A S Z p P bk (oDropR p z).1 (oDropR p z).2 (fX9_dropReading h 102 (i32 z)) := by
  have hr := hV.rd
  unfold fX9_dropReading oDropR
  rw [obb M.c, obb (misrd M B.2.2.1 hV hz)]
  simp only [decide_eq_true_eq]
  by_cases q : 0 ≤ z ∧ z ≤ p 76 - 1
  · rw [if_pos q, if_pos q]
    obtain ⟨h1, A1, S1, e1, M1, B1, K1⟩ := mrec M B
    obtain ⟨h2, A2, e2, M2, B2, K2⟩ := B1.put M1 (i := 76) (by omega) (p 76 - 1)
    have st : pu p 76 (p 76 - 1) = dr p z.toNat (77 + 2 * z) := by
      funext j
      unfold pu dr
      by_cases w : j = 76
      · rw [if_pos w, if_neg (by omega)]
      · rw [if_neg w, if_neg (by omega)]
    rw [show (76 : Int).toNat = 76 from rfl, st] at B2
    obtain ⟨e, f, A3, E1, E2, E3⟩ := xl_inv (fX9_dropReading_B31 102) (fun m s => s.2 = i32 (2 * z + m) ∧ ∃ A3, MdAt h0 s.1 A3 S1 Z ∧ BkAt A3 S1 (dr p z.toNat (77 + 2 * z + m)) (psh p P) (nb bk) ∧ Kw A2 A3 S1 S1) (2 * (p 76 - 1) - 2 * z).toNat (fun h' => ∃ A3, MdAt h0 h' A3 S1 Z ∧ BkAt A3 S1 (dr p z.toNat (77 + 2 * (p 76 - 1))) (psh p P) (nb bk) ∧ Kw A2 A3 S1 S1) (fun m s hm I => by
      obtain ⟨h3, x⟩ := s
      obtain ⟨rfl, A3, I1, I2, I3⟩ := I
      dsimp only at I1 ⊢
      obtain ⟨h4, A4, e4, M4, B4, K4⟩ := I2.put I1 (i := 77 + (2 * z + m)) (by omega) (dr p z.toNat (77 + 2 * z + m) (77 + (2 * z + m) + 2).toNat)
      unfold fX9_dropReading_B31 fX9_dropReading_b31
      dsimp only
      rw [obb I1.r0, L_76, obb (I1.pg I2.2.2.1 (by omega)), show (76 : Int).toNat = 76 from rfl, dr_76, L_2, i32_mul, ile_f (by omega), obb I1.r0, obb I1.r0, L_77, i32_add, i32_add, obb (I1.pg I2.2.2.1 (by omega)), obb e4, L_1, i32_add]
      refine ⟨_, rfl, by show i32 (2 * z + m + 1) = i32 (2 * z + (m + 1 : Nat)); congr 1; omega, A4, M4, ?_, I3.tr K4⟩
      have eq : pu (dr p z.toNat (77 + 2 * z + m)) (77 + (2 * z + m)).toNat (dr p z.toNat (77 + 2 * z + m) (77 + (2 * z + m) + 2).toNat) = dr p z.toNat (77 + 2 * z + (m + 1 : Nat)) := by
        funext j
        unfold pu dr
        by_cases w : j = (77 + (2 * z + m)).toNat
        · rw [if_pos w, if_neg (by omega), if_neg (by omega), if_pos (by omega)]
          congr 1; omega
        · rw [if_neg w]
          by_cases w2 : 77 + 2 * z.toNat ≤ j ∧ (j : Int) < 77 + 2 * z + m
          · rw [if_pos w2, if_pos (by omega)]
          · rw [if_neg w2, if_neg (show ¬ (77 + 2 * z.toNat ≤ j ∧ (j : Int) < 77 + 2 * z + (m + 1 : Nat)) by omega)]
      rw [eq] at B4
      exact B4) (fun s I => by
      obtain ⟨h3, x⟩ := s
      obtain ⟨rfl, A3, I1, I2, I3⟩ := I
      dsimp only at I1 ⊢
      unfold fX9_dropReading_B31 fX9_dropReading_b31
      dsimp only
      rw [obb I1.r0, L_76, obb (I1.pg I2.2.2.1 (by omega)), show (76 : Int).toNat = 76 from rfl, dr_76, L_2, i32_mul, ile_t (by omega)]
      rw [show 77 + 2 * z + ((2 * (p 76 - 1) - 2 * z).toNat : Nat) = 77 + 2 * (p 76 - 1) by omega] at I2
      exact ⟨_, rfl, A3, I1, I2, I3⟩) (h2, i32 (2 * z)) ⟨by show i32 (2 * z) = i32 (2 * z + (0 : Nat)); congr 1; omega, A2, M2, by rw [show 77 + 2 * z + ((0 : Nat) : Int) = 77 + 2 * z by omega]; exact B2, Kw.rf _ _⟩ 5000 (by omega)
    rw [obb M.c, obb e1, L_76, obb M1.r0, obb (M1.pg B1.2.2.1 (by omega)), show (76 : Int).toNat = 76 from rfl, L_1, i32_sub, obb e2, L_2, i32_mul, obb f, obb E1.r0, obb (E1.pg E2.2.2.1 (by omega)), show (76 : Int).toNat = 76 from rfl, dr_76]
    exact ⟨e, A3, S1, rfl, E1, E2, K1.tr (K2.tr E3)⟩
  · rw [if_neg q, if_neg q]; exact ⟨h, A, S, rfl, M, Kp.rf A S⟩
