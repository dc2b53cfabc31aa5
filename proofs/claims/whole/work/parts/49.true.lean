theorem cini {h : XH} (h0 : h 0 = some (.inl (8, [.null, .null, .null, .null, .null]))) : ∃ h', fX8_init h 1 0 = some h' ∧ RC h' dfp (fun _ => dfp) 0 (fun _ => 32) 0 0 ∧ frz h h' := by
  unfold fX8_init fX7_init fX0_init
  simp only [Nat.reduceAdd]
  obtain ⟨h1, e1, c1, u1⟩ := nwu h 1 (.inl (5, [.null, .null, .null, .null]))
  obtain ⟨h2, e2, S2, u2⟩ := stini (n := 2) rfl c1
  obtain ⟨h3, e3, z3, u3⟩ := pfw ((u2 0 (by omega)).trans ((u1 0 (by omega)).trans h0)) 0 (.ref 1) (Nat.le_of_ble_eq_true rfl)
  obtain ⟨h4, e4, c4, u4⟩ := nwu h3 11 (.inl (3, [.null, .int 0, .int 0]))
  obtain ⟨h5, e5, H5, u5⟩ := hini c4
  obtain ⟨h6, e6, z6, u6⟩ := pfw ((u5 0 (by omega)).trans ((u4 0 (by omega)).trans z3)) 1 (.ref 11) (Nat.le_of_ble_eq_true rfl)
  obtain ⟨h7, e7, c7, u7⟩ := nwu h6 93 (.inl (7, [.null, .int 0, .int 0, .int 0, .int 0]))
  obtain ⟨h8, e8, c8, u8⟩ := nwu h7 94 (.inr (0, 80, .inl (fun _ => 0)))
  obtain ⟨h9, e9, c9, u9⟩ := pfw ((u8 93 (by omega)).trans c7) 0 (.ref 94) (Nat.le_of_ble_eq_true rfl)
  obtain ⟨h10, e10, c10, u10⟩ := pfw c9 3 (.int (0 : Int32)) (Nat.le_of_ble_eq_true rfl)
  obtain ⟨h11, e11, z11, u11⟩ := pfw ((u10 0 (by omega)).trans ((u9 0 (by omega)).trans ((u8 0 (by omega)).trans ((u7 0 (by omega)).trans z6)))) 2 (.ref 93) (Nat.le_of_ble_eq_true rfl)
  obtain ⟨h12, e12, c12, u12⟩ := nwu h11 95 (.inl (6, [.null, .null, .null, .int 0, .int 0, .int 0, .int 0]))
  obtain ⟨h13, e13, W13, u13⟩ := wini (n := 96) rfl c12
  obtain ⟨h14, e14, z14, u14⟩ := pfw ((u13 0 (by omega)).trans ((u12 0 (by omega)).trans z11)) 3 (.ref 95) (Nat.le_of_ble_eq_true rfl)
  obtain ⟨h15, e15, c15, u15⟩ := nwu h14 99 (.inl (0, [.null, .null, .int 0, .int 0, .long 0]))
  obtain ⟨h16, e16, c16, u16⟩ := nwu h15 100 (.inr (0, 60, .inl (fun _ => 0)))
  obtain ⟨h17, e17, c17, u17⟩ := pfw ((u16 99 (by omega)).trans c15) 0 (.ref 100) (Nat.le_of_ble_eq_true rfl)
  obtain ⟨h18, e18, c18, u18⟩ := nwu h17 101 (.inr (0, 60, .inl (fun _ => 0)))
  obtain ⟨h19, e19, c19, u19⟩ := pfw ((u18 99 (by omega)).trans c17) 1 (.ref 101) (Nat.le_of_ble_eq_true rfl)
  obtain ⟨h20, e20, z20, u20⟩ := pfw ((u19 0 (by omega)).trans ((u18 0 (by omega)).trans ((u17 0 (by omega)).trans ((u16 0 (by omega)).trans ((u15 0 (by omega)).trans z14))))) 4 (.ref 99) (Nat.le_of_ble_eq_true rfl)
  have qd : ∀ x, x ≠ 0 → (x < 99 ∨ 101 < x) → h20 x = h14 x := fun x p1 p2 => (u20 x p1).trans ((u19 x (by omega)).trans ((u18 x (by omega)).trans ((u17 x (by omega)).trans ((u16 x (by omega)).trans (u15 x (by omega))))))
  have qc : ∀ x, x ≠ 0 → (x < 95 ∨ 98 < x) → h14 x = h11 x := fun x p1 p2 => (u14 x p1).trans ((u13 x (by omega)).trans (u12 x (by omega)))
  have qb : ∀ x, x ≠ 0 → x ≠ 93 → x ≠ 94 → h11 x = h6 x := fun x p1 p2 p3 => (u11 x p1).trans ((u10 x p2).trans ((u9 x p2).trans ((u8 x p3).trans (u7 x p2))))
  have qa : ∀ x, x ≠ 0 → (x < 11 ∨ 92 < x) → h6 x = h2 x := fun x p1 p2 => (u6 x p1).trans ((u5 x p2).trans ((u4 x (by omega)).trans (u3 x p1)))
  have lo : ∀ x, x ≠ 0 → x < 93 → h20 x = h6 x := fun x p1 p2 => (qd x p1 (by omega)).trans ((qc x p1 (by omega)).trans (qb x p1 (by omega) (by omega)))
  have t1 : ((xnw h7 94 (.inr (0, 80, .inl (fun _ => 0)))).bind fun h1 => (xpf h1 93 7 0 (.ref 94)).bind fun h3 => (xpf h3 93 7 3 (.int 0)).bind fun h5 => some h5) = some h10 := by rw [obb e8, obb e9, obb e10]
  have t2 : ((xnw h15 100 (.inr (0, 60, .inl (fun _ => 0)))).bind fun h1 => (xpf h1 99 0 0 (.ref 100)).bind fun h3 => (xnw h3 101 (.inr (0, 60, .inl (fun _ => 0)))).bind fun h5 => (xpf h5 99 0 1 (.ref 101)).bind fun h7 => some h7) = some h19 := by rw [obb e16, obb e17, obb e18, obb e19]
  refine ⟨h20, ?_, ⟨⟨z20, S2.fr (fun k hk => (lo _ (by omega) (by omega)).trans (qa _ (by omega) (by omega)))⟩, ⟨0, H5.fr (fun x hx => (lo x (by omega) (by omega)).trans (u6 x (by omega)))⟩, ⟨_, _, _, (qd 93 (by omega) (by omega)).trans ((qc 93 (by omega) (by omega)).trans ((u11 _ (by omega)).trans c10)), (qd 94 (by omega) (by omega)).trans ((qc 94 (by omega) (by omega)).trans ((u11 _ (by omega)).trans ((u10 _ (by omega)).trans ((u9 _ (by omega)).trans c8)))), fun k hk => absurd hk (by omega)⟩, ⟨dfp, W13.fr (fun k hk => (qd _ (by omega) (by omega)).trans (u14 _ (by omega)))⟩, ⟨0, 0, 0, _, _, (u20 _ (by omega)).trans c19, (u20 _ (by omega)).trans ((u19 _ (by omega)).trans ((u18 _ (by omega)).trans ((u17 _ (by omega)).trans c16))), (u20 _ (by omega)).trans ((u19 _ (by omega)).trans c18)⟩⟩, fun x hx => (qd x (by omega) (by omega)).trans ((qc x (by omega) (by omega)).trans ((qb x (by omega) (by omega) (by omega)).trans ((qa x (by omega) (by omega)).trans ((u2 x (by omega)).trans (u1 x (by omega))))))⟩
  rw [obb e1, obb e2, obb e3, obb e4, obb e5, obb e6, obb e7, obb t1, obb e11, obb e12, obb e13, obb e14, obb e15, obb t2, obb e20]
theorem mini {h : XH} (h0 : h 102 = some (.inl (9, [.null, .int 0, .null, .int 0, .null, .int 0, .int 0, .int 0, .int 0, .int 0, .null, .null, .int 0, .null, .int 0, .int 0, .long 0]))) : ∃ h', fX9_init h 103 102 = some h' ∧ RM h h' 0 dfp (fun _ => dfp) 0 (fun _ => 32) 0 0 := by
  unfold fX9_init
  simp only [Nat.reduceAdd]
  obtain ⟨h1, e1, c1, u1⟩ := nwu h 103 (.inr (0, 980, .inl (fun _ => 0)))
  obtain ⟨h2, e2, a2, u2⟩ := pfw ((u1 102 (by omega)).trans h0) 0 (.ref 103) (Nat.le_of_ble_eq_true rfl)
  obtain ⟨h3, e3, c3, u3⟩ := nwu h2 104 (.inr (0, 1001, .inl (fun _ => 0)))
  obtain ⟨h4, e4, a4, u4⟩ := pfw ((u3 102 (by omega)).trans a2) 2 (.ref 104) (Nat.le_of_ble_eq_true rfl)
  obtain ⟨h5, e5, c5, u5⟩ := nwu h4 105 (.inr (0, 80, .inl (fun _ => 0)))
  obtain ⟨h6, e6, a6, u6⟩ := pfw ((u5 102 (by omega)).trans a4) 4 (.ref 105) (Nat.le_of_ble_eq_true rfl)
  obtain ⟨h7, e7, c7, u7⟩ := nwu h6 106 (.inr (1, 60, .inl (fun _ => 0)))
  obtain ⟨h8, e8, a8, u8⟩ := pfw ((u7 102 (by omega)).trans a6) 10 (.ref 106) (Nat.le_of_ble_eq_true rfl)
  obtain ⟨h9, e9, c9, u9⟩ := nwu h8 107 (.inr (0, 2001, .inl (fun _ => 0)))
  obtain ⟨h10, e10, a10, u10⟩ := pfw ((u9 102 (by omega)).trans a8) 11 (.ref 107) (Nat.le_of_ble_eq_true rfl)
  obtain ⟨h11, e11, c11, u11⟩ := nwu h10 108 (.inr (0, 60, .inl (fun _ => 0)))
  obtain ⟨h12, e12, a12, u12⟩ := pfw ((u11 102 (by omega)).trans a10) 13 (.ref 108) (Nat.le_of_ble_eq_true rfl)
  have q2 : ∀ x, x ≠ 102 → x ≠ 108 → h12 x = h10 x := fun x p1 p2 => (u12 x p1).trans (u11 x p2)
  have q3 : ∀ x, x ≠ 102 → x ≠ 107 → h10 x = h8 x := fun x p1 p2 => (u10 x p1).trans (u9 x p2)
  have q4 : ∀ x, x ≠ 102 → x ≠ 106 → h8 x = h6 x := fun x p1 p2 => (u8 x p1).trans (u7 x p2)
  have q5 : ∀ x, x ≠ 102 → x ≠ 105 → h6 x = h4 x := fun x p1 p2 => (u6 x p1).trans (u5 x p2)
  have q6 : ∀ x, x ≠ 102 → x ≠ 104 → h4 x = h2 x := fun x p1 p2 => (u4 x p1).trans (u3 x p2)
  have q7 : ∀ x, x ≠ 102 → x ≠ 103 → h2 x = h x := fun x p1 p2 => (u2 x p1).trans (u1 x p2)
  have M0 : MdAt h h12 (fun _ _ => 0) (fun _ => 0) 0 := ⟨fun x hx => (q2 x (by omega) (by omega)).trans ((q3 x (by omega) (by omega)).trans ((q4 x (by omega) (by omega)).trans ((q5 x (by omega) (by omega)).trans ((q6 x (by omega) (by omega)).trans (q7 x (by omega) (by omega)))))), a12,
    (q2 _ (by omega) (by omega)).trans ((q3 _ (by omega) (by omega)).trans ((q4 _ (by omega) (by omega)).trans ((q5 _ (by omega) (by omega)).trans ((q6 _ (by omega) (by omega)).trans ((u2 _ (by omega)).trans c1))))),
    (q2 _ (by omega) (by omega)).trans ((q3 _ (by omega) (by omega)).trans ((q4 _ (by omega) (by omega)).trans ((q5 _ (by omega) (by omega)).trans ((u4 _ (by omega)).trans c3)))),
    (q2 _ (by omega) (by omega)).trans ((q3 _ (by omega) (by omega)).trans ((q4 _ (by omega) (by omega)).trans ((u6 _ (by omega)).trans c5))),
    (q2 _ (by omega) (by omega)).trans ((q3 _ (by omega) (by omega)).trans ((u8 _ (by omega)).trans c7)),
    (q2 _ (by omega) (by omega)).trans ((u10 _ (by omega)).trans c9),
    (u12 _ (by omega)).trans c11⟩
  have B0 : BkAt (fun _ _ => 0) (fun _ => 0) (fun _ => 0) (fun _ => dfp) 0 := ⟨rfl, by omega, fun k hk => rfl, fun j hj => absurd hj (by omega)⟩
  obtain ⟨h13, A13, e13, M13, B13, -⟩ := B0.put M0 (i := 0) (by omega) 12
  obtain ⟨e, f, A, M, B⟩ := xl_inv (fX9_init_B65 102) (fun i s => s.2 = i32 ((3 * i : Nat) : Int) ∧ ∃ A, MdAt h s.1 A (fun _ => 0) 0 ∧ BkAt A (fun _ => 0) (fun j => if j = 0 then 12 else if 1 ≤ j ∧ j < 1 + 3 * i ∧ j % 3 = 1 then 1 else 0) (fun _ => dfp) 0) 4 (fun h' => ∃ A, MdAt h h' A (fun _ => 0) 0 ∧ BkAt A (fun _ => 0) (fun j => if j = 0 then 12 else if 1 ≤ j ∧ j < 1 + 3 * 4 ∧ j % 3 = 1 then 1 else 0) (fun _ => dfp) 0) (fun i s hi I => by
    obtain ⟨h14, x⟩ := s
    obtain ⟨rfl, A, I1, I2⟩ := I
    dsimp only at I1 ⊢
    obtain ⟨h15, A15, e15, M15, B15, -⟩ := I2.put I1 (i := 1 + ((3 * i : Nat) : Int)) (by omega) 1
    have e15' : xsI h14 103 0 (i32 (1 + ((3 * i : Nat) : Int))) 1 = some h15 := e15
    unfold fX9_init_B65 fX9_init_b65
    dsimp only
    rw [L_12, ile_f (by omega), obb I1.r0]
    rw [show (1 : Int32) + i32 ((3 * i : Nat) : Int) = i32 (1 + ((3 * i : Nat) : Int)) from by rw [L_1, i32_add], obb e15', L_3, i32_add]
    refine ⟨_, rfl, by show i32 (((3 * i : Nat) : Int) + 3) = i32 ((3 * (i + 1) : Nat) : Int); congr 1, A15, M15, ?_⟩
    have eq : pu (fun j => if j = 0 then 12 else if 1 ≤ j ∧ j < 1 + 3 * i ∧ j % 3 = 1 then 1 else 0) (1 + ((3 * i : Nat) : Int)).toNat 1 = fun j => if j = 0 then (12 : Int) else if 1 ≤ j ∧ j < 1 + 3 * (i + 1) ∧ j % 3 = 1 then 1 else 0 := by
      funext j
      unfold pu
      dsimp only
      by_cases w0 : j = 0
      · rw [if_neg (by omega), if_pos w0, if_pos w0]
      rw [if_neg w0, if_neg w0]
      by_cases w : j = (1 + ((3 * i : Nat) : Int)).toNat
      · rw [if_pos w, if_pos (by omega)]
      · rw [if_neg w]
        by_cases w2 : 1 ≤ j ∧ j < 1 + 3 * i ∧ j % 3 = 1
        · rw [if_pos w2, if_pos (by omega)]
        · rw [if_neg w2, if_neg (by omega)]
    rw [eq] at B15
    exact B15) (fun s I => by
    obtain ⟨h14, x⟩ := s
    obtain ⟨rfl, A, I1, I2⟩ := I
    dsimp only at I1 ⊢
    unfold fX9_init_B65 fX9_init_b65
    dsimp only
    rw [L_12, ile_t (by omega)]
    exact ⟨_, rfl, A, I1, I2⟩) (h13, i32 ((3 * 0 : Nat) : Int)) ⟨rfl, A13, M13, by
      have : pu (fun _ => 0) (0 : Int).toNat 12 = fun j => if j = 0 then (12 : Int) else if 1 ≤ j ∧ j < 1 + 3 * 0 ∧ j % 3 = 1 then 1 else 0 := by
        funext j
        unfold pu
        by_cases w : j = 0
        · rw [if_pos (show j = (0 : Int).toNat from w), if_pos w]
        · rw [if_neg (show ¬ j = (0 : Int).toNat from w), if_neg w, if_neg (by omega)]
      rw [this] at B13
      exact B13⟩ 5000 (by omega)
  have f' : xloop (fX9_init_B65 102) 5000 (h13, 0) = some e := f
  obtain ⟨h14, A14, e14, M14, B14, -⟩ := B.put M (i := 75) (by omega) 1
  obtain ⟨h15, A15, e15, M15, B15, -⟩ := B14.put M14 (i := 93) (by omega) 100
  obtain ⟨h16, A16, e16, M16, B16, -⟩ := B15.put M15 (i := 94) (by omega) 1
  obtain ⟨h17, A17, e17, M17, B17, -⟩ := B16.put M16 (i := 95) (by omega) 1
  have e13' : xsI h12 103 0 0 12 = some h13 := e13
  have e14' : xsI e 103 0 75 1 = some h14 := e14
  have e15' : xsI h14 103 0 93 100 = some h15 := e15
  have e16' : xsI h15 103 0 94 1 = some h16 := e16
  have e17' : xsI h16 103 0 95 1 = some h17 := e17
  refine ⟨h17, ?_, A17, _, M17, ?_, rfl, rfl, fun k hk => absurd hk (by omega)⟩
  · rw [obb e1, obb e2, obb e3, obb e4, obb e5, obb e6, obb e7, obb e8, obb e9, obb e10, obb e11, obb e12, obb M0.r0, obb e13', obb f', obb M.r0, obb e14', obb M14.r0, obb e15', obb M15.r0, obb e16', obb M16.r0, obb e17']
  · have eq : pu (pu (pu (pu (fun j => if j = 0 then (12 : Int) else if 1 ≤ j ∧ j < 1 + 3 * 4 ∧ j % 3 = 1 then 1 else 0) (75 : Int).toNat 1) (93 : Int).toNat 100) (94 : Int).toNat 1) (95 : Int).toNat 1 = dfp := by
      funext j
      show (if j = 95 then (1 : Int) else if j = 94 then 1 else if j = 93 then 100 else if j = 75 then 1 else if j = 0 then 12 else if 1 ≤ j ∧ j < 1 + 3 * 4 ∧ j % 3 = 1 then 1 else 0) = dfp j
      unfold dfp
      by_cases w0 : j = 0
      · rw [if_neg (by omega), if_neg (by omega), if_neg (by omega), if_neg (by omega), if_pos w0, if_pos w0]
      rw [if_neg (show ¬ j = 0 from w0), if_neg (show ¬ j = 0 from w0)]
      by_cases w1 : j = 1 ∨ j = 4 ∨ j = 7 ∨ j = 10
      · rw [if_pos w1, if_neg (by omega), if_neg (by omega), if_neg (by omega), if_neg (by omega), if_pos (by omega)]
      rw [if_neg w1, if_neg (show ¬ (1 ≤ j ∧ j < 1 + 3 * 4 ∧ j % 3 = 1) by omega)]
      by_cases w2 : j = 75 ∨ j = 94 ∨ j = 95
      · rw [if_pos w2]
        rcases w2 with rfl | rfl | rfl <;> rfl
      rw [if_neg w2, if_neg (show ¬ j = 95 by omega), if_neg (show ¬ j = 94 by omega), if_neg (show ¬ j = 75 by omega)]
    rw [eq] at B17
    exact B17
theorem law_true0 (N0 : Nat) (xs : Nat → Int32) (hN : N0 ≤ 1536) : fL_law N0 xs (fun _ => none) 0 = some () := by
  unfold fL_law
  simp only [Nat.zero_add]
  obtain ⟨h1, e1, c1, u1⟩ := nwu (fun _ => none) 0 (.inl (8, [.null, .null, .null, .null, .null]))
  obtain ⟨h2, e2, R2, f2⟩ := cini c1
  obtain ⟨h3, e3, c3, u3⟩ := nwu h2 102 (.inl (9, [.null, .int 0, .null, .int 0, .null, .int 0, .int 0, .int 0, .int 0, .int 0, .null, .null, .int 0, .null, .int 0, .int 0, .long 0]))
  obtain ⟨h4, e4, M4⟩ := mini c3
  have R3 : RC h3 dfp (fun _ => dfp) 0 (fun _ => 32) 0 0 := R2.re (fun x hx => u3 x (by omega))
  obtain ⟨e, f⟩ := law_loop (N0 := N0) (xs := xs) hN (REL.mk vDf (fun _ _ => vDf) ⟨by omega, fun k hk => absurd hk (by omega)⟩ (by omega) R3 M4)
  rw [obb e1, obb e2, obb e3, obb e4, obb f]
