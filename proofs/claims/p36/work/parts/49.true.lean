theorem cini {h : XH} (h0 : h 0 = some (.inl (8, [.null, .null, .null, .null, .null]))) : ∃ h', fX8_init h 1 0 = some h' ∧ RC h' dfp (fun _ => dfp) 0 (fun _ => 32) 0 0 ∧ frz h h' := by
  unfold fX8_init fX7_init fX0_init
  simp only [Nat.reduceAdd]
  obtain ⟨h1, e1, c1, u1⟩ := nwu h 1 (.inl (5, [.null, .null, .null, .null]))
  obtain ⟨h2, e2, S2, u2⟩ := stini (n := 2) rfl c1
  obtain ⟨h3, e3, z3, u3⟩ := pfw ((u2 0 (by omega)).trans ((u1 0 (by omega)).trans h0)) 0 (.ref 1) (Nat.le_of_ble_eq_true rfl)
  obtain ⟨h4, e4, c4, u4⟩ := nwu h3 11 (.inl (3, [.null, .int 0, .int 0]))
  obtain ⟨h5, e5, H5, u5⟩ := hini c4
  obtain ⟨h6, e6, z6, u6⟩ := pfw ((u5 0 (by omega)).trans ((u4 0 (by omega)).trans z3)) 1 (.ref 11) (Nat.le_of_ble_eq_true rfl)
  obtain ⟨h7, e7, c7, u7⟩ := nwu h6 93 (.inl (7, [.null, .int 0, .int 0, .int 0, .int 0]))
  obtain ⟨h8, e8, c8, u8⟩ := nwu h7 94 (.inr (0, 80, .inl (fun _ => 0)))
  obtain ⟨h9, e9, c9, u9⟩ := pfw ((u8 93 (by omega)).trans c7) 0 (.ref 94) (Nat.le_of_ble_eq_true rfl)
  obtain ⟨h10, e10, c10, u10⟩ := pfw c9 3 (.int (0 : Int32)) (Nat.le_of_ble_eq_true rfl)
  obtain ⟨h11, e11, z11, u11⟩ := pfw ((u10 0 (by omega)).trans ((u9 0 (by omega)).trans ((u8 0 (by omega)).trans ((u7 0 (by omega)).trans z6)))) 2 (.ref 93) (Nat.le_of_ble_eq_true rfl)
  obtain ⟨h12, e12, c12, u12⟩ := nwu h11 95 (.inl (6, [.null, .null, .null, .int 0, .int 0, .int 0, .int 0]))
  obtain ⟨h13, e13, W13, u13⟩ := wini (n := 96) rfl c12
  obtain ⟨h14, e14, z14, u14⟩ := pfw ((u13 0 (by omega)).trans ((u12 0 (by omega)).trans z11)) 3 (.ref 95) (Nat.le_of_ble_eq_true rfl)
  obtain ⟨h15, e15, c15, u15⟩ := nwu h14 99 (.inl (0, [.null, .null, .int 0, .int 0, .long 0]))
  obtain ⟨h16, e16, c16, u16⟩ := nwu h15 100 (.inr (0, 60, .inl (fun _ => 0)))
  obtain ⟨h17, e17, c17, u17⟩ := pfw ((u16 99 (by omega)).trans c15) 0 (.ref 100) (Nat.le_of_ble_eq_true rfl)
  obtain ⟨h18, e18, c18, u18⟩ := nwu h17 101 (.inr (0, 60, .inl (fun _ => 0)))
  obtain ⟨h19, e19, c19, u19⟩ := pfw ((u18 99 (by omega)).trans c17) 1 (.ref 101) (Nat.le_of_ble_eq_true rfl)
  obtain ⟨h20, e20, z20, u20⟩ := pfw ((u19 0 (by omega)).trans ((u18 0 (by omega)).trans ((u17 0 (by omega)).trans ((u16 0 (by omega)).trans ((u15 0 (by omega)).trans z14))))) 4 (.ref 99) (Nat.le_of_ble_eq_true rfl)
  have qd : ∀ x, x ≠ 0 → (x < 99 ∨ 101 < x) → h20 x = h14 x := fun x p1 p2 => (u20 x p1).trans ((u19 x (by omega)).trans ((u18 x (by omega)).trans ((u17 x (by omega)).trans ((u16 x (by omega)).trans (u15 x (by omega))))))
  have qc : ∀ x, x ≠ 0 → (x < 95 ∨ 98 < x) → h14 x = h11 x := fun x p1 p2 => (u14 x p1).trans ((u13 x (by omega)).trans (u12 x (by omega)))
  have qb : ∀ x, x ≠ 0 → x ≠ 93 → x ≠ 94 → h11 x = h6 x := fun x p1 p2 p3 => (u11 x p1).trans ((u10 x p2).trans ((u9 x p2).trans ((u8 x p3).trans (u7 x p2))))
  have qa : ∀ x, x ≠ 0 → (x < 11 ∨ 92 < x) → h6 x = h2 x := fun x p1 p2 => (u6 x p1).trans ((u5 x p2).trans ((u4 x (by omega)).trans (u3 x p1)))
  have lo : ∀ x, x ≠ 0 → x < 93 → h20 x = h6 x := fun x p1 p2 => (qd x p1 (by omega)).trans ((qc x p1 (by omega)).trans (qb x p1 (by omega) (by omega)))
  have t1 : ((xnw h7 94 (.inr (0, 80, .inl (fun _ => 0)))).bind fun h1 => (xpf h1 93 7 0 (.ref 94)).bind fun h3 => (xpf h3 93 7 3 (.int 0)).bind fun h5 => some h5) = some h10 := by rw [obb e8, obb e9, obb e10]
  have t2 : ((xnw h15 100 (.inr (0, 60, .inl (fun _ => 0)))).bind fun h1 => (xpf h1 99 0 0 (.ref 100)).bind fun h3 => (xnw h3 101 (.inr (0, 60, .inl (fun _ => 0)))).bind fun h5 => (xpf h5 99 0 1 (.ref 101)).bind fun h7 => some h7) = some h19 := by rw [obb e16, obb e17, obb e18, obb e19]
  refine ⟨h20, ?_, ⟨⟨z20, S2.fr (fun k hk => (lo _ (by omega) (by omega)).trans (qa _ (by omega) (by omega)))⟩, ⟨0, H5.fr (fun x hx => (lo x (by omega) (by omega)).trans (u6 x (by omega)))⟩, ⟨_, _, _, (qd 93 (by omega) (by omega)).trans ((qc 93 (by omega) (by omega)).trans ((u11 _ (by omega)).trans c10)), (qd 94 (by omega) (by omega)).trans ((qc 94 (by omega) (by omega)).trans ((u11 _ (by omega)).trans ((u10 _ (by omega)).trans ((u9 _ (by omega)).trans c8)))), fun k hk => absurd hk (by omega)⟩, ⟨dfp, W13.fr (fun k hk => (qd _ (by omega) (by omega)).trans (u14 _ (by omega)))⟩, ⟨0, 0, 0, _, _, (u20 _ (by omega)).trans c19, (u20 _ (by omega)).trans ((u19 _ (by omega)).trans ((u18 _ (by omega)).trans ((u17 _ (by omega)).trans c16))), (u20 _ (by omega)).trans ((u19 _ (by omega)).trans c18)⟩⟩, fun x hx => (qd x (by omega) (by omega)).trans ((qc x (by omega) (by omega)).trans ((qb x (by omega) (by omega) (by omega)).trans ((qa x (by omega) (by omega)).trans ((u2 x (by omega)).trans (u1 x (by omega))))))⟩
  rw [obb e1, obb e2, obb e3, obb e4, obb e5, obb e6, obb e7, obb t1, obb e11, obb e12, obb e13, obb e14, obb e15, obb t2, obb e20]
