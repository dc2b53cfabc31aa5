/-! copying a state -/
theorem crow {h : XH} {s d n : Nat} {f g : Nat → Int32} (hs : h s = some (.inr (0, n, .inl f))) (hd : h d = some (.inr (0, n, .inl g))) (ne : s ≠ d) (hn : n < 1000) : ∃ h' g', fX8_copyRow h s d = some h' ∧ h' d = some (.inr (0, n, .inl g')) ∧ (∀ k, k < n → g' k = f k) ∧ ∀ x, x ≠ d → h' x = h x := by
  unfold fX8_copyRow
  obtain ⟨e, f1, g', E1, E2, E3⟩ := xl_inv (fX8_copyRow_B2 s d) (fun i st => st.2 = i32 (i : Nat) ∧ ∃ g', st.1 d = some (.inr (0, n, .inl g')) ∧ (∀ k, k < i → g' k = f k) ∧ ∀ x, x ≠ d → st.1 x = h x) n (fun h' => ∃ g', h' d = some (.inr (0, n, .inl g')) ∧ (∀ k, k < n → g' k = f k) ∧ ∀ x, x ≠ d → h' x = h x) (fun i st hi I => by
    obtain ⟨h2, x⟩ := st
    obtain ⟨rfl, g2, I1, I2, I3⟩ := I
    dsimp only at I1 I2 I3 ⊢
    have hs2 := (I3 s ne).trans hs
    unfold fX8_copyRow_B2 fX8_copyRow_b2
    dsimp only
    rw [obb (gL hs2 (by omega)), ile_f (by omega), obb (gL I1 (by omega)), ile_f (by omega), obb (gA hs2 (by omega) (by omega)), obb (gS I1 _ (by omega) (by omega)), L_1, i32_add]
    refine ⟨_, rfl, rfl, _, xup_s _ _ _, ?_, fun x hx => (xup_n _ _ hx).trans (I3 x hx)⟩
    intro k hk
    rw [Int.toNat_natCast]
    simp only [upd]
    split
    · rename_i q; rw [q]
    · exact I2 k (by omega)) (fun st I => by
    obtain ⟨h2, x⟩ := st
    obtain ⟨rfl, g2, I1, I2, I3⟩ := I
    dsimp only at I1 I2 I3 ⊢
    have hs2 := (I3 s ne).trans hs
    unfold fX8_copyRow_B2 fX8_copyRow_b2
    dsimp only
    rw [obb (gL hs2 (by omega)), ile_t (by omega)]
    exact ⟨_, rfl, g2, I1, I2, I3⟩) (h, i32 (0 : Nat)) ⟨rfl, g, hd, fun k hk => absurd hk (by omega), fun _ _ => rfl⟩ 5000 (by omega)
  have f2 : xloop (fX8_copyRow_B2 s d) 5000 (h, 0) = some e := f1
  exact ⟨e, g', by rw [obb f2], E1, E2, E3⟩
/-- a field of a cell written -/
theorem pfw {h : XH} {a ci : Nat} {fs : List Value} (ha : h a = some (.inl (ci, fs))) (k : Nat) (v : Value) (hk : k < fs.length) : ∃ h', xpf h a ci k v = some h' ∧ h' a = some (.inl (ci, fs.set k v)) ∧ ∀ x, x ≠ a → h' x = h x := ⟨_, gP ha k v hk, xup_s _ _ _, fun _ q => xup_n _ _ q⟩
theorem wcopy {h : XH} {a b : Nat} {q p : Nat → Int} (T : WhAt h a q) (H : WhAt h b p) (d : a + 3 < b ∨ b + 3 < a) : ∃ h', fX6_copyFrom h a b = some h' ∧ WhAt h' a p ∧ ∀ x, (x < a ∨ a + 3 < x) → h' x = h x := by
  obtain ⟨gm, gt, gs, t0, t1, t2, t3, -, -⟩ := T
  obtain ⟨fm, ft, fs, s0, s1, s2, s3, sm, sc⟩ := H
  unfold fX6_copyFrom
  obtain ⟨h1, m', e1, d1, c1, u1⟩ := crow s1 t1 (by omega) (by omega)
  have f1 : ∀ x, (x < a ∨ a + 3 < x) → h1 x = h x := fun x hx => u1 x (by omega)
  rw [obb (gR s0 0 rfl), obb (gR t0 0 rfl), obb e1, obb (gR ((u1 b (by omega)).trans s0) 1 rfl), obb (gR ((u1 a (by omega)).trans t0) 1 rfl)]
  obtain ⟨h2, t', e2, d2, c2, u2⟩ := crow ((u1 _ (by omega)).trans s2) ((u1 _ (by omega)).trans t2) (by omega) (by omega)
  have f2 : ∀ x, (x < a ∨ a + 3 < x) → h2 x = h x := fun x hx => (u2 x (by omega)).trans (f1 x hx)
  have a2 : h2 a = some (.inl (6, [.ref (a + 1), .ref (a + 2), .ref (a + 3), .int (i32 (q 0)), .int (i32 (q 61)), .int (i32 (q 62)), .int (i32 (q 63))])) := (u2 a (by omega)).trans ((u1 a (by omega)).trans t0)
  rw [obb e2, obb (gR ((f2 b (by omega)).trans s0) 2 rfl), obb (gR a2 2 rfl)]
  obtain ⟨h3, s', e3, d3, c3, u3⟩ := crow ((f2 _ (by omega)).trans s3) ((u2 _ (by omega)).trans ((u1 _ (by omega)).trans t3)) (by omega) (by omega)
  have f3 : ∀ x, (x < a ∨ a + 3 < x) → h3 x = h x := fun x hx => (u3 x (by omega)).trans (f2 x hx)
  have a3 := (u3 a (by omega)).trans a2
  rw [obb e3, obb (gI ((f3 b (by omega)).trans s0) 3 rfl)]
  obtain ⟨h4, e4, a4, u4⟩ := pfw a3 3 (.int (i32 (p 0))) (Nat.le_of_ble_eq_true rfl)
  have f4 : ∀ x, (x < a ∨ a + 3 < x) → h4 x = h x := fun x hx => (u4 x (by omega)).trans (f3 x hx)
  rw [obb e4, obb (gI ((f4 b (by omega)).trans s0) 4 rfl)]
  obtain ⟨h5, e5, a5, u5⟩ := pfw a4 4 (.int (i32 (p 61))) (Nat.le_of_ble_eq_true rfl)
  have f5 : ∀ x, (x < a ∨ a + 3 < x) → h5 x = h x := fun x hx => (u5 x (by omega)).trans (f4 x hx)
  rw [obb e5, obb (gI ((f5 b (by omega)).trans s0) 5 rfl)]
  obtain ⟨h6, e6, a6, u6⟩ := pfw a5 5 (.int (i32 (p 62))) (Nat.le_of_ble_eq_true rfl)
  have f6 : ∀ x, (x < a ∨ a + 3 < x) → h6 x = h x := fun x hx => (u6 x (by omega)).trans (f5 x hx)
  rw [obb e6, obb (gI ((f6 b (by omega)).trans s0) 6 rfl)]
  obtain ⟨h7, e7, a7, u7⟩ := pfw a6 6 (.int (i32 (p 63))) (Nat.le_of_ble_eq_true rfl)
  have f7 : ∀ x, (x < a ∨ a + 3 < x) → h7 x = h x := fun x hx => (u7 x (by omega)).trans (f6 x hx)
  rw [obb e7]
  have v : ∀ x, x ≠ a → h7 x = h3 x := fun x hx => (u7 x hx).trans ((u6 x hx).trans ((u5 x hx).trans (u4 x hx)))
  refine ⟨h7, rfl, ⟨m', t', s', a7, ?_, ?_, ?_, ?_, ?_⟩, f7⟩
  · exact (v _ (by omega)).trans ((u3 _ (by omega)).trans ((u2 _ (by omega)).trans d1))
  · exact (v _ (by omega)).trans ((u3 _ (by omega)).trans d2)
  · exact (v _ (by omega)).trans d3
  · intro k k1 k2; rw [c1 k k1]; exact sm k k1 k2
  · intro k k1 k2; rw [c2 k k1, c3 k k1]; exact sc k k1 k2
theorem fcopy {h : XH} {a b : Nat} {q p : Nat → Int} (T : FlAt h a q) (H : FlAt h b p) (d : a ≠ b) : ∃ h', fX2_copyFrom h a b = some h' ∧ FlAt h' a p ∧ ∀ x, x ≠ a → h' x = h x := by
  unfold fX2_copyFrom
  obtain ⟨h1, e1, a1, u1⟩ := pfw T 0 (.int (i32 (p 74))) (Nat.le_of_ble_eq_true rfl)
  have H1 : FlAt h1 b p := H.fr (u1 b (by omega))
  obtain ⟨h2, e2, a2, u2⟩ := pfw a1 1 (.int (i32 (p 75))) (Nat.le_of_ble_eq_true rfl)
  rw [obb H.i0, obb e1, obb H1.i1, obb e2]
  exact ⟨h2, rfl, a2, fun x hx => (u2 x hx).trans (u1 x hx)⟩
theorem dcopy {h : XH} {a b : Nat} {q p : Nat → Int} (T : DiAt h a q) (H : DiAt h b p) (d : a ≠ b) : ∃ h', fX1_copyFrom h a b = some h' ∧ DiAt h' a p ∧ ∀ x, x ≠ a → h' x = h x := by
  unfold fX1_copyFrom
  obtain ⟨h1, e1, a1, u1⟩ := pfw T 0 (.int (i32 (p 94))) (Nat.le_of_ble_eq_true rfl)
  have H1 : DiAt h1 b p := H.fr (u1 b (by omega))
  obtain ⟨h2, e2, a2, u2⟩ := pfw a1 1 (.int (i32 (p 95))) (Nat.le_of_ble_eq_true rfl)
  have H2 : DiAt h2 b p := H1.fr (u2 b (by omega))
  obtain ⟨h3, e3, a3, u3⟩ := pfw a2 2 (.int (i32 (p 96))) (Nat.le_of_ble_eq_true rfl)
  have H3 : DiAt h3 b p := H2.fr (u3 b (by omega))
  obtain ⟨h4, e4, a4, u4⟩ := pfw a3 3 (.int (i32 (p 97))) (Nat.le_of_ble_eq_true rfl)
  rw [obb H.i0, obb e1, obb H1.i1, obb e2, obb H2.i2, obb e3, obb H3.i3, obb e4]
  exact ⟨h4, rfl, a4, fun x hx => (u4 x hx).trans ((u3 x hx).trans ((u2 x hx).trans (u1 x hx)))⟩
theorem rcopy {h : XH} {a b : Nat} {q p : Nat → Int} (T : RdAt h a q) (H : RdAt h b p) (d : a + 2 < b ∨ b + 2 < a) : ∃ h', fX4_copyFrom h a b = some h' ∧ RdAt h' a p ∧ ∀ x, (x < a ∨ a + 2 < x) → h' x = h x := by
  obtain ⟨gt, gs, t0, t1, t2, -⟩ := T
  obtain ⟨ft, fs, s0, s1, s2, sc⟩ := H
  unfold fX4_copyFrom
  obtain ⟨h1, t', e1, d1, c1, u1⟩ := crow s1 t1 (by omega) (by omega)
  rw [obb (gR s0 0 rfl), obb (gR t0 0 rfl), obb e1, obb (gR ((u1 b (by omega)).trans s0) 1 rfl), obb (gR ((u1 a (by omega)).trans t0) 1 rfl)]
  obtain ⟨h2, s', e2, d2, c2, u2⟩ := crow ((u1 _ (by omega)).trans s2) ((u1 _ (by omega)).trans t2) (by omega) (by omega)
  have f2 : ∀ x, (x < a ∨ a + 2 < x) → h2 x = h x := fun x hx => (u2 x (by omega)).trans (u1 x (by omega))
  have a2 := (u2 a (by omega)).trans ((u1 a (by omega)).trans t0)
  rw [obb e2, obb (gI ((f2 b (by omega)).trans s0) 2 rfl)]
  obtain ⟨h3, e3, a3, u3⟩ := pfw a2 2 (.int (i32 (p 76))) (Nat.le_of_ble_eq_true rfl)
  have f3 : ∀ x, (x < a ∨ a + 2 < x) → h3 x = h x := fun x hx => (u3 x (by omega)).trans (f2 x hx)
  rw [obb e3, obb (gI ((f3 b (by omega)).trans s0) 3 rfl)]
  obtain ⟨h4, e4, a4, u4⟩ := pfw a3 3 (.int (i32 (p 93))) (Nat.le_of_ble_eq_true rfl)
  rw [obb e4]
  refine ⟨h4, rfl, ⟨t', s', a4, ?_, ?_, ?_⟩, fun x hx => (u4 x (by omega)).trans (f3 x hx)⟩
  · exact (u4 _ (by omega)).trans ((u3 _ (by omega)).trans ((u2 _ (by omega)).trans d1))
  · exact (u4 _ (by omega)).trans ((u3 _ (by omega)).trans d2)
  · intro k k1 k2; rw [c1 k k1, c2 k k1]; exact sc k k1 k2
theorem scopy {h : XH} {a b : Nat} {q p : Nat → Int} (T : StAt h a q) (H : StAt h b p) (d : a + 9 < b ∨ b + 9 < a) : ∃ h', fX5_copyFrom h a b = some h' ∧ StAt h' a p ∧ ∀ x, (x < a ∨ a + 9 < x) → h' x = h x := by
  unfold fX5_copyFrom
  obtain ⟨h1, e1, W1, u1⟩ := wcopy T.w H.w (by omega)
  have f1 : ∀ x, (x < a ∨ a + 9 < x) → h1 x = h x := fun x hx => u1 x (by omega)
  have H1 : StAt h1 b p := H.fr (fun k hk => f1 _ (by omega))
  have T1 : xgR h1 a 5 1 = some (a + 5) := gR ((u1 a (by omega)).trans T.1) 1 rfl
  have F1 : FlAt h1 (a + 5) q := T.f.fr (u1 _ (by omega))
  rw [obb T.r0, obb H.r0, obb T.w.c, obb e1, obb T1, obb H1.r1, obb F1.c]
  obtain ⟨h2, e2, F2, u2⟩ := fcopy F1 H1.f (by omega)
  have f2 : ∀ x, (x < a ∨ a + 9 < x) → h2 x = h x := fun x hx => (u2 x (by omega)).trans (f1 x hx)
  have H2 : StAt h2 b p := H.fr (fun k hk => f2 _ (by omega))
  have a2 := (u2 a (by omega)).trans ((u1 a (by omega)).trans T.1)
  have R2 : RdAt h2 (a + 6) q := T.rd.fr (fun k hk => (u2 _ (by omega)).trans (u1 _ (by omega)))
  rw [obb e2, obb (gR a2 2 rfl), obb H2.r2, obb R2.c]
  obtain ⟨h3, e3, R3, u3⟩ := rcopy R2 H2.rd (by omega)
  have f3 : ∀ x, (x < a ∨ a + 9 < x) → h3 x = h x := fun x hx => (u3 x (by omega)).trans (f2 x hx)
  have H3 : StAt h3 b p := H.fr (fun k hk => f3 _ (by omega))
  have a3 := (u3 a (by omega)).trans a2
  have D3 : DiAt h3 (a + 9) q := T.d.fr ((u3 _ (by omega)).trans ((u2 _ (by omega)).trans (u1 _ (by omega))))
  rw [obb e3, obb (gR a3 3 rfl), obb H3.r3, obb D3.c]
  obtain ⟨h4, e4, D4, u4⟩ := dcopy D3 H3.d (by omega)
  rw [obb e4]
  refine ⟨h4, rfl, ⟨(u4 a (by omega)).trans a3, ?_, ?_, ?_, D4⟩, fun x hx => (u4 x (by omega)).trans (f3 x hx)⟩
  · exact W1.fr (fun k hk => (u4 _ (by omega)).trans ((u3 _ (by omega)).trans (u2 _ (by omega))))
  · exact F2.fr ((u4 _ (by omega)).trans (u3 _ (by omega)))
  · exact R3.fr (fun k hk => u4 _ (by omega))
