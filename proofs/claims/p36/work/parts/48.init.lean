/-! the first heap -/
def dfp : Nat → Int := fun j => if j = 0 then 12 else if j = 1 ∨ j = 4 ∨ j = 7 ∨ j = 10 then 1 else if j = 75 ∨ j = 94 ∨ j = 95 then 1 else if j = 93 then 100 else 0
theorem vDf : VP dfp := by
  have e : ∀ k : Nat, k < 60 → dfp (1 + k) = 0 ∨ dfp (1 + k) = 1 := fun k hk => by
    unfold dfp
    rw [if_neg (by omega)]
    split
    · exact .inr rfl
    · rw [if_neg (by omega), if_neg (by omega)]; exact .inl rfl
  have e63 : dfp 63 = 0 := rfl
  have e76 : dfp 76 = 0 := rfl
  exact ⟨by decide, fun k hk => by have := e k hk; omega, by decide, by decide, by decide, fun k hk => by omega, fun j k h1 h2 => by omega, by decide, by decide, by decide, fun k hk => by omega, by decide, by decide, by decide, by decide, by decide⟩
theorem nwu (h : XH) (n : Nat) (e : XE) : ∃ h', xnw h n e = some h' ∧ h' n = some e ∧ ∀ x, x ≠ n → h' x = h x := ⟨_, rfl, xup_s _ _ _, fun _ q => xup_n _ _ q⟩
theorem wini {h : XH} {a n : Nat} (hn : n = a + 1) (h0 : h a = some (.inl (6, [.null, .null, .null, .int 0, .int 0, .int 0, .int 0]))) : ∃ h', fX6_init h n a = some h' ∧ WhAt h' a dfp ∧ ∀ x, (x < a ∨ a + 3 < x) → h' x = h x := by
  subst hn
  unfold fX6_init
  obtain ⟨h1, e1, c1, u1⟩ := nwu h (a + 1) (.inr (0, 60, .inl (fun _ => 0)))
  obtain ⟨h2, e2, a2, u2⟩ := pfw ((u1 a (by omega)).trans h0) 0 (.ref (a + 1)) (Nat.le_of_ble_eq_true rfl)
  obtain ⟨h3, e3, c3, u3⟩ := nwu h2 (a + 1 + 1) (.inr (0, 5, .inl (fun _ => 0)))
  obtain ⟨h4, e4, a4, u4⟩ := pfw ((u3 a (by omega)).trans a2) 1 (.ref (a + 1 + 1)) (Nat.le_of_ble_eq_true rfl)
  obtain ⟨h5, e5, c5, u5⟩ := nwu h4 (a + 1 + 2) (.inr (0, 5, .inl (fun _ => 0)))
  obtain ⟨h6, e6, a6, u6⟩ := pfw ((u5 a (by omega)).trans a4) 2 (.ref (a + 1 + 2)) (Nat.le_of_ble_eq_true rfl)
  obtain ⟨h7, e7, a7, u7⟩ := pfw a6 3 (.int (12 : Int32)) (Nat.le_of_ble_eq_true rfl)
  have m7 : h7 (a + 1) = some (.inr (0, 60, .inl (fun _ => 0))) := (u7 _ (by omega)).trans ((u6 _ (by omega)).trans ((u5 _ (by omega)).trans ((u4 _ (by omega)).trans ((u3 _ (by omega)).trans ((u2 _ (by omega)).trans c1)))))
  have t7 : h7 (a + 2) = some (.inr (0, 5, .inl (fun _ => 0))) := (u7 _ (by omega)).trans ((u6 _ (by omega)).trans ((u5 _ (by omega)).trans ((u4 _ (by omega)).trans c3)))
  have s7 : h7 (a + 3) = some (.inr (0, 5, .inl (fun _ => 0))) := (u7 _ (by omega)).trans ((u6 _ (by omega)).trans c5)
  have fr7 : ∀ x, (x < a ∨ a + 3 < x) → h7 x = h x := fun x hx => (u7 _ (by omega)).trans ((u6 _ (by omega)).trans ((u5 _ (by omega)).trans ((u4 _ (by omega)).trans ((u3 _ (by omega)).trans ((u2 _ (by omega)).trans (u1 _ (by omega)))))))
  obtain ⟨e, f, g, G1, G2, G3⟩ := xl_inv (fX6_init_B34 a) (fun i s => s.2 = i32 ((3 * i : Nat) : Int) ∧ ∃ g, s.1 (a + 1) = some (.inr (0, 60, .inl g)) ∧ (∀ k, k < 60 → g k = if k % 3 = 0 ∧ k < 3 * i then 1 else 0) ∧ ∀ x, x ≠ a + 1 → s.1 x = h7 x) 4 (fun h' => ∃ g, h' (a + 1) = some (.inr (0, 60, .inl g)) ∧ (∀ k, k < 60 → g k = if k % 3 = 0 ∧ k < 12 then 1 else 0) ∧ ∀ x, x ≠ a + 1 → h' x = h7 x) (fun i s hi I => by
    obtain ⟨h8, x⟩ := s
    obtain ⟨rfl, g, I1, I2, I3⟩ := I
    dsimp only at I1 I2 I3 ⊢
    have a8 := (I3 a (by omega)).trans a7
    have e8 := put_ok I1 (by omega) (i := ((3 * i : Nat) : Int)) 1 (by omega)
    rw [if_pos (by omega), Int.toNat_natCast] at e8
    have r3 : xgI h8 a 6 3 = some (i32 12) := gI a8 3 rfl
    have r0 : xgR h8 a 6 0 = some (a + 1) := gR a8 0 rfl
    unfold fX6_init_B34 fX6_init_b34
    dsimp only
    rw [obb r3, ile_f (by omega), obb r0, obb e8, L_3, i32_add]
    refine ⟨_, rfl, by show i32 (((3 * i : Nat) : Int) + 3) = i32 ((3 * (i + 1) : Nat) : Int); congr 1, _, xup_s _ _ _, fun k hk => ?_, fun x hx => (xup_n _ _ hx).trans (I3 x hx)⟩
    simp only [upd]
    by_cases w : k = 3 * i
    · rw [if_pos w, if_pos (by omega)]
    · rw [if_neg w, I2 k hk]
      by_cases w2 : k % 3 = 0 ∧ k < 3 * i
      · rw [if_pos w2, if_pos (by omega)]
      · rw [if_neg w2, if_neg (by omega)]) (fun s I => by
    obtain ⟨h8, x⟩ := s
    obtain ⟨rfl, g, I1, I2, I3⟩ := I
    dsimp only at I1 I2 I3 ⊢
    have r3 : xgI h8 a 6 3 = some (i32 12) := gI ((I3 a (by omega)).trans a7) 3 rfl
    unfold fX6_init_B34 fX6_init_b34
    dsimp only
    rw [obb r3, ile_t (by omega)]
    exact ⟨_, rfl, g, I1, I2, I3⟩) (h7, i32 ((3 * 0 : Nat) : Int)) ⟨rfl, _, m7, fun k hk => by rw [if_neg (by omega)], fun _ _ => rfl⟩ 5000 (by omega)
  have f' : xloop (fX6_init_B34 a) 5000 (h7, 0) = some e := f
  rw [obb e1, obb e2, obb e3, obb e4, obb e5, obb e6, obb e7, obb f']
  refine ⟨e, rfl, ⟨g, _, _, (G3 a (by omega)).trans a7, G1, (G3 _ (by omega)).trans t7, (G3 _ (by omega)).trans s7, fun k k1 k2 => ?_, fun k k1 k2 => ?_⟩, fun x hx => (G3 x (by omega)).trans (fr7 x hx)⟩
  · have k3 : (k : Int) < 12 := k2
    have dk : dfp (1 + k) = if k % 3 = 0 ∧ k < 12 then 1 else 0 := by
      unfold dfp
      rw [if_neg (show ¬ 1 + k = 0 by omega)]
      by_cases w : k % 3 = 0 ∧ k < 12
      · rw [if_pos w, if_pos (show 1 + k = 1 ∨ 1 + k = 4 ∨ 1 + k = 7 ∨ 1 + k = 10 by omega)]
      · rw [if_neg w, if_neg (show ¬ (1 + k = 1 ∨ 1 + k = 4 ∨ 1 + k = 7 ∨ 1 + k = 10) by omega), if_neg (show ¬ (1 + k = 75 ∨ 1 + k = 94 ∨ 1 + k = 95) by omega), if_neg (show ¬ 1 + k = 93 by omega)]
    rw [G2 k k1, dk]
    split <;> rfl
  · have k3 : (k : Int) < 0 := k2
    omega
theorem stini {h : XH} {a n : Nat} (hn : n = a + 1) (h0 : h a = some (.inl (5, [.null, .null, .null, .null]))) : ∃ h', fX5_init h n a = some h' ∧ StAt h' a dfp ∧ ∀ x, (x < a ∨ a + 9 < x) → h' x = h x := by
  subst hn
  unfold fX5_init fX4_init fX2_init fX1_init
  obtain ⟨h1, e1, c1, u1⟩ := nwu h (a + 1) (.inl (6, [.null, .null, .null, .int 0, .int 0, .int 0, .int 0]))
  obtain ⟨h2, e2, W2, u2⟩ := wini (n := a + 1 + 1) rfl c1
  have b2 := (u2 a (by omega)).trans ((u1 a (by omega)).trans h0)
  obtain ⟨h3, e3, b3, u3⟩ := pfw b2 0 (.ref (a + 1)) (Nat.le_of_ble_eq_true rfl)
  obtain ⟨h4, e4, c4, u4⟩ := nwu h3 (a + 1 + 4) (.inl (2, [.int 0, .int 0]))
  obtain ⟨h5, e5, c5, u5⟩ := pfw c4 1 (.int (1 : Int32)) (Nat.le_of_ble_eq_true rfl)
  obtain ⟨h6, e6, b6, u6⟩ := pfw ((u5 a (by omega)).trans ((u4 a (by omega)).trans b3)) 1 (.ref (a + 1 + 4)) (Nat.le_of_ble_eq_true rfl)
  obtain ⟨h7, e7, c7, u7⟩ := nwu h6 (a + 1 + 5) (.inl (4, [.null, .null, .int 0, .int 0]))
  obtain ⟨h8, e8, c8, u8⟩ := nwu h7 (a + 1 + 6) (.inr (0, 8, .inl (fun _ => 0)))
  obtain ⟨h9, e9, c9, u9⟩ := pfw ((u8 (a + 1 + 5) (by omega)).trans c7) 0 (.ref (a + 1 + 6)) (Nat.le_of_ble_eq_true rfl)
  obtain ⟨h10, e10, c10, u10⟩ := nwu h9 (a + 1 + 6 + 1) (.inr (0, 8, .inl (fun _ => 0)))
  obtain ⟨h11, e11, c11, u11⟩ := pfw ((u10 (a + 1 + 5) (by omega)).trans c9) 1 (.ref (a + 1 + 6 + 1)) (Nat.le_of_ble_eq_true rfl)
  obtain ⟨h12, e12, c12, u12⟩ := pfw c11 3 (.int (100 : Int32)) (Nat.le_of_ble_eq_true rfl)
  have b12 := (u12 a (by omega)).trans ((u11 a (by omega)).trans ((u10 a (by omega)).trans ((u9 a (by omega)).trans ((u8 a (by omega)).trans ((u7 a (by omega)).trans b6)))))
  obtain ⟨h13, e13, b13, u13⟩ := pfw b12 2 (.ref (a + 1 + 5)) (Nat.le_of_ble_eq_true rfl)
  obtain ⟨h14, e14, c14, u14⟩ := nwu h13 (a + 1 + 8) (.inl (1, [.int 0, .int 0, .int 0, .int 0]))
  obtain ⟨h15, e15, c15, u15⟩ := pfw c14 0 (.int (1 : Int32)) (Nat.le_of_ble_eq_true rfl)
  obtain ⟨h16, e16, c16, u16⟩ := pfw c15 1 (.int (1 : Int32)) (Nat.le_of_ble_eq_true rfl)
  obtain ⟨h17, e17, b17, u17⟩ := pfw ((u16 a (by omega)).trans ((u15 a (by omega)).trans ((u14 a (by omega)).trans b13))) 3 (.ref (a + 1 + 8)) (Nat.le_of_ble_eq_true rfl)
  have q5 : ∀ x, x ≠ a → x ≠ a + 9 → h17 x = h12 x := fun x p1 p2 => (u17 x p1).trans ((u16 x (by omega)).trans ((u15 x (by omega)).trans ((u14 x (by omega)).trans (u13 x p1))))
  have q6 : ∀ x, x ≠ a + 6 → x ≠ a + 7 → x ≠ a + 8 → h12 x = h6 x := fun x p1 p2 p3 => (u12 x (by omega)).trans ((u11 x (by omega)).trans ((u10 x (by omega)).trans ((u9 x (by omega)).trans ((u8 x (by omega)).trans (u7 x (by omega))))))
  have q7 : ∀ x, x ≠ a → x ≠ a + 5 → h6 x = h2 x := fun x p1 p2 => (u6 x p1).trans ((u5 x (by omega)).trans ((u4 x (by omega)).trans (u3 x p1)))
  refine ⟨h17, ?_, ⟨b17, W2.fr (fun k hk => (q5 _ (by omega) (by omega)).trans ((q6 _ (by omega) (by omega) (by omega)).trans (q7 _ (by omega) (by omega)))), (q5 _ (by omega) (by omega)).trans ((q6 _ (by omega) (by omega) (by omega)).trans ((u6 _ (by omega)).trans c5)), ⟨fun _ => 0, fun _ => 0, (q5 _ (by omega) (by omega)).trans c12, (q5 _ (by omega) (by omega)).trans ((u12 _ (by omega)).trans ((u11 _ (by omega)).trans ((u10 _ (by omega)).trans ((u9 _ (by omega)).trans c8)))), (q5 _ (by omega) (by omega)).trans ((u12 _ (by omega)).trans ((u11 _ (by omega)).trans c10)), fun k k1 k2 => ?_⟩, (u17 _ (by omega)).trans c16⟩, fun x hx => (q5 x (by omega) (by omega)).trans ((q6 x (by omega) (by omega) (by omega)).trans ((q7 x (by omega) (by omega)).trans ((u2 x (by omega)).trans (u1 x (by omega)))))⟩
  · rw [obb e1, obb e2, obb e3, obb e4]
    have t1 : ((xpf h4 (a + 1 + 4) 2 1 (.int 1)).bind fun h1 => some h1) = some h5 := by rw [obb e5]
    have t2 : ((xnw h7 (a + 1 + 6) (.inr (0, 8, .inl (fun _ => 0)))).bind fun h1 => (xpf h1 (a + 1 + 5) 4 0 (.ref (a + 1 + 6))).bind fun h3 => (xnw h3 (a + 1 + 6 + 1) (.inr (0, 8, .inl (fun _ => 0)))).bind fun h5 => (xpf h5 (a + 1 + 5) 4 1 (.ref (a + 1 + 6 + 1))).bind fun h7 => (xpf h7 (a + 1 + 5) 4 3 (.int 100)).bind fun h9 => some h9) = some h12 := by rw [obb e8, obb e9, obb e10, obb e11, obb e12]
    have t3 : ((xpf h14 (a + 1 + 8) 1 0 (.int 1)).bind fun h1 => (xpf h1 (a + 1 + 8) 1 1 (.int 1)).bind fun h3 => some h3) = some h16 := by rw [obb e15, obb e16]
    rw [obb t1, obb e6, obb e7, obb t2, obb e13, obb e14, obb t3, obb e17]
  · have k3 : (k : Int) < 0 := k2
    omega
/-- one slot of the ring made -/
theorem hstep {h : XH} {f : Nat → Option Nat} {i n : Nat} {x : Int32} (hx : x = i32 (i : Nat)) (hn : n = 13 + 10 * i) (hi : i < 8) (h11 : h 11 = some (.inl (3, [.ref 12, .int 0, .int 0]))) (h12 : h 12 = some (.inr (2, 8, .inr (.inr (.inr (.inr f)))))) : ∃ h' f', (∀ {α : Type} (K : XH → Option α), ((xgR h 11 3 0).bind fun v5 => (xln h v5).bind fun v7 => if v7 ≤ x then none else (xgR h 11 3 0).bind fun v9 => (xnw h n (.inl (5, [.null, .null, .null, .null]))).bind fun h11 => (fX5_init h11 (n + 1) n).bind fun h13 => (xsQ h13 v9 x n).bind K) = K h') ∧ h' 11 = some (.inl (3, [.ref 12, .int 0, .int 0])) ∧ h' 12 = some (.inr (2, 8, .inr (.inr (.inr (.inr f'))))) ∧ f' i = some n ∧ (∀ j, j ≠ i → f' j = f j) ∧ StAt h' n dfp ∧ ∀ y, y ≠ 12 → (y < n ∨ n + 9 < y) → h' y = h y := by
  subst hx
  obtain ⟨h1, e1, c1, u1⟩ := nwu h n (.inl (5, [.null, .null, .null, .null]))
  obtain ⟨h2, e2, S2, u2⟩ := stini (n := n + 1) rfl c1
  have f2 : ∀ y, (y < n ∨ n + 9 < y) → h2 y = h y := fun y hy => (u2 y hy).trans (u1 y (by omega))
  have g12 : h2 12 = some (.inr (2, 8, .inr (.inr (.inr (.inr f))))) := (f2 12 (by omega)).trans h12
  have sq : xsQ h2 12 (i32 (i : Nat)) n = some (xup h2 12 (.inr (2, 8, .inr (.inr (.inr (.inr (va_up f i (some n)))))))) := by
    simp only [xsQ, g12, S2.1]
    rw [if_pos ⟨trivial, trivial, bnd_ok (i := (i : Int)) (n := 8) (by omega) (by omega)⟩, i32_clamp (by omega), Int.toNat_natCast]
  have r0 : xgR h 11 3 0 = some 12 := gR h11 0 rfl
  have l : xln h 12 = some (i32 (8 : Nat)) := gL h12 (by omega)
  refine ⟨_, va_up f i (some n), fun K => ?_, (xup_n _ _ (by omega)).trans ((f2 11 (by omega)).trans h11), xup_s _ _ _, ?_, ?_, S2.fr (fun k hk => xup_n _ _ (by omega)), fun y p1 p2 => (xup_n _ _ p1).trans (f2 y p2)⟩
  · rw [obb r0, obb l, ile_f (by omega), obb r0, obb e1, obb e2, obb sq]
  · simp [va_up]
  · intro j hj
    simp [va_up, hj]
theorem hini {h : XH} (h0 : h 11 = some (.inl (3, [.null, .int 0, .int 0]))) : ∃ h', fX3_init h 12 11 = some h' ∧ HiAt h' (fun _ => dfp) 0 0 ∧ ∀ x, (x < 11 ∨ 92 < x) → h' x = h x := by
  unfold fX3_init
  simp only [Nat.reduceAdd]
  obtain ⟨h1, e1, c1, u1⟩ := nwu h 12 (.inr (2, 8, .inr (.inr (.inr (.inr (fun _ => none))))))
  obtain ⟨h2, e2, a2, u2⟩ := pfw ((u1 11 (by omega)).trans h0) 0 (.ref 12) (Nat.le_of_ble_eq_true rfl)
  obtain ⟨g0, f0, K0, a0, b0, q0, r0, S0, v0⟩ := hstep (n := 13) (i := 0) (x := 0) rfl rfl (by omega) a2 ((u2 12 (by omega)).trans c1)
  obtain ⟨g1, f1, K1, a1, b1, q1, r1, S1, v1⟩ := hstep (n := 23) (i := 1) (x := 1) rfl rfl (by omega) a0 b0
  obtain ⟨g2, f2, K2, a2', b2, q2, r2, S2, v2⟩ := hstep (n := 33) (i := 2) (x := 2) rfl rfl (by omega) a1 b1
  obtain ⟨g3, f3, K3, a3, b3, q3, r3, S3, v3⟩ := hstep (n := 43) (i := 3) (x := 3) rfl rfl (by omega) a2' b2
  obtain ⟨g4, f4, K4, a4, b4, q4, r4, S4, v4⟩ := hstep (n := 53) (i := 4) (x := 4) rfl rfl (by omega) a3 b3
  obtain ⟨g5, f5, K5, a5, b5, q5, r5, S5, v5⟩ := hstep (n := 63) (i := 5) (x := 5) rfl rfl (by omega) a4 b4
  obtain ⟨g6, f6, K6, a6, b6, q6, r6, S6, v6⟩ := hstep (n := 73) (i := 6) (x := 6) rfl rfl (by omega) a5 b5
  obtain ⟨g7, f7, K7, a7, b7, q7, r7, S7, v7⟩ := hstep (n := 83) (i := 7) (x := 7) rfl rfl (by omega) a6 b6
  have rl : xgR g7 11 3 0 = some 12 := gR a7 0 rfl
  have l : xln g7 12 = some (i32 (8 : Nat)) := gL b7 (by omega)
  have fin : ((xgR g7 11 3 0).bind fun v101 => (xln g7 v101).bind fun v103 => if v103 ≤ (8 : Int32) then some g7 else none) = some g7 := by
    rw [obb rl, obb l, L_8, ile_t (by omega)]
  have T0 : StAt g7 13 dfp := S0.fr (fun k hk => (v7 _ (by omega) (by omega)).trans ((v6 _ (by omega) (by omega)).trans ((v5 _ (by omega) (by omega)).trans ((v4 _ (by omega) (by omega)).trans ((v3 _ (by omega) (by omega)).trans ((v2 _ (by omega) (by omega)).trans (v1 _ (by omega) (by omega))))))))
  have T1 : StAt g7 23 dfp := S1.fr (fun k hk => (v7 _ (by omega) (by omega)).trans ((v6 _ (by omega) (by omega)).trans ((v5 _ (by omega) (by omega)).trans ((v4 _ (by omega) (by omega)).trans ((v3 _ (by omega) (by omega)).trans (v2 _ (by omega) (by omega)))))))
  have T2 : StAt g7 33 dfp := S2.fr (fun k hk => (v7 _ (by omega) (by omega)).trans ((v6 _ (by omega) (by omega)).trans ((v5 _ (by omega) (by omega)).trans ((v4 _ (by omega) (by omega)).trans (v3 _ (by omega) (by omega))))))
  have T3 : StAt g7 43 dfp := S3.fr (fun k hk => (v7 _ (by omega) (by omega)).trans ((v6 _ (by omega) (by omega)).trans ((v5 _ (by omega) (by omega)).trans (v4 _ (by omega) (by omega)))))
  have T4 : StAt g7 53 dfp := S4.fr (fun k hk => (v7 _ (by omega) (by omega)).trans ((v6 _ (by omega) (by omega)).trans (v5 _ (by omega) (by omega))))
  have T5 : StAt g7 63 dfp := S5.fr (fun k hk => (v7 _ (by omega) (by omega)).trans (v6 _ (by omega) (by omega)))
  have T6 : StAt g7 73 dfp := S6.fr (fun k hk => v7 _ (by omega) (by omega))
  refine ⟨g7, ?_, ⟨by omega, by omega, a7, ⟨f7, b7, fun i hi => ?_⟩, fun i hi => ⟨dfp, ?_⟩, fun j hj => absurd hj (by omega)⟩, fun x hx => (v7 x (by omega) (by omega)).trans ((v6 x (by omega) (by omega)).trans ((v5 x (by omega) (by omega)).trans ((v4 x (by omega) (by omega)).trans ((v3 x (by omega) (by omega)).trans ((v2 x (by omega) (by omega)).trans ((v1 x (by omega) (by omega)).trans ((v0 x (by omega) (by omega)).trans ((u2 x (by omega)).trans (u1 x (by omega))))))))))⟩
  · rw [obb e1, obb e2, K0, K1, K2, K3, K4, K5, K6, K7]
    exact fin
  · match i, hi with
    | 0, _ => rw [r7 0 (by omega), r6 0 (by omega), r5 0 (by omega), r4 0 (by omega), r3 0 (by omega), r2 0 (by omega), r1 0 (by omega), q0]
    | 1, _ => rw [r7 1 (by omega), r6 1 (by omega), r5 1 (by omega), r4 1 (by omega), r3 1 (by omega), r2 1 (by omega), q1]
    | 2, _ => rw [r7 2 (by omega), r6 2 (by omega), r5 2 (by omega), r4 2 (by omega), r3 2 (by omega), q2]
    | 3, _ => rw [r7 3 (by omega), r6 3 (by omega), r5 3 (by omega), r4 3 (by omega), q3]
    | 4, _ => rw [r7 4 (by omega), r6 4 (by omega), r5 4 (by omega), q4]
    | 5, _ => rw [r7 5 (by omega), r6 5 (by omega), q5]
    | 6, _ => rw [r7 6 (by omega), q6]
    | 7, _ => rw [q7]
    | n + 8, hn => exact absurd hn (by omega)
  · match i, hi with
    | 0, _ => exact T0
    | 1, _ => exact T1
    | 2, _ => exact T2
    | 3, _ => exact T3
    | 4, _ => exact T4
    | 5, _ => exact T5
    | 6, _ => exact T6
    | 7, _ => exact S7
    | n + 8, hn => exact absurd hn (by omega)
