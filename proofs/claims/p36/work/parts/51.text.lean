/-! the text and the wheel that the law makes -/
theorem xlb {α β : Type} (a : α) (f : α → Option β) : xlet a f = f a := rfl
def chr (m : Int) : Int := if m = 0 then 46 else 96 + m
theorem chr_rng {m : Int} (hm : 0 ≤ m ∧ m ≤ 3) : 32 ≤ chr m ∧ chr m ≤ 126 := by unfold chr; split <;> omega
theorem chr_cv {T : Nat → Int} {k : Nat} {m : Int} (hm : 0 ≤ m ∧ m ≤ 3) (h : T k = chr m) : cv T k = m := by
  unfold cv
  rw [h]
  unfold chr
  split
  · rw [if_pos rfl]; omega
  · rw [if_neg (by omega)]; omega
theorem chr_cl {T : Nat → Int} {tl k : Nat} {m : Int} (hm : 0 ≤ m ∧ m ≤ 3) (h : T k = chr m) (hk : k < tl) : cl T tl k = true := by
  unfold cl
  rw [decide_eq_true_eq, h]
  unfold chr
  split <;> omega
section
variable {h : XH} {p : Nat → Int} {P : Nat → Nat → Int} {bk : Nat} {T : Nat → Int} {tl : Nat} {fk : Int}
theorem RC.clr (C : RC h p P bk T tl fk) : ∃ h', fX8_clearText h 0 = some (i32 (tl : Nat), h') ∧ RC h' p P bk T 0 fk ∧ frz h h' := by
  obtain ⟨N, ⟨nx, H⟩, ⟨c, sp, a, t1, t2, t3⟩, ⟨q, W⟩, CS⟩ := C
  have g2 : xgR h 0 8 2 = some 93 := gR N.1 2 rfl
  obtain ⟨h1, e1, a1, u1⟩ := pfw t1 2 (.int (i32 ((0 : Nat) : Int))) (Nat.le_of_ble_eq_true rfl)
  have e1' : xpf h 93 7 2 (.int 0) = some h1 := e1
  unfold fX8_clearText
  refine ⟨h1, by rw [obb g2, obb (gI t1 2 rfl), obb g2, obb e1'], ⟨N.fr (fun x hx => u1 x (by omega)), ⟨nx, H.fr (fun x hx => u1 x (by omega))⟩, ⟨c, sp, a, a1, (u1 _ (by omega)).trans t2, fun k hk => absurd hk (by omega)⟩, ⟨q, W.fr (fun k hk => u1 _ (by omega))⟩, CS.fr (fun x hx => u1 x (by omega))⟩, fun x hx => u1 x (by omega)⟩
theorem RC.typ (C : RC h p P bk T tl fk) {z : Int} (hz : 32 ≤ z ∧ z ≤ 126) (ht : tl < 80) : ∃ h', fX8_type h 0 (i32 z) = some (i32 ((tl + 1 : Nat) : Int), h') ∧ RC h' p P bk (pu T tl z) (tl + 1) fk ∧ frz h h' := by
  obtain ⟨N, ⟨nx, H⟩, ⟨c, sp, a, t1, t2, t3⟩, ⟨q, W⟩, CS⟩ := C
  have g2 : xgR h 0 8 2 = some 93 := gR N.1 2 rfl
  have g0 : xgR h 93 7 0 = some 94 := gR t1 0 rfl
  have co : xco h 93 7 = some () := gC t1
  have e1 := put_ok t2 (by omega) (i := (tl : Int)) (i32 z) (by omega)
  rw [if_pos (by omega), Int.toNat_natCast] at e1
  have t1' := (xup_n h (.inr (0, 80, .inl (upd c tl (i32 z)))) (show (93 : Nat) ≠ 94 by omega)).trans t1
  obtain ⟨h1, e2, a2, u2⟩ := pfw t1' 2 (.int (i32 ((tl + 1 : Nat) : Int))) (Nat.le_of_ble_eq_true rfl)
  have fr : ∀ x, x ≠ 93 → x ≠ 94 → h1 x = h x := fun x p1 p2 => (u2 x p1).trans (xup_n _ _ p2)
  have ap : fX7_append h 93 (i32 z) = some h1 := by
    unfold fX7_append
    rw [obb g0, obb (gI t1 2 rfl), obb e1, obb (gI t1' 2 rfl), L_1, i32_add, show (tl : Int) + 1 = ((tl + 1 : Nat) : Int) from rfl, obb e2]
  have g2' : xgR h1 0 8 2 = some 93 := gR ((fr 0 (by omega) (by omega)).trans N.1) 2 rfl
  have tr : ∀ (f : Nat → Int32), (∀ k, k < tl → f k = i32 (T k)) → ∀ k, k < tl + 1 → upd f tl (i32 z) k = i32 (pu T tl z k) := by
    intro f hfk k hk
    simp only [upd, pu]
    by_cases y : k = tl
    · rw [if_pos y, if_pos y]
    · rw [if_neg y, if_neg y]; exact hfk k (by omega)
  unfold fX8_type
  refine ⟨h1, by rw [L_32, L_126, obb (within_ok (by omega) (by omega) (by omega)), decide_eq_true hz, if_pos rfl, obb g2, obb (gI t1 2 rfl), L_80, clt (by omega), if_pos (by omega), obb g2, obb co, obb ap, obb g2', obb (gI a2 2 rfl)], ⟨N.fr (fun x hx => fr x (by omega) (by omega)), ⟨nx, H.fr (fun x hx => fr x (by omega) (by omega))⟩, ⟨_, sp, a, a2, (u2 _ (by omega)).trans (xup_s _ _ _), tr c t3⟩, ⟨q, W.fr (fun k hk => fr _ (by omega) (by omega))⟩, CS.fr (fun x hx => fr x (by omega) (by omega))⟩, fun x hx => fr x (by omega) (by omega)⟩
/-! one cell -/
variable {N0 : Nat} {xs : Nat → Int32} {f : Nat → Int32} {k : Nat}
theorem w182 (C : RC h p P bk T k fk) (A : h 102 = some (.inr (0, 60, .inl f))) (hk : k < 60) {m : Int} (hm : 0 ≤ m ∧ m ≤ 3) (x2 x4 x5 x7 : Int32) : ∃ h', fL_wheel_J182 N0 xs h 0 x2 102 x4 x5 x7 (i32 (k : Nat)) 102 (i32 (k : Nat)) (i32 m) = some (.inl (h', i32 ((k + 1 : Nat) : Int))) ∧ h' 102 = some (.inr (0, 60, .inl (upd f k (i32 m)))) ∧ RC h' p P bk (pu T k (chr m)) (k + 1) fk ∧ ∀ x, 102 < x → h' x = h x := by
  have s1 := gS A (i := (k : Int)) (i32 m) (by omega) (by omega)
  rw [Int.toNat_natCast] at s1
  generalize hh : xup h 102 (.inr (0, 60, .inl (upd f k (i32 m)))) = h1 at s1
  have A1 : h1 102 = some (.inr (0, 60, .inl (upd f k (i32 m)))) := by rw [← hh]; exact xup_s _ _ _
  have u1 : ∀ x, x ≠ 102 → h1 x = h x := fun x hx => by rw [← hh]; exact xup_n _ _ hx
  have C1 := C.re (h' := h1) (fun x hx => u1 x (by omega))
  have r1 := gA A1 (i := (k : Int)) (by omega) (by omega)
  rw [Int.toNat_natCast, show upd f k (i32 m) k = i32 m by simp [upd]] at r1
  unfold fL_wheel_J182
  rw [obb s1, obb r1, L_0, ceq (by omega)]
  by_cases q : m = 0
  · obtain ⟨h2, e2, C2, u2⟩ := C1.typ (z := 46) (by omega) (by omega)
    rw [if_pos q, obb C1.1.c, L_46, obb e2, L_1, i32_add]
    refine ⟨h2, rfl, (u2 102 (by omega)).trans A1, ?_, fun x hx => (u2 x (by omega)).trans (u1 x (by omega))⟩
    rw [show chr m = 46 from if_pos q]
    exact C2
  · obtain ⟨h2, e2, C2, u2⟩ := C1.typ (z := 97 + m - 1) (by omega) (by omega)
    rw [if_neg q, obb r1, obb C1.1.c, L_97, L_1, i32_add, i32_sub, obb e2, i32_add]
    refine ⟨h2, rfl, (u2 102 (by omega)).trans A1, ?_, fun x hx => (u2 x (by omega)).trans (u1 x (by omega))⟩
    rw [show chr m = 97 + m - 1 by unfold chr; rw [if_neg q]; omega]
    exact C2
theorem w143 (C : RC h p P bk T k fk) (A : h 102 = some (.inr (0, 60, .inl f))) (hk : k < 60) {m n : Int} (hm : 0 ≤ m ∧ m ≤ 3) (hn : 1 ≤ n ∧ n ≤ 60) (x2 x4 x5 : Int32) : ∃ h' f' m', (0 ≤ m' ∧ m' ≤ 3) ∧ fL_wheel_J143 N0 xs h 0 x2 102 x4 x5 (i32 n) (i32 (k : Nat)) 102 (i32 (k : Nat)) (i32 m) = some (.inl (h', i32 ((k + 1 : Nat) : Int))) ∧ h' 102 = some (.inr (0, 60, .inl f')) ∧ f' k = i32 m' ∧ (∀ j, j ≠ k → f' j = f j) ∧ RC h' p P bk (pu T k (chr m')) (k + 1) fk ∧ ∀ x, 102 < x → h' x = h x := by
  have s1 := gS A (i := (k : Int)) (i32 m) (by omega) (by omega)
  rw [Int.toNat_natCast] at s1
  generalize hh : xup h 102 (.inr (0, 60, .inl (upd f k (i32 m)))) = h1 at s1
  have A1 : h1 102 = some (.inr (0, 60, .inl (upd f k (i32 m)))) := by rw [← hh]; exact xup_s _ _ _
  have u1 : ∀ x, x ≠ 102 → h1 x = h x := fun x hx => by rw [← hh]; exact xup_n _ _ hx
  have C1 := C.re (h' := h1) (fun x hx => u1 x (by omega))
  have r1 := gA A1 (i := (k : Int)) (by omega) (by omega)
  rw [Int.toNat_natCast, show upd f k (i32 m) k = i32 m by simp [upd]] at r1
  have go : ∀ m' : Int, (0 ≤ m' ∧ m' ≤ 3) → ∃ h' f', fL_wheel_J182 N0 xs h1 0 x2 102 x4 x5 (i32 n) (i32 (k : Nat)) 102 (i32 (k : Nat)) (i32 m') = some (.inl (h', i32 ((k + 1 : Nat) : Int))) ∧ h' 102 = some (.inr (0, 60, .inl f')) ∧ f' k = i32 m' ∧ (∀ j, j ≠ k → f' j = f j) ∧ RC h' p P bk (pu T k (chr m')) (k + 1) fk ∧ ∀ x, 102 < x → h' x = h x := by
    intro m' hm'
    obtain ⟨h2, e2, A2, C2, u2⟩ := w182 (N0 := N0) (xs := xs) C1 A1 hk hm' x2 x4 x5 (i32 n)
    exact ⟨h2, _, e2, A2, by simp [upd], fun j hj => by simp [upd, hj], C2, fun x hx => (u2 x hx).trans (u1 x (by omega))⟩
  have g78 : fL_wheel_J178 N0 xs h1 0 x2 102 x4 x5 (i32 n) (i32 (k : Nat)) 102 (i32 (k : Nat)) = fL_wheel_J182 N0 xs h1 0 x2 102 x4 x5 (i32 n) (i32 (k : Nat)) 102 (i32 (k : Nat)) (i32 m) := by
    unfold fL_wheel_J178
    rw [obb r1]
  obtain ⟨v, ev, hv⟩ := low_ok (x4 >>> ((11 : Int32) &&& 31)) (n := 4) (by omega)
  obtain ⟨w, ew, hw⟩ := low_ok (x4 >>> ((13 : Int32) &&& 31)) (n := n) (by omega)
  rw [← L_4] at ev
  unfold fL_wheel_J143
  rw [obb s1, obb ev, g78]
  obtain ⟨h2, f2, a⟩ := go m hm
  obtain ⟨h3, f3, b⟩ := go 3 (by omega)
  rw [← L_3] at b
  by_cases q : i32 v = 0
  · rw [if_pos q, obb ew]
    by_cases q2 : i32 (k : Nat) = i32 w
    · rw [if_pos q2]
      rw [L_3] at b
      refine ⟨h3, f3, 3, by omega, ?_⟩
      rw [L_3]
      exact b
    · rw [if_neg q2]
      exact ⟨h2, f2, m, hm, a⟩
  · rw [if_neg q]
    exact ⟨h2, f2, m, hm, a⟩
theorem wbody (hN : N0 ≤ 260) (C : RC h p P bk T k fk) (A : h 102 = some (.inr (0, 60, .inl f))) {n q : Int} (hk : (k : Int) < n) (hn : 1 ≤ n ∧ n ≤ 60) (hq : 1 ≤ q ∧ q ≤ 20) (g : Int32) : ∃ h' f' m', (0 ≤ m' ∧ m' ≤ 3) ∧ fL_wheel_B65 N0 xs 0 (1 : Int32) 102 g (i32 q) (i32 n) (h, i32 (k : Nat)) = some (.inl (h', i32 ((k + 1 : Nat) : Int))) ∧ h' 102 = some (.inr (0, 60, .inl f')) ∧ f' k = i32 m' ∧ (∀ j, j ≠ k → f' j = f j) ∧ RC h' p P bk (pu T k (chr m')) (k + 1) fk ∧ ∀ x, 102 < x → h' x = h x := by
  have m1 := Int.emod_nonneg (k : Int) (show q ≠ 0 by omega)
  have m2 := Int.emod_lt_of_pos (k : Int) (show 0 < q by omega)
  have m3 := Int.emod_nonneg ((k : Int) % q) (show (6 : Int) ≠ 0 by omega)
  have m4 := Int.emod_lt_of_pos ((k : Int) % q) (show (0 : Int) < 6 by omega)
  have ea : ((1 : Int32) + 1) + xrem (xrem (i32 (k : Nat)) (i32 q)) 6 = i32 (2 + ((k : Int) % q) % 6) := by
    rw [L_1, L_6, i32_rem (by omega) (by omega), tmod_pos (by omega), i32_rem (by omega) (by omega), tmod_pos (by omega), i32_add, i32_add]
    rfl
  have hx5 : ¬ i32 q = 0 := by rw [L_0, i32_eq (by omega)]; omega
  have h6 : ¬ (6 : Int32) = 0 := by decide
  obtain ⟨v16, e16⟩ := cell_ok (xs := xs) hN (k := 2 + ((k : Int) % q) % 6) (by omega)
  unfold fL_wheel_B65 fL_wheel_b65
  dsimp only
  rw [ile_f (by omega), if_neg hx5, if_neg h6, ea, obb e16, if_neg hx5, if_neg h6, xlb]
  generalize (v16 >>> _) = y
  obtain ⟨r, er, hr⟩ := low_ok y (n := 2) (by omega)
  obtain ⟨r2, er2, hr2⟩ := low_ok (g >>> ((9 : Int32) &&& 31)) (n := 2) (by omega)
  obtain ⟨r3, er3, hr3⟩ := low_ok (y >>> ((1 : Int32) &&& 31)) (n := 1) (by omega)
  obtain ⟨r4, er4, hr4⟩ := low_ok (y >>> ((1 : Int32) &&& 31)) (n := 3) (by omega)
  rw [← L_2] at er er2
  rw [← L_1] at er3
  rw [← L_3] at er4
  rw [obb er]
  by_cases z : i32 r = 0
  · rw [if_pos z]
    exact w143 C A (by omega) (m := 0) (by omega) hn _ _ _
  · rw [if_neg z, obb er2]
    by_cases z2 : i32 r2 = 0
    · rw [if_pos z2]
      unfold fL_wheel_J139
      rw [obb er3, show (1 : Int32) + i32 r3 = i32 (1 + r3) by rw [L_1, i32_add]]
      exact w143 C A (by omega) (m := 1 + r3) (by omega) hn _ _ _
    · rw [if_neg z2]
      unfold fL_wheel_J139
      rw [obb er4, show (1 : Int32) + i32 r4 = i32 (1 + r4) by rw [L_1, i32_add]]
      exact w143 C A (by omega) (m := 1 + r4) (by omega) hn _ _ _
end
/-! all cells -/
theorem wloop {N0 : Nat} {xs : Nat → Int32} {h : XH} {p : Nat → Int} {P : Nat → Nat → Int} {bk : Nat} {T : Nat → Int} {fk : Int} {f : Nat → Int32} (hN : N0 ≤ 260) (C : RC h p P bk T 0 fk) (A : h 102 = some (.inr (0, 60, .inl f))) {n q : Int} (hn : 1 ≤ n ∧ n ≤ 60) (hq : 1 ≤ q ∧ q ≤ 20) (g : Int32) : ∃ h' f' T', xloop (fL_wheel_B65 N0 xs 0 (1 : Int32) 102 g (i32 q) (i32 n)) 5000 (h, (0 : Int32)) = some h' ∧ h' 102 = some (.inr (0, 60, .inl f')) ∧ RC h' p P bk T' n.toNat fk ∧ (∀ j, j < n.toNat → ∃ m, (0 ≤ m ∧ m ≤ 3) ∧ f' j = i32 m ∧ T' j = chr m) ∧ ∀ x, 102 < x → h' x = h x := by
  obtain ⟨e, he, h', f', T', rfl, A', C', Q', u'⟩ := xl_inv (fL_wheel_B65 N0 xs 0 (1 : Int32) 102 g (i32 q) (i32 n)) (fun k s => ∃ (h' : XH) (f' : Nat → Int32) (T' : Nat → Int), s = (h', i32 (k : Nat)) ∧ h' 102 = some (.inr (0, 60, .inl f')) ∧ RC h' p P bk T' k fk ∧ (∀ j, j < k → ∃ m, (0 ≤ m ∧ m ≤ 3) ∧ f' j = i32 m ∧ T' j = chr m) ∧ ∀ x, 102 < x → h' x = h x) n.toNat (fun e => ∃ (h' : XH) (f' : Nat → Int32) (T' : Nat → Int), e = h' ∧ h' 102 = some (.inr (0, 60, .inl f')) ∧ RC h' p P bk T' n.toNat fk ∧ (∀ j, j < n.toNat → ∃ m, (0 ≤ m ∧ m ≤ 3) ∧ f' j = i32 m ∧ T' j = chr m) ∧ ∀ x, 102 < x → h' x = h x) (by
    rintro k s hk ⟨h', f', T', rfl, A', C', Q', u'⟩
    obtain ⟨h2, f2, m', hm', e2, A2, F2, G2, C2, u2⟩ := wbody (N0 := N0) (xs := xs) hN C' A' (n := n) (q := q) (by omega) hn hq g
    refine ⟨_, e2, h2, f2, _, rfl, A2, C2, fun j hj => ?_, fun x hx => (u2 x hx).trans (u' x hx)⟩
    by_cases z : j = k
    · subst z
      exact ⟨m', hm', F2, pu_s _ _ _⟩
    · obtain ⟨m, a, b, c⟩ := Q' j (by omega)
      exact ⟨m, a, (G2 j z).trans b, (pu_n _ _ z).trans c⟩) (by
    rintro s ⟨h', f', T', rfl, A', C', Q', u'⟩
    refine ⟨h', ?_, h', f', T', rfl, A', C', Q', u'⟩
    unfold fL_wheel_B65 fL_wheel_b65
    dsimp only
    rw [ile_t (by omega)]) (h, (0 : Int32)) ⟨h, f, T, rfl, A, C, fun j hj => absurd hj (by omega), fun _ _ => rfl⟩ 5000 (by omega)
  exact ⟨_, f', T', he, A', C', Q', u'⟩
