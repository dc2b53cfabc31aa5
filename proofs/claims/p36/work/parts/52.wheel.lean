/-! the text is read as the wheel -/
theorem txt_nC {T : Nat → Int} {n tl : Nat} (hn : 1 ≤ n ∧ n ≤ 60) (hc : ∀ j, j < n → ∃ m, (0 ≤ m ∧ m ≤ 3) ∧ T j = chr m) (h64 : T n = 64) (ht : n < tl) : nC T tl = n := by
  obtain ⟨a, b, c, d⟩ := nC_ok T tl
  rcases Nat.lt_trichotomy (nC T tl) n with q | q | q
  · have e := d (by omega)
    obtain ⟨m, hm, hT⟩ := hc _ q
    rw [chr_cl hm hT (by omega)] at e
    cases e
  · exact q
  · have e := c n q
    unfold cl at e
    rw [decide_eq_true_eq, h64] at e
    omega
theorem txt_nd {T : Nat → Int} {n : Nat} {a b : Int} (ha : 0 ≤ a ∧ a ≤ 9) (hb : 0 ≤ b ∧ b ≤ 9) (h1 : T (n + 1) = 48 + a) (h2 : T (n + 2) = 48 + b) : nd T (n + 3) (n + 1) 2 = 2 := by
  obtain ⟨a1, b1, c1⟩ := nd_ok T (n + 3) (n + 1) 2
  have key : ∀ i, i < 2 → dg T (n + 3) (n + 1 + i) = true := by
    intro i hi
    unfold dg
    rw [decide_eq_true_eq]
    rcases (show i = 0 ∨ i = 1 by omega) with rfl | rfl
    · rw [Nat.add_zero, h1]; omega
    · rw [show n + 1 + 1 = n + 2 from rfl, h2]; omega
  apply Classical.byContradiction
  intro q
  have e := c1 (by omega)
  rw [key _ (by omega)] at e
  cases e
theorem txt_nv {T : Nat → Int} {n : Nat} {a b : Int} (h1 : T (n + 1) = 48 + a) (h2 : T (n + 2) = 48 + b) : nv T (n + 1) 2 = 10 * a + b := by
  have e : nv T (n + 1) 2 = 10 * (10 * 0 + T (n + 1) - 48) + T (n + 2) - 48 := rfl
  rw [e, h1, h2]
  omega
theorem txt_p1 {T : Nat → Int} {n : Nat} {a b : Int} (hn : 1 ≤ n ∧ n ≤ 60) (hc : ∀ j, j < n → ∃ m, (0 ≤ m ∧ m ≤ 3) ∧ T j = chr m) (h64 : T n = 64) (ha : 0 ≤ a ∧ a ≤ 5) (hb : 0 ≤ b ∧ b ≤ 9) (h1 : T (n + 1) = 48 + a) (h2 : T (n + 2) = 48 + b) : p1 T (n + 3) = (none, n + 3, 10 * a + b) := by
  have e1 := txt_nC hn hc h64 (tl := n + 3) (by omega)
  have e2 := txt_nd (n := n) (by omega) hb h1 h2
  have e3 := txt_nv h1 h2
  have e4 : rf T (n + 3) (n + 1) 2 59 = none := by
    unfold rf
    rw [e2, if_neg (by omega), if_neg (by unfold dg; rw [decide_eq_true_eq]; omega), e3, if_pos (by omega)]
  unfold p1
  rw [e1, if_pos (by unfold hv; rw [decide_eq_true_eq]; exact ⟨by omega, h64⟩), e4, e2, e3]
theorem txt_p2 {T : Nat → Int} {n : Nat} : p2 T (n + 3) (n + 3) = (none, n + 3, 0) := by
  unfold p2
  rw [if_neg (by unfold hv; rw [decide_eq_true_eq]; omega)]
theorem txt_pF {T : Nat → Int} {n : Nat} {a b : Int} (hn : 1 ≤ n ∧ n ≤ 60) (hc : ∀ j, j < n → ∃ m, (0 ≤ m ∧ m ≤ 3) ∧ T j = chr m) (h64 : T n = 64) (ha : 0 ≤ a ∧ a ≤ 5) (hb : 0 ≤ b ∧ b ≤ 9) (h1 : T (n + 1) = 48 + a) (h2 : T (n + 2) = 48 + b) : pF T (n + 3) = none := by
  unfold pF
  rw [txt_nC hn hc h64 (by omega), if_neg (by omega), txt_p1 hn hc h64 ha hb h1 h2]
  show pF2 T (n + 3) (n + 3) = none
  unfold pF2
  rw [txt_p2]
  show p3 (n + 3) (n + 3) = none
  exact if_pos (Nat.le_refl _)
/-! the law's wheel -/
def MkAt (h : XH) (p : Nat → Int) : Prop := ∃ f : Nat → Int32, h 102 = some (.inr (0, 60, .inl f)) ∧ ∀ j : Nat, (j : Int) < p 0 → f j = i32 (p (1 + j))
theorem wJ28 {N0 : Nat} {xs : Nat → Int32} {h : XH} {p : Nat → Int} {P : Nat → Nat → Int} {bk : Nat} {T : Nat → Int} {tl : Nat} {fk : Int} {f : Nat → Int32} (hN : N0 ≤ 260) (V : VP p) (C : RC h p P bk T tl fk) (A : h 102 = some (.inr (0, 60, .inl f))) {K : Int} (hK : 1 ≤ K ∧ K ≤ 20) (g : Int32) : ∃ h' p', fL_wheel_J28 N0 xs h 0 (1 : Int32) 102 g (1 : Int32) g (i32 K) = some (true, h') ∧ RX h' p' ∧ MkAt h' p' ∧ p' 63 = 0 ∧ (∀ j, 64 ≤ j → p' j = p j) ∧ ∀ x, 102 < x → h' x = h x := by
  obtain ⟨r5, e5, b5⟩ := low_ok g (n := K) (by omega)
  have eq1 : (1 : Int32) + i32 r5 = i32 (1 + r5) := by rw [L_1, i32_add]
  generalize hq0 : 1 + r5 = q at eq1
  have hq : 1 ≤ q ∧ q ≤ 20 := by omega
  have e60 : (60 : Int32) / i32 q = i32 (60 / q) := by rw [L_60, i32_div (by omega) (by omega), tdiv_pos (by omega)]
  have d1 : 3 ≤ 60 / q := Int.le_ediv_of_mul_le (by omega) (by omega)
  have d2 : 60 / q ≤ 60 := Int.ediv_le_self _ (by omega)
  obtain ⟨r8, e8, b8⟩ := low_ok (g >>> ((5 : Int32) &&& 31)) (n := 60 / q) (by omega)
  have eq2 : i32 q * ((1 : Int32) + i32 r8) = i32 (q * (1 + r8)) := by rw [L_1, i32_add, i32_mul]
  have n1 : 0 < q * (1 + r8) := Int.mul_pos (by omega) (by omega)
  have n2 : q * (1 + r8) ≤ q * (60 / q) := Int.mul_le_mul_of_nonneg_left (by omega) (by omega)
  have n3 : q * (60 / q) ≤ 60 := Int.mul_ediv_self_le (by omega)
  generalize hn0 : q * (1 + r8) = n at eq2 n1 n2
  have hn : 1 ≤ n ∧ n ≤ 60 := by omega
  obtain ⟨h1, e1, C1, u1⟩ := C.clr
  obtain ⟨h2, f2, T2, e2, A2, C2, Q2, u2⟩ := wloop (N0 := N0) (xs := xs) hN C1 ((u1 102 (by omega)).trans A) (n := n) (q := q) hn hq g
  obtain ⟨r, er, br⟩ := low_ok (g >>> ((16 : Int32) &&& 31)) (n := 60) (by omega)
  have m1 : 0 ≤ r / 10 ∧ r / 10 ≤ 5 := by omega
  have m2 : 0 ≤ r % 10 ∧ r % 10 ≤ 9 := by omega
  obtain ⟨h3, e3, C3, u3⟩ := C2.typ (z := 64) (by omega) (by omega)
  obtain ⟨h4, e4, C4, u4⟩ := C3.typ (z := 48 + r / 10) (by omega) (by omega)
  obtain ⟨h5, e5', C5, u5⟩ := C4.typ (z := 48 + r % 10) (by omega) (by omega)
  generalize hm : n.toNat = m at *
  have hmn : (m : Int) = n := by omega
  have t10 : ¬ (10 : Int32) = 0 := by decide
  have a1 : (48 : Int32) + i32 r / 10 = i32 (48 + r / 10) := by rw [L_48, L_10, i32_div (by omega) (by omega), tdiv_pos (by omega), i32_add]
  have a2 : (48 : Int32) + xrem (i32 r) 10 = i32 (48 + r % 10) := by rw [L_48, L_10, i32_rem (by omega) (by omega), tmod_pos (by omega), i32_add]
  -- the text
  have hc' : ∀ j, j < m → ∃ v, (0 ≤ v ∧ v ≤ 3) ∧ f2 j = i32 v ∧ pu (pu (pu T2 m 64) (m + 1) (48 + r / 10)) (m + 1 + 1) (48 + r % 10) j = chr v := fun j hj => by
    obtain ⟨v, a, b, c⟩ := Q2 j hj
    exact ⟨v, a, b, by rw [pu_n _ _ (by omega), pu_n _ _ (by omega), pu_n _ _ (by omega)]; exact c⟩
  have c64 : pu (pu (pu T2 m 64) (m + 1) (48 + r / 10)) (m + 1 + 1) (48 + r % 10) m = 64 := by rw [pu_n _ _ (by omega), pu_n _ _ (by omega), pu_s]
  have c1 : pu (pu (pu T2 m 64) (m + 1) (48 + r / 10)) (m + 1 + 1) (48 + r % 10) (m + 1) = 48 + r / 10 := by rw [pu_n _ _ (by omega), pu_s]
  have c2 : pu (pu (pu T2 m 64) (m + 1) (48 + r / 10)) (m + 1 + 1) (48 + r % 10) (m + 2) = 48 + r % 10 := pu_s _ _ _
  generalize pu (pu (pu T2 m 64) (m + 1) (48 + r / 10)) (m + 1 + 1) (48 + r % 10) = TT at *
  have hc : ∀ j, j < m → ∃ v, (0 ≤ v ∧ v ≤ 3) ∧ TT j = chr v := fun j hj => by
    obtain ⟨v, a, -, c⟩ := hc' j hj
    exact ⟨v, a, c⟩
  have hT : TR TT (m + 3) := ⟨by omega, fun k hk => by
    rcases (show k < m ∨ k = m ∨ k = m + 1 ∨ k = m + 2 by omega) with z | z | z | z
    · obtain ⟨v, a, b⟩ := hc k z
      rw [b]; exact chr_rng a
    · rw [z, c64]; omega
    · rw [z, c1]; omega
    · rw [z, c2]; omega⟩
  have pf := txt_pF (by omega) hc c64 m1 m2 c1 c2
  have pp := txt_p1 (by omega) hc c64 m1 m2 c1 c2
  have pc := txt_nC (by omega) hc c64 (tl := m + 3) (by omega)
  obtain ⟨h6, e6, C6, -, u6⟩ := cLoad C5 hT
  have C7 := C6 pf
  have al : aLoad TT (m + 3) = n := by unfold aLoad; rw [pf]; show ((nC TT (m + 3) : Nat) : Int) = n; rw [pc]; exact hmn
  rw [al] at e6
  have V7 : VP (ldp p TT (m + 3)) := vLoad V pf
  have R7 : RX h6 (ldp p TT (m + 3)) := ⟨V7, _, _, _, _, _, C7⟩
  have q0 : ldp p TT (m + 3) 0 = n := by rw [ldp_0, pc]; exact hmn
  have q61 : ldp p TT (m + 3) 61 = r := by rw [ldp_61, pp]; show 10 * (r / 10) + r % 10 = r; omega
  have q62 : ldp p TT (m + 3) 62 = 0 := by
    rw [ldp_62, pp]
    show (p2 TT (m + 3) (m + 3)).2.2 = 0
    rw [txt_p2]
  have N0' := R7.n0
  have N3' := R7.n3
  have N4' := R7.n4
  rw [q0] at N0'
  rw [q61] at N3'
  rw [q62] at N4'
  rw [← L_60] at er
  have fr : ∀ x, 101 < x → h6 x = h2 x := fun x hx => (u6 x hx).trans ((u5 x hx).trans ((u4 x hx).trans (u3 x hx)))
  refine ⟨h6, ldp p TT (m + 3), ?_, R7, ⟨f2, (fr 102 (by omega)).trans A2, fun j hj => ?_⟩, ldp_63 _ _ _, fun j hj => ldp_hi _ _ _ hj, fun x hx => (fr x (by omega)).trans ((u2 x hx).trans (u1 x (by omega)))⟩
  · unfold fL_wheel_J28
    rw [obb e5, eq1, if_neg (by rw [L_0, i32_eq (by omega)]; omega), e60, obb e8, xlb, eq2, obb C.1.c, obb e1, obb e2, obb er, obb C2.1.c, L_64, obb e3, if_neg t10, obb C3.1.c, a1, obb e4, if_neg t10, obb C4.1.c, a2, obb e5', obb C5.1.c, obb e6, if_pos rfl, obb R7.c, obb N0', if_pos rfl, obb R7.c, obb N3', if_pos rfl, obb R7.c, obb N4', if_pos (by rw [L_0])]
  · rw [q0] at hj
    obtain ⟨v, a, b, c⟩ := hc' j (by omega)
    rw [ldp_mk _ _ _ (by omega), if_pos (by rw [pc]; omega), b, chr_cv a c]
theorem lwheel {N0 : Nat} {xs : Nat → Int32} {h : XH} {p : Nat → Int} {P : Nat → Nat → Int} {bk : Nat} {T : Nat → Int} {tl : Nat} {fk : Int} {f : Nat → Int32} (hN : N0 ≤ 260) (V : VP p) (C : RC h p P bk T tl fk) (A : h 102 = some (.inr (0, 60, .inl f))) : ∃ h' p', fL_wheel N0 xs h 0 (1 : Int32) 102 = some (true, h') ∧ RX h' p' ∧ MkAt h' p' ∧ p' 63 = 0 ∧ (∀ j, 64 ≤ j → p' j = p j) ∧ ∀ x, 102 < x → h' x = h x := by
  obtain ⟨g, eg⟩ := cell_ok (xs := xs) hN (k := 1) (by omega)
  rw [← L_1] at eg
  obtain ⟨v, ev, -⟩ := low_ok (g >>> ((3 : Int32) &&& 31)) (n := 3) (by omega)
  rw [← L_3] at ev
  unfold fL_wheel
  rw [obb eg, obb ev, L_20, L_6]
  split
  · exact wJ28 hN V C A (by omega) g
  · exact wJ28 hN V C A (by omega) g
