/-! the law's flashes -/
theorem MkAt.cg {h h' : XH} {p p' : Nat → Int} (M : MkAt h p) (u : h' 102 = h 102) (e : ∀ i, i ≤ 60 → p' i = p i) (V : VP p) : MkAt h' p' := by
  obtain ⟨f, A, Q⟩ := M
  have := V.n
  refine ⟨f, u.trans A, fun j hj => ?_⟩
  rw [e 0 (by omega)] at hj
  rw [e _ (by omega)]
  exact Q j hj
theorem TsAt.cg {h h' : XH} {p p' : Nat → Int} (T : TsAt h p) (u : ∀ x, x = 103 ∨ x = 104 → h' x = h x) (e : ∀ i, 62 ≤ i ∧ i ≤ 73 → p' i = p i) (V : VP p) : TsAt h' p' := by
  obtain ⟨f, g, A, B, Q⟩ := T
  have := V.ch
  refine ⟨f, g, (u _ (by omega)).trans A, (u _ (by omega)).trans B, fun j hj => ?_⟩
  rw [e 63 (by omega)] at hj
  have q := Q j hj
  rcases j with _ | j
  · have c : cur p' 0 = cur p 0 := e 62 (by omega)
    rw [c]
    exact q
  · rw [tkt_succ, cur_succ] at q ⊢
    rw [e (64 + 2 * j) (by omega), e (65 + 2 * j) (by omega)]
    exact q
section
variable {h : XH} {p : Nat → Int}
theorem aFl {z w : Int} (hz : 0 ≤ z ∧ z ≤ nfl p - 1) (hw : 0 ≤ w ∧ w ≤ 3) : aFlash p z w = if w = 0 then tkf p z else if w = 1 then trn p (tkf p z).toNat % p 0 else if w = 2 then (if z = nfl p - 1 then -1004 else wst p (trn p (tkf p (z + 1)).toNat - trn p (tkf p z).toNat)) else (erl p z : Int) := by
  unfold aFlash
  rw [if_pos (show isF p z = true from decide_eq_true hz), if_pos (decide_eq_true hw)]
theorem RX.flw (R : RX h p) {z w : Int} (hz : 0 ≤ z ∧ z ≤ nfl p - 1) (hw : 0 ≤ w ∧ w ≤ 3) : fX8_flash h 0 (i32 z) (i32 w) = some (i32 (aFlash p z w)) := by
  have n := nfl_rng R.V
  exact cFlash R.N R.V (by omega) (by omega)
theorem RX.fl0 (R : RX h p) {z : Int} (hz : 0 ≤ z ∧ z ≤ nfl p - 1) : fX8_flash h 0 (i32 z) (0 : Int32) = some (i32 (tkf p z)) := by
  have C := R.flw (w := 0) hz (by omega)
  rw [aFl hz (by omega), if_pos rfl] at C
  exact C
theorem RX.fl1 (R : RX h p) {z : Int} (hz : 0 ≤ z ∧ z ≤ nfl p - 1) : fX8_flash h 0 (i32 z) (1 : Int32) = some (i32 (trn p (tkf p z).toNat % p 0)) := by
  have C := R.flw (w := 1) hz (by omega)
  rw [aFl hz (by omega), if_neg (by omega), if_pos rfl] at C
  exact C
theorem RX.fl2 (R : RX h p) {z : Int} (hz : 0 ≤ z ∧ z ≤ nfl p - 2) : fX8_flash h 0 (i32 z) (2 : Int32) = some (i32 (wst p (trn p (tkf p (z + 1)).toNat - trn p (tkf p z).toNat))) := by
  have C := R.flw (z := z) (w := 2) (by omega) (by omega)
  rw [aFl (by omega) (by omega), if_neg (by omega), if_neg (by omega), if_pos rfl, if_neg (by omega)] at C
  exact C
theorem RX.fl2e (R : RX h p) : fX8_flash h 0 (i32 (nfl p - 1)) (2 : Int32) = some (i32 (-1004)) := by
  have n := nfl_rng R.V
  have C := R.flw (z := nfl p - 1) (w := 2) (by omega) (by omega)
  rw [aFl (by omega) (by omega), if_neg (by omega), if_neg (by omega), if_pos rfl, if_pos rfl] at C
  exact C
theorem RX.fl3 (R : RX h p) {z : Int} (hz : 0 ≤ z ∧ z ≤ nfl p - 1) : fX8_flash h 0 (i32 z) (3 : Int32) = some (i32 (erl p z : Nat)) := by
  have C := R.flw (w := 3) hz (by omega)
  rw [aFl hz (by omega), if_neg (by omega), if_neg (by omega), if_neg (by omega)] at C
  exact C
theorem RX.mark (R : RX h p) {t q : Int} (ht : 0 ≤ t ∧ t ≤ 1000) (hq : 0 ≤ q ∧ q < p 0) : fX8_markAt h 0 (i32 t) (i32 q) = some (i32 (p (1 + ((q - trn p t.toNat) % p 0).toNat))) := by
  have n := R.V.n
  have C := cMark R.N R.V (z := t) (q := q) (by omega) (by omega)
  unfold aMark at C
  rw [if_pos (show isT t = true from decide_eq_true ht), if_pos (decide_eq_true (by omega))] at C
  exact C
theorem RX.seem (R : RX h p) {w : Int} (hw : 0 ≤ w ∧ w ≤ 2) : fX8_seems h 0 (i32 w) = some (i32 (cnt (sgn p w) (nfl p - 1).toNat : Nat)) := by
  have C := cSeems R.N R.V (w := w) (by omega)
  unfold aSeems at C
  rw [if_pos (decide_eq_true (by omega)), if_neg (by omega)] at C
  exact C
theorem RX.seem3 (R : RX h p) : fX8_seems h 0 (3 : Int32) = some (i32 (pics p : Nat)) := by
  have C := cSeems R.N R.V (w := 3) (by omega)
  unfold aSeems at C
  rw [if_pos (decide_eq_true (by omega)), if_pos rfl] at C
  exact C
theorem cnt_sup {P : Nat → Bool} {m : Nat} (h : ∀ i, m ≤ i → P i = false) : ∀ n, cnt P n ≤ m
  | 0 => Nat.zero_le _
  | n + 1 => by
    have ih := cnt_sup h n
    rcases Nat.lt_or_ge n m with q | q
    · have := cnt_le P (n + 1)
      omega
    · show cnt P n + (if P n then 1 else 0) ≤ m
      rw [h n q]
      simpa using ih
theorem pics_le (V : VP p) : pics p ≤ msr p := by
  have m := msr_rng V
  refine cnt_sup (fun i hi => ?_) 64
  have key : ¬ (pset p (nfl p).toNat).testBit i = true := fun q => by
    obtain ⟨j, -, e⟩ := (bset_at _ _ _).mp q
    unfold rsd at e
    have := s_mod V (trn p (p 74 + j * p 75).toNat)
    omega
  simpa using key
noncomputable def gone (p : Nat → Int) (k : Nat) : Int := wst p (trn p (tkf p (k + 1 : Nat)).toNat - trn p (tkf p k).toNat)
theorem sgn_at (p : Nat → Int) (k : Nat) : (gone p k = 0 ∧ sgn p 0 k = true ∧ sgn p 1 k = false ∧ sgn p 2 k = false) ∨ (0 < gone p k ∧ sgn p 0 k = false ∧ sgn p 1 k = true ∧ sgn p 2 k = false) ∨ (gone p k < 0 ∧ sgn p 0 k = false ∧ sgn p 1 k = false ∧ sgn p 2 k = true) := by
  have e : ∀ w : Int, sgn p w k = decide ((if gone p k = 0 then (0 : Int) else if gone p k ≤ 0 then 2 else 1) = w) := fun w => rfl
  rw [e, e, e]
  rcases Int.lt_trichotomy (gone p k) 0 with q | q | q
  · refine .inr (.inr ⟨q, ?_⟩)
    rw [if_neg (by omega), if_pos (by omega)]
    decide
  · refine .inl ⟨q, ?_⟩
    rw [if_pos q]
    decide
  · refine .inr (.inl ⟨q, ?_⟩)
    rw [if_neg (by omega), if_neg (by omega)]
    decide
theorem sgn_sum (p : Nat → Int) : ∀ n, cnt (sgn p 0) n + cnt (sgn p 1) n + cnt (sgn p 2) n = n
  | 0 => rfl
  | n + 1 => by
    have ih := sgn_sum p n
    have e : ∀ w, cnt (sgn p w) (n + 1) = cnt (sgn p w) n + (if sgn p w n then 1 else 0) := fun w => rfl
    rw [e, e, e]
    rcases sgn_at p n with ⟨-, a, b, c⟩ | ⟨-, a, b, c⟩ | ⟨-, a, b, c⟩ <;> rw [a, b, c] <;> simp <;> omega
/-! one flash looked at -/
theorem tkf_nn (V : VP p) {k : Int} (hk : 0 ≤ k ∧ k ≤ nfl p) : 0 ≤ tkf p k ∧ tkf p k ≤ 1500 := by
  have a := V.per
  have b := V.first
  have n := nfl_rng V
  have e : tkf p k = tkf p (k - 1) + p 75 := by
    unfold tkf
    rw [Int.sub_mul, Int.one_mul]
    omega
  by_cases q : k = 0
  · subst q
    unfold tkf
    omega
  · have := tkf_rng V (k := k - 1) (by omega)
    omega
theorem lturnF (V : VP p) (T : TsAt h p) {k : Int} (hk : 0 ≤ k ∧ k ≤ nfl p) : fL_turn h (i32 (p 61)) 103 104 (i32 (p 63 + 1)) (i32 (tkf p k)) (i32 (p 0)) = some (i32 (trn p (tkf p k).toNat % p 0)) := by
  have r := tkf_nn V hk
  have e := lturn V T (t := (tkf p k).toNat) (by omega)
  rw [show (((tkf p k).toNat : Nat) : Int) = tkf p k by omega] at e
  exact e
theorem lerl (M : MkAt h p) (V : VP p) (T : TsAt h p) {k : Nat} (hk : (k : Int) ≤ nfl p - 1) (x9 x10 x12 x14 : Int32) (e10 : x10 = i32 (p 61)) : xloop (fL_flashes_B133 h 0 102 (i32 (p 0)) 103 104 (i32 (p 63 + 1)) (i32 (p 74)) (i32 (p 75)) x9 x10 (i32 (k : Nat)) x12 (i32 (trn p (tkf p k).toNat % p 0)) x14) 5000 (0 : Int32) = some (i32 (erl p k : Nat)) := by
  subst e10
  have n := nfl_rng V
  obtain ⟨a1, a2, a3⟩ := erl_ok (p := p) (z := (k : Int)) (by omega)
  have st : ∀ j : Nat, (j : Int) ≤ k → fL_flashes_B133 h 0 102 (i32 (p 0)) 103 104 (i32 (p 63 + 1)) (i32 (p 74)) (i32 (p 75)) x9 (i32 (p 61)) (i32 (k : Nat)) x12 (i32 (trn p (tkf p k).toNat % p 0)) x14 (i32 (j : Nat)) = some (if smP p k j = true then .inr (i32 (j : Nat)) else .inl (i32 ((j + 1 : Nat) : Int))) := fun j hj => by
    have w := wst_rng V (trn p (tkf p k).toNat - trn p (tkf p j).toNat)
    have w0 := wst_0 V (trn p (tkf p k).toNat - trn p (tkf p j).toNat)
    unfold fL_flashes_B133 fL_flashes_b133
    rw [i32_mul, i32_add, show p 74 + (j : Int) * p 75 = tkf p j from rfl, obb (lturnF V T (by omega)), obb (lstep2 M V _ _), L_0, ceq (by omega), L_1, i32_add]
    have s1 : smP p k j = decide ((trn p (tkf p k).toNat - trn p (tkf p j).toNat) % (msr p : Int) = 0) := rfl
    rw [s1]
    by_cases q : (trn p (tkf p k).toNat - trn p (tkf p j).toNat) % (msr p : Int) = 0
    · rw [if_pos (w0.mpr q), decide_eq_true q, if_pos rfl]
    · rw [if_neg (fun z => q (w0.mp z)), decide_eq_false q, if_neg Bool.false_ne_true]
      rfl
  have f := xl_run (fL_flashes_B133 h 0 102 (i32 (p 0)) 103 104 (i32 (p 63 + 1)) (i32 (p 74)) (i32 (p 75)) x9 (i32 (p 61)) (i32 (k : Nat)) x12 (i32 (trn p (tkf p k).toNat % p 0)) x14) (fun j => i32 (j : Nat)) (erl p k) (i32 (erl p k : Nat)) (fun j hj => by
    rw [st j (by omega), a2 j hj, if_neg Bool.false_ne_true]) (by
    rw [st _ (by omega), a3, if_pos rfl]) 5000 (by omega)
  exact f
theorem lmarks (R : RX h p) (M : MkAt h p) {k : Nat} (hk : (k : Int) ≤ nfl p - 1) (x3 x4 : Nat) (x5 x7 x8 x9 x10 x11 : Int32) : xloop (fL_flashes_B237 h 0 102 (i32 (p 0)) x3 x4 x5 x7 x8 x9 x10 x11 (i32 (tkf p k)) (i32 (trn p (tkf p k).toNat % p 0))) 5000 (0 : Int32) = some (.inr ()) := by
  have V := R.V
  have n := V.n
  have r := mk_mod V (trn p (tkf p k).toNat)
  have t := tkf_rng V (k := k) (by omega)
  have f := xl_run (fL_flashes_B237 h 0 102 (i32 (p 0)) x3 x4 x5 x7 x8 x9 x10 x11 (i32 (tkf p k)) (i32 (trn p (tkf p k).toNat % p 0))) (fun q => i32 (q : Nat)) (p 0).toNat (.inr ()) (fun q hq => by
    unfold fL_flashes_B237 fL_flashes_b237
    rw [ile_f (by omega), obb R.c, obb (R.mark t (by omega)), i32_sub, obb (lmod_ok (by omega) (by omega)), sub_mod_n, obb (mk_at M V (mk_mod V _)), if_pos rfl, L_1, i32_add]
    rfl) (by
    unfold fL_flashes_B237 fL_flashes_b237
    rw [ile_t (by omega)]) 5000 (by omega)
  exact f
theorem lfl73 (R : RX h p) (M : MkAt h p) (T : TsAt h p) {k : Nat} (hk : (k : Int) ≤ nfl p - 1) (h6 : k < 6) : fL_flashes_B73 h 0 102 (i32 (p 0)) 103 104 (i32 (p 63 + 1)) (i32 (p 74)) (i32 (p 75)) (i32 (nfl p)) (i32 (p 61)) (i32 (k : Nat)) = some (.inl (i32 ((k + 1 : Nat) : Int))) := by
  have V := R.V
  have n := nfl_rng V
  have e1 : i32 (p 74) + i32 (k : Nat) * i32 (p 75) = i32 (tkf p k) := by rw [i32_mul, i32_add]; rfl
  have e2 : i32 (tkf p k) + i32 (p 75) = i32 (tkf p ((k : Int) + 1)) := by
    rw [i32_add]
    unfold tkf
    rw [Int.add_mul, Int.one_mul]
    congr 1
    omega
  have J : fL_flashes_J220 h 0 102 (i32 (p 0)) 103 104 (i32 (p 63 + 1)) (i32 (p 74)) (i32 (p 75)) (i32 (nfl p)) (i32 (p 61)) (i32 (k : Nat)) (i32 (tkf p k)) (i32 (trn p (tkf p k).toNat % p 0)) (i32 (erl p k : Nat)) = some (.inl (i32 ((k + 1 : Nat) : Int))) := by
    unfold fL_flashes_J220
    rw [obb R.c, obb (R.fl3 (by omega)), if_pos rfl, obb (lmarks R M hk _ _ _ _ _ _ _ _)]
    dsimp only
    rw [L_1, i32_add]
    rfl
  unfold fL_flashes_B73 fL_flashes_b73
  rw [L_6, ile_f (by omega), ile_f (by omega), e1, e2, obb (lturnF V T (by omega)), obb (lturnF V T (by omega)), obb (lerl M V T hk _ _ _ _ rfl), obb R.c, obb (R.fl0 (by omega)), if_pos rfl, obb R.c, obb (R.fl1 (by omega)), if_pos rfl, show i32 (k : Nat) + (1 : Int32) = i32 ((k : Int) + 1) by rw [L_1, i32_add], cle (by omega)]
  by_cases q : nfl p ≤ (k : Int) + 1
  · rw [if_pos q]
    exact J
  · rw [if_neg q, obb R.c, obb (R.fl2 (by omega)), obb (lstep2 M V _ _), if_pos rfl]
    exact J
theorem lfl6 (R : RX h p) (M : MkAt h p) (T : TsAt h p) : xloop (fL_flashes_B73 h 0 102 (i32 (p 0)) 103 104 (i32 (p 63 + 1)) (i32 (p 74)) (i32 (p 75)) (i32 (nfl p)) (i32 (p 61))) 5000 (0 : Int32) = some (.inr (.inr ())) := by
  have n := nfl_rng R.V
  have f := xl_run (fL_flashes_B73 h 0 102 (i32 (p 0)) 103 104 (i32 (p 63 + 1)) (i32 (p 74)) (i32 (p 75)) (i32 (nfl p)) (i32 (p 61))) (fun k => i32 (k : Nat)) (min 6 (nfl p).toNat) (.inr (.inr ())) (fun k hk => lfl73 R M T (by omega) (by omega)) (by
    unfold fL_flashes_B73 fL_flashes_b73
    rw [L_6, cle (by omega)]
    by_cases q : 6 ≤ (nfl p)
    · rw [if_pos (by omega)]
    · rw [if_neg (by omega), ile_t (by omega)]) 5000 (by omega)
  exact f
/-! how it seems to go -/
theorem lseem (R : RX h p) : xloop (fL_flashes_B291 h 0 (i32 (nfl p))) 5000 ((0 : Int32), (0 : Int32), (0 : Int32), (0 : Int32)) = some (i32 (cnt (sgn p 0) (nfl p - 1).toNat : Nat), i32 (cnt (sgn p 1) (nfl p - 1).toNat : Nat), i32 (cnt (sgn p 2) (nfl p - 1).toNat : Nat)) := by
  have V := R.V
  have n := nfl_rng V
  have f := xl_run (fL_flashes_B291 h 0 (i32 (nfl p))) (fun k => (i32 (cnt (sgn p 0) k : Nat), i32 (cnt (sgn p 1) k : Nat), i32 (cnt (sgn p 2) k : Nat), i32 (k : Nat))) (nfl p - 1).toNat (i32 (cnt (sgn p 0) (nfl p - 1).toNat : Nat), i32 (cnt (sgn p 1) (nfl p - 1).toNat : Nat), i32 (cnt (sgn p 2) (nfl p - 1).toNat : Nat)) (fun k hk => by
    have r := wst_rng V (trn p (tkf p (k + 1 : Nat)).toNat - trn p (tkf p k).toNat)
    have e : ∀ w, cnt (sgn p w) (k + 1) = cnt (sgn p w) k + (if sgn p w k then 1 else 0) := fun w => rfl
    have g2 : fX8_flash h 0 (i32 (k : Nat)) (2 : Int32) = some (i32 (gone p k)) := R.fl2 (z := (k : Int)) (by omega)
    replace r : -30 ≤ gone p k ∧ gone p k ≤ 30 := r
    unfold fL_flashes_B291 fL_flashes_b291 fL_flashes_J321 fL_flashes_J336
    dsimp only
    rw [show i32 (k : Nat) + (1 : Int32) = i32 ((k + 1 : Nat) : Int) by rw [L_1, i32_add]; rfl, ile_f (by omega), obb R.c, obb g2]
    rw [e, e, e]
    simp only [L_0, L_1]
    rw [ceq (by omega)]
    rcases sgn_at p k with ⟨q, a, b, c⟩ | ⟨q, a, b, c⟩ | ⟨q, a, b, c⟩ <;> rw [a, b, c]
    · rw [if_pos q, ile_t (by omega), ile_t (by omega)]
      simp [xbi, L_0, L_1, i32_add]
    · rw [if_neg (show ¬ gone p k = 0 by omega), ile_f (by omega), ile_t (by omega)]
      simp [xbi, L_0, L_1, i32_add]
    · rw [if_neg (show ¬ gone p k = 0 by omega), ile_t (by omega), ile_f (by omega)]
      simp [xbi, L_0, L_1, i32_add]) (by
    unfold fL_flashes_B291 fL_flashes_b291
    dsimp only
    rw [L_1, i32_add, ile_t (by omega)]) 5000 (by omega)
  exact f
theorem lflashes (R : RX h p) (M : MkAt h p) (T : TsAt h p) (g : Int32) : ∃ h' p', fL_flashes h 0 102 (i32 (p 0)) 103 104 (i32 (p 63 + 1)) g = some (true, h') ∧ RX h' p' ∧ MkAt h' p' ∧ TsAt h' p' ∧ (∀ i, i ≠ 74 → i ≠ 75 → p' i = p i) ∧ (0 ≤ p' 74 ∧ p' 74 < 200) ∧ (1 ≤ p' 75 ∧ p' 75 ≤ 30) ∧ ∀ x, 101 < x → h' x = h x := by
  obtain ⟨a, ea, ha⟩ := low_ok g (n := 200) (by omega)
  obtain ⟨b, eb, hb⟩ := low_ok (g >>> ((8 : Int32) &&& 31)) (n := 30) (by omega)
  have ea' : fL_low g (200 : Int32) = some (i32 a) := ea
  rw [← L_30] at eb
  obtain ⟨h1, e1, R1, u1⟩ := R.fl (a := a) (b := 1 + b) (by omega) (by omega)
  have V := R.V
  have pe : ∀ i, i ≠ 74 → i ≠ 75 → fl2 p a (1 + b) i = p i := fun i i1 i2 => by
    unfold fl2
    rw [pu_n _ _ i2, pu_n _ _ i1]
  have p74 : fl2 p a (1 + b) 74 = a := by
    unfold fl2
    rw [pu_n _ _ (by omega), pu_s]
  have p75 : fl2 p a (1 + b) 75 = 1 + b := pu_s _ _ _
  generalize fl2 p a (1 + b) = p1 at *
  have M1 : MkAt h1 p1 := M.cg (u1 102 (by omega)) (fun i hi => pe i (by omega) (by omega)) V
  have T1 : TsAt h1 p1 := T.cg (fun x hx => u1 x (by omega)) (fun i hi => pe i (by omega) (by omega)) V
  have n := nfl_rng R1.V
  have ne : nfl p1 = (1000 - a) / (1 + b) + 1 := by unfold nfl; rw [p74, p75]
  have c1 : (1 : Int32) + i32 b = i32 (1 + b) := by rw [L_1, i32_add]
  have c2 : ((1000 : Int32) - i32 a) / i32 (1 + b) + (1 : Int32) = i32 (nfl p1) := by
    rw [L_1000, i32_sub, i32_div (by omega) (by omega), tdiv_pos (by omega), L_1, i32_add, ne]
  have c3 : i32 (nfl p1) - (1 : Int32) = i32 (nfl p1 - 1) := by rw [L_1, i32_sub]
  have l6 := lfl6 R1 M1 T1
  rw [p74, p75] at l6
  have s0 := R1.seem (w := 0) (by omega)
  have s1 := R1.seem (w := 1) (by omega)
  have s2 := R1.seem (w := 2) (by omega)
  rw [← L_0] at s0
  rw [← L_1] at s1
  rw [← L_2] at s2
  have sm := sgn_sum p1 (nfl p1 - 1).toNat
  have pl := pics_le R1.V
  have mr := msr_rng R1.V
  refine ⟨h1, p1, ?_, R1, M1, T1, pe, by omega, by omega, u1⟩
  unfold fL_flashes
  rw [obb ea', obb eb, c1, if_neg (by rw [L_0, i32_eq (by omega)]; omega), xlb, c2, obb R.c, obb R.n3, obb R.c, obb e1, if_pos rfl, obb R1.c, obb R1.n8, if_pos rfl]
  rw [← pe 0 (by omega) (by omega), ← pe 63 (by omega) (by omega), ← pe 61 (by omega) (by omega), obb l6]
  dsimp only
  rw [obb (lseem R1)]
  dsimp only
  rw [obb R1.c, obb s0, if_pos rfl, obb R1.c, obb s1, if_pos rfl, obb R1.c, obb s2, if_pos rfl, i32_add, i32_add, c3, if_pos (congrArg i32 (by omega)), obb R1.c, obb R1.fl2e, L_m1004, if_pos rfl, obb R1.c, obb R1.seem3, obb R1.c, obb R1.n2, ilt_f (by omega)]
end
