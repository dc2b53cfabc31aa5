/-! the class's history -/
def HiAt (h : XH) (P : Nat → Nat → Int) (bk nx : Nat) : Prop :=
  nx < 8 ∧ bk ≤ 8 ∧ h 11 = some (.inl (3, [.ref 12, .int (i32 nx), .int (i32 bk)])) ∧ (∃ f : Nat → Option Nat, h 12 = some (.inr (2, 8, .inr (.inr (.inr (.inr f))))) ∧ ∀ i, i < 8 → f i = some (13 + 10 * i)) ∧
  (∀ i, i < 8 → ∃ q, StAt h (13 + 10 * i) q) ∧ ∀ j, j < bk → StAt h (13 + 10 * ((nx + 7 - j) % 8)) (P j)
def psh (p : Nat → Int) (P : Nat → Nat → Int) : Nat → Nat → Int := fun j => if j = 0 then p else P (j - 1)
def pop (P : Nat → Nat → Int) : Nat → Nat → Int := fun j => P (j + 1)
theorem HiAt.fr {h h' : XH} {P : Nat → Nat → Int} {bk nx : Nat} (H : HiAt h P bk nx) (q : ∀ x, 11 ≤ x ∧ x ≤ 92 → h' x = h x) : HiAt h' P bk nx := by
  obtain ⟨a, b, c, ⟨f, d1, d2⟩, e, g⟩ := H
  refine ⟨a, b, (q 11 (by omega)).trans c, ⟨f, (q 12 (by omega)).trans d1, d2⟩, fun i hi => ?_, fun j hj => ?_⟩
  · obtain ⟨y, z⟩ := e i hi
    exact ⟨y, z.fr (fun k hk => q _ (by omega))⟩
  · exact (g j hj).fr (fun k hk => q _ (by omega))
theorem cslot {h : XH} {P : Nat → Nat → Int} {bk nx : Nat} (H : HiAt h P bk nx) {i : Nat} (hi : i < 8) : fX3_slotAt h 11 (i32 i) = some (some (13 + 10 * i)) := by
  obtain ⟨a, b, c, ⟨f, d1, d2⟩, e, g⟩ := H
  unfold fX3_slotAt
  have l : xln h 12 = some (i32 (8 : Nat)) := gL d1 (by omega)
  have r : xaQ h 12 (i32 i) = some (some (13 + 10 * i)) := by
    simp only [xaQ, d1]
    rw [if_pos ⟨trivial, bnd_ok (i := (i : Int)) (n := 8) (by omega) (by omega)⟩, i32_clamp (by omega), Int.toNat_natCast, d2 i hi]
  rw [L_0, ilt_f (by omega), obb (gR c 0 rfl), obb l, ile_f (by omega), obb (gR c 0 rfl), obb r]
theorem crem {h : XH} {p : Nat → Int} {P : Nat → Nat → Int} {bk nx : Nat} (N : NowAt h p) (H : HiAt h P bk nx) : ∃ h', fX3_remember h 11 1 = some h' ∧ NowAt h' p ∧ HiAt h' (psh p P) (if bk = 8 then 8 else bk + 1) ((nx + 1) % 8) ∧ ∀ x, (x < 11 ∨ 92 < x) → h' x = h x := by
  have H0 := H
  obtain ⟨a, b, c, ⟨f, d1, d2⟩, e, g⟩ := H
  obtain ⟨y, Y⟩ := e nx a
  unfold fX3_remember
  rw [obb (gI c 1 rfl), obb (gC c), obb (cslot H0 a)]
  show ∃ h', ((xco h (13 + 10 * nx) 5).bind _) = _ ∧ _
  obtain ⟨h1, e1, S1, u1⟩ := scopy Y N.2 (by omega)
  have c1 := (u1 11 (by omega)).trans c
  rw [obb Y.c, obb e1, obb (gI c1 1 rfl), L_1, L_8, i32_add, obb (mod_ok (by omega) (by omega))]
  rw [show ((nx : Int) + 1) % 8 = (((nx + 1) % 8 : Nat) : Int) by omega]
  obtain ⟨h2, e2, a2, u2⟩ := pfw c1 1 (.int (i32 (((nx + 1) % 8 : Nat) : Int))) (Nat.le_of_ble_eq_true rfl)
  have fr2 : ∀ x, x ≠ 11 → (x < 13 + 10 * nx ∨ 13 + 10 * nx + 9 < x) → h2 x = h x := fun x p1 p2 => (u2 x p1).trans (u1 x p2)
  have fin : ∀ (h' : XH) (bk' : Nat), h' 11 = some (.inl (3, [.ref 12, .int (i32 ((nx + 1) % 8 : Nat)), .int (i32 bk')])) → (∀ x, x ≠ 11 → h' x = h2 x) → (bk' = if bk = 8 then 8 else bk + 1) → NowAt h' p ∧ HiAt h' (psh p P) (if bk = 8 then 8 else bk + 1) ((nx + 1) % 8) ∧ ∀ x, (x < 11 ∨ 92 < x) → h' x = h x := by
    intro h' bk' h11 hu hb
    subst hb
    have fr : ∀ x, x ≠ 11 → (x < 13 + 10 * nx ∨ 13 + 10 * nx + 9 < x) → h' x = h x := fun x p1 p2 => (hu x p1).trans (fr2 x p1 p2)
    have sl : StAt h' (13 + 10 * nx) p := S1.fr (fun k hk => (hu _ (by omega)).trans (u2 _ (by omega)))
    refine ⟨N.fr (fun x hx => fr x (by omega) (by omega)), ⟨by omega, by split <;> omega, h11, ⟨f, (fr 12 (by omega) (by omega)).trans d1, d2⟩, ?_, ?_⟩, fun x hx => fr x (by omega) (by omega)⟩
    · intro i hi
      by_cases q : i = nx
      · rw [q]; exact ⟨p, sl⟩
      · obtain ⟨z, Z⟩ := e i hi
        exact ⟨z, Z.fr (fun k hk => fr _ (by omega) (by omega))⟩
    · intro j hj
      by_cases q : j = 0
      · subst q
        rw [show ((nx + 1) % 8 + 7 - 0) % 8 = nx by omega]
        exact sl
      · have hj8 : j - 1 < bk ∧ j < 8 := by
          split at hj <;> omega
        rw [show ((nx + 1) % 8 + 7 - j) % 8 = (nx + 7 - (j - 1)) % 8 by omega]
        unfold psh
        rw [if_neg q]
        exact (g (j - 1) hj8.1).fr (fun k hk => fr _ (by omega) (by omega))
  rw [obb e2, obb (gI a2 2 rfl), cle (by omega)]
  by_cases q : bk = 8
  · rw [if_pos (by omega)]
    exact ⟨h2, rfl, fin h2 bk a2 (fun _ _ => rfl) (by rw [if_pos q]; exact q)⟩
  · obtain ⟨h3, e3, a3, u3⟩ := pfw a2 2 (.int (i32 ((bk : Int) + 1))) (Nat.le_of_ble_eq_true rfl)
    rw [if_neg (by omega), obb (gI a2 2 rfl), i32_add, obb e3]
    exact ⟨h3, rfl, fin h3 (bk + 1) a3 u3 (by rw [if_neg q])⟩
theorem cres {h : XH} {p : Nat → Int} {P : Nat → Nat → Int} {bk nx : Nat} (N : NowAt h p) (H : HiAt h P bk nx) (hb : 0 < bk) : ∃ h', fX3_restore h 11 1 = some h' ∧ NowAt h' (P 0) ∧ HiAt h' (pop P) (bk - 1) ((nx + 7) % 8) ∧ ∀ x, (x < 1 ∨ (10 < x ∧ x ≠ 11)) → h' x = h x := by
  have H0 := H
  obtain ⟨a, b, c, ⟨f, d1, d2⟩, e, g⟩ := H
  have Y := g 0 hb
  rw [Nat.sub_zero] at Y
  unfold fX3_restore
  rw [obb (gI c 1 rfl), L_1, L_8, i32_sub, obb (mod_ok (by omega) (by omega)), obb (gC c)]
  rw [show ((nx : Int) - 1) % 8 = (((nx + 7) % 8 : Nat) : Int) by omega, obb (cslot H0 (by omega))]
  obtain ⟨h1, e1, S1, u1⟩ := scopy N.2 Y (by omega)
  have c1 := (u1 11 (by omega)).trans c
  obtain ⟨h2, e2, a2, u2⟩ := pfw c1 1 (.int (i32 (((nx + 7) % 8 : Nat) : Int))) (Nat.le_of_ble_eq_true rfl)
  obtain ⟨h3, e3, a3, u3⟩ := pfw a2 2 (.int (i32 ((bk - 1 : Nat) : Int))) (Nat.le_of_ble_eq_true rfl)
  have e3' : xpf h2 11 3 2 (.int (i32 bk - i32 1)) = some h3 := by
    rw [i32_sub, show (bk : Int) - 1 = ((bk - 1 : Nat) : Int) by omega]; exact e3
  have fr : ∀ x, (x < 1 ∨ (10 < x ∧ x ≠ 11)) → h3 x = h x := fun x hx => (u3 x (by omega)).trans ((u2 x (by omega)).trans (u1 x (by omega)))
  refine ⟨h3, ?_, ⟨(fr 0 (by omega)).trans N.1, S1.fr (fun k hk => (u3 _ (by omega)).trans (u2 _ (by omega)))⟩, ⟨by omega, by omega, a3, ⟨f, (fr 12 (by omega)).trans d1, d2⟩, ?_, ?_⟩, fr⟩
  · show ((xgI h 11 3 2).bind _) = _
    rw [obb (gI c 2 rfl), L_0, ieq_f (by omega), obb N.2.c, obb e1, obb e2, obb (gI a2 2 rfl), obb e3']
  · intro i hi
    obtain ⟨z, Z⟩ := e i hi
    exact ⟨z, Z.fr (fun k hk => fr _ (by omega))⟩
  · intro j hj
    rw [show ((nx + 7) % 8 + 7 - j) % 8 = (nx + 7 - (j + 1)) % 8 by omega]
    exact (g (j + 1) (by omega)).fr (fun k hk => fr _ (by omega))
/-! the model's pages -/
def pu (p : Nat → Int) (i : Nat) (z : Int) : Nat → Int := fun j => if j = i then z else p j
theorem pu_s (p : Nat → Int) (i : Nat) (z : Int) : pu p i z i = z := by simp [pu]
theorem pu_n (p : Nat → Int) {i j : Nat} (z : Int) (h : j ≠ i) : pu p i z j = p j := by simp [pu, h]
def BkAt (A : Nat → Nat → Int32) (S : Nat → Int32) (p : Nat → Int) (P : Nat → Nat → Int) (bk : Nat) : Prop := S 1 = i32 bk ∧ bk ≤ 8 ∧ PgAt A p ∧ ∀ j, j < bk → ∀ k, k < 98 → A 0 (98 * (bk - j) + k) = i32 (P j k)
/-- what a writing call leaves: text, typed, fault -/
def Kw (A A' : Nat → Nat → Int32) (S S' : Nat → Int32) : Prop := A' 2 = A 2 ∧ S' 5 = S 5 ∧ S' 6 = S 6
theorem Kw.rf (A : Nat → Nat → Int32) (S : Nat → Int32) : Kw A A S S := ⟨rfl, rfl, rfl⟩
theorem Kw.tr {A B C : Nat → Nat → Int32} {S T U : Nat → Int32} (h : Kw A B S T) (k : Kw B C T U) : Kw A C S U := ⟨k.1.trans h.1, k.2.1.trans h.2.1, k.2.2.trans h.2.2⟩
theorem Kp.w {A B : Nat → Nat → Int32} {S T : Nat → Int32} (h : Kp A B S T) : Kw A B S T := ⟨h.2.1, h.2.2.2.1, h.2.2.2.2⟩
theorem BkAt.kp {A A' : Nat → Nat → Int32} {S S' : Nat → Int32} {p : Nat → Int} {P : Nat → Nat → Int} {bk : Nat} (B : BkAt A S p P bk) (K : Kp A A' S S') : BkAt A' S' p P bk := ⟨K.2.2.1.trans B.1, B.2.1, B.2.2.1.kp K, fun j hj k hk => by rw [K.1]; exact B.2.2.2 j hj k hk⟩
theorem BkAt.put {h0 h : XH} {A : Nat → Nat → Int32} {S : Nat → Int32} {Z : Int64} (M : MdAt h0 h A S Z) {p : Nat → Int} {P : Nat → Nat → Int} {bk : Nat} (B : BkAt A S p P bk) {i : Int} (hi : 0 ≤ i ∧ i < 98) (z : Int) : ∃ h' A', xsI h 103 0 (i32 i) (i32 z) = some h' ∧ MdAt h0 h' A' S Z ∧ BkAt A' S (pu p i.toNat z) P bk ∧ Kw A A' S S := by
  obtain ⟨h', e, M'⟩ := M.s0 (i := i) (i32 z) (by omega)
  refine ⟨h', _, e, M', ⟨B.1, B.2.1, ?_, ?_⟩, aup_n _ _ (by omega), rfl, rfl⟩
  · intro k hk
    rw [aup_s]
    simp only [upd, pu]
    split
    · rfl
    · exact B.2.2.1 k hk
  · intro j hj k hk
    rw [aup_s]
    simp only [upd]
    rw [if_neg (by omega)]
    exact B.2.2.2 j hj k hk
theorem mcopies {h0 h : XH} {A : Nat → Nat → Int32} {S : Nat → Int32} {Z : Int64} (M : MdAt h0 h A S Z) {a b : Nat} (ha : a ≤ 9) (hb : b ≤ 9) (ne : a ≠ b) : ∃ h' f, fX9_copies h 102 (i32 (a : Nat)) (i32 (b : Nat)) = some h' ∧ MdAt h0 h' (aup A 0 f) S Z ∧ (∀ k, k < 98 → f (98 * b + k) = A 0 (98 * a + k)) ∧ ∀ x, (x < 98 * b ∨ 98 * b + 98 ≤ x) → f x = A 0 x := by
  unfold fX9_copies
  obtain ⟨e, f1, f, E1, E2, E3⟩ := xl_inv (fX9_copies_B2 102 (i32 (a : Nat)) (i32 (b : Nat))) (fun i s => s.2 = i32 (i : Nat) ∧ ∃ f, MdAt h0 s.1 (aup A 0 f) S Z ∧ (∀ k, k < i → f (98 * b + k) = A 0 (98 * a + k)) ∧ ∀ x, (x < 98 * b ∨ 98 * b + 98 ≤ x) → f x = A 0 x) 98 (fun h' => ∃ f, MdAt h0 h' (aup A 0 f) S Z ∧ (∀ k, k < 98 → f (98 * b + k) = A 0 (98 * a + k)) ∧ ∀ x, (x < 98 * b ∨ 98 * b + 98 ≤ x) → f x = A 0 x) (fun i s hi I => by
    obtain ⟨h2, x⟩ := s
    obtain ⟨rfl, f, I1, I2, I3⟩ := I
    dsimp only at I1 I2 I3 ⊢
    unfold fX9_copies_B2 fX9_copies_b2
    dsimp only
    obtain ⟨h3, e3, M3⟩ := I1.s0 (i := 98 * (b : Int) + i) (A 0 (98 * a + i)) (by omega)
    rw [L_98, ile_f (by omega), obb I1.r0, obb I1.r0, i32_mul, i32_add, obb (I1.a0 (by omega)), i32_mul, i32_add, aup_s, show (98 * (a : Int) + i).toNat = 98 * a + i by omega, I3 _ (by omega), obb e3, L_1, i32_add]
    refine ⟨_, rfl, rfl, _, by rw [aup_aup] at M3; exact M3, ?_, ?_⟩
    · intro k hk
      rw [aup_s, show (98 * (b : Int) + i).toNat = 98 * b + i by omega]
      simp only [upd]
      by_cases q : k = i
      · rw [if_pos (by omega), q]
      · rw [if_neg (by omega)]
        exact I2 k (by omega)
    · intro x hx
      rw [aup_s, show (98 * (b : Int) + i).toNat = 98 * b + i by omega]
      simp only [upd]
      rw [if_neg (by omega)]
      exact I3 x hx) (fun s I => by
    obtain ⟨h2, x⟩ := s
    obtain ⟨rfl, f, I1, I2, I3⟩ := I
    dsimp only at I1 I2 I3 ⊢
    unfold fX9_copies_B2 fX9_copies_b2
    dsimp only
    rw [L_98, ile_t (by omega)]
    exact ⟨_, rfl, f, I1, I2, I3⟩) (h, i32 (0 : Nat)) ⟨rfl, A 0, by have : aup A 0 (A 0) = A := by { funext j; by_cases q : j = 0 <;> simp [aup, q] }; rw [this]; exact M, fun k hk => absurd hk (by omega), fun _ _ => rfl⟩ 5000 (by omega)
  have f2 : xloop (fX9_copies_B2 102 (i32 (a : Nat)) (i32 (b : Nat))) 5000 (h, 0) = some e := f1
  exact ⟨e, f, by rw [obb f2], E1, E2, E3⟩
theorem mrecJ {h0 h : XH} {A : Nat → Nat → Int32} {S : Nat → Int32} {Z : Int64} (M : MdAt h0 h A S Z) {p : Nat → Int} {P : Nat → Nat → Int} {bk : Nat} (B : BkAt A S p P bk) (hb : bk < 8) : ∃ h' A' S', fX9_records_J41 h 102 = some h' ∧ MdAt h0 h' A' S' Z ∧ BkAt A' S' p (psh p P) (bk + 1) ∧ Kw A A' S S' ∧ ∀ x, 882 ≤ x → A' 0 x = A 0 x := by
  obtain ⟨b1, b2, b3, b4⟩ := B
  unfold fX9_records_J41
  obtain ⟨h1, e1, M1⟩ := M.p1 (i32 ((bk + 1 : Nat) : Int))
  obtain ⟨h2, f, e2, M2, F1, F2⟩ := mcopies M1 (a := 0) (b := bk + 1) (by omega) (by omega) (by omega)
  have e2' : fX9_copies h1 102 0 (i32 ((bk + 1 : Nat) : Int)) = some h2 := e2
  rw [obb M.i1, b1, L_1, i32_add, show (bk : Int) + 1 = ((bk + 1 : Nat) : Int) from rfl, obb e1, obb M1.i1, obb M1.c, sup_s, obb e2']
  refine ⟨h2, _, _, rfl, M2, ⟨sup_s _ _ _, by omega, ?_, ?_⟩, ⟨aup_n _ _ (by omega), sup_n _ _ (by omega), sup_n _ _ (by omega)⟩, fun x hx => by rw [aup_s, F2 x (by omega)]⟩
  · intro k hk
    rw [aup_s, F2 k (by omega)]
    exact b3 k hk
  · intro j hj k hk
    rw [aup_s]
    unfold psh
    by_cases q : j = 0
    · subst q
      rw [if_pos rfl, Nat.sub_zero, F1 k hk, Nat.mul_zero, Nat.zero_add]
      exact b3 k hk
    · rw [if_neg q, F2 _ (by omega)]
      have := b4 (j - 1) (by omega) k hk
      rw [show bk - (j - 1) = bk + 1 - j by omega] at this
      exact this
theorem mrec9 {h0 h : XH} {A : Nat → Nat → Int32} {S : Nat → Int32} {Z : Int64} (M : MdAt h0 h A S Z) {p : Nat → Int} {P : Nat → Nat → Int} {bk : Nat} (B : BkAt A S p P bk) : ∃ h' A' S', fX9_records h 102 = some h' ∧ MdAt h0 h' A' S' Z ∧ BkAt A' S' p (psh p P) (if bk = 8 then 8 else bk + 1) ∧ Kw A A' S S' ∧ ∀ x, 882 ≤ x → A' 0 x = A 0 x := by
  obtain ⟨b1, b2, b3, b4⟩ := B
  unfold fX9_records
  rw [obb M.i1, b1, L_8, ceq (by omega)]
  by_cases q : bk = 8
  · subst q
    rw [if_pos (show ((8 : Nat) : Int) = 8 from rfl), if_pos (show (8 : Nat) = 8 from rfl)]
    obtain ⟨e, f1, f, E1, E2, E3⟩ := xl_inv (fX9_records_B11 102) (fun i s => s.2 = i32 (i + 1 : Nat) ∧ ∃ f, MdAt h0 s.1 (aup A 0 f) S Z ∧ (∀ b, 1 ≤ b → b < i + 1 → ∀ k, k < 98 → f (98 * b + k) = A 0 (98 * (b + 1) + k)) ∧ ∀ x, (x < 98 ∨ 98 * (i + 1) ≤ x) → f x = A 0 x) 7 (fun h' => ∃ f, MdAt h0 h' (aup A 0 f) S Z ∧ (∀ b, 1 ≤ b → b < 8 → ∀ k, k < 98 → f (98 * b + k) = A 0 (98 * (b + 1) + k)) ∧ ∀ x, (x < 98 ∨ 784 ≤ x) → f x = A 0 x) (fun i s hi I => by
      obtain ⟨h2, x⟩ := s
      obtain ⟨rfl, f, I1, I2, I3⟩ := I
      dsimp only at I1 I2 I3 ⊢
      unfold fX9_records_B11 fX9_records_b11
      dsimp only
      obtain ⟨h3, g, e3, M3, G1, G2⟩ := mcopies I1 (a := i + 2) (b := i + 1) (by omega) (by omega) (by omega)
      rw [aup_aup] at M3
      rw [L_8, ile_f (by omega), obb I1.c, L_1, i32_add, show ((i + 1 : Nat) : Int) + 1 = ((i + 2 : Nat) : Int) from rfl, obb e3]
      refine ⟨_, rfl, rfl, g, M3, ?_, ?_⟩
      · intro b c1 c2 k hk
        by_cases q : b = i + 1
        · subst q
          rw [G1 k hk, aup_s, I3 _ (by omega)]
        · rw [G2 _ (by omega), aup_s]
          exact I2 b c1 (by omega) k hk
      · intro x hx
        rw [G2 x (by omega), aup_s]
        exact I3 x (by omega)) (fun s I => by
      obtain ⟨h2, x⟩ := s
      obtain ⟨rfl, f, I1, I2, I3⟩ := I
      dsimp only at I1 I2 I3 ⊢
      unfold fX9_records_B11 fX9_records_b11
      dsimp only
      rw [L_8, ile_t (by omega)]
      exact ⟨_, rfl, f, I1, I2, fun x hx => I3 x (by omega)⟩) (h, i32 (0 + 1 : Nat)) ⟨rfl, A 0, by have : aup A 0 (A 0) = A := by { funext j; by_cases q : j = 0 <;> simp [aup, q] }; rw [this]; exact M, fun b c1 c2 => absurd c2 (by omega), fun _ _ => rfl⟩ 5000 (by omega)
    have f2 : xloop (fX9_records_B11 102) 5000 (h, 1) = some e := f1
    obtain ⟨h5, e5, M5⟩ := E1.p1 (i32 (7 : Nat))
    have e5' : xpf e 102 9 1 (.int (S 1 - 1)) = some h5 := by rw [b1]; exact e5
    rw [obb f2, obb E1.i1, obb e5']
    obtain ⟨h6, A6, S6, e6, M6, B6, K6, U6⟩ := mrecJ M5 (p := p) (P := P) (bk := 7) ⟨sup_s _ _ _, by omega, fun k hk => by rw [aup_s, E3 k (by omega)]; exact b3 k hk, fun j hj k hk => by
      rw [aup_s, E2 _ (by omega) (by omega) k hk, show 7 - j + 1 = 8 - j by omega]
      exact b4 j (by omega) k hk⟩ (by omega)
    exact ⟨h6, A6, S6, e6, M6, B6, Kw.tr ⟨aup_n _ _ (by omega), sup_n _ _ (by omega), sup_n _ _ (by omega)⟩ K6, fun x hx => by rw [U6 x hx, aup_s, E3 x (by omega)]⟩
  · rw [if_neg (by omega), if_neg q]
    exact mrecJ M ⟨b1, b2, b3, b4⟩ (by omega)
theorem mrec {h0 h : XH} {A : Nat → Nat → Int32} {S : Nat → Int32} {Z : Int64} (M : MdAt h0 h A S Z) {p : Nat → Int} {P : Nat → Nat → Int} {bk : Nat} (B : BkAt A S p P bk) : ∃ h' A' S', fX9_records h 102 = some h' ∧ MdAt h0 h' A' S' Z ∧ BkAt A' S' p (psh p P) (if bk = 8 then 8 else bk + 1) ∧ Kw A A' S S' := by
  obtain ⟨h', A', S', a, b, c, d, -⟩ := mrec9 M B
  exact ⟨h', A', S', a, b, c, d⟩
/-- undo's return to the page before -/
theorem mback {h0 h : XH} {A : Nat → Nat → Int32} {S : Nat → Int32} {Z : Int64} (M : MdAt h0 h A S Z) {p : Nat → Int} {P : Nat → Nat → Int} {bk : Nat} (B : BkAt A S p P bk) (hb : 0 < bk) : ∃ h' A' S', fX9_undo h 102 = some (i32 ((bk - 1 : Nat) : Int), h') ∧ MdAt h0 h' A' S' Z ∧ BkAt A' S' (P 0) (pop P) (bk - 1) ∧ Kw A A' S S' := by
  obtain ⟨b1, b2, b3, b4⟩ := B
  unfold fX9_undo
  obtain ⟨h2, f, e2, M2, F1, F2⟩ := mcopies M (a := bk) (b := 0) (by omega) (by omega) (by omega)
  have e2' : fX9_copies h 102 (i32 (bk : Nat)) 0 = some h2 := e2
  obtain ⟨h3, e3, M3⟩ := M2.p1 (i32 ((bk - 1 : Nat) : Int))
  have e3' : xpf h2 102 9 1 (.int (i32 (bk : Nat) - 1)) = some h3 := by
    rw [L_1, i32_sub, show (bk : Int) - 1 = ((bk - 1 : Nat) : Int) by omega]; exact e3
  rw [obb M.i1, b1, L_0, ieq_f (by omega), obb M.i1, obb M.c, b1]
  rw [L_0] at e2'
  rw [obb e2', obb M2.i1, b1, obb e3', obb M3.i1, sup_s]
  refine ⟨h3, _, _, rfl, M3, ⟨sup_s _ _ _, by omega, ?_, ?_⟩, aup_n _ _ (by omega), sup_n _ _ (by omega), sup_n _ _ (by omega)⟩
  · intro k hk
    rw [aup_s]
    have := F1 k hk
    rw [Nat.mul_zero, Nat.zero_add] at this
    rw [this]
    have := b4 0 hb k hk
    rw [Nat.sub_zero] at this
    exact this
  · intro j hj k hk
    rw [aup_s, F2 _ (by omega)]
    have := b4 (j + 1) (by omega) k hk
    rw [show bk - (j + 1) = bk - 1 - j by omega] at this
    exact this
