/-! the class's history -/
def HiAt (h : XH) (P : Nat → Nat → Int) (bk nx : Nat) : Prop :=
  nx < 8 ∧ bk ≤ 8 ∧ h 11 = some (.inl (3, [.ref 12, .int (i32 nx), .int (i32 bk)])) ∧ (∃ f : Nat → Option Nat, h 12 = some (.inr (2, 8, .inr (.inr (.inr (.inr f))))) ∧ ∀ i, i < 8 → f i = some (13 + 10 * i)) ∧
  (∀ i, i < 8 → ∃ q, StAt h (13 + 10 * i) q) ∧ ∀ j, j < bk → StAt h (13 + 10 * ((nx + 7 - j) % 8)) (P j)
def psh (p : Nat → Int) (P : Nat → Nat → Int) : Nat → Nat → Int := fun j => if j = 0 then p else P (j - 1)
def pop (P : Nat → Nat → Int) : Nat → Nat → Int := fun j => P (j + 1)
theorem HiAt.fr {h h' : XH} {P : Nat → Nat → Int} {bk nx : Nat} (H : HiAt h P bk nx) (q : ∀ x, 11 ≤ x ∧ x ≤ 92 → h' x = h x) : HiAt h' P bk nx := by
  obtain ⟨a, b, c, ⟨f, d1, d2⟩, e, g⟩ := H
  refine ⟨a, b, (q 11 (by omega)).trans c, ⟨f, (q 12 (by omega)).trans d1, d2⟩, fun i hi => ?_, fun j hj => ?_⟩
  · obtain ⟨y, z⟩ := e i hi
    exact ⟨y, z.fr (fun k hk => q _ (by omega))⟩
  · exact (g j hj).fr (fun k hk => q _ (by omega))
theorem cslot {h : XH} {P : Nat → Nat → Int} {bk nx : Nat} (H : HiAt h P bk nx) {i : Nat} (hi : i < 8) : fX3_slotAt h 11 (i32 i) = some (some (13 + 10 * i)) := by
  obtain ⟨a, b, c, ⟨f, d1, d2⟩, e, g⟩ := H
  unfold fX3_slotAt
  have l : xln h 12 = some (i32 (8 : Nat)) := gL d1 (by omega)
  have r : xaQ h 12 (i32 i) = some (some (13 + 10 * i)) := by
    simp only [xaQ, d1]
    rw [if_pos ⟨trivial, bnd_ok (i := (i : Int)) (n := 8) (by omega) (by omega)⟩, i32_clamp (by omega), Int.toNat_natCast, d2 i hi]
  rw [L_0, ilt_f (by omega), obb (gR c 0 rfl), obb l, ile_f (by omega), obb (gR c 0 rfl), obb r]
theorem crem {h : XH} {p : Nat → Int} {P : Nat → Nat → Int} {bk nx : Nat} (N : NowAt h p) (H : HiAt h P bk nx) : ∃ h', fX3_remember h 11 1 = some h' ∧ NowAt h' p ∧ HiAt h' (psh p P) (if bk = 8 then 8 else bk + 1) ((nx + 1) % 8) ∧ ∀ x, (x < 11 ∨ 92 < x) → h' x = h x := by
  have H0 := H
  obtain ⟨a, b, c, ⟨f, d1, d2⟩, e, g⟩ := H
  obtain ⟨y, Y⟩ := e nx a
  unfold fX3_remember
  rw [obb (gI c 1 rfl), obb (gC c), obb (cslot H0 a)]
  show ∃ h', ((xco h (13 + 10 * nx) 5).bind _) = _ ∧ _
  obtain ⟨h1, e1, S1, u1⟩ := scopy Y N.2 (by omega)
  have c1 := (u1 11 (by omega)).trans c
  rw [obb Y.c, obb e1, obb (gI c1 1 rfl), L_1, L_8, i32_add, obb (mod_ok (by omega) (by omega))]
  rw [show ((nx : Int) + 1) % 8 = (((nx + 1) % 8 : Nat) : Int) by omega]
  obtain ⟨h2, e2, a2, u2⟩ := pfw c1 1 (.int (i32 (((nx + 1) % 8 : Nat) : Int))) (Nat.le_of_ble_eq_true rfl)
  have fr2 : ∀ x, x ≠ 11 → (x < 13 + 10 * nx ∨ 13 + 10 * nx + 9 < x) → h2 x = h x := fun x p1 p2 => (u2 x p1).trans (u1 x p2)
  have fin : ∀ (h' : XH) (bk' : Nat), h' 11 = some (.inl (3, [.ref 12, .int (i32 ((nx + 1) % 8 : Nat)), .int (i32 bk')])) → (∀ x, x ≠ 11 → h' x = h2 x) → (bk' = if bk = 8 then 8 else bk + 1) → NowAt h' p ∧ HiAt h' (psh p P) (if bk = 8 then 8 else bk + 1) ((nx + 1) % 8) ∧ ∀ x, (x < 11 ∨ 92 < x) → h' x = h x := by
    intro h' bk' h11 hu hb
    subst hb
    have fr : ∀ x, x ≠ 11 → (x < 13 + 10 * nx ∨ 13 + 10 * nx + 9 < x) → h' x = h x := fun x p1 p2 => (hu x p1).trans (fr2 x p1 p2)
    have sl : StAt h' (13 + 10 * nx) p := S1.fr (fun k hk => (hu _ (by omega)).trans (u2 _ (by omega)))
    refine ⟨N.fr (fun x hx => fr x (by omega) (by omega)), ⟨by omega, by split <;> omega, h11, ⟨f, (fr 12 (by omega) (by omega)).trans d1, d2⟩, ?_, ?_⟩, fun x hx => fr x (by omega) (by omega)⟩
    · intro i hi
      by_cases q : i = nx
      · rw [q]; exact ⟨p, sl⟩
      · obtain ⟨z, Z⟩ := e i hi
        exact ⟨z, Z.fr (fun k hk => fr _ (by omega) (by omega))⟩
    · intro j hj
      by_cases q : j = 0
      · subst q
        rw [show ((nx + 1) % 8 + 7 - 0) % 8 = nx by omega]
        exact sl
      · have hj8 : j - 1 < bk ∧ j < 8 := by
          split at hj <;> omega
        rw [show ((nx + 1) % 8 + 7 - j) % 8 = (nx + 7 - (j - 1)) % 8 by omega]
        unfold psh
        rw [if_neg q]
        exact (g (j - 1) hj8.1).fr (fun k hk => fr _ (by omega) (by omega))
  rw [obb e2, obb (gI a2 2 rfl), cle (by omega)]
  by_cases q : bk = 8
  · rw [if_pos (by omega)]
    exact ⟨h2, rfl, fin h2 bk a2 (fun _ _ => rfl) (by rw [if_pos q]; exact q)⟩
  · obtain ⟨h3, e3, a3, u3⟩ := pfw a2 2 (.int (i32 ((bk : Int) + 1))) (Nat.le_of_ble_eq_true rfl)
    rw [if_neg (by omega), obb (gI a2 2 rfl), i32_add, obb e3]
    exact ⟨h3, rfl, fin h3 (bk + 1) a3 u3 (by rw [if_neg q])⟩
/-! the model's pages -/
def pu (p : Nat → Int) (i : Nat) (z : Int) : Nat → Int := fun j => if j = i then z else p j
theorem pu_s (p : Nat → Int) (i : Nat) (z : Int) : pu p i z i = z := by simp [pu]
theorem pu_n (p : Nat → Int) {i j : Nat} (z : Int) (h : j ≠ i) : pu p i z j = p j := by simp [pu, h]
/-- what a writing call leaves: text, typed, fault -/
def Kw (A A' : Nat → Nat → Int32) (S S' : Nat → Int32) : Prop := A' 2 = A 2 ∧ S' 5 = S 5 ∧ S' 6 = S 6
theorem Kw.rf (A : Nat → Nat → Int32) (S : Nat → Int32) : Kw A A S S := ⟨rfl, rfl, rfl⟩
theorem Kw.tr {A B C : Nat → Nat → Int32} {S T U : Nat → Int32} (h : Kw A B S T) (k : Kw B C T U) : Kw A C S U := ⟨k.1.trans h.1, k.2.1.trans h.2.1, k.2.2.trans h.2.2⟩
