/-! the whole relation -/
def PV (P : Nat → Nat → Int) (bk : Nat) : Prop := ∀ j, j < bk → VP (P j)
theorem PV.psh {p : Nat → Int} {P : Nat → Nat → Int} {bk : Nat} (hV : VP p) (H : PV P bk) (h8 : bk ≤ 8) : PV (psh p P) (nb bk) := by
  intro j hj
  show VP (if j = 0 then p else P (j - 1))
  unfold nb at hj
  split
  · exact hV
  · split at hj
    · exact H _ (by omega)
    · exact H _ (by omega)
theorem PV.pop {P : Nat → Nat → Int} {bk : Nat} (H : PV P bk) : PV (pop P) (bk - 1) := fun j hj => H (j + 1) (by omega)
def REL (h : XH) : Prop := ∃ p P bk T tl fk Z, VP p ∧ PV P bk ∧ TR T tl ∧ (0 ≤ fk ∧ fk ≤ 2) ∧ RC h p P bk T tl fk ∧ RM h h Z p P bk T tl fk
theorem RC.re {h h' : XH} {p : Nat → Int} {P : Nat → Nat → Int} {bk : Nat} {T : Nat → Int} {tl : Nat} {fk : Int} (R : RC h p P bk T tl fk) (u : ∀ x, x < 102 → h' x = h x) : RC h' p P bk T tl fk := by
  obtain ⟨N, ⟨nx, H⟩, X, ⟨q, W⟩, C⟩ := R
  exact ⟨N.fr (fun x hx => u x (by omega)), ⟨nx, H.fr (fun x hx => u x (by omega))⟩, X.fr (fun x hx => u x (by omega)), ⟨q, W.fr (fun k hk => u _ (by omega))⟩, C.fr (fun x hx => u x (by omega))⟩
theorem RM.lo {h0 h : XH} {Z : Int64} {p : Nat → Int} {P : Nat → Nat → Int} {bk : Nat} {T : Nat → Int} {tl : Nat} {fk : Int} (R : RM h0 h Z p P bk T tl fk) : ∀ x, x < 102 → h x = h0 x := by
  obtain ⟨A, S, m, -⟩ := R
  exact m.1
theorem RM.re {h0 h h' : XH} {Z : Int64} {p : Nat → Int} {P : Nat → Nat → Int} {bk : Nat} {T : Nat → Int} {tl : Nat} {fk : Int} (R : RM h0 h Z p P bk T tl fk) (f : frz h h') : RM h' h' Z p P bk T tl fk := by
  obtain ⟨A, S, ⟨m0, m1, m2, m3, m4, m5, m6, m7⟩, r⟩ := R
  exact ⟨A, S, ⟨fun _ _ => rfl, (f _ (by omega)).trans m1, (f _ (by omega)).trans m2, (f _ (by omega)).trans m3, (f _ (by omega)).trans m4, (f _ (by omega)).trans m5, (f _ (by omega)).trans m6, (f _ (by omega)).trans m7⟩, r⟩
/-- both at their ends -/
theorem REL.mk {h1 h2 : XH} {Z : Int64} {p : Nat → Int} {P : Nat → Nat → Int} {bk : Nat} {T : Nat → Int} {tl : Nat} {fk : Int} (hV : VP p) (hP : PV P bk) (hT : TR T tl) (hf : 0 ≤ fk ∧ fk ≤ 2) (C : RC h1 p P bk T tl fk) (M : RM h1 h2 Z p P bk T tl fk) : REL h2 := ⟨p, P, bk, T, tl, fk, Z, hV, hP, hT, hf, C.re M.lo, M.re (fun _ _ => rfl)⟩
section
variable {h : XH} {Z : Int64} {p : Nat → Int} {P : Nat → Nat → Int} {bk : Nat} {T : Nat → Int} {tl : Nat} {fk : Int}
/-- a reading of both, the class's heap as it was -/
theorem fin_p (hV : VP p) (hP : PV P bk) (hT : TR T tl) (hf : 0 ≤ fk ∧ fk ≤ 2) (C : RC h p P bk T tl fk) (M : RM h h Z p P bk T tl fk) {r : Int} {res : Option (Int32 × XH)} (g : ∀ A S, MdAt h h A S Z → PgAt A p → S 5 = i32 (tl : Nat) → S 1 = i32 (bk : Nat) → MOp h A S Z r res) : ∃ h2, res = some (i32 r, h2) ∧ REL h2 := by
  obtain ⟨h2, e, M2⟩ := M.op g
  exact ⟨h2, e, REL.mk hV hP hT hf C M2⟩
/-- a reading of both, the class's scratch written -/
theorem fin_c (hV : VP p) (hP : PV P bk) (hT : TR T tl) (hf : 0 ≤ fk ∧ fk ≤ 2) (C : RC h p P bk T tl fk) (M : RM h h Z p P bk T tl fk) {r : Int} {res1 : Option (Int32 × XH)} {res2 : XH → Option (Int32 × XH)} (c : COp h r res1) (g : ∀ h1 A S, MdAt h1 h1 A S Z → PgAt A p → MOp h1 A S Z r (res2 h1)) : ∃ h1 h2, res1 = some (i32 r, h1) ∧ xco h1 102 9 = some () ∧ res2 h1 = some (i32 r, h2) ∧ REL h2 := by
  obtain ⟨h1, e1, C1, f1⟩ := C.cop c
  have M1 := M.re f1
  obtain ⟨h2, e2, M2⟩ := M1.op (fun A S m G _ _ => g h1 A S m G)
  exact ⟨h1, h2, e1, M1.c, e2, REL.mk hV hP hT hf C1 M2⟩
/-- a writing of both -/
theorem fin_w (hV : VP p) (hP : PV P bk) (hT : TR T tl) (hf : 0 ≤ fk ∧ fk ≤ 2) (C : RC h p P bk T tl fk) (M : RM h h Z p P bk T tl fk) {o : Int × Option (Nat → Int)} (v : VO o.2) {res1 : Option (Int32 × XH)} {res2 : XH → Option (Int32 × XH)} (c : CW h p P bk o.1 o.2 res1) (g : ∀ h1 A S, MdAt h1 h1 A S Z → BkAt A S p P bk → MW h1 A S Z p P bk o.1 o.2 (res2 h1)) : ∃ h1 h2, res1 = some (i32 o.1, h1) ∧ xco h1 102 9 = some () ∧ res2 h1 = some (i32 o.1, h2) ∧ REL h2 := by
  obtain ⟨r, o2⟩ := o
  dsimp only at v c g ⊢
  cases o2 with
  | none =>
    have e1 : res1 = some (i32 r, h) := c
    obtain ⟨A, S, m, b, s5, s6, t⟩ := M
    obtain ⟨h2, A2, S2, e2, m2, K⟩ : MOp h A S Z r (res2 h) := g h A S m b
    exact ⟨h, h2, e1, m.c, e2, REL.mk (Z := Z) hV hP hT hf C ⟨A2, S2, m2, b.kp K, K.2.2.2.1.trans s5, K.2.2.2.2.trans s6, fun k hk => by rw [K.2.1]; exact t k hk⟩⟩
  | some p' =>
    obtain ⟨h1, nx, e1, N1, H1, f1⟩ : ∃ h' nx', res1 = some (i32 r, h') ∧ NowAt h' p' ∧ HiAt h' (psh p P) (nb bk) nx' ∧ ∀ x, 92 < x → h' x = h x := c
    have h8 : bk ≤ 8 := by obtain ⟨nx, H⟩ := C.2.1; exact H.2.1
    have M1 := M.re (h' := h1) (fun x hx => f1 x (by omega))
    obtain ⟨A, S, m, b, s5, s6, t⟩ := M1
    obtain ⟨h2, A2, S2, e2, m2, b2, K⟩ : ∃ h' A' S', res2 h1 = some (i32 r, h') ∧ MdAt h1 h' A' S' Z ∧ BkAt A' S' p' (psh p P) (nb bk) ∧ Kw A A' S S' := g h1 A S m b
    obtain ⟨-, -, X, ⟨q, W⟩, CS⟩ := C
    exact ⟨h1, h2, e1, m.c, e2, REL.mk (Z := Z) (v p' rfl) (hP.psh hV h8) hT hf ⟨N1, ⟨nx, H1⟩, X.fr (fun x hx => f1 x (by omega)), ⟨q, W.fr (fun k hk => f1 _ (by omega))⟩, CS.fr (fun x hx => f1 x (by omega))⟩ ⟨A2, S2, m2, b2, K.2.1.trans s5, K.2.2.trans s6, fun k hk => by rw [K.1]; exact t k hk⟩⟩
theorem fin_undo (hV : VP p) (hP : PV P bk) (hT : TR T tl) (hf : 0 ≤ fk ∧ fk ≤ 2) (C : RC h p P bk T tl fk) (M : RM h h Z p P bk T tl fk) : ∃ r h1 h2, fX8_undo h 0 = some (r, h1) ∧ xco h1 102 9 = some () ∧ fX9_undo h1 102 = some (r, h2) ∧ REL h2 := by
  have bke := C.bk
  obtain ⟨N, ⟨nx, H⟩, X, ⟨q, W⟩, CS⟩ := C
  have h8 := H.2.1
  unfold fX8_undo
  rw [obb (r_1 N), obb bke, L_0, ceq (by omega)]
  by_cases w : (bk : Int) = 0
  · rw [if_pos w]
    have e : bk = 0 := by omega
    subst e
    have mc := M.c
    refine ⟨_, h, h, rfl, mc, ?_, REL.mk hV hP hT hf ⟨N, ⟨nx, H⟩, X, ⟨q, W⟩, CS⟩ M⟩
    obtain ⟨A, S, m, b, -⟩ := M
    unfold fX9_undo
    rw [obb m.i1, b.1, L_0, ieq_t w]
  · rw [if_neg w]
    obtain ⟨h1, e1, N1, H1, f1⟩ := cres N H (by omega)
    have i1 : xgI h1 11 3 2 = some (i32 ((bk - 1 : Nat) : Int)) := gI H1.2.2.1 2 rfl
    have M1 := M.re (h' := h1) (fun x hx => f1 x (by omega))
    have mc := M1.c
    obtain ⟨A, S, m, b, s5, s6, t⟩ := M1
    obtain ⟨h2, A2, S2, e2, m2, b2, K⟩ := mback m b (by omega)
    rw [obb (r_1 N), obb N.n, obb (h_c H), obb e1, obb (r_1 N1), obb i1]
    exact ⟨_, h1, h2, rfl, mc, e2, REL.mk (Z := Z) (hP 0 (by omega)) hP.pop hT hf ⟨N1, ⟨_, H1⟩, X.fr (fun x hx => f1 x (by omega)), ⟨q, W.fr (fun k hk => f1 _ (by omega))⟩, CS.fr (fun x hx => f1 x (by omega))⟩ ⟨A2, S2, m2, b2, K.2.1.trans s5, K.2.2.trans s6, fun k hk => by rw [K.1]; exact t k hk⟩⟩
theorem fin_load (hV : VP p) (hP : PV P bk) (hT : TR T tl) (C : RC h p P bk T tl fk) (M : RM h h Z p P bk T tl fk) : ∃ r h1 h2, fX8_load h 0 = some (r, h1) ∧ xco h1 102 9 = some () ∧ fX9_load h1 102 = some (r, h2) ∧ REL h2 := by
  have h8 : bk ≤ 8 := by obtain ⟨nx, H⟩ := C.2.1; exact H.2.1
  obtain ⟨h1, e1, a1, a2, f1⟩ := cLoad C hT
  have M1 := M.re (h' := h1) f1
  obtain ⟨h2, e2, b1, b2⟩ := mLoad M1 hT
  refine ⟨_, h1, h2, e1, M1.c, e2, ?_⟩
  cases hp : pF T tl with
  | none => exact REL.mk (vLoad hV hp) (hP.psh hV h8) hT (by omega) (a1 hp) (b1 hp)
  | some x =>
    have := (pF_a hT.1 hp).1
    exact REL.mk hV hP hT (by omega) (a2 x hp) (b2 x hp)
theorem fin_dig (hV : VP p) (hP : PV P bk) (hT : TR T tl) (hf : 0 ≤ fk ∧ fk ≤ 2) (C : RC h p P bk T tl fk) (M : RM h h Z p P bk T tl fk) : ∃ r h1 h2, fX8_digest h 0 = some (r, h1) ∧ xco h1 102 9 = some () ∧ fX9_digest h1 102 = some (r, h2) ∧ REL h2 := by
  obtain ⟨h1, e1, C1, f1⟩ := cDig C hV
  have M1 := M.re f1
  obtain ⟨h2, Z2, e2, M2⟩ := mDig M1 hV
  exact ⟨_, h1, h2, e1, M1.c, e2, REL.mk hV hP hT hf C1 M2⟩
theorem fin_fk (C : RC h p P bk T tl fk) (M : RM h h Z p P bk T tl fk) : fX8_faultKind h 0 = some (i32 fk) ∧ fX9_faultKind h 102 = some (i32 fk) := by
  obtain ⟨N, -, ⟨c, sp, a, t1, t2, t3⟩, -⟩ := C
  obtain ⟨A, S, m, b, s5, s6, t⟩ := M
  have g2 : xgR h 0 8 2 = some 93 := gR N.1 2 rfl
  unfold fX8_faultKind fX9_faultKind
  rw [obb g2, obb (gI t1 3 rfl), obb m.i6, s6]
  exact ⟨rfl, rfl⟩
theorem fin_clear (hV : VP p) (hP : PV P bk) (hT : TR T tl) (hf : 0 ≤ fk ∧ fk ≤ 2) (C : RC h p P bk T tl fk) (M : RM h h Z p P bk T tl fk) : ∃ r h1 h2, fX8_clearText h 0 = some (r, h1) ∧ xco h1 102 9 = some () ∧ fX9_clearText h1 102 = some (r, h2) ∧ REL h2 := by
  obtain ⟨N, ⟨nx, H⟩, ⟨c, sp, a, t1, t2, t3⟩, ⟨q, W⟩, CS⟩ := C
  have g2 : xgR h 0 8 2 = some 93 := gR N.1 2 rfl
  obtain ⟨h1, e1, a1, u1⟩ := pfw t1 2 (.int (i32 ((0 : Nat) : Int))) (Nat.le_of_ble_eq_true rfl)
  have e1' : xpf h 93 7 2 (.int 0) = some h1 := e1
  have M1 := M.re (h' := h1) (fun x hx => u1 x (by omega))
  have mc := M1.c
  obtain ⟨A, S, m, b, s5, s6, t⟩ := M1
  obtain ⟨h2, e2, m2⟩ := m.p5 (i32 ((0 : Nat) : Int))
  have e2' : xpf h1 102 9 5 (.int 0) = some h2 := e2
  unfold fX8_clearText fX9_clearText
  refine ⟨i32 (tl : Nat), h1, h2, by rw [obb g2, obb (gI t1 2 rfl), obb g2, obb e1'], mc, by rw [obb m.i5, obb e2', s5], ?_⟩
  exact REL.mk (Z := Z) (T := T) (tl := 0) hV hP ⟨by omega, fun k hk => absurd hk (by omega)⟩ hf ⟨N.fr (fun x hx => u1 x (by omega)), ⟨nx, H.fr (fun x hx => u1 x (by omega))⟩, ⟨c, sp, a, a1, (u1 _ (by omega)).trans t2, fun k hk => absurd hk (by omega)⟩, ⟨q, W.fr (fun k hk => u1 _ (by omega))⟩, CS.fr (fun x hx => u1 x (by omega))⟩ ⟨A, _, m2, b.sup 5 _ (by omega), sup_s _ _ _, (sup_n _ _ (by omega)).trans s6, fun k hk => absurd hk (by omega)⟩
theorem fin_type (hV : VP p) (hP : PV P bk) (hT : TR T tl) (hf : 0 ≤ fk ∧ fk ≤ 2) (C : RC h p P bk T tl fk) (M : RM h h Z p P bk T tl fk) {z : Int} (hz : -2147483648 ≤ z ∧ z < 2147483648) : ∃ r h1 h2, fX8_type h 0 (i32 z) = some (r, h1) ∧ xco h1 102 9 = some () ∧ fX9_type h1 102 (i32 z) = some (r, h2) ∧ REL h2 := by
  have ht := hT.1
  have C0 := C
  obtain ⟨N, ⟨nx, H⟩, ⟨c, sp, a, t1, t2, t3⟩, ⟨q, W⟩, CS⟩ := C
  have g2 : xgR h 0 8 2 = some 93 := gR N.1 2 rfl
  have g0 : xgR h 93 7 0 = some 94 := gR t1 0 rfl
  have co : xco h 93 7 = some () := gC t1
  unfold fX8_type fX9_type
  rw [L_32, L_126, obb (within_ok hz (by omega) (by omega))]
  by_cases w : 32 ≤ z ∧ z ≤ 126
  · rw [decide_eq_true w, if_pos rfl, obb g2, obb (gI t1 2 rfl), L_80, clt (by omega)]
    by_cases w2 : tl < 80
    · have e1 := put_ok t2 (by omega) (i := (tl : Int)) (i32 z) (by omega)
      rw [if_pos (by omega), Int.toNat_natCast] at e1
      have t1' := (xup_n h (.inr (0, 80, .inl (upd c tl (i32 z)))) (show (93 : Nat) ≠ 94 by omega)).trans t1
      obtain ⟨h1, e2, a2, u2⟩ := pfw t1' 2 (.int (i32 ((tl + 1 : Nat) : Int))) (Nat.le_of_ble_eq_true rfl)
      have fr : ∀ x, x ≠ 93 → x ≠ 94 → h1 x = h x := fun x p1 p2 => (u2 x p1).trans (xup_n _ _ p2)
      have ap : fX7_append h 93 (i32 z) = some h1 := by
        unfold fX7_append
        rw [obb g0, obb (gI t1 2 rfl), obb e1, obb (gI t1' 2 rfl), L_1, i32_add, show (tl : Int) + 1 = ((tl + 1 : Nat) : Int) from rfl, obb e2]
      have g2' : xgR h1 0 8 2 = some 93 := gR ((fr 0 (by omega) (by omega)).trans N.1) 2 rfl
      have M1 := M.re (h' := h1) (fun x hx => fr x (by omega) (by omega))
      have mc := M1.c
      obtain ⟨A, S, m, b, s5, s6, t⟩ := M1
      obtain ⟨h2, e3, m2⟩ := m.s2 (i := (tl : Int)) (i32 z) (by omega)
      rw [Int.toNat_natCast] at m2
      obtain ⟨h3, e4, m3⟩ := m2.p5 (i32 ((tl + 1 : Nat) : Int))
      have tr : ∀ (f : Nat → Int32), (∀ k, k < tl → f k = i32 (T k)) → ∀ k, k < tl + 1 → upd f tl (i32 z) k = i32 (pu T tl z k) := by
        intro f hfk k hk
        simp only [upd, pu]
        by_cases y : k = tl
        · rw [if_pos y, if_pos y]
        · rw [if_neg y, if_neg y]; exact hfk k (by omega)
      refine ⟨i32 ((tl + 1 : Nat) : Int), h1, h3, by rw [if_pos (by omega), obb g2, obb co, obb ap, obb g2', obb (gI a2 2 rfl)], mc, ?_, ?_⟩
      · rw [obb (in_ok hz (by omega) (by omega)), decide_eq_true w, if_pos rfl, obb m.i5, s5, ieq_f (by omega), obb m.r4, obb m.i5, s5, obb e3, obb m2.i5, s5, L_1, i32_add, show (tl : Int) + 1 = ((tl + 1 : Nat) : Int) from rfl, obb e4, obb m3.i5, sup_s]
      · exact REL.mk (Z := Z) (T := pu T tl z) (tl := tl + 1) hV hP ⟨by omega, fun k hk => by
          unfold pu
          split
          · exact w
          · exact hT.2 k (by omega)⟩ hf ⟨N.fr (fun x hx => fr x (by omega) (by omega)), ⟨nx, H.fr (fun x hx => fr x (by omega) (by omega))⟩, ⟨_, sp, a, a2, (u2 _ (by omega)).trans (xup_s _ _ _), tr c t3⟩, ⟨q, W.fr (fun k hk => fr _ (by omega) (by omega))⟩, CS.fr (fun x hx => fr x (by omega) (by omega))⟩ ⟨_, _, m3, ⟨(sup_n _ _ (by omega)).trans b.1, b.2.1, fun k hk => by rw [aup_n _ _ (by omega)]; exact b.2.2.1 k hk, fun j hj k hk => by rw [aup_n _ _ (by omega)]; exact b.2.2.2 j hj k hk⟩, sup_s _ _ _, (sup_n _ _ (by omega)).trans s6, fun k hk => by rw [aup_s]; exact tr (A 2) t k hk⟩
    · refine ⟨_, h, h, by rw [if_neg (by omega)], M.c, ?_, REL.mk hV hP hT hf C0 M⟩
      obtain ⟨A, S, m, b, s5, s6, t⟩ := M
      rw [obb (in_ok hz (by omega) (by omega)), decide_eq_true w, if_pos rfl, obb m.i5, s5, ieq_t (by omega)]
  · refine ⟨_, h, h, by rw [decide_eq_false w, if_neg Bool.false_ne_true], M.c, ?_, REL.mk hV hP hT hf C0 M⟩
    rw [obb (in_ok hz (by omega) (by omega)), decide_eq_false w, if_neg Bool.false_ne_true]
end
