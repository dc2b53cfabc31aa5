theorem pgL_0 (p T : Nat → Int) : pu (pu (pu p 61 0) 62 0) 63 0 = pgL p T 0 := by
  funext j
  unfold pu pgL
  by_cases w : j = 63
  · rw [if_pos w, if_neg (by omega), if_pos (by omega)]
  rw [if_neg w]
  by_cases w2 : j = 62
  · rw [if_pos w2, if_neg (by omega), if_pos (by omega)]
  rw [if_neg w2]
  by_cases w3 : j = 61
  · rw [if_pos w3, if_neg (by omega), if_pos (by omega)]
  rw [if_neg w3, if_neg (by omega), if_neg (by omega)]
theorem pgL_s (p T : Nat → Int) {n : Nat} (h : n < 60) : pu (pgL p T n) (1 + n) (cv T n) = pgL p T (n + 1) := by
  funext j
  unfold pu pgL
  by_cases w : j = 1 + n
  · rw [if_pos w, if_pos (by omega)]; congr 1; omega
  rw [if_neg w]
  by_cases w2 : 1 ≤ j ∧ j ≤ n
  · rw [if_pos w2, if_pos (by omega)]
  · rw [if_neg w2, if_neg (show ¬ (1 ≤ j ∧ j ≤ n + 1) by omega)]
theorem hc_cl {T : Nat → Int} {tl : Nat} (pos : Nat) : (hc T tl pos = 46 ∨ (97 ≤ hc T tl pos ∧ hc T tl pos ≤ 99)) ↔ cl T tl pos = true := by
  unfold hc cl
  rw [decide_eq_true_eq]
  split <;> omega
theorem p1k {T : Nat → Int} {tl : Nat} {x : Int × Int} (h : (p1 T tl).1 = some x) : x.1 = 1 ∨ x.1 = 2 := by
  unfold p1 at h
  split at h
  · exact rf_k h
  · cases h
theorem p2k {T : Nat → Int} {tl s : Nat} {x : Int × Int} (h : (p2 T tl s).1 = some x) : x.1 = 1 ∨ x.1 = 2 := by
  unfold p2 at h
  split at h
  · split at h
    · exact rf_k h
    · exact rf_k h
  · cases h
section
variable {h0 h : XH} {Z : Int64} {T : Nat → Int} {tl : Nat} {p : Nat → Int} {P : Nat → Nat → Int} {bk : Nat} {pg : Nat → Int} {pos : Nat} {num : Int32} {fk at' : Int}
theorem mcells (M : MRd h0 h Z T tl p P bk (pgL p T 0) 0 num 0 at') (hT : TR T tl) : ∃ h' f2 a2, fX9_readsCells h 102 = some (decide (f2 = 0), h') ∧ MRd h0 h' Z T tl p P bk (pu (pgL p T (nC T tl)) 0 (nC T tl : Nat)) (nC T tl) num f2 a2 ∧ (nC T tl = 0 → f2 = 1 ∧ a2 = 0) ∧ (nC T tl ≠ 0 → f2 = 0) := by
  obtain ⟨n1, n2, n3, n4⟩ := nC_ok T tl
  have ht := hT.1
  unfold fX9_readsCells
  obtain ⟨e, f, E1, E2⟩ := xl_inv (fX9_readsCells_B2 102) (fun n s => s.2 = i32 (n : Nat) ∧ MRd h0 s.1 Z T tl p P bk (pgL p T n) n num 0 at') (nC T tl) (fun e => e.2 = i32 (nC T tl : Nat) ∧ MRd h0 e.1 Z T tl p P bk (pgL p T (nC T tl)) (nC T tl) num 0 at') (fun n s hn I => by
    obtain ⟨h2, x⟩ := s
    obtain ⟨rfl, I⟩ := I
    dsimp only at I
    have hcl := n3 n hn
    have hr := I.here hT (by omega)
    have hcl2 := hcl
    simp only [cl, decide_eq_true_eq] at hcl2
    have he : hc T tl n = T n := by unfold hc; rw [if_pos hcl2.1]
    have hb := hT.2 n hcl2.1
    rw [he] at hr
    obtain ⟨h3, e3, M3⟩ := I.put (i := 1 + (n : Int)) (by omega) (cv T n)
    rw [show (1 + (n : Int)).toNat = 1 + n by omega, pgL_s p T (by omega)] at M3
    obtain ⟨h4, e4, M4⟩ := M3.p8 ((n : Int) + 1) (n + 1) (by omega)
    have step : fX9_readsCells_J31 h2 102 (i32 (n : Nat)) = some (.inl (h4, i32 ((n + 1 : Nat) : Int))) := by
      unfold fX9_readsCells_J31 fX9_readsCells_J60
      rw [obb I.r0, obb I.c, obb hr, L_46, ceq (by omega), L_1, i32_add, L_0, show (97 : Int32) = i32 97 from by decide]
      by_cases w : T n = 46
      · have ecv : cv T n = 0 := by unfold cv; rw [if_pos w]
        rw [ecv] at e3
        rw [if_pos w, obb e3, obb M3.i8, i32_add, obb e4]
        rfl
      · have ecv : cv T n = T n - 97 + 1 := by unfold cv; rw [if_neg w]
        rw [ecv] at e3
        rw [if_neg w, obb I.c, obb hr, i32_sub, i32_add, obb e3, obb M3.i8, i32_add, obb e4]
        rfl
    unfold fX9_readsCells_B2 fX9_readsCells_b2
    dsimp only
    rw [L_60, ile_f (by omega), obb I.c, obb hr, L_46, ceq (by omega), step]
    by_cases w : T n = 46
    · rw [if_pos w]
      exact ⟨_, rfl, rfl, M4⟩
    · rw [if_neg w, obb I.c, obb hr, show (97 : Int32) = i32 97 from by decide, L_99, obb (in_ok (by omega) (by omega) (by omega)), decide_eq_true (show 97 ≤ T n ∧ T n ≤ 99 by omega), if_pos rfl]
      exact ⟨_, rfl, rfl, M4⟩) (fun s I => by
    obtain ⟨h2, x⟩ := s
    obtain ⟨rfl, I⟩ := I
    dsimp only at I
    unfold fX9_readsCells_B2 fX9_readsCells_b2
    dsimp only
    rw [L_60, cle (by omega)]
    by_cases w : (60 : Int) ≤ nC T tl
    · rw [if_pos w]
      exact ⟨_, rfl, rfl, I⟩
    · have hr := I.here hT (by omega)
      have hb := hc_rng hT (nC T tl)
      have nc := hc_cl (T := T) (tl := tl) (nC T tl)
      rw [n4 (by omega)] at nc
      have nn : ¬ (hc T tl (nC T tl) = 46 ∨ (97 ≤ hc T tl (nC T tl) ∧ hc T tl (nC T tl) ≤ 99)) := fun z => absurd (nc.mp z) Bool.false_ne_true
      rw [if_neg w, obb I.c, obb hr, L_46, ceq (by omega), if_neg (fun z => nn (.inl z)), obb I.c, obb hr, show (97 : Int32) = i32 97 from by decide, L_99, obb (in_ok (by omega) (by omega) (by omega)), decide_eq_false (fun z => nn (.inr z)), if_neg Bool.false_ne_true]
      exact ⟨_, rfl, rfl, I⟩) (h, i32 (0 : Nat)) ⟨rfl, M⟩ 5000 (by omega)
  have f' : xloop (fX9_readsCells_B2 102) 5000 (h, 0) = some e := f
  obtain ⟨h3, e3, M3⟩ := E2.put (i := 0) (by omega) (nC T tl : Nat)
  rw [obb f', obb E2.r0, E1, L_0, obb e3, clt (by omega)]
  by_cases w : nC T tl = 0
  · obtain ⟨h4, e4, M4⟩ := M3.fails 1 (nC T tl : Nat)
    rw [if_neg (by omega), obb M3.i8, obb M3.c, L_1, obb e4, if_neg Bool.false_ne_true]
    exact ⟨h4, 1, _, rfl, M4, fun _ => ⟨rfl, by omega⟩, fun z => absurd w z⟩
  · rw [if_pos (by omega)]
    exact ⟨h3, 0, _, rfl, M3, fun z => absurd z w, fun _ => rfl⟩
theorem rf_pos {T : Nat → Int} {tl s d : Nat} {M : Int} (h : rf T tl s d M = none) : s + nd T tl s d ≤ tl := by
  obtain ⟨n1, n2, n3⟩ := nd_ok T tl s d
  unfold rf at h
  split at h
  · cases h
  · rename_i w
    have := n2 (nd T tl s d - 1) (by omega)
    simp only [dg, decide_eq_true_eq] at this
    omega
theorem p1_le {T : Nat → Int} {tl : Nat} (h : (p1 T tl).1 = none) : (p1 T tl).2.1 ≤ tl := by
  have n2 := (nC_ok T tl).2.1
  unfold p1 at h ⊢
  split
  · rename_i w
    rw [if_pos w] at h
    exact rf_pos h
  · exact n2
theorem p2_le {T : Nat → Int} {tl s : Nat} (hs : s ≤ tl) (h : (p2 T tl s).1 = none) : (p2 T tl s).2.1 ≤ tl := by
  unfold p2 at h ⊢
  split
  · rename_i w
    rw [if_pos w] at h
    split
    · rename_i w2
      rw [if_pos w2] at h
      exact rf_pos h
    · rename_i w2
      rw [if_neg w2] at h
      exact rf_pos h
  · exact hs
/-- back to the page before -/
theorem mJ100f (M : MRd h0 h Z T tl p P bk pg pos num fk at') : ∃ h', fX9_load_J100 h 102 false = some (i32 (-10 - at'), h') ∧ RM h0 h' Z p P bk T tl fk := by
  have c := M.c
  obtain ⟨A, S, m, b, k9, s5, s6, s7, s8, s9, t⟩ := M
  obtain ⟨h2, f, e2, M2, F1, F2⟩ := mcopies m (a := 9) (b := 0) (by omega) (by omega) (by omega)
  have e2' : fX9_copies h 102 9 0 = some h2 := e2
  unfold fX9_load_J100
  rw [if_neg Bool.false_ne_true, obb c, obb e2', obb M2.i7, s7, L_m10, i32_sub]
  refine ⟨h2, rfl, _, S, M2, ⟨b.1, b.2.1, fun k hk => ?_, fun j hj k hk => ?_⟩, s5, s6, fun k hk => by rw [aup_n _ _ (by omega)]; exact t k hk⟩
  · rw [aup_s]
    have := F1 k hk
    rw [Nat.mul_zero, Nat.zero_add] at this
    rw [this]
    exact k9 k hk
  · rw [aup_s, F2 _ (by omega)]
    exact b.2.2.2 j hj k hk
theorem mJ100t (M : MRd h0 h Z T tl p P bk pg pos num fk at') : ∃ h', fX9_load_J100 h 102 true = some (i32 (pg 0), h') ∧ RM h0 h' Z pg (psh p P) (nb bk) T tl fk := by
  obtain ⟨A, S, m, b, k9, s5, s6, s7, s8, s9, t⟩ := M
  obtain ⟨e, f, g, E1, E2, E3, E4⟩ := xl_inv (fX9_load_B122 102) (fun i s => s.2 = i32 (i : Nat) ∧ ∃ g, MdAt h0 s.1 (aup A 0 g) S Z ∧ (∀ k, k < i → g k = A 0 (882 + k)) ∧ (∀ k, k < i → g (882 + k) = A 0 k) ∧ ∀ x, (i ≤ x ∧ x < 882 ∨ 882 + i ≤ x) → g x = A 0 x) 98 (fun h' => ∃ g, MdAt h0 h' (aup A 0 g) S Z ∧ (∀ k, k < 98 → g k = A 0 (882 + k)) ∧ (∀ k, k < 98 → g (882 + k) = A 0 k) ∧ ∀ x, (98 ≤ x ∧ x < 882) → g x = A 0 x) (fun i s hi I => by
    obtain ⟨h2, x⟩ := s
    obtain ⟨rfl, g, I1, I2, I3, I4⟩ := I
    dsimp only at I1 I2 I3 I4 ⊢
    obtain ⟨h3, e3, M3⟩ := I1.s0 (i := (i : Int)) (A 0 (882 + i)) (by omega)
    rw [aup_aup, aup_s, Int.toNat_natCast] at M3
    obtain ⟨h4, e4, M4⟩ := M3.s0 (i := 882 + (i : Int)) (A 0 i) (by omega)
    rw [aup_aup, aup_s, show (882 + (i : Int)).toNat = 882 + i by omega] at M4
    unfold fX9_load_B122 fX9_load_b122
    dsimp only
    rw [L_98, ile_f (by omega), obb I1.r0, obb (I1.a0 (by omega)), obb I1.r0, obb I1.r0, L_882, i32_add, obb (I1.a0 (by omega)), aup_s, Int.toNat_natCast, show (882 + (i : Int)).toNat = 882 + i by omega, I4 i (by omega), I4 (882 + i) (by omega), obb e3, obb M3.r0, obb e4, L_1, i32_add]
    refine ⟨_, rfl, rfl, _, M4, fun k hk => ?_, fun k hk => ?_, fun x hx => ?_⟩
    · simp only [upd]
      rw [if_neg (by omega)]
      by_cases w : k = i
      · rw [if_pos w, w]
      · rw [if_neg w]; exact I2 k (by omega)
    · simp only [upd]
      by_cases w : k = i
      · rw [if_pos (by omega), w]
      · rw [if_neg (by omega), if_neg (by omega)]; exact I3 k (by omega)
    · simp only [upd]
      rw [if_neg (by omega), if_neg (by omega)]
      exact I4 x (by omega)) (fun s I => by
    obtain ⟨h2, x⟩ := s
    obtain ⟨rfl, g, I1, I2, I3, I4⟩ := I
    dsimp only at I1 I2 I3 I4 ⊢
    unfold fX9_load_B122 fX9_load_b122
    dsimp only
    rw [L_98, ile_t (by omega)]
    exact ⟨_, rfl, g, I1, I2, I3, fun x hx => I4 x (by omega)⟩) (h, i32 (0 : Nat)) ⟨rfl, A 0, by have : aup A 0 (A 0) = A := by { funext j; by_cases q : j = 0 <;> simp [aup, q] }; rw [this]; exact m, fun k hk => absurd hk (by omega), fun k hk => absurd hk (by omega), fun _ _ => rfl⟩ 5000 (by omega)
  have f' : xloop (fX9_load_B122 102) 5000 (h, 0) = some e := f
  have B1 : BkAt (aup A 0 g) S p P bk := ⟨b.1, b.2.1, fun k hk => by rw [aup_s, E2 k hk]; exact k9 k hk, fun j hj k hk => by
    have hb8 := b.2.1
    rw [aup_s, E4 _ (by omega)]; exact b.2.2.2 j hj k hk⟩
  obtain ⟨h2, A2, S2, e2, M2, B2, K2, U2⟩ := mrec9 E1 B1
  obtain ⟨h3, f3, e3, M3, F1, F2⟩ := mcopies M2 (a := 9) (b := 0) (by omega) (by omega) (by omega)
  have e3' : fX9_copies h2 102 9 0 = some h3 := e3
  have G3 : PgAt (aup A2 0 f3) pg := fun k hk => by
    rw [aup_s]
    have := F1 k hk
    rw [Nat.mul_zero, Nat.zero_add] at this
    rw [this, U2 _ (by omega), aup_s]
    have x := E3 k hk
    rw [show 98 * 9 + k = 882 + k by omega, x]
    exact b.2.2.1 k hk
  unfold fX9_load_J100
  rw [if_pos rfl, obb f', obb E1.c, obb e2, obb M2.c, obb e3', obb M3.c, obb (cells_ok M3 G3)]
  refine ⟨h3, rfl, _, S2, M3, ⟨B2.1, B2.2.1, G3, fun j hj k hk => ?_⟩, K2.2.1.trans s5, K2.2.2.trans s6, fun k hk => ?_⟩
  · have hb8 := B2.2.1
    rw [aup_s, F2 _ (by omega)]
    exact B2.2.2.2 j hj k hk
  · rw [aup_n _ _ (by omega), K2.1, aup_n _ _ (by omega)]
    exact t k hk
theorem mLoad (R : RM h0 h Z p P bk T tl fk) (hT : TR T tl) : ∃ h', fX9_load h 102 = some (i32 (aLoad T tl), h') ∧ (pF T tl = none → RM h0 h' Z (ldp p T tl) (psh p P) (nb bk) T tl 0) ∧ (∀ x, pF T tl = some x → RM h0 h' Z p P bk T tl x.1) := by
  obtain ⟨A, S, m, b, s5, s6, t⟩ := R
  have n1 := (nC_ok T tl).1
  obtain ⟨h1, f, e1, M1, F1, F2⟩ := mcopies m (a := 0) (b := 9) (by omega) (by omega) (by omega)
  have e1' : fX9_copies h 102 0 9 = some h1 := e1
  obtain ⟨h2, e2, M2⟩ := M1.p6 (i32 0)
  have hat : S 7 = i32 (S 7).toInt := (i32_of _).symm
  obtain ⟨h3, e3, M3⟩ := M2.p8 (i32 ((0 : Nat) : Int))
  have e2' : xpf h1 102 9 6 (.int 0) = some h2 := e2
  have e3' : xpf h2 102 9 8 (.int 0) = some h3 := e3
  have Q3 : MRd h0 h3 Z T tl p P bk p 0 (S 9) 0 (S 7).toInt := by
    refine ⟨_, _, M3, (BkAt.sup (BkAt.sup ⟨b.1, b.2.1, fun k hk => ?_, fun j hj k hk => ?_⟩ 6 _ (by omega)) 8 _ (by omega)), fun k hk => ?_, (sup_n _ _ (by omega)).trans ((sup_n _ _ (by omega)).trans s5), (sup_n _ _ (by omega)).trans (sup_s _ _ _), (sup_n _ _ (by omega)).trans ((sup_n _ _ (by omega)).trans hat), sup_s _ _ _, (sup_n _ _ (by omega)).trans (sup_n _ _ (by omega)), fun k hk => by rw [aup_n _ _ (by omega)]; exact t k hk⟩
    · rw [aup_s, F2 k (by omega)]; exact b.2.2.1 k hk
    · have hb8 := b.2.1
      rw [aup_s, F2 _ (by omega)]; exact b.2.2.2 j hj k hk
    · rw [aup_s]
      have := F1 k hk
      rw [Nat.mul_zero, Nat.zero_add] at this
      rw [show 882 + k = 98 * 9 + k by omega, this]; exact b.2.2.1 k hk
  obtain ⟨h4, e4, Q4⟩ := Q3.put (i := 61) (by omega) 0
  obtain ⟨h5, e5, Q5⟩ := Q4.put (i := 62) (by omega) 0
  obtain ⟨h6, e6, Q6⟩ := Q5.put (i := 63) (by omega) 0
  rw [show (61 : Int).toNat = 61 from rfl, show (62 : Int).toNat = 62 from rfl, show (63 : Int).toNat = 63 from rfl, pgL_0 p T] at Q6
  obtain ⟨h7, f7, a7, e7, Q7, z7, y7⟩ := mcells Q6 hT
  unfold fX9_load aLoad
  rw [obb m.c, obb e1', obb e2', obb e3', obb Q3.r0, L_61, L_62, L_63, L_0, obb e4, obb Q4.r0, obb e5, obb Q5.r0, obb e6, obb Q6.c, obb e7]
  have fail : ∀ (h9 : XH) (pg9 : Nat → Int) (pos9 : Nat) (n9 : Int32) (x : Int × Int), MRd h0 h9 Z T tl p P bk pg9 pos9 n9 x.1 x.2 → pF T tl = some x → ∃ h', fX9_load_J66 h9 102 = some (i32 (match pF T tl with | none => (nC T tl : Nat) | some x => -10 - x.2), h') ∧ (pF T tl = none → RM h0 h' Z (ldp p T tl) (psh p P) (nb bk) T tl 0) ∧ (∀ x, pF T tl = some x → RM h0 h' Z p P bk T tl x.1) := by
    intro h9 pg9 pos9 n9 x Q9 hx
    obtain ⟨h10, e10, R10⟩ := mJ100f Q9
    unfold fX9_load_J66 fX9_load_J67 fX9_load_J99
    rw [if_neg Bool.false_ne_true, e10, hx]
    exact ⟨h10, rfl, fun z => (by cases z), fun y hy => by cases hy; exact R10⟩
  by_cases w0 : nC T tl = 0
  · obtain ⟨rfl, rfl⟩ := z7 w0
    have pf : pF T tl = some (1, 0) := by unfold pF; rw [if_pos w0]
    rw [decide_eq_false (show ¬ (1 : Int) = 0 by omega), if_neg Bool.false_ne_true]
    exact fail h7 _ _ _ (1, 0) Q7 pf
  · obtain rfl := y7 w0
    obtain ⟨h8, pos8, n8, f8, a8, pg8, e8, Q8, F8, G8⟩ := mStart1 Q7 hT (by rw [pu_n _ _ (by omega)]; unfold pgL; rw [if_neg (by omega), if_pos (by omega)])
    have hp1 := p1_pos T tl
    rw [decide_eq_true rfl, if_pos rfl, obb Q7.c, obb e8]
    cases h1c : (p1 T tl).1 with
    | some x =>
      rw [h1c] at F8
      obtain ⟨rfl, rfl⟩ := F8
      have k := p1k h1c
      have pf : pF T tl = some x := by unfold pF; rw [if_neg w0, h1c]
      rw [decide_eq_false (show ¬ x.1 = 0 by omega), if_neg Bool.false_ne_true]
      exact fail h8 _ _ _ x Q8 pf
    | none =>
      rw [h1c] at F8
      have f80 : f8 = 0 := F8
      subst f80
      obtain ⟨rfl, rfl⟩ := G8 h1c
      obtain ⟨h9, pos9, n9, f9, a9, pg9, e9, Q9, F9, G9⟩ := mSpeed1 Q8 hT (by omega) (by rw [pu_n _ _ (by omega), pu_n _ _ (by omega)]; unfold pgL; rw [if_neg (by omega), if_pos (by omega)])
      rw [decide_eq_true rfl, if_pos rfl, obb Q8.c, obb e9]
      have pf0 : pF T tl = pF2 T tl (p1 T tl).2.1 := by unfold pF; rw [if_neg w0, h1c]
      cases h2c : (p2 T tl (p1 T tl).2.1).1 with
      | some x =>
        rw [h2c] at F9
        obtain ⟨rfl, rfl⟩ := F9
        have k := p2k h2c
        have pf : pF T tl = some x := by rw [pf0]; unfold pF2; rw [h2c]
        rw [decide_eq_false (show ¬ x.1 = 0 by omega), if_neg Bool.false_ne_true]
        exact fail h9 _ _ _ x Q9 pf
      | none =>
        rw [h2c] at F9
        have f90 : f9 = 0 := F9
        subst f90
        obtain ⟨rfl, rfl⟩ := G9 h2c
        have ple := p2_le (p1_le h1c) h2c
        have ht := hT.1
        have pf : pF T tl = p3 tl (p2 T tl (p1 T tl).2.1).2.1 := by rw [pf0]; unfold pF2; rw [h2c]
        rw [decide_eq_true rfl, if_pos rfl]
        unfold fX9_load_J67
        rw [if_pos rfl, obb Q9.i8, obb Q9.i5, ceq (by omega)]
        by_cases w : tl ≤ (p2 T tl (p1 T tl).2.1).2.1
        · have pn : pF T tl = none := by rw [pf]; unfold p3; rw [if_pos w]
          obtain ⟨h10, e10, R10⟩ := mJ100t Q9
          have q0 : pu (pu (pu (pgL p T (nC T tl)) 0 (nC T tl : Nat)) 61 (p1 T tl).2.2) 62 (p2 T tl (p1 T tl).2.1).2.2 0 = (nC T tl : Nat) := ldp_0 p T tl
          rw [if_pos (by omega), pn]
          unfold fX9_load_J95
          rw [e10, q0]
          exact ⟨h10, rfl, fun _ => R10, fun x hx => (by cases hx)⟩
        · have ps : pF T tl = some (1, ((p2 T tl (p1 T tl).2.1).2.1 : Int)) := by rw [pf]; unfold p3; rw [if_neg w]
          obtain ⟨h10, e10, Q10⟩ := Q9.fails 1 ((p2 T tl (p1 T tl).2.1).2.1 : Nat)
          rw [if_neg (by omega), obb Q9.i8, obb Q9.c, L_1, obb e10, if_neg Bool.false_ne_true]
          obtain ⟨h11, e11, R11⟩ := mJ100f Q10
          unfold fX9_load_J99
          rw [e11, ps]
          exact ⟨h11, rfl, fun z => (by cases z), fun y hy => by cases hy; exact R11⟩
end
