def wq (T : Nat → Int) (n st sp : Int) : Nat → Int := fun j => if j = 0 then n else if j ≤ 60 then cv T (j - 1) else if j = 61 then st else if j = 62 then sp else 0
def FO (o : Option (Int × Int)) (f2 a2 : Int) : Prop := match o with
  | none => f2 = 0
  | some x => f2 = x.1 ∧ a2 = x.2
theorem rf_k {T : Nat → Int} {tl s d : Nat} {M : Int} {x : Int × Int} (h : rf T tl s d M = some x) : x.1 = 1 ∨ x.1 = 2 := by
  unfold rf at h
  split at h
  · cases h; exact .inl rfl
  · split at h
    · cases h; exact .inl rfl
    · split at h
      · cases h
      · cases h; exact .inr rfl
theorem rf_a {T : Nat → Int} {tl s d : Nat} {M : Int} {x : Int × Int} (h : rf T tl s d M = some x) : (s : Int) ≤ x.2 ∧ x.2 ≤ s + d := by
  have n := (nd_ok T tl s d).1
  unfold rf at h
  split at h
  · cases h; dsimp only; omega
  · split at h
    · cases h; dsimp only; omega
    · split at h
      · cases h
      · cases h; dsimp only; omega
section
variable {h0 h : XH} {T : Nat → Int} {tl pos : Nat} {fk at' : Int} {q : Nat → Int}
theorem CT.w95 (C : CT h0 h T tl pos fk at' q) {q2 : Nat → Int} {h' : XH} (W : WhAt h' 95 q2) (u : ∀ x, (x < 95 ∨ 98 < x) → h' x = h x) : CT h0 h' T tl pos fk at' q2 := by
  obtain ⟨a, ⟨c, c1, c2, c3⟩, w, f⟩ := C
  exact ⟨(u 93 (by omega)).trans a, ⟨c, (u 94 (by omega)).trans c1, c2, c3⟩, W, fun x hx => (u x (by omega)).trans (f x hx)⟩
theorem CT.st (C : CT h0 h T tl pos fk at' q) (z : Int) : ∃ h', xpf h 95 6 4 (.int (i32 z)) = some h' ∧ CT h0 h' T tl pos fk at' (pu q 61 z) := by
  obtain ⟨fm, ft, fs, s0, s1, s2, s3, sm, sc⟩ := C.2.2.1
  obtain ⟨h2, e2, a2, u2⟩ := pfw s0 4 (.int (i32 z)) (Nat.le_of_ble_eq_true rfl)
  exact ⟨h2, e2, C.w95 ⟨fm, ft, fs, a2, (u2 _ (by omega)).trans s1, (u2 _ (by omega)).trans s2, (u2 _ (by omega)).trans s3, fun k k1 k2 => by rw [pu_n _ _ (by omega)]; exact sm k k1 k2, fun k k1 k2 => by rw [pu_n _ _ (by omega), pu_n _ _ (by omega)]; exact sc k k1 k2⟩ (fun x hx => u2 x (by omega))⟩
theorem CT.sp (C : CT h0 h T tl pos fk at' q) (z : Int) : ∃ h', xpf h 95 6 5 (.int (i32 z)) = some h' ∧ CT h0 h' T tl pos fk at' (pu q 62 z) := by
  obtain ⟨fm, ft, fs, s0, s1, s2, s3, sm, sc⟩ := C.2.2.1
  obtain ⟨h2, e2, a2, u2⟩ := pfw s0 5 (.int (i32 z)) (Nat.le_of_ble_eq_true rfl)
  exact ⟨h2, e2, C.w95 ⟨fm, ft, fs, a2, (u2 _ (by omega)).trans s1, (u2 _ (by omega)).trans s2, (u2 _ (by omega)).trans s3, fun k k1 k2 => by rw [pu_n _ _ (by omega)]; exact sm k k1 k2, fun k k1 k2 => by rw [pu_n _ _ (by omega), pu_n _ _ (by omega)]; exact sc k k1 k2⟩ (fun x hx => u2 x (by omega))⟩
theorem CT.num0 (C : CT h0 h T tl pos 0 at' q) (hT : TR T tl) (hp : pos < 500) {d : Nat} (hd : 1 ≤ d ∧ d ≤ 4) {M : Int} (hM : 0 ≤ M ∧ M ≤ 1000) : ∃ h' f2 a2, fX7_readNumber h 93 (i32 (d : Nat)) (i32 M) = some (i32 (nv T pos (nd T tl pos d)), h') ∧ CT h0 h' T tl (pos + nd T tl pos d) f2 a2 q ∧ FO (rf T tl pos d M) f2 a2 := by
  obtain ⟨h', f2, a2, e, C2, r1, r2⟩ := C.num hT hp hd hM
  refine ⟨h', f2, a2, e, C2, ?_⟩
  cases hr : rf T tl pos d M with
  | none => exact (r1 hr).1
  | some x => exact r2 x hr
theorem cJ97 (C : CT h0 h T tl pos fk at' q) (hk : 0 ≤ fk ∧ fk ≤ 2) : fX7_readInto_J97 h 93 = some (decide (fk = 0), h) := by
  unfold fX7_readInto_J97
  rw [obb C.i3, L_0, ceq (by omega)]
  by_cases w : fk = 0
  · rw [if_pos w, decide_eq_true w]
  · rw [if_neg w, decide_eq_false w]
theorem cJ70n (C : CT h0 h T tl pos fk at' q) (hk : 1 ≤ fk ∧ fk ≤ 2) : fX7_readInto_J70 h 93 = some (false, h) := by
  unfold fX7_readInto_J70
  rw [obb C.i3, L_0, ieq_f (by omega), cJ97 C (by omega), decide_eq_false (by omega)]
theorem cJ70 (C : CT h0 h T tl pos 0 at' q) (hT : TR T tl) (hp : pos < 1000) : ∃ h' f2 a2, fX7_readInto_J70 h 93 = some (decide (f2 = 0), h') ∧ CT h0 h' T tl pos f2 a2 q ∧ FO (p3 tl pos) f2 a2 ∧ 0 ≤ f2 ∧ f2 ≤ 2 := by
  have ht := hT.1
  unfold fX7_readInto_J70 p3
  rw [obb C.i3, L_0, ieq_t rfl, obb C.i1, obb C.i2, cle (by omega)]
  by_cases w : tl ≤ pos
  · rw [if_pos (by omega), if_pos w, cJ97 C (by omega)]
    exact ⟨h, _, _, rfl, C, rfl, by omega, by omega⟩
  · obtain ⟨h3, e3, C3⟩ := C.tell 1 (pos : Nat)
    rw [if_neg (by omega), if_neg w, obb C.i1, obb C.c, L_1, obb e3, cJ97 C3 (by omega)]
    exact ⟨h3, _, _, rfl, C3, ⟨rfl, rfl⟩, by omega, by omega⟩
theorem cJ46n (C : CT h0 h T tl pos fk at' q) (hk : 1 ≤ fk ∧ fk ≤ 2) : fX7_readInto_J46 h 93 95 = some (false, h) := by
  unfold fX7_readInto_J46
  rw [obb C.i3, L_0, ieq_f (by omega), cJ70n C hk]
theorem FO.rng {o : Option (Int × Int)} {f2 a2 : Int} (h : FO o f2 a2) (k : ∀ x, o = some x → x.1 = 1 ∨ x.1 = 2) : (o = none ∧ f2 = 0) ∨ (1 ≤ f2 ∧ f2 ≤ 2 ∧ o = some (f2, a2)) := by
  cases o with
  | none => exact .inl ⟨rfl, h⟩
  | some x =>
    have := k x rfl
    obtain ⟨a, b⟩ := h
    exact .inr ⟨by omega, by omega, by rw [a, b]⟩
theorem nv_s {T : Nat → Int} {tl s d : Nat} (hd : d ≤ 4) : 0 ≤ nv T s (nd T tl s d) ∧ nv T s (nd T tl s d) ≤ 9999 := nv_4 hd (Nat.le_refl _)
theorem cSpd (C : CT h0 h T tl pos 0 at' q) (hT : TR T tl) (hp : pos < 400) (hs : hv T tl pos 42 = true) {h1 : XH} (C1 : CT h0 h1 T tl (pos + 1) 0 at' q) : ∃ h' f2 a2, fX7_readSpeed h1 93 = some (i32 (p2 T tl pos).2.2, h') ∧ CT h0 h' T tl (p2 T tl pos).2.1 f2 a2 q ∧ FO (p2 T tl pos).1 f2 a2 ∧ (∀ x, (p2 T tl pos).1 = some x → x.1 = 1 ∨ x.1 = 2) := by
  unfold fX7_readSpeed p2
  rw [if_pos hs, obb C1.c, L_45]
  obtain ⟨h2, e2, C2⟩ := C1.takes hT (by omega) (v := 45) (by omega)
  rw [obb e2]
  by_cases w : hv T tl (pos + 1) 45 = true
  · rw [if_pos w] at C2 ⊢
    obtain ⟨h3, f2, a2, e3, C3, F3⟩ := C2.num0 hT (by omega) (d := 4) (by omega) (M := 1000) (by omega)
    have e3' : fX7_readNumber h2 93 4 1000 = some (i32 (nv T (pos + 2) (nd T tl (pos + 2) 4)), h3) := e3
    rw [if_pos w, obb C2.c, obb e3', i32_neg]
    exact ⟨h3, f2, a2, rfl, C3, F3, fun x hx => rf_k hx⟩
  · rw [if_neg w] at C2 ⊢
    obtain ⟨h3, f2, a2, e3, C3, F3⟩ := C2.num0 hT (by omega) (d := 4) (by omega) (M := 1000) (by omega)
    have e3' : fX7_readNumber h2 93 4 1000 = some (i32 (nv T (pos + 1) (nd T tl (pos + 1) 4)), h3) := e3
    rw [if_neg w, obb C2.c, obb e3']
    exact ⟨h3, f2, a2, rfl, C3, F3, fun x hx => rf_k hx⟩
theorem p2_pos {T : Nat → Int} {tl s : Nat} : (p2 T tl s).2.1 ≤ s + 6 := by
  unfold p2
  split
  · split
    · have := (nd_ok T tl (s + 2) 4).1; dsimp only; omega
    · have := (nd_ok T tl (s + 1) 4).1; dsimp only; omega
  · dsimp only; omega
theorem cJ46 (C : CT h0 h T tl pos 0 at' q) (hT : TR T tl) (hp : pos < 400) (h62 : q 62 = 0) : ∃ h' pos2 f2 a2 q2, fX7_readInto_J46 h 93 95 = some (decide (f2 = 0), h') ∧ CT h0 h' T tl pos2 f2 a2 q2 ∧ FO (pF2 T tl pos) f2 a2 ∧ (0 ≤ f2 ∧ f2 ≤ 2) ∧ (pF2 T tl pos = none → q2 = pu q 62 (p2 T tl pos).2.2) := by
  unfold fX7_readInto_J46
  rw [obb C.i3, L_0, ieq_t rfl, obb C.c, L_42]
  obtain ⟨h1, e1, C1⟩ := C.takes hT (by omega) (v := 42) (by omega)
  rw [obb e1]
  by_cases w : hv T tl pos 42 = true
  · rw [if_pos w] at C1 ⊢
    obtain ⟨h2, f2, a2, e2, C2, F2, k2⟩ := cSpd C hT hp w C1
    obtain ⟨h3, e3, C3⟩ := C2.sp (p2 T tl pos).2.2
    rw [obb C1.c, obb e2, obb e3]
    rcases F2.rng k2 with ⟨o, f0⟩ | ⟨g1, g2, o⟩
    · subst f0
      have pp := p2_pos (T := T) (tl := tl) (s := pos)
      obtain ⟨h4, f4, a4, e4, C4, F4, g4⟩ := cJ70 C3 hT (by omega)
      refine ⟨h4, _, f4, a4, _, e4, C4, ?_, g4, fun _ => rfl⟩
      unfold pF2
      rw [o]
      exact F4
    · rw [cJ70n C3 (by omega)]
      refine ⟨h3, _, f2, a2, _, by rw [decide_eq_false (show ¬ f2 = 0 by omega)], C3, ?_, by omega, ?_⟩
      · unfold pF2
        rw [o]
        exact ⟨rfl, rfl⟩
      · intro z
        unfold pF2 at z
        rw [o] at z
  · rw [if_neg w] at C1 ⊢
    have e2 : p2 T tl pos = (none, pos, 0) := by unfold p2; rw [if_neg w]
    obtain ⟨h4, f4, a4, e4, C4, F4, g4⟩ := cJ70 C1 hT (by omega)
    refine ⟨h4, _, f4, a4, q, e4, C4, ?_, g4, fun _ => ?_⟩
    · unfold pF2
      rw [e2]
      exact F4
    · rw [e2]
      funext j
      unfold pu
      split
      · rename_i z; rw [z, h62]
      · rfl
/-- one cell more -/
theorem CT.add (C : CT h0 h T tl pos fk at' (wq T pos 0 0)) (hp : pos < 60) : ∃ h', fX6_addCell h 95 (i32 (cv T pos)) = some h' ∧ CT h0 h' T tl pos fk at' (wq T ((pos + 1 : Nat) : Int) 0 0) := by
  obtain ⟨fm, ft, fs, s0, s1, s2, s3, sm, sc⟩ := C.2.2.1
  have w0 : wq T pos 0 0 0 = pos := rfl
  have e1 : fX8_put h 96 (i32 (pos : Nat)) (i32 (cv T pos)) = _ := put_ok s1 (by omega) (i := (pos : Int)) (i32 (cv T pos)) (by omega)
  rw [if_pos (by omega), Int.toNat_natCast] at e1
  have s0' := (xup_n h (.inr (0, 60, .inl (upd fm pos (i32 (cv T pos))))) (show (95 : Nat) ≠ 95 + 1 by omega)).trans s0
  obtain ⟨h2, e2, a2, u2⟩ := pfw s0' 3 (.int (i32 ((pos + 1 : Nat) : Int))) (Nat.le_of_ble_eq_true rfl)
  have r0 : xgR h 95 6 0 = some 96 := gR s0 0 rfl
  unfold fX6_addCell
  rw [obb r0, obb (gI s0 3 rfl), w0, obb e1, obb (gI s0' 3 rfl), w0, L_1, i32_add, show (pos : Int) + 1 = ((pos + 1 : Nat) : Int) from rfl, obb e2]
  refine ⟨h2, rfl, C.w95 ⟨upd fm pos (i32 (cv T pos)), ft, fs, a2, (u2 _ (by omega)).trans (xup_s _ _ _), (u2 _ (by omega)).trans ((xup_n _ _ (by omega)).trans s2), (u2 _ (by omega)).trans ((xup_n _ _ (by omega)).trans s3), ?_, ?_⟩ (fun x hx => (u2 x (by omega)).trans (xup_n _ _ (by omega)))⟩
  · intro k k1 k2
    have k3 : (k : Int) < ((pos + 1 : Nat) : Int) := k2
    have e : wq T ((pos + 1 : Nat) : Int) 0 0 (1 + k) = cv T k := by
      unfold wq
      rw [if_neg (by omega), if_pos (by omega)]
      congr 1; omega
    rw [e]
    simp only [upd]
    by_cases w : k = pos
    · rw [if_pos w, w]
    · rw [if_neg w]
      have := sm k k1 (by rw [w0]; omega)
      rw [this]
      unfold wq
      rw [if_neg (by omega), if_pos (by omega)]
      congr 2; omega
  · intro k k1 k2
    have k3 : (k : Int) < 0 := k2
    omega
theorem CT.cell (C : CT h0 h T tl pos fk at' q) (hT : TR T tl) : fX7_isCell (i32 (if pos < tl then T pos else 0)) = some (cl T tl pos) := by
  have b : -2147483648 ≤ (if pos < tl then T pos else 0) ∧ (if pos < tl then T pos else 0) < 2147483648 := by
    split
    · rename_i w; have := hT.2 pos w; omega
    · omega
  unfold fX7_isCell cl
  rw [L_46, L_97, L_99, ceq (by omega), obb (within_ok b (by omega) (by omega))]
  by_cases w : pos < tl
  · rw [if_pos w]
    by_cases w2 : T pos = 46
    · rw [if_pos w2, decide_eq_true ⟨w, .inl w2⟩]
    · rw [if_neg w2]
      by_cases w3 : 97 ≤ T pos ∧ T pos ≤ 99
      · rw [decide_eq_true w3, decide_eq_true ⟨w, .inr w3⟩]; rfl
      · rw [decide_eq_false w3, decide_eq_false (by omega)]; rfl
  · rw [if_neg w, if_neg (by omega), decide_eq_false (by omega), decide_eq_false (by omega)]; rfl
/-- the value of the cell here, added, and a step on -/
theorem CT.addv (C : CT h0 h T tl pos fk at' (wq T pos 0 0)) (hT : TR T tl) (hp : pos < 60) (hc : cl T tl pos = true) : (T pos = 46 → ∃ h1 h2, fX6_addCell h 95 0 = some h1 ∧ xgI h1 93 7 1 = some (i32 (pos : Nat)) ∧ xpf h1 93 7 1 (.int (i32 ((pos + 1 : Nat) : Int))) = some h2 ∧ CT h0 h2 T tl (pos + 1) fk at' (wq T ((pos + 1 : Nat) : Int) 0 0)) ∧ (T pos ≠ 46 → ∃ h1 h2, fX6_addCell h 95 (i32 (T pos) - 97 + 1) = some h1 ∧ xgI h1 93 7 1 = some (i32 (pos : Nat)) ∧ xpf h1 93 7 1 (.int (i32 ((pos + 1 : Nat) : Int))) = some h2 ∧ CT h0 h2 T tl (pos + 1) fk at' (wq T ((pos + 1 : Nat) : Int) 0 0)) := by
  obtain ⟨h1, e1, C1⟩ := C.add hp
  obtain ⟨h2, e2, C2⟩ := C1.setp ((pos + 1 : Nat) : Int) (pos + 1) rfl
  refine ⟨fun w => ⟨h1, h2, ?_, C1.i1, e2, C2⟩, fun w => ⟨h1, h2, ?_, C1.i1, e2, C2⟩⟩
  · rw [← e1]
    unfold cv
    rw [if_pos w]
    rfl
  · rw [← e1]
    unfold cv
    rw [if_neg w, show (97 : Int32) = i32 97 from by decide, L_1, i32_sub, i32_add]
theorem L_97' : (97 : Int32) = i32 97 := by decide
theorem cloop (C : CT h0 h T tl 1 0 at' (wq T ((1 : Nat) : Int) 0 0)) (hT : TR T tl) (h1 : 1 ≤ nC T tl) : ∃ h', xloop (fX7_readCells_B0 93 95) 5000 h = some h' ∧ CT h0 h' T tl (nC T tl) 0 at' (wq T (nC T tl : Nat) 0 0) := by
  obtain ⟨n1, n2, n3, n4⟩ := nC_ok T tl
  have ht := hT.1
  exact xl_inv (fX7_readCells_B0 93 95) (fun i s => CT h0 s T tl (1 + i) 0 at' (wq T ((1 + i : Nat) : Int) 0 0)) (nC T tl - 1) (fun h' => CT h0 h' T tl (nC T tl) 0 at' (wq T (nC T tl : Nat) 0 0)) (fun i s hi I => by
    have hc := n3 (1 + i) (by omega)
    have hc2 := hc
    simp only [cl, decide_eq_true_eq] at hc2
    have cd := I.code hT (by omega)
    have ce := I.cell hT
    rw [if_pos hc2.1] at cd ce
    rw [hc] at ce
    obtain ⟨a1, a2⟩ := I.addv hT (by omega) hc
    have c3 : xgI s 95 6 3 = some (i32 ((1 + i : Nat) : Int)) := I.2.2.1.i3
    have wc : xco s 95 6 = some () := I.2.2.1.c
    have tb := hT.2 _ hc2.1
    unfold fX7_readCells_B0 fX7_readCells_b0
    rw [obb I.i1, obb I.i2, ile_f (by omega), obb c3, L_60, ile_f (by omega), obb I.c, obb cd, obb ce, if_pos rfl, obb I.c, obb cd, L_46, ceq (by omega)]
    by_cases w : T (1 + i) = 46
    · obtain ⟨g1, g2, x1, x2, x3, x4⟩ := a1 w
      rw [if_pos w, obb wc, obb x1, obb x2, L_1, i32_add, show ((1 + i : Nat) : Int) + 1 = ((1 + i + 1 : Nat) : Int) from rfl, obb x3]
      exact ⟨g2, rfl, x4⟩
    · obtain ⟨g1, g2, x1, x2, x3, x4⟩ := a2 w
      rw [if_neg w, obb I.c, obb cd, obb wc, obb x1, obb x2, L_1, i32_add, show ((1 + i : Nat) : Int) + 1 = ((1 + i + 1 : Nat) : Int) from rfl, obb x3]
      exact ⟨g2, rfl, x4⟩) (fun s I => by
    rw [show 1 + (nC T tl - 1) = nC T tl by omega] at I
    have c3 : xgI s 95 6 3 = some (i32 (nC T tl : Nat)) := I.2.2.1.i3
    unfold fX7_readCells_B0 fX7_readCells_b0
    rw [obb I.i1, obb I.i2, cle (by omega)]
    by_cases w : (tl : Int) ≤ nC T tl
    · rw [if_pos w]; exact ⟨s, rfl, I⟩
    · rw [if_neg w, obb c3, L_60, cle (by omega)]
      by_cases w2 : (60 : Int) ≤ nC T tl
      · rw [if_pos w2]; exact ⟨s, rfl, I⟩
      · have cd := I.code hT (by omega)
        have ce := I.cell hT
        rw [n4 (by omega)] at ce
        rw [if_neg w2, obb I.c, obb cd, obb ce, if_neg Bool.false_ne_true]
        exact ⟨s, rfl, I⟩) h C 5000 (by omega)
theorem ccells (C : CT h0 h T tl 0 0 at' (wq T ((0 : Nat) : Int) 0 0)) (hT : TR T tl) : ∃ h' f2 a2, fX7_readCells h 93 95 = some h' ∧ CT h0 h' T tl (nC T tl) f2 a2 (wq T (nC T tl : Nat) 0 0) ∧ (nC T tl = 0 → f2 = 1 ∧ a2 = 0) ∧ (nC T tl ≠ 0 → f2 = 0) := by
  obtain ⟨n1, n2, n3, n4⟩ := nC_ok T tl
  have ht := hT.1
  have c3 : xgI h 95 6 3 = some (i32 ((0 : Nat) : Int)) := C.2.2.1.i3
  have wc : xco h 95 6 = some () := C.2.2.1.c
  obtain ⟨g, ge, gC⟩ := C.tell 1 ((0 : Nat) : Int)
  unfold fX7_readCells
  rw [obb C.i1, obb C.i2, cle (by omega)]
  by_cases w : (tl : Int) ≤ ((0 : Nat) : Int)
  · have z : nC T tl = 0 := by omega
    rw [if_pos w, obb c3, L_0, ieq_t (show ((0 : Nat) : Int) = 0 from rfl), obb C.i1, obb C.c, L_1, obb ge, z]
    exact ⟨g, 1, 0, rfl, gC, fun _ => ⟨rfl, rfl⟩, fun y => absurd rfl y⟩
  · rw [if_neg w, obb c3, L_60, ile_f (by omega), obb C.c, obb (C.code hT (by omega)), obb (C.cell hT)]
    by_cases hc : cl T tl 0 = true
    · have hn : 1 ≤ nC T tl := by
        rcases Nat.eq_zero_or_pos (nC T tl) with y | y
        · have := n4 (by omega)
          rw [y, hc] at this
          exact absurd this.symm Bool.false_ne_true
        · exact y
      have hc2 := hc
      simp only [cl, decide_eq_true_eq] at hc2
      have cd := C.code hT (by omega)
      rw [if_pos hc2.1] at cd
      obtain ⟨a1, a2⟩ := C.addv hT (by omega) hc
      have tb := hT.2 _ hc2.1
      have fin : ∀ (h2 : XH), CT h0 h2 T tl (0 + 1) 0 at' (wq T ((0 + 1 : Nat) : Int) 0 0) → ∃ h' f2 a2, ((xloop (fX7_readCells_B0 93 95) 5000 h2).bind fun e77 => (xgI e77 95 6 3).bind fun v79 => if v79 = 0 then (xgI e77 93 7 1).bind fun v81 => (xco e77 93 7).bind fun _ => (fX7_tellFault e77 93 1 v81).bind fun h84 => some h84 else some e77) = some h' ∧ CT h0 h' T tl (nC T tl) f2 a2 (wq T (nC T tl : Nat) 0 0) ∧ (nC T tl = 0 → f2 = 1 ∧ a2 = 0) ∧ (nC T tl ≠ 0 → f2 = 0) := by
        intro h2 C2
        obtain ⟨h3, e3, C3⟩ := cloop C2 hT hn
        have d3 : xgI h3 95 6 3 = some (i32 (nC T tl : Nat)) := C3.2.2.1.i3
        rw [obb e3, obb d3, L_0, ieq_f (by omega)]
        exact ⟨h3, 0, at', rfl, C3, fun y => absurd y (by omega), fun _ => rfl⟩
      rw [if_pos hc, obb C.c, obb cd, L_46, ceq (by omega)]
      unfold fX7_readCells_J53
      by_cases w : T 0 = 46
      · obtain ⟨g1, g2, x1, x2, x3, x4⟩ := a1 w
        have x3' : xpf g1 93 7 1 (.int (i32 ((0 : Nat) : Int) + 1)) = some g2 := x3
        rw [if_pos w, obb wc, obb x1, obb x2, obb x3']
        exact fin g2 x4
      · obtain ⟨g1, g2, x1, x2, x3, x4⟩ := a2 w
        have x3' : xpf g1 93 7 1 (.int (i32 ((0 : Nat) : Int) + 1)) = some g2 := x3
        rw [if_neg w, obb C.c, obb cd, obb wc, obb x1, obb x2, obb x3']
        exact fin g2 x4
    · have z : nC T tl = 0 := by
        rcases Nat.eq_zero_or_pos (nC T tl) with y | y
        · exact y
        · exact absurd (n3 0 y) hc
      rw [if_neg hc, obb c3, L_0, ieq_t (show ((0 : Nat) : Int) = 0 from rfl), obb C.i1, obb C.c, L_1, obb ge, z]
      exact ⟨g, 1, 0, rfl, gC, fun _ => ⟨rfl, rfl⟩, fun y => absurd rfl y⟩
/-- the parsed wheel -/
def ldw (T : Nat → Int) (tl : Nat) : Nat → Int := pu (pu (wq T (nC T tl : Nat) 0 0) 61 (p1 T tl).2.2) 62 (p2 T tl (p1 T tl).2.1).2.2
theorem p1_pos (T : Nat → Int) (tl : Nat) : (p1 T tl).2.1 ≤ 63 := by
  have n := (nC_ok T tl).1
  unfold p1
  split
  · have := (nd_ok T tl (nC T tl + 1) 2).1; dsimp only; omega
  · dsimp only; omega
theorem cinto {c : Nat → Int32} {sp fk0 at0 : Int32} {q0 : Nat → Int} (a93 : h 93 = some (.inl (7, [.ref 94, .int sp, .int (i32 (tl : Nat)), .int fk0, .int at0]))) (a94 : h 94 = some (.inr (0, 80, .inl c))) (hc : ∀ k, k < tl → c k = i32 (T k)) (W : WhAt h 95 q0) (hT : TR T tl) : ∃ h' pos f2 a2 q2, fX7_readInto h 93 95 = some (decide (f2 = 0), h') ∧ CT h h' T tl pos f2 a2 q2 ∧ FO (pF T tl) f2 a2 ∧ (0 ≤ f2 ∧ f2 ≤ 2) ∧ (pF T tl = none → q2 = ldw T tl) := by
  obtain ⟨n1, n2, n3, n4⟩ := nC_ok T tl
  have hat : at0 = i32 at0.toInt := (i32_of at0).symm
  unfold fX7_readInto
  obtain ⟨h1, e1, b1, u1⟩ := pfw a93 1 (.int (i32 ((0 : Nat) : Int))) (Nat.le_of_ble_eq_true rfl)
  obtain ⟨h2, e2, b2, u2⟩ := pfw b1 3 (.int (i32 0)) (Nat.le_of_ble_eq_true rfl)
  have W2 : WhAt h2 95 q0 := W.fr (fun k hk => (u2 _ (by omega)).trans (u1 _ (by omega)))
  obtain ⟨fm, ft, fs, s0, s1, s2, s3, -, -⟩ := W2
  obtain ⟨h3, e3, a3, u3⟩ := pfw s0 3 (.int (i32 0)) (Nat.le_of_ble_eq_true rfl)
  obtain ⟨h4, e4, a4, u4⟩ := pfw a3 4 (.int (i32 0)) (Nat.le_of_ble_eq_true rfl)
  obtain ⟨h5, e5, a5, u5⟩ := pfw a4 5 (.int (i32 0)) (Nat.le_of_ble_eq_true rfl)
  obtain ⟨h6, e6, a6, u6⟩ := pfw a5 6 (.int (i32 0)) (Nat.le_of_ble_eq_true rfl)
  have fr : ∀ x, x ≠ 95 → h6 x = h2 x := fun x hx => (u6 x hx).trans ((u5 x hx).trans ((u4 x hx).trans (u3 x hx)))
  have em : fX6_empty h2 95 = some h6 := by
    unfold fX6_empty
    rw [L_0, obb e3, obb e4, obb e5, obb e6]
  have b2' : h2 93 = some (.inl (7, [.ref 94, .int (i32 ((0 : Nat) : Int)), .int (i32 (tl : Nat)), .int (i32 0), .int (i32 at0.toInt)])) := by rw [← hat]; exact b2
  have C6 : CT h h6 T tl 0 0 at0.toInt (wq T ((0 : Nat) : Int) 0 0) := by
    refine ⟨(fr 93 (by omega)).trans b2', ⟨c, (fr 94 (by omega)).trans ((u2 _ (by omega)).trans ((u1 _ (by omega)).trans a94)), a94, hc⟩, ⟨fm, ft, fs, a6, (fr _ (by omega)).trans s1, (fr _ (by omega)).trans s2, (fr _ (by omega)).trans s3, ?_, ?_⟩, fun x hx => (fr x (by omega)).trans ((u2 x (by omega)).trans (u1 x (by omega)))⟩
    · intro k k1 k2
      have k3 : (k : Int) < 0 := k2
      omega
    · intro k k1 k2
      have k3 : (k : Int) < 0 := k2
      omega
  obtain ⟨h7, f7, a7, e7, C7, z7, y7⟩ := ccells C6 hT
  have co : xco h2 95 6 = some () := gC s0
  have e1' : xpf h 93 7 1 (.int 0) = some h1 := e1
  have e2' : xpf h1 93 7 3 (.int 0) = some h2 := e2
  rw [obb e1', obb e2', obb co, obb em, obb C6.c, obb e7, obb C7.i3, L_0]
  by_cases w0 : nC T tl = 0
  · obtain ⟨rfl, rfl⟩ := z7 w0
    have pf : pF T tl = some (1, 0) := by unfold pF; rw [if_pos w0]
    rw [ieq_f (by omega), cJ46n C7 (by omega)]
    exact ⟨h7, _, 1, 0, _, rfl, C7, by rw [pf]; exact ⟨rfl, rfl⟩, by omega, fun z => by rw [pf] at z; cases z⟩
  · obtain rfl := y7 w0
    rw [ieq_t rfl, obb C7.c, L_64]
    obtain ⟨h8, e8, C8⟩ := C7.takes hT (by omega) (v := 64) (by omega)
    rw [obb e8]
    have pp := p1_pos T tl
    by_cases w : hv T tl (nC T tl) 64 = true
    · have e : p1 T tl = (rf T tl (nC T tl + 1) 2 59, nC T tl + 1 + nd T tl (nC T tl + 1) 2, nv T (nC T tl + 1) (nd T tl (nC T tl + 1) 2)) := by unfold p1; rw [if_pos w]
      rw [if_pos w] at C8
      obtain ⟨h9, f9, a9, e9, C9, F9⟩ := C8.num0 hT (by omega) (d := 2) (by omega) (M := 59) (by omega)
      have e9' : fX7_readNumber h8 93 2 59 = some (i32 (nv T (nC T tl + 1) (nd T tl (nC T tl + 1) 2)), h9) := e9
      obtain ⟨h10, e10, C10⟩ := C9.st (nv T (nC T tl + 1) (nd T tl (nC T tl + 1) 2))
      rw [if_pos w, obb C8.c, obb e9', obb e10]
      rcases F9.rng (fun x hx => rf_k hx) with ⟨o, f0⟩ | ⟨g1, g2, o⟩
      · subst f0
        have n6 := (nd_ok T tl (nC T tl + 1) 2).1
        obtain ⟨h11, pos2, f11, a11, q11, e11, C11, F11, r11, Q11⟩ := cJ46 C10 hT (by omega) rfl
        have pf : pF T tl = pF2 T tl (nC T tl + 1 + nd T tl (nC T tl + 1) 2) := by unfold pF; rw [if_neg w0, e, o]
        refine ⟨h11, pos2, f11, a11, q11, e11, C11, by rw [pf]; exact F11, r11, fun z => ?_⟩
        rw [pf] at z
        rw [Q11 z]
        unfold ldw
        rw [e]
      · have pf : pF T tl = some (f9, a9) := by unfold pF; rw [if_neg w0, e, o]
        rw [cJ46n C10 (by omega)]
        exact ⟨h10, _, f9, a9, _, by rw [decide_eq_false (show ¬ f9 = 0 by omega)], C10, by rw [pf]; exact ⟨rfl, rfl⟩, by omega, fun z => by rw [pf] at z; cases z⟩
    · have e : p1 T tl = (none, nC T tl, 0) := by unfold p1; rw [if_neg w]
      rw [if_neg w] at C8
      rw [if_neg w]
      obtain ⟨h11, pos2, f11, a11, q11, e11, C11, F11, r11, Q11⟩ := cJ46 C8 hT (by omega) rfl
      have pf : pF T tl = pF2 T tl (nC T tl) := by unfold pF; rw [if_neg w0, e]
      refine ⟨h11, pos2, f11, a11, q11, e11, C11, by rw [pf]; exact F11, r11, fun z => ?_⟩
      rw [pf] at z
      rw [Q11 z]
      unfold ldw
      rw [e]
      congr 1
      funext j
      unfold pu
      split
      · rename_i y; rw [y]; rfl
      · rfl
end
