/-! the text: what a reader of it sees -/
def dg (T : Nat → Int) (tl k : Nat) : Bool := decide (k < tl ∧ 48 ≤ T k ∧ T k ≤ 57)
def cl (T : Nat → Int) (tl k : Nat) : Bool := decide (k < tl ∧ (T k = 46 ∨ (97 ≤ T k ∧ T k ≤ 99)))
def cv (T : Nat → Int) (k : Nat) : Int := if T k = 46 then 0 else T k - 97 + 1
def TR (T : Nat → Int) (tl : Nat) : Prop := tl ≤ 80 ∧ ∀ k, k < tl → 32 ≤ T k ∧ T k ≤ 126
def nd (T : Nat → Int) (tl s d : Nat) : Nat := lst (fun j => !dg T tl (s + j)) d 0
def nv (T : Nat → Int) (s : Nat) : Nat → Int
  | 0 => 0
  | j + 1 => 10 * nv T s j + T (s + j) - 48
theorem nd_ok (T : Nat → Int) (tl s d : Nat) : nd T tl s d ≤ d ∧ (∀ j, j < nd T tl s d → dg T tl (s + j) = true) ∧ (nd T tl s d < d → dg T tl (s + nd T tl s d) = false) := by
  obtain ⟨a, b, c, e⟩ := lst_ok (P := fun j => !dg T tl (s + j)) d 0
  unfold nd
  refine ⟨by omega, fun j hj => by simpa using c j (by omega) hj, fun h => by simpa using e (by omega)⟩
theorem nv_rng {T : Nat → Int} {tl s : Nat} : ∀ j, (∀ i, i < j → dg T tl (s + i) = true) → 0 ≤ nv T s j ∧ nv T s j < 10 ^ j
  | 0, _ => by simp [nv]
  | j + 1, h => by
    obtain ⟨a, b⟩ := nv_rng (T := T) (tl := tl) (s := s) j (fun i hi => h i (by omega))
    have c := h j (by omega)
    simp only [dg, decide_eq_true_eq] at c
    have e : (10 : Int) ^ (j + 1) = 10 * 10 ^ j := by rw [Int.pow_succ, Int.mul_comm]
    rw [e]
    simp only [nv]
    omega
theorem nv_4 {T : Nat → Int} {tl s d : Nat} (hd : d ≤ 4) {j : Nat} (hj : j ≤ nd T tl s d) : 0 ≤ nv T s j ∧ nv T s j ≤ 9999 := by
  obtain ⟨a, b, -⟩ := nd_ok T tl s d
  obtain ⟨x, y⟩ := nv_rng (T := T) (tl := tl) (s := s) j (fun i hi => b i (by omega))
  have : (10 : Int) ^ j ≤ 10 ^ 4 := by
    have := Nat.pow_le_pow_right (show 0 < 10 by decide) (show j ≤ 4 by omega)
    have e1 : ((10 ^ j : Nat) : Int) = (10 : Int) ^ j := by norm_cast
    have e2 : ((10 ^ 4 : Nat) : Int) = (10 : Int) ^ 4 := by norm_cast
    omega
  have : (10 : Int) ^ 4 = 10000 := by decide
  omega
/-- what is wrong with a number, if anything -/
def rf (T : Nat → Int) (tl s d : Nat) (M : Int) : Option (Int × Int) := if nd T tl s d = 0 then some (1, (s : Int)) else if dg T tl (s + nd T tl s d) = true then some (1, ((s + nd T tl s d : Nat) : Int)) else if nv T s (nd T tl s d) ≤ M then none else some (2, (s : Int))
def nC (T : Nat → Int) (tl : Nat) : Nat := lst (fun k => !cl T tl k) 60 0
theorem nC_ok (T : Nat → Int) (tl : Nat) : nC T tl ≤ 60 ∧ nC T tl ≤ tl ∧ (∀ j, j < nC T tl → cl T tl j = true) ∧ (nC T tl < 60 → cl T tl (nC T tl) = false) := by
  obtain ⟨a, b, c, e⟩ := lst_ok (P := fun k => !cl T tl k) 60 0
  unfold nC
  have all : ∀ j, j < lst (fun k => !cl T tl k) 60 0 → cl T tl j = true := fun j hj => by simpa using c j (by omega) hj
  refine ⟨by omega, ?_, all, fun h => by simpa using e (by omega)⟩
  rcases Nat.lt_or_ge tl (lst (fun k => !cl T tl k) 60 0) with q | q
  · have := all tl q
    simp only [cl, decide_eq_true_eq] at this
    omega
  · exact q
theorem cv_rng {T : Nat → Int} {tl k : Nat} (h : cl T tl k = true) : 0 ≤ cv T k ∧ cv T k ≤ 3 := by
  simp only [cl, decide_eq_true_eq] at h
  unfold cv
  split <;> omega
/-- after the cells: the start, the speed, the end -/
def hv (T : Nat → Int) (tl k : Nat) (v : Int) : Bool := decide (k < tl ∧ T k = v)
def p1 (T : Nat → Int) (tl : Nat) : Option (Int × Int) × Nat × Int := if hv T tl (nC T tl) 64 = true then (rf T tl (nC T tl + 1) 2 59, nC T tl + 1 + nd T tl (nC T tl + 1) 2, nv T (nC T tl + 1) (nd T tl (nC T tl + 1) 2)) else (none, nC T tl, 0)
def p2 (T : Nat → Int) (tl s : Nat) : Option (Int × Int) × Nat × Int := if hv T tl s 42 = true then (if hv T tl (s + 1) 45 = true then (rf T tl (s + 2) 4 1000, s + 2 + nd T tl (s + 2) 4, -nv T (s + 2) (nd T tl (s + 2) 4)) else (rf T tl (s + 1) 4 1000, s + 1 + nd T tl (s + 1) 4, nv T (s + 1) (nd T tl (s + 1) 4))) else (none, s, 0)
def p3 (tl s : Nat) : Option (Int × Int) := if tl ≤ s then none else some (1, (s : Int))
def pF2 (T : Nat → Int) (tl s : Nat) : Option (Int × Int) := match (p2 T tl s).1 with
  | some f => some f
  | none => p3 tl (p2 T tl s).2.1
/-- what is wrong with the whole text, if anything -/
def pF (T : Nat → Int) (tl : Nat) : Option (Int × Int) := if nC T tl = 0 then some (1, 0) else match (p1 T tl).1 with
  | some f => some f
  | none => pF2 T tl (p1 T tl).2.1
/-! the class's reader of text -/
def CT (h0 h : XH) (T : Nat → Int) (tl pos : Nat) (fk at' : Int) (q : Nat → Int) : Prop := h 93 = some (.inl (7, [.ref 94, .int (i32 (pos : Nat)), .int (i32 (tl : Nat)), .int (i32 fk), .int (i32 at')])) ∧ (∃ c, h 94 = some (.inr (0, 80, .inl c)) ∧ h0 94 = some (.inr (0, 80, .inl c)) ∧ ∀ k, k < tl → c k = i32 (T k)) ∧ WhAt h 95 q ∧ ∀ x, (x < 93 ∨ 98 < x) → h x = h0 x
section
variable {h0 h : XH} {T : Nat → Int} {tl pos : Nat} {fk at' : Int} {q : Nat → Int}
theorem CT.c (C : CT h0 h T tl pos fk at' q) : xco h 93 7 = some () := gC C.1
theorem CT.i1 (C : CT h0 h T tl pos fk at' q) : xgI h 93 7 1 = some (i32 (pos : Nat)) := gI C.1 1 rfl
theorem CT.i2 (C : CT h0 h T tl pos fk at' q) : xgI h 93 7 2 = some (i32 (tl : Nat)) := gI C.1 2 rfl
theorem CT.i3 (C : CT h0 h T tl pos fk at' q) : xgI h 93 7 3 = some (i32 fk) := gI C.1 3 rfl
theorem CT.i4 (C : CT h0 h T tl pos fk at' q) : xgI h 93 7 4 = some (i32 at') := gI C.1 4 rfl
theorem CT.w93 (C : CT h0 h T tl pos fk at' q) {pos2 : Nat} {fk2 at2 : Int} {h' : XH} (a : h' 93 = some (.inl (7, [.ref 94, .int (i32 (pos2 : Nat)), .int (i32 (tl : Nat)), .int (i32 fk2), .int (i32 at2)]))) (u : ∀ x, x ≠ 93 → h' x = h x) : CT h0 h' T tl pos2 fk2 at2 q := by
  obtain ⟨-, ⟨c, c1, c2, c3⟩, w, f⟩ := C
  exact ⟨a, ⟨c, (u 94 (by omega)).trans c1, c2, c3⟩, w.fr (fun k hk => u _ (by omega)), fun x hx => (u x (by omega)).trans (f x hx)⟩
theorem CT.setp (C : CT h0 h T tl pos fk at' q) (v : Int) (pos2 : Nat) (e : v = pos2) : ∃ h', xpf h 93 7 1 (.int (i32 v)) = some h' ∧ CT h0 h' T tl pos2 fk at' q := by
  subst e
  obtain ⟨h', e, a, u⟩ := pfw C.1 1 (.int (i32 (pos2 : Nat))) (Nat.le_of_ble_eq_true rfl)
  exact ⟨h', e, C.w93 a u⟩
theorem CT.tell (C : CT h0 h T tl pos fk at' q) (k a : Int) : ∃ h', fX7_tellFault h 93 (i32 k) (i32 a) = some h' ∧ CT h0 h' T tl pos k a q := by
  obtain ⟨h1, e1, a1, u1⟩ := pfw C.1 3 (.int (i32 k)) (Nat.le_of_ble_eq_true rfl)
  obtain ⟨h2, e2, a2, u2⟩ := pfw a1 4 (.int (i32 a)) (Nat.le_of_ble_eq_true rfl)
  unfold fX7_tellFault
  rw [obb e1, obb e2]
  exact ⟨h2, rfl, C.w93 a2 (fun x hx => (u2 x hx).trans (u1 x hx))⟩
theorem CT.code (C : CT h0 h T tl pos fk at' q) (hT : TR T tl) (hp : pos < 1000) : fX7_code h 93 = some (i32 (if pos < tl then T pos else 0)) := by
  have ht := hT.1
  obtain ⟨c, c1, c2, c3⟩ := C.2.1
  have r0 : xgR h 93 7 0 = some 94 := gR C.1 0 rfl
  unfold fX7_code
  rw [obb C.i1, obb C.i2, cle (by omega)]
  by_cases w : pos < tl
  · have a := at_ok c1 (by omega) (i := (pos : Int)) (by omega)
    rw [if_pos (by omega), Int.toNat_natCast, c3 pos w] at a
    rw [if_neg (by omega), if_pos w, obb r0, obb C.i1, obb a]
  · rw [if_pos (by omega), if_neg w]; rfl
theorem CT.dig (C : CT h0 h T tl pos fk at' q) (hT : TR T tl) (hp : pos < 1000) : (fX7_code h 93).bind (fun v => fX7_isDigit v) = some (dg T tl pos) := by
  rw [obb (C.code hT hp)]
  unfold fX7_isDigit dg
  have b : -2147483648 ≤ (if pos < tl then T pos else 0) ∧ (if pos < tl then T pos else 0) < 2147483648 := by
    split
    · rename_i w; have := hT.2 pos w; omega
    · omega
  rw [L_48, L_57, obb (within_ok b (by omega) (by omega))]
  congr 1
  rw [decide_eq_decide]
  split <;> omega
theorem CT.digv (C : CT h0 h T tl pos fk at' q) (hT : TR T tl) (hp : pos < 1000) : fX7_isDigit (i32 (if pos < tl then T pos else 0)) = some (dg T tl pos) := by
  have a := C.dig hT hp
  rw [obb (C.code hT hp)] at a
  exact a
theorem CT.takes (C : CT h0 h T tl pos fk at' q) (hT : TR T tl) (hp : pos < 1000) {v : Int} (hv0 : 1 ≤ v ∧ v ≤ 126) : ∃ h', fX7_takes h 93 (i32 v) = some (hv T tl pos v, h') ∧ CT h0 h' T tl (if hv T tl pos v = true then pos + 1 else pos) fk at' q := by
  unfold fX7_takes
  have b : -2147483648 ≤ (if pos < tl then T pos else 0) ∧ (if pos < tl then T pos else 0) < 2147483648 := by
    split
    · rename_i w; have := hT.2 pos w; omega
    · omega
  rw [obb C.c, obb (C.code hT hp), ceq (by omega)]
  by_cases w : hv T tl pos v = true
  · have w2 := w
    simp only [hv, decide_eq_true_eq] at w2
    obtain ⟨h1, e1, C1⟩ := C.setp ((pos : Int) + 1) (pos + 1) (by omega)
    rw [if_pos (show (if pos < tl then T pos else 0) = v by rw [if_pos w2.1]; exact w2.2), obb C.i1, L_1, i32_add, obb e1, if_pos w, w]
    exact ⟨h1, rfl, C1⟩
  · have w2 := w
    simp only [hv, decide_eq_true_eq] at w2
    rw [if_neg (show ¬ (if pos < tl then T pos else 0) = v by split <;> omega), if_neg w]
    rw [Bool.not_eq_true] at w
    rw [w]
    exact ⟨h, rfl, C⟩
theorem CT.num (C : CT h0 h T tl pos fk at' q) (hT : TR T tl) (hp : pos < 500) {d : Nat} (hd : 1 ≤ d ∧ d ≤ 4) {M : Int} (hM : 0 ≤ M ∧ M ≤ 1000) : ∃ h' f2 a2, fX7_readNumber h 93 (i32 (d : Nat)) (i32 M) = some (i32 (nv T pos (nd T tl pos d)), h') ∧ CT h0 h' T tl (pos + nd T tl pos d) f2 a2 q ∧ (rf T tl pos d M = none → f2 = fk ∧ a2 = at') ∧ ∀ x, rf T tl pos d M = some x → f2 = x.1 ∧ a2 = x.2 := by
  obtain ⟨n1, n2, n3⟩ := nd_ok T tl pos d
  have hv4 := fun {j : Nat} (hj : j ≤ nd T tl pos d) => nv_4 (T := T) (tl := tl) (s := pos) hd.2 hj
  unfold fX7_readNumber
  obtain ⟨e, f, E1, E2⟩ := xl_inv (fX7_readNumber_B8 93 (i32 (d : Nat)) (i32 M) (i32 (pos : Nat))) (fun j s => s.2 = i32 (nv T pos j) ∧ CT h0 s.1 T tl (pos + j) fk at' q) (nd T tl pos d) (fun e => e.2 = i32 (nv T pos (nd T tl pos d)) ∧ CT h0 e.1 T tl (pos + nd T tl pos d) fk at' q) (fun j s hj I => by
    obtain ⟨h2, x⟩ := s
    obtain ⟨rfl, I⟩ := I
    dsimp only at I
    have dj := n2 j hj
    have dj2 := dj
    simp only [dg, decide_eq_true_eq] at dj2
    have b := hv4 (j := j) (by omega)
    have cd := I.code hT (by omega)
    rw [if_pos dj2.1] at cd
    have dv := I.digv hT (by omega)
    rw [if_pos dj2.1, dj] at dv
    obtain ⟨h3, e3, C3⟩ := I.setp (((pos + j : Nat) : Int) + 1) (pos + (j + 1)) (by omega)
    unfold fX7_readNumber_B8 fX7_readNumber_b8
    dsimp only
    rw [obb I.c, obb cd, obb dv, if_pos rfl, obb I.i1, i32_sub, ile_f (by omega), obb I.c, obb cd]
    show ∃ s', ((xgI h2 93 7 1).bind _) = _ ∧ _
    rw [obb I.i1, L_1, L_10, L_48, i32_add, obb e3, i32_mul, i32_add, i32_sub]
    exact ⟨_, rfl, rfl, C3⟩) (fun s I => by
    obtain ⟨h2, x⟩ := s
    obtain ⟨rfl, I⟩ := I
    dsimp only at I
    unfold fX7_readNumber_B8 fX7_readNumber_b8
    dsimp only
    rw [obb I.c, obb (I.code hT (by omega)), obb (I.digv hT (by omega))]
    by_cases w : dg T tl (pos + nd T tl pos d) = true
    · have : ¬ nd T tl pos d < d := fun z => by rw [n3 z] at w; exact absurd w (by decide)
      rw [if_pos w, obb I.i1, i32_sub, ile_t (by omega)]
      exact ⟨_, rfl, rfl, I⟩
    · rw [if_neg w]
      exact ⟨_, rfl, rfl, I⟩) (h, i32 0) ⟨rfl, C⟩ 5000 (by omega)
  have b := hv4 (j := nd T tl pos d) (Nat.le_refl _)
  rw [obb C.i1, L_0, obb f, obb E2.i1, ceq (by omega)]
  unfold rf
  by_cases w0 : nd T tl pos d = 0
  · obtain ⟨h3, e3, C3⟩ := E2.tell 1 ((pos + nd T tl pos d : Nat) : Int)
    rw [L_1] 
    rw [if_pos (by omega), if_pos w0, obb E2.i1, obb E2.c, obb e3, E1]
    exact ⟨h3, _, _, rfl, C3, fun z => by simp at z, fun x hx => by cases hx; exact ⟨rfl, by rw [w0, Nat.add_zero]⟩⟩
  · rw [if_neg (by omega), if_neg w0, obb E2.c, obb (E2.code hT (by omega)), obb (E2.digv hT (by omega))]
    by_cases w1 : dg T tl (pos + nd T tl pos d) = true
    · obtain ⟨h3, e3, C3⟩ := E2.tell 1 ((pos + nd T tl pos d : Nat) : Int)
      rw [if_pos w1, if_pos w1, obb E2.i1, obb E2.c, L_1, obb e3, E1]
      exact ⟨h3, _, _, rfl, C3, fun z => by simp at z, fun x hx => by cases hx; exact ⟨rfl, rfl⟩⟩
    · rw [if_neg w1, if_neg w1, E1, cle (by omega)]
      by_cases w2 : nv T pos (nd T tl pos d) ≤ M
      · rw [if_pos w2, if_pos w2]
        exact ⟨e.1, _, _, rfl, E2, fun _ => ⟨rfl, rfl⟩, fun x hx => by cases hx⟩
      · obtain ⟨h3, e3, C3⟩ := E2.tell 2 (pos : Nat)
        rw [if_neg w2, if_neg w2, obb E2.c, L_2, obb e3]
        exact ⟨h3, _, _, rfl, C3, fun z => by simp at z, fun x hx => by cases hx; exact ⟨rfl, rfl⟩⟩
end
