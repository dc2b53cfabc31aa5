/-! the model reads the text -/
def MRd (h0 h : XH) (Z : Int64) (T : Nat → Int) (tl : Nat) (p : Nat → Int) (P : Nat → Nat → Int) (bk : Nat) (pg : Nat → Int) (pos : Nat) (num : Int32) (fk at' : Int) : Prop :=
  ∃ A S, MdAt h0 h A S Z ∧ BkAt A S pg P bk ∧ (∀ k, k < 98 → A 0 (882 + k) = i32 (p k)) ∧ S 5 = i32 (tl : Nat) ∧ S 6 = i32 fk ∧ S 7 = i32 at' ∧ S 8 = i32 (pos : Nat) ∧ S 9 = num ∧ ∀ k, k < tl → A 2 k = i32 (T k)
section
variable {h0 h : XH} {Z : Int64} {T : Nat → Int} {tl : Nat} {p : Nat → Int} {P : Nat → Nat → Int} {bk : Nat} {pg : Nat → Int} {pos : Nat} {num : Int32} {fk at' : Int}
theorem BkAt.sup {A : Nat → Nat → Int32} {S : Nat → Int32} (B : BkAt A S pg P bk) (k : Nat) (v : Int32) (hk : k ≠ 1) : BkAt A (sup S k v) pg P bk := ⟨by rw [sup_n _ _ (Ne.symm hk)]; exact B.1, B.2⟩
theorem MRd.c (M : MRd h0 h Z T tl p P bk pg pos num fk at') : xco h 102 9 = some () := by obtain ⟨A, S, m, -⟩ := M; exact m.c
theorem MRd.r0 (M : MRd h0 h Z T tl p P bk pg pos num fk at') : xgR h 102 9 0 = some 103 := by obtain ⟨A, S, m, -⟩ := M; exact m.r0
theorem MRd.i5 (M : MRd h0 h Z T tl p P bk pg pos num fk at') : xgI h 102 9 5 = some (i32 (tl : Nat)) := by obtain ⟨A, S, m, b, c, d, e, f, g, r⟩ := M; rw [m.i5, d]
theorem MRd.i7 (M : MRd h0 h Z T tl p P bk pg pos num fk at') : xgI h 102 9 7 = some (i32 at') := by obtain ⟨A, S, m, b, c, d, e, f, g, r⟩ := M; rw [m.i7, f]
theorem MRd.i8 (M : MRd h0 h Z T tl p P bk pg pos num fk at') : xgI h 102 9 8 = some (i32 (pos : Nat)) := by obtain ⟨A, S, m, b, c, d, e, f, g, r⟩ := M; rw [m.i8, g]
theorem MRd.i9 (M : MRd h0 h Z T tl p P bk pg pos num fk at') : xgI h 102 9 9 = some num := by obtain ⟨A, S, m, b, c, d, e, f, g, r, t⟩ := M; rw [m.i9, r]
theorem MRd.p8 (M : MRd h0 h Z T tl p P bk pg pos num fk at') (v : Int) (pos2 : Nat) (ev : v = pos2) : ∃ h', xpf h 102 9 8 (.int (i32 v)) = some h' ∧ MRd h0 h' Z T tl p P bk pg pos2 num fk at' := by
  subst ev
  obtain ⟨A, S, m, b, c, d, e, f, g, r, t⟩ := M
  obtain ⟨h', e1, m1⟩ := m.p8 (i32 (pos2 : Nat))
  exact ⟨h', e1, A, _, m1, b.sup 8 _ (by omega), c, (sup_n _ _ (by omega)).trans d, (sup_n _ _ (by omega)).trans e, (sup_n _ _ (by omega)).trans f, sup_s _ _ _, (sup_n _ _ (by omega)).trans r, t⟩
theorem MRd.p9 (M : MRd h0 h Z T tl p P bk pg pos num fk at') (v : Int32) : ∃ h', xpf h 102 9 9 (.int v) = some h' ∧ MRd h0 h' Z T tl p P bk pg pos v fk at' := by
  obtain ⟨A, S, m, b, c, d, e, f, g, r, t⟩ := M
  obtain ⟨h', e1, m1⟩ := m.p9 v
  exact ⟨h', e1, A, _, m1, b.sup 9 _ (by omega), c, (sup_n _ _ (by omega)).trans d, (sup_n _ _ (by omega)).trans e, (sup_n _ _ (by omega)).trans f, (sup_n _ _ (by omega)).trans g, sup_s _ _ _, t⟩
theorem MRd.fails (M : MRd h0 h Z T tl p P bk pg pos num fk at') (k a : Int) : ∃ h', fX9_fails h 102 (i32 k) (i32 a) = some (false, h') ∧ MRd h0 h' Z T tl p P bk pg pos num k a := by
  obtain ⟨A, S, m, b, c, d, e, f, g, r, t⟩ := M
  obtain ⟨h1, e1, m1⟩ := m.p6 (i32 k)
  obtain ⟨h2, e2, m2⟩ := m1.p7 (i32 a)
  unfold fX9_fails
  rw [obb e1, obb e2]
  exact ⟨h2, rfl, A, _, m2, (b.sup 6 _ (by omega)).sup 7 _ (by omega), c, (sup_n _ _ (by omega)).trans ((sup_n _ _ (by omega)).trans d), (sup_n _ _ (by omega)).trans (sup_s _ _ _), sup_s _ _ _, (sup_n _ _ (by omega)).trans ((sup_n _ _ (by omega)).trans g), (sup_n _ _ (by omega)).trans ((sup_n _ _ (by omega)).trans r), t⟩
theorem MRd.put (M : MRd h0 h Z T tl p P bk pg pos num fk at') {i : Int} (hi : 0 ≤ i ∧ i < 98) (z : Int) : ∃ h', xsI h 103 0 (i32 i) (i32 z) = some h' ∧ MRd h0 h' Z T tl p P bk (pu pg i.toNat z) pos num fk at' := by
  obtain ⟨A, S, m, b, c, r⟩ := M
  obtain ⟨h', e, M'⟩ := m.s0 (i := i) (i32 z) (by omega)
  refine ⟨h', e, _, S, M', ⟨b.1, b.2.1, ?_, ?_⟩, ?_, r.1, r.2.1, r.2.2.1, r.2.2.2.1, r.2.2.2.2.1, fun k hk => by rw [aup_n _ _ (by omega)]; exact r.2.2.2.2.2 k hk⟩
  · intro k hk
    rw [aup_s]
    simp only [upd, pu]
    split
    · rfl
    · exact b.2.2.1 k hk
  · intro j hj k hk
    rw [aup_s]
    simp only [upd]
    rw [if_neg (by omega)]
    exact b.2.2.2 j hj k hk
  · intro k hk
    rw [aup_s]
    simp only [upd]
    rw [if_neg (by omega)]
    exact c k hk
def hc (T : Nat → Int) (tl pos : Nat) : Int := if pos < tl then T pos else -1004
theorem hc_rng {T : Nat → Int} {tl : Nat} (hT : TR T tl) (pos : Nat) : -1004 ≤ hc T tl pos ∧ hc T tl pos ≤ 126 := by
  unfold hc
  split
  · rename_i w; have := hT.2 pos w; omega
  · omega
theorem MRd.here (M : MRd h0 h Z T tl p P bk pg pos num fk at') (hT : TR T tl) (hp : pos < 1000) : fX9_here h 102 = some (i32 (hc T tl pos)) := by
  have ht := hT.1
  have a5 := M.i5
  have a8 := M.i8
  obtain ⟨A, S, m, b, c, d, e, f, g, r, t⟩ := M
  unfold fX9_here hc
  rw [obb a8, obb a5, cle (by omega)]
  by_cases w : pos < tl
  · rw [if_neg (by omega), if_pos w, obb m.r4, obb a8, obb (m.a2 (by omega)), Int.toNat_natCast, t pos w]
  · rw [if_pos (by omega), if_neg w]; rfl
theorem MRd.dig (M : MRd h0 h Z T tl p P bk pg pos num fk at') (hT : TR T tl) (hp : pos < 1000) : fX9_isDigit h 102 = some (dg T tl pos) := by
  have b := hc_rng hT pos
  unfold fX9_isDigit
  rw [obb M.c, obb (M.here hT hp), L_48, L_57, obb (in_ok (by omega) (by omega) (by omega))]
  unfold dg hc
  congr 1
  rw [decide_eq_decide]
  split <;> omega
theorem hc_v (T : Nat → Int) (tl pos : Nat) {v : Int} (hv0 : 1 ≤ v) : (hc T tl pos = v) ↔ hv T tl pos v = true := by
  unfold hc hv
  rw [decide_eq_true_eq]
  split <;> omega
theorem MRd.numb (M : MRd h0 h Z T tl p P bk pg pos num 0 at') (hT : TR T tl) (hp : pos < 500) {d : Nat} (hd : 1 ≤ d ∧ d ≤ 4) {Mx sg lo hi : Int} (hM : 0 ≤ Mx ∧ Mx ≤ 1000) (hs : sg = 1 ∨ sg = -1) (hl : -1000 ≤ lo ∧ lo ≤ 0) (hh : hi = Mx) (hlo : sg = -1 → lo = -Mx) : ∃ h' pos2 n2 f2 a2, fX9_readsNumber h 102 (i32 (d : Nat)) (i32 sg) (i32 lo) (i32 hi) = some (decide (f2 = 0), h') ∧ MRd h0 h' Z T tl p P bk pg pos2 n2 f2 a2 ∧ FO (rf T tl pos d Mx) f2 a2 ∧ (rf T tl pos d Mx = none → pos2 = pos + nd T tl pos d ∧ n2 = i32 (nv T pos (nd T tl pos d) * sg)) := by
  obtain ⟨n1, n2, n3⟩ := nd_ok T tl pos d
  have hv4 := fun {j : Nat} (hj : j ≤ nd T tl pos d) => nv_4 (T := T) (tl := tl) (s := pos) hd.2 hj
  unfold fX9_readsNumber
  obtain ⟨h1, e1, M1⟩ := M.p9 0
  obtain ⟨e, f, E⟩ := xl_inv (fX9_readsNumber_B11 102 (i32 (d : Nat)) (i32 sg) (i32 lo) (i32 hi) (i32 (pos : Nat))) (fun j s => MRd h0 s Z T tl p P bk pg (pos + j) (i32 (nv T pos j)) 0 at') (nd T tl pos d) (fun e => MRd h0 e Z T tl p P bk pg (pos + nd T tl pos d) (i32 (nv T pos (nd T tl pos d))) 0 at') (fun j s hj I => by
    have dj := n2 j hj
    have dj2 := dj
    simp only [dg, decide_eq_true_eq] at dj2
    have b := hv4 (j := j) (by omega)
    have hr := I.here hT (by omega)
    have he : hc T tl (pos + j) = T (pos + j) := by unfold hc; rw [if_pos dj2.1]
    rw [he] at hr
    obtain ⟨h3, e3, M3⟩ := I.p9 (i32 (nv T pos (j + 1)))
    have e3' : xpf s 102 9 9 (.int (i32 10 * i32 (nv T pos j) + i32 (T (pos + j)) - i32 48)) = some h3 := by
      rw [i32_mul, i32_add, i32_sub]; exact e3
    obtain ⟨h4, e4, M4⟩ := M3.p8 (((pos + j : Nat) : Int) + 1) (pos + (j + 1)) (by omega)
    unfold fX9_readsNumber_B11 fX9_readsNumber_b11
    rw [obb I.c, obb (I.dig hT (by omega)), dj, if_pos rfl, obb I.i8, i32_add, ile_f (by omega), obb I.i9, obb I.c, obb hr, L_10, L_48, obb e3', obb M3.i8, L_1, i32_add, obb e4]
    exact ⟨h4, rfl, M4⟩) (fun s I => by
    unfold fX9_readsNumber_B11 fX9_readsNumber_b11
    rw [obb I.c, obb (I.dig hT (by omega))]
    by_cases w : dg T tl (pos + nd T tl pos d) = true
    · have : ¬ nd T tl pos d < d := fun z => by rw [n3 z] at w; exact absurd w (by decide)
      rw [if_pos w, obb I.i8, i32_add, ile_t (by omega)]
      exact ⟨s, rfl, I⟩
    · rw [if_neg w]
      exact ⟨s, rfl, I⟩) h1 M1 5000 (by omega)
  have b := hv4 (j := nd T tl pos d) (Nat.le_refl _)
  rw [obb M.i8, obb e1, obb f, obb E.i8, ceq (by omega)]
  unfold rf
  by_cases w0 : nd T tl pos d = 0
  · obtain ⟨h3, e3, M3⟩ := E.fails 1 ((pos + nd T tl pos d : Nat) : Int)
    rw [if_pos (by omega), if_pos w0, obb E.i8, obb E.c, L_1, obb e3]
    exact ⟨h3, _, _, 1, _, rfl, M3, ⟨rfl, by dsimp only; omega⟩, fun z => by simp at z⟩
  · rw [if_neg (by omega), if_neg w0, obb E.c, obb (E.dig hT (by omega))]
    by_cases w1 : dg T tl (pos + nd T tl pos d) = true
    · obtain ⟨h3, e3, M3⟩ := E.fails 1 ((pos + nd T tl pos d : Nat) : Int)
      rw [if_pos w1, if_pos w1, obb E.i8, obb E.c, L_1, obb e3]
      exact ⟨h3, _, _, 1, _, rfl, M3, ⟨rfl, rfl⟩, fun z => by simp at z⟩
    · obtain ⟨h3, e3, M3⟩ := E.p9 (i32 (nv T pos (nd T tl pos d) * sg))
      have ms : nv T pos (nd T tl pos d) * sg = nv T pos (nd T tl pos d) ∨ nv T pos (nd T tl pos d) * sg = -nv T pos (nd T tl pos d) := by
        rcases hs with rfl | rfl
        · left; omega
        · right; omega
      rw [if_neg w1, if_neg w1, obb E.i9, i32_mul, obb e3, obb M3.i9, obb (in_ok (by omega) (by omega) (by omega))]
      simp only [decide_eq_true_eq]
      by_cases w2 : nv T pos (nd T tl pos d) ≤ Mx
      · have k : lo ≤ nv T pos (nd T tl pos d) * sg ∧ nv T pos (nd T tl pos d) * sg ≤ hi := by
          rcases hs with rfl | rfl
          · omega
          · have := hlo rfl; omega
        rw [if_pos k, if_pos w2]
        exact ⟨h3, _, _, 0, _, rfl, M3, rfl, fun _ => ⟨rfl, rfl⟩⟩
      · have k : ¬ (lo ≤ nv T pos (nd T tl pos d) * sg ∧ nv T pos (nd T tl pos d) * sg ≤ hi) := by
          rcases hs with rfl | rfl
          · omega
          · have := hlo rfl; omega
        obtain ⟨h4, e4, M4⟩ := M3.fails 2 (pos : Nat)
        rw [if_neg k, if_neg w2, obb M3.c, L_2, obb e4, if_neg Bool.false_ne_true]
        exact ⟨h4, _, _, 2, _, rfl, M4, ⟨rfl, rfl⟩, fun z => by simp at z⟩
theorem mStart1 (M : MRd h0 h Z T tl p P bk pg (nC T tl) num 0 at') (hT : TR T tl) (h61 : pg 61 = 0) : ∃ h' pos2 n2 f2 a2 pg2, fX9_readsStart h 102 = some (decide (f2 = 0), h') ∧ MRd h0 h' Z T tl p P bk pg2 pos2 n2 f2 a2 ∧ FO (p1 T tl).1 f2 a2 ∧ ((p1 T tl).1 = none → pos2 = (p1 T tl).2.1 ∧ pg2 = pu pg 61 (p1 T tl).2.2) := by
  have n1 := (nC_ok T tl).1
  have b := hc_rng hT (nC T tl)
  unfold fX9_readsStart p1
  rw [obb M.c, obb (M.here hT (by omega)), L_64, ceq (by omega)]
  by_cases w : hv T tl (nC T tl) 64 = true
  · obtain ⟨h1, e1, M1⟩ := M.p8 ((nC T tl : Nat) + 1 : Int) (nC T tl + 1) (by omega)
    obtain ⟨h2, pos2, n2, f2, a2, e2, M2, F2, Q2⟩ := M1.numb hT (by omega) (d := 2) (Mx := 59) (sg := 1) (lo := 0) (hi := 59) (by omega) (by omega) (by omega) (by omega) rfl (by omega)
    have e2' : fX9_readsNumber h1 102 2 1 0 59 = some (decide (f2 = 0), h2) := e2
    obtain ⟨h3, e3, M3⟩ := M2.put (i := 61) (by omega) n2.toInt
    rw [i32_of] at e3
    rw [if_pos ((hc_v T tl _ (by omega)).mpr w), if_pos w, obb M.i8, L_1, i32_add, obb e1, obb M1.c]
    rw [L_1] at e2'
    rw [obb e2', obb M2.r0, obb M2.i9, L_61, obb e3]
    refine ⟨h3, pos2, n2, f2, a2, _, rfl, M3, F2, fun z => ?_⟩
    obtain ⟨q1, q2⟩ := Q2 z
    have v := rf_none (by omega) z
    refine ⟨q1, ?_⟩
    rw [q2, Int.mul_one, i32_toInt (by omega)]
    rfl
  · rw [if_neg (fun z => w ((hc_v T tl _ (by omega)).mp z)), if_neg w]
    refine ⟨h, _, _, 0, _, pg, rfl, M, rfl, fun _ => ⟨rfl, ?_⟩⟩
    funext j
    unfold pu
    split
    · rename_i z; rw [z, h61]
    · rfl
theorem mSpeed1 (M : MRd h0 h Z T tl p P bk pg pos num 0 at') (hT : TR T tl) (hp : pos < 400) (h62 : pg 62 = 0) : ∃ h' pos2 n2 f2 a2 pg2, fX9_readsSpeed h 102 = some (decide (f2 = 0), h') ∧ MRd h0 h' Z T tl p P bk pg2 pos2 n2 f2 a2 ∧ FO (p2 T tl pos).1 f2 a2 ∧ ((p2 T tl pos).1 = none → pos2 = (p2 T tl pos).2.1 ∧ pg2 = pu pg 62 (p2 T tl pos).2.2) := by
  have b := hc_rng hT pos
  unfold fX9_readsSpeed p2
  rw [obb M.c, obb (M.here hT (by omega)), L_42, ceq (by omega)]
  by_cases w : hv T tl pos 42 = true
  · obtain ⟨h1, e1, M1⟩ := M.p8 ((pos : Nat) + 1 : Int) (pos + 1) (by omega)
    have b1 := hc_rng hT (pos + 1)
    rw [if_pos ((hc_v T tl _ (by omega)).mpr w), if_pos w, obb M.i8, L_m1, L_1, i32_add, obb e1, obb M1.c, obb (M1.here hT (by omega)), L_45, ceq (by omega)]
    unfold fX9_readsSpeed_J35 fX9_readsSpeed_J50
    by_cases w2 : hv T tl (pos + 1) 45 = true
    · obtain ⟨h2, e2, M2⟩ := M1.p8 ((pos + 1 : Nat) + 1 : Int) (pos + 2) (by omega)
      have e2' : xpf h1 102 9 8 (.int (i32 ((pos + 1 : Nat) : Int) + xbi true)) = some h2 := by
        rw [show xbi true = i32 1 from by decide, i32_add]; exact e2
      obtain ⟨h3, pos2, n2, f2, a2, e3, M3, F3, Q3⟩ := M2.numb hT (by omega) (d := 4) (Mx := 1000) (sg := -1) (lo := -1000) (hi := 1000) (by omega) (by omega) (by omega) (by omega) rfl (fun _ => rfl)
      have e3' : fX9_readsNumber h2 102 4 (i32 (-1)) (-1000) 1000 = some (decide (f2 = 0), h3) := e3
      obtain ⟨h4, e4, M4⟩ := M3.put (i := 62) (by omega) n2.toInt
      rw [i32_of] at e4
      rw [if_pos ((hc_v T tl _ (by omega)).mpr w2), if_pos w2, obb M1.i8, L_0, ile_f (by omega), obb e2', obb M2.c, obb e3', obb M3.r0, obb M3.i9, L_62, obb e4]
      refine ⟨h4, pos2, n2, f2, a2, _, rfl, M4, F3, fun z => ?_⟩
      obtain ⟨q1, q2⟩ := Q3 z
      have v := rf_none (by omega) z
      refine ⟨q1, ?_⟩
      rw [q2, i32_toInt (by omega), show nv T (pos + 2) (nd T tl (pos + 2) 4) * -1 = -nv T (pos + 2) (nd T tl (pos + 2) 4) by omega]
      rfl
    · obtain ⟨h2, e2, M2⟩ := M1.p8 ((pos + 1 : Nat) + 0 : Int) (pos + 1) (by omega)
      have e2' : xpf h1 102 9 8 (.int (i32 ((pos + 1 : Nat) : Int) + xbi false)) = some h2 := by
        show xpf h1 102 9 8 (.int (i32 ((pos + 1 : Nat) : Int) + 0)) = _
        rw [L_0, i32_add]; exact e2
      obtain ⟨h3, pos2, n2, f2, a2, e3, M3, F3, Q3⟩ := M2.numb hT (by omega) (d := 4) (Mx := 1000) (sg := 1) (lo := -1000) (hi := 1000) (by omega) (by omega) (by omega) (by omega) rfl (by omega)
      have e3' : fX9_readsNumber h2 102 4 (i32 1) (-1000) 1000 = some (decide (f2 = 0), h3) := e3
      obtain ⟨h4, e4, M4⟩ := M3.put (i := 62) (by omega) n2.toInt
      rw [i32_of] at e4
      rw [if_neg (fun z => w2 ((hc_v T tl _ (by omega)).mp z)), if_neg w2, obb M1.i8, L_0, ile_t (by omega), obb e2', obb M2.c, obb e3', obb M3.r0, obb M3.i9, L_62, obb e4]
      refine ⟨h4, pos2, n2, f2, a2, _, rfl, M4, F3, fun z => ?_⟩
      obtain ⟨q1, q2⟩ := Q3 z
      have v := rf_none (by omega) z
      refine ⟨q1, ?_⟩
      rw [q2, Int.mul_one, i32_toInt (by omega)]
      rfl
  · rw [if_neg (fun z => w ((hc_v T tl _ (by omega)).mp z)), if_neg w]
    refine ⟨h, _, _, 0, _, pg, rfl, M, rfl, fun _ => ⟨rfl, ?_⟩⟩
    funext j
    unfold pu
    split
    · rename_i z; rw [z, h62]
    · rfl
end
