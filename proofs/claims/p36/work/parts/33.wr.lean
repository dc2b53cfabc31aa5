/-! writing -/
def nb (bk : Nat) : Nat := if bk = 8 then 8 else bk + 1
theorem WhAt.cg {h : XH} {a : Nat} {p p' : Nat → Int} (H : WhAt h a p) (e : ∀ i, i ≤ 73 → p' i = p i) : WhAt h a p' := by
  obtain ⟨fm, ft, fs, s0, s1, s2, s3, sm, sc⟩ := H
  refine ⟨fm, ft, fs, ?_, s1, s2, s3, ?_, ?_⟩
  · rw [e 0 (by omega), e 61 (by omega), e 62 (by omega), e 63 (by omega)]; exact s0
  · intro k k1 k2
    rw [e 0 (by omega)] at k2
    rw [e _ (by omega)]; exact sm k k1 k2
  · intro k k1 k2
    rw [e 63 (by omega)] at k2
    rw [e _ (by omega), e _ (by omega)]; exact sc k k1 k2
theorem FlAt.cg {h : XH} {a : Nat} {p p' : Nat → Int} (H : FlAt h a p) (e : ∀ i, 74 ≤ i ∧ i ≤ 75 → p' i = p i) : FlAt h a p' := by
  unfold FlAt
  rw [e 74 (by omega), e 75 (by omega)]; exact H
theorem RdAt.cg {h : XH} {a : Nat} {p p' : Nat → Int} (H : RdAt h a p) (e : ∀ i, 76 ≤ i ∧ i ≤ 93 → p' i = p i) : RdAt h a p' := by
  obtain ⟨ft, fs, s0, s1, s2, sc⟩ := H
  refine ⟨ft, fs, ?_, s1, s2, ?_⟩
  · rw [e 76 (by omega), e 93 (by omega)]; exact s0
  · intro k k1 k2
    rw [e 76 (by omega)] at k2
    rw [e _ (by omega), e _ (by omega)]; exact sc k k1 k2
theorem DiAt.cg {h : XH} {a : Nat} {p p' : Nat → Int} (H : DiAt h a p) (e : ∀ i, 94 ≤ i → p' i = p i) : DiAt h a p' := by
  unfold DiAt
  rw [e 94 (by omega), e 95 (by omega), e 96 (by omega), e 97 (by omega)]; exact H
theorem NowAt.wh {h h' : XH} {p p' : Nat → Int} (N : NowAt h p) (W : WhAt h' 2 p') (u : ∀ x, (x < 2 ∨ 5 < x) → h' x = h x) (e : ∀ i, 74 ≤ i → p' i = p i) : NowAt h' p' :=
  ⟨(u 0 (by omega)).trans N.1, (u 1 (by omega)).trans N.2.1, W, (N.f.fr (u 6 (by omega))).cg (fun i hi => e i (by omega)), (N.rd.fr (fun k hk => u _ (by omega))).cg (fun i hi => e i (by omega)), (N.d.fr (u 10 (by omega))).cg (fun i hi => e i (by omega))⟩
theorem NowAt.fl {h h' : XH} {p p' : Nat → Int} (N : NowAt h p) (W : FlAt h' 6 p') (u : ∀ x, x ≠ 6 → h' x = h x) (e : ∀ i, (i < 74 ∨ 75 < i) → p' i = p i) : NowAt h' p' :=
  ⟨(u 0 (by omega)).trans N.1, (u 1 (by omega)).trans N.2.1, (N.w.fr (fun k hk => u _ (by omega))).cg (fun i hi => e i (by omega)), W, (N.rd.fr (fun k hk => u _ (by omega))).cg (fun i hi => e i (by omega)), (N.d.fr (u 10 (by omega))).cg (fun i hi => e i (by omega))⟩
theorem NowAt.rdw {h h' : XH} {p p' : Nat → Int} (N : NowAt h p) (W : RdAt h' 7 p') (u : ∀ x, (x < 7 ∨ 9 < x) → h' x = h x) (e : ∀ i, (i < 76 ∨ 93 < i) → p' i = p i) : NowAt h' p' :=
  ⟨(u 0 (by omega)).trans N.1, (u 1 (by omega)).trans N.2.1, (N.w.fr (fun k hk => u _ (by omega))).cg (fun i hi => e i (by omega)), (N.f.fr (u 6 (by omega))).cg (fun i hi => e i (by omega)), W, (N.d.fr (u 10 (by omega))).cg (fun i hi => e i (by omega))⟩
theorem NowAt.di {h h' : XH} {p p' : Nat → Int} (N : NowAt h p) (W : DiAt h' 10 p') (u : ∀ x, x ≠ 10 → h' x = h x) (e : ∀ i, i < 94 → p' i = p i) : NowAt h' p' :=
  ⟨(u 0 (by omega)).trans N.1, (u 1 (by omega)).trans N.2.1, (N.w.fr (fun k hk => u _ (by omega))).cg (fun i hi => e i (by omega)), (N.f.fr (u 6 (by omega))).cg (fun i hi => e i (by omega)), (N.rd.fr (fun k hk => u _ (by omega))).cg (fun i hi => e i (by omega)), W⟩
def CW (h : XH) (p : Nat → Int) (P : Nat → Nat → Int) (bk : Nat) (r : Int) (o : Option (Nat → Int)) (res : Option (Int32 × XH)) : Prop :=
  match o with
  | none => res = some (i32 r, h)
  | some p' => ∃ h' nx', res = some (i32 r, h') ∧ NowAt h' p' ∧ HiAt h' (psh p P) (nb bk) nx' ∧ ∀ x, 92 < x → h' x = h x
def VO (o : Option (Nat → Int)) : Prop := ∀ p', o = some p' → VP p'
theorem VO.no : VO none := fun _ h => by cases h
theorem VO.so {p : Nat → Int} (h : VP p) : VO (some p) := fun _ e => by cases e; exact h
theorem r_1 {h : XH} {p : Nat → Int} (N : NowAt h p) : xgR h 0 8 1 = some 11 := gR N.1 1 rfl
theorem h_c {h : XH} {P : Nat → Nat → Int} {bk nx : Nat} (H : HiAt h P bk nx) : xco h 11 3 = some () := gC H.2.2.1
/-- the start -/
def oStart (p : Nat → Int) (z : Int) : Int × Option (Nat → Int) := if 0 ≤ z ∧ z ≤ 59 then (p 61, some (pu p 61 z)) else (-1001, none)
theorem vStart {p : Nat → Int} (hV : VP p) (z : Int) : VO (oStart p z).2 := by
  unfold oStart
  split
  · rename_i q
    obtain ⟨a, b, c, d⟩ := hV
    exact VO.so ⟨a, fun k hk => by rw [pu_n _ _ (by omega)]; exact b k hk, q, d.1, d.2.1, fun k hk => by rw [pu_n _ _ (by omega), pu_n _ _ (by omega)]; exact d.2.2.1 k hk, fun j k h1 h2 => by rw [pu_n _ _ (by omega), pu_n _ _ (by omega)]; exact d.2.2.2.1 j k h1 h2, d.2.2.2.2.1, d.2.2.2.2.2.1, d.2.2.2.2.2.2.1, fun k hk => by rw [pu_n _ _ (by omega), pu_n _ _ (by omega)]; exact d.2.2.2.2.2.2.2.1 k hk, d.2.2.2.2.2.2.2.2⟩
  · exact VO.no
/-- the limit -/
def oLim (p : Nat → Int) (z : Int) : Int × Option (Nat → Int) := if 1 ≤ z ∧ z ≤ 1000 then (p 93, some (pu p 93 z)) else (-1001, none)
theorem vLim {p : Nat → Int} (hV : VP p) (z : Int) : VO (oLim p z).2 := by
  unfold oLim
  split
  · rename_i q
    obtain ⟨a, b, c, d⟩ := hV
    exact VO.so ⟨a, fun k hk => by rw [pu_n _ _ (by omega)]; exact b k hk, c, d.1, d.2.1, fun k hk => by
      have := d.2.1
      have e : pu p 93 z 63 = p 63 := rfl
      rw [e] at hk
      rw [pu_n _ _ (by omega), pu_n _ _ (by omega)]; exact d.2.2.1 k hk, fun j k h1 h2 => by
      have := d.2.1
      have e : pu p 93 z 63 = p 63 := rfl
      rw [e] at h2
      rw [pu_n _ _ (by omega), pu_n _ _ (by omega)]; exact d.2.2.2.1 j k h1 h2, d.2.2.2.2.1, d.2.2.2.2.2.1, d.2.2.2.2.2.2.1, fun k hk => by
      have := d.2.2.2.2.2.2.1
      have e : pu p 93 z 76 = p 76 := rfl
      rw [e] at hk
      rw [pu_n _ _ (by omega), pu_n _ _ (by omega)]; exact d.2.2.2.2.2.2.2.1 k hk, q, d.2.2.2.2.2.2.2.2.2⟩
  · exact VO.no
theorem cLim {h : XH} {p : Nat → Int} {P : Nat → Nat → Int} {bk nx : Nat} (N : NowAt h p) (H : HiAt h P bk nx) (hV : VP p) {z : Int} (hz : -2147483648 ≤ z ∧ z < 2147483648) : CW h p P bk (oLim p z).1 (oLim p z).2 (fX8_setLimit h 0 (i32 z)) := by
  have hr := hV.rd
  unfold fX8_setLimit oLim
  rw [L_1, L_1000, obb (within_ok hz (by omega) (by omega))]
  simp only [decide_eq_true_eq]
  by_cases q : 1 ≤ z ∧ z ≤ 1000
  · rw [if_pos q, if_pos q]
    obtain ⟨h1, e1, N1, H1, u1⟩ := crem N H
    obtain ⟨ft, fs, s0, s1, s2, sc⟩ := N1.rd
    obtain ⟨h2, e2, a2, u2⟩ := pfw s0 3 (.int (i32 z)) (Nat.le_of_ble_eq_true rfl)
    rw [obb (r_1 N), obb N.n, obb (h_c H), obb e1, obb N1.n, obb N1.n2, obb N1.rd.i3, obb N1.n, obb N1.n2, obb e2]
    exact ⟨h2, _, rfl, N1.rdw ⟨ft, fs, a2, (u2 _ (by omega)).trans s1, (u2 _ (by omega)).trans s2, fun k k1 k2 => by rw [pu_n _ _ (by omega), pu_n _ _ (by omega)]; exact sc k k1 k2⟩ (fun x hx => u2 x (by omega)) (fun i hi => pu_n _ _ (by omega)), H1.fr (fun x hx => u2 x (by omega)), fun x hx => (u2 x (by omega)).trans (u1 x (by omega))⟩
  · rw [if_neg q, if_neg q]; rfl
/-- a mark -/
def oMark (p : Nat → Int) (i z : Int) : Int × Option (Nat → Int) := if 0 ≤ i ∧ i ≤ p 0 - 1 then (if 0 ≤ z ∧ z ≤ 3 then (p (1 + i).toNat, some (pu p (1 + i).toNat z)) else (-1001, none)) else (-1001, none)
theorem vMark {p : Nat → Int} (hV : VP p) (i z : Int) : VO (oMark p i z).2 := by
  have hn := hV.n
  unfold oMark
  split
  · split
    · rename_i q1 q2
      obtain ⟨a, b, c, d⟩ := hV
      have e : ∀ j, (j = 0 ∨ 61 ≤ j) → pu p (1 + i).toNat z j = p j := fun j hj => pu_n _ _ (by omega)
      refine VO.so ⟨by rw [e 0 (by omega)]; exact a, fun k hk => ?_, by rw [e 61 (by omega)]; exact c, ?_⟩
      · unfold pu
        split
        · exact q2
        · exact b k hk
      · rw [e 62 (by omega), e 63 (by omega), e 74 (by omega), e 75 (by omega), e 76 (by omega), e 93 (by omega), e 94 (by omega), e 95 (by omega), e 96 (by omega), e 97 (by omega)]
        refine ⟨d.1, d.2.1, fun k hk => ?_, fun j k h1 h2 => ?_, d.2.2.2.2.1, d.2.2.2.2.2.1, d.2.2.2.2.2.2.1, fun k hk => ?_, d.2.2.2.2.2.2.2.2⟩
        · rw [e _ (by omega), e _ (by omega)]; exact d.2.2.1 k hk
        · rw [e _ (by omega), e _ (by omega)]; exact d.2.2.2.1 j k h1 h2
        · rw [e _ (by omega), e _ (by omega)]; exact d.2.2.2.2.2.2.2.1 k hk
    · exact VO.no
  · exact VO.no
