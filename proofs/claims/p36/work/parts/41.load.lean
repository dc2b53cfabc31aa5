/-! the two relations -/
def TxAt (h : XH) (T : Nat → Int) (tl : Nat) (fk : Int) : Prop := ∃ c sp at0, h 93 = some (.inl (7, [.ref 94, .int sp, .int (i32 (tl : Nat)), .int (i32 fk), .int at0])) ∧ h 94 = some (.inr (0, 80, .inl c)) ∧ ∀ k, k < tl → c k = i32 (T k)
theorem TxAt.fr {h h' : XH} {T : Nat → Int} {tl : Nat} {fk : Int} (H : TxAt h T tl fk) (u : ∀ x, x = 93 ∨ x = 94 → h' x = h x) : TxAt h' T tl fk := by
  obtain ⟨c, sp, a, h1, h2, h3⟩ := H
  exact ⟨c, sp, a, (u _ (by omega)).trans h1, (u _ (by omega)).trans h2, h3⟩
theorem CaSh.fr {h h' : XH} (H : CaSh h) (u : ∀ x, 99 ≤ x ∧ x ≤ 101 → h' x = h x) : CaSh h' := by
  obtain ⟨s, l, z, fb, fc, h1, h2, h3⟩ := H
  exact ⟨s, l, z, fb, fc, (u _ (by omega)).trans h1, (u _ (by omega)).trans h2, (u _ (by omega)).trans h3⟩
def RC (h : XH) (p : Nat → Int) (P : Nat → Nat → Int) (bk : Nat) (T : Nat → Int) (tl : Nat) (fk : Int) : Prop := NowAt h p ∧ (∃ nx, HiAt h P bk nx) ∧ TxAt h T tl fk ∧ (∃ q, WhAt h 95 q) ∧ CaSh h
/-- the page read from a text -/
def pgL (p : Nat → Int) (T : Nat → Int) (n : Nat) : Nat → Int := fun j => if 1 ≤ j ∧ j ≤ n then cv T (j - 1) else if 61 ≤ j ∧ j ≤ 63 then 0 else p j
def ldp (p : Nat → Int) (T : Nat → Int) (tl : Nat) : Nat → Int := pu (pu (pu (pgL p T (nC T tl)) 0 (nC T tl : Nat)) 61 (p1 T tl).2.2) 62 (p2 T tl (p1 T tl).2.1).2.2
theorem ldp_hi (p T : Nat → Int) (tl : Nat) {j : Nat} (h : 64 ≤ j) : ldp p T tl j = p j := by
  have n1 := (nC_ok T tl).1
  unfold ldp
  rw [pu_n _ _ (by omega), pu_n _ _ (by omega), pu_n _ _ (by omega)]
  unfold pgL
  rw [if_neg (by omega), if_neg (by omega)]
theorem ldp_mk (p T : Nat → Int) (tl : Nat) {k : Nat} (h : k < 60) : ldp p T tl (1 + k) = if k < nC T tl then cv T k else p (1 + k) := by
  unfold ldp
  rw [pu_n _ _ (by omega), pu_n _ _ (by omega), pu_n _ _ (by omega)]
  unfold pgL
  by_cases w : k < nC T tl
  · rw [if_pos (by omega), if_pos w]; congr 1; omega
  · rw [if_neg (by omega), if_neg (by omega), if_neg w]
theorem ldp_0 (p T : Nat → Int) (tl : Nat) : ldp p T tl 0 = (nC T tl : Nat) := by
  unfold ldp
  rw [pu_n _ _ (by omega), pu_n _ _ (by omega), pu_s]
theorem ldp_61 (p T : Nat → Int) (tl : Nat) : ldp p T tl 61 = (p1 T tl).2.2 := by
  unfold ldp
  rw [pu_n _ _ (by omega), pu_s]
theorem ldp_62 (p T : Nat → Int) (tl : Nat) : ldp p T tl 62 = (p2 T tl (p1 T tl).2.1).2.2 := by
  unfold ldp
  rw [pu_s]
theorem ldp_63 (p T : Nat → Int) (tl : Nat) : ldp p T tl 63 = 0 := by
  have n1 := (nC_ok T tl).1
  unfold ldp
  rw [pu_n _ _ (by omega), pu_n _ _ (by omega), pu_n _ _ (by omega)]
  unfold pgL
  rw [if_neg (by omega), if_pos (by omega)]
theorem rf_none {T : Nat → Int} {tl s d : Nat} {M : Int} (hd : d ≤ 4) (h : rf T tl s d M = none) : 0 ≤ nv T s (nd T tl s d) ∧ nv T s (nd T tl s d) ≤ M := by
  have a := nv_4 (T := T) (tl := tl) (s := s) hd (Nat.le_refl _)
  unfold rf at h
  split at h
  · cases h
  · split at h
    · cases h
    · split at h
      · omega
      · cases h
theorem pF_none {T : Nat → Int} {tl : Nat} (h : pF T tl = none) : nC T tl ≠ 0 ∧ (p1 T tl).1 = none ∧ (p2 T tl (p1 T tl).2.1).1 = none := by
  unfold pF at h
  split at h
  · cases h
  · rename_i w
    cases h1 : (p1 T tl).1 with
    | some f => rw [h1] at h; cases h
    | none =>
      rw [h1] at h
      dsimp only at h
      unfold pF2 at h
      cases h2 : (p2 T tl (p1 T tl).2.1).1 with
      | some f => rw [h2] at h; cases h
      | none => exact ⟨w, rfl, rfl⟩
theorem p1_rng {T : Nat → Int} {tl : Nat} (h : (p1 T tl).1 = none) : 0 ≤ (p1 T tl).2.2 ∧ (p1 T tl).2.2 ≤ 59 := by
  unfold p1 at h ⊢
  split
  · rename_i w
    rw [if_pos w] at h
    exact rf_none (by omega) h
  · dsimp only; omega
theorem p2_rng {T : Nat → Int} {tl s : Nat} (h : (p2 T tl s).1 = none) : -1000 ≤ (p2 T tl s).2.2 ∧ (p2 T tl s).2.2 ≤ 1000 := by
  unfold p2 at h ⊢
  split
  · rename_i w
    rw [if_pos w] at h
    split
    · rename_i w2
      rw [if_pos w2] at h
      have := rf_none (by omega) h
      dsimp only; omega
    · rename_i w2
      rw [if_neg w2] at h
      have := rf_none (by omega) h
      dsimp only; omega
  · dsimp only; omega
theorem vLoad {p : Nat → Int} (hV : VP p) {T : Nat → Int} {tl : Nat} (h : pF T tl = none) : VP (ldp p T tl) := by
  obtain ⟨a, b, c⟩ := pF_none h
  obtain ⟨n1, n2, n3, n4⟩ := nC_ok T tl
  obtain ⟨-, v2, -, -, -, -, -, r⟩ := hV
  refine ⟨by rw [ldp_0]; omega, fun k hk => ?_, by rw [ldp_61]; exact p1_rng b, by rw [ldp_62]; exact p2_rng c, by rw [ldp_63]; omega, fun k hk => ?_, fun j k h1 h2 => ?_, ?_⟩
  · rw [ldp_mk p T tl hk]
    split
    · exact cv_rng (n3 k (by assumption))
    · exact v2 k hk
  · rw [ldp_63] at hk; omega
  · rw [ldp_63] at h2; omega
  · rw [ldp_hi p T tl (show 64 ≤ 74 by omega), ldp_hi p T tl (show 64 ≤ 75 by omega), ldp_hi p T tl (show 64 ≤ 76 by omega), ldp_hi p T tl (show 64 ≤ 93 by omega), ldp_hi p T tl (show 64 ≤ 94 by omega), ldp_hi p T tl (show 64 ≤ 95 by omega), ldp_hi p T tl (show 64 ≤ 96 by omega), ldp_hi p T tl (show 64 ≤ 97 by omega)]
    refine ⟨r.1, r.2.1, r.2.2.1, fun k hk => ?_, r.2.2.2.2⟩
    rw [ldp_hi p T tl (by omega), ldp_hi p T tl (by omega)]
    exact r.2.2.2.1 k hk
def aLoad (T : Nat → Int) (tl : Nat) : Int := match pF T tl with
  | none => (nC T tl : Nat)
  | some x => -10 - x.2
theorem pF_a {T : Nat → Int} {tl : Nat} {x : Int × Int} (ht : tl ≤ 80) (h : pF T tl = some x) : (x.1 = 1 ∨ x.1 = 2) ∧ 0 ≤ x.2 ∧ x.2 ≤ 1000 := by
  obtain ⟨n1, n2, n3, n4⟩ := nC_ok T tl
  have pp := p1_pos T tl
  have p2p := p2_pos (T := T) (tl := tl) (s := (p1 T tl).2.1)
  unfold pF at h
  split at h
  · cases h; exact ⟨.inl rfl, by dsimp only; omega, by dsimp only; omega⟩
  · cases h1 : (p1 T tl).1 with
    | some f =>
      rw [h1] at h
      cases h
      unfold p1 at h1
      split at h1
      · have := rf_k h1
        have := rf_a h1
        exact ⟨by assumption, by omega, by omega⟩
      · cases h1
    | none =>
      rw [h1] at h
      dsimp only at h
      unfold pF2 at h
      cases h2 : (p2 T tl (p1 T tl).2.1).1 with
      | some f =>
        rw [h2] at h
        cases h
        unfold p2 at h2
        split at h2
        · split at h2
          · have := rf_k h2
            have := rf_a h2
            exact ⟨by assumption, by omega, by omega⟩
          · have := rf_k h2
            have := rf_a h2
            exact ⟨by assumption, by omega, by omega⟩
        · cases h2
      | none =>
        rw [h2] at h
        dsimp only at h
        unfold p3 at h
        split at h
        · cases h
        · cases h; exact ⟨.inl rfl, by dsimp only; omega, by dsimp only; omega⟩
theorem cLoad {h : XH} {p : Nat → Int} {P : Nat → Nat → Int} {bk : Nat} {T : Nat → Int} {tl : Nat} {fk : Int} (R : RC h p P bk T tl fk) (hT : TR T tl) : ∃ h', fX8_load h 0 = some (i32 (aLoad T tl), h') ∧ (pF T tl = none → RC h' (ldp p T tl) (psh p P) (nb bk) T tl 0) ∧ (∀ x, pF T tl = some x → RC h' p P bk T tl x.1) ∧ ∀ x, 101 < x → h' x = h x := by
  obtain ⟨N, ⟨nx, H⟩, ⟨c, sp, at0, t1, t2, t3⟩, ⟨q, W⟩, CS⟩ := R
  obtain ⟨h1, pos, f2, a2, q2, e1, C1, F1, r1, Q1⟩ := cinto t1 t2 t3 W hT
  obtain ⟨d1, ⟨c', d2, d2', d3⟩, d4, d5⟩ := C1
  have g2 : xgR h 0 8 2 = some 93 := gR N.1 2 rfl
  have g3 : xgR h 0 8 3 = some 95 := gR N.1 3 rfl
  have co : xco h 93 7 = some () := gC t1
  have N1 : NowAt h1 p := N.fr (fun x hx => d5 x (by omega))
  have H1 : HiAt h1 P bk nx := H.fr (fun x hx => d5 x (by omega))
  have g2' : xgR h1 0 8 2 = some 93 := gR N1.1 2 rfl
  unfold fX8_load aLoad
  rw [obb g2, obb g3, obb co, obb e1]
  cases hp : pF T tl with
  | none =>
    rw [hp] at F1
    have f0 : f2 = 0 := F1
    obtain rfl := Q1 hp
    obtain ⟨h2, e2, N2, H2, u2⟩ := crem N1 H1
    have g3' : xgR h2 0 8 3 = some 95 := gR N2.1 3 rfl
    obtain ⟨h3, e3, W3, u3⟩ := wcopy N2.w (d4.fr (fun k hk => u2 _ (by omega))) (by omega)
    have n63 : ldw T tl 63 = 0 := rfl
    have n1 := (nC_ok T tl).1
    have n0 : ldw T tl 0 = (nC T tl : Nat) := rfl
    have W4 : WhAt h3 2 (ldp p T tl) := by
      obtain ⟨fm, ft, fs, s0, s1, s2, s3, sm, sc⟩ := W3
      refine ⟨fm, ft, fs, ?_, s1, s2, s3, fun k k1 k2 => ?_, fun k k1 k2 => ?_⟩
      · rw [ldp_0, ldp_61, ldp_62, ldp_63]; exact s0
      · rw [ldp_0] at k2
        rw [ldp_mk p T tl k1, if_pos (by omega), sm k k1 (by rw [n0]; exact k2)]
        unfold ldw
        rw [pu_n _ _ (by omega), pu_n _ _ (by omega)]
        unfold wq
        rw [if_neg (by omega), if_pos (by omega)]
        congr 2; omega
      · rw [ldp_63] at k2; omega
    have N3 : NowAt h3 (ldp p T tl) := N2.wh W4 u3 (fun i hi => ldp_hi p T tl (by omega))
    have fr : ∀ x, 92 < x → h3 x = h1 x := fun x hx => (u3 x (by omega)).trans (u2 x (by omega))
    rw [f0, decide_eq_true rfl, if_pos rfl, obb (r_1 N1), obb N1.n, obb (h_c H1), obb e2, obb N2.n, obb N2.n0, obb g3', obb N2.w.c, obb e3, obb N3.n, obb N3.n0, obb N3.w.i3, ldp_0]
    refine ⟨h3, rfl, fun _ => ⟨N3, ⟨_, H2.fr (fun x hx => u3 x (by omega))⟩, ⟨c', _, _, (fr 93 (by omega)).trans (by rw [f0] at d1; exact d1), (fr 94 (by omega)).trans d2, d3⟩, ⟨_, d4.fr (fun k hk => fr _ (by omega))⟩, CS.fr (fun x hx => (fr x (by omega)).trans (d5 x (by omega)))⟩, fun x hx => (by cases hx), fun x hx => (fr x (by omega)).trans (d5 x (by omega))⟩
  | some y =>
    rw [hp] at F1
    obtain ⟨y1, y2⟩ := F1
    have pa := pF_a hT.1 hp
    have i4 : xgI h1 93 7 4 = some (i32 a2) := gI d1 4 rfl
    rw [decide_eq_false (show ¬ f2 = 0 by omega), if_neg Bool.false_ne_true, obb g2', obb i4, L_m10, i32_sub, y2]
    refine ⟨h1, rfl, fun z => (by cases z), fun x hx => ?_, fun x hx => d5 x (by omega)⟩
    cases hx
    exact ⟨N1, ⟨nx, H1⟩, ⟨c', _, _, by rw [← y1]; exact d1, d2, d3⟩, ⟨_, d4⟩, CS.fr (fun x hx => d5 x (by omega))⟩
