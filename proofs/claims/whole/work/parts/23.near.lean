/-! the nearest speed -/
theorem xmabs_ok {a : Int} (h : -2147483648 < a ∧ a < 2147483648) : xmabs (i32 a) = i32 (a.natAbs : Int) := by
  unfold xmabs
  rw [L_0, cle (by omega), i32_sub]
  split
  · congr 1; omega
  · congr 1; omega
theorem apart_ok {a b : Int} (ha : -1000 ≤ a ∧ a ≤ 1000) (hb : -1000 ≤ b ∧ b ≤ 1000) : fX9_apart (i32 a) (i32 b) = some (i32 ((a - b).natAbs : Int)) := by
  unfold fX9_apart
  rw [cle (by omega), i32_sub, i32_sub]
  split
  · congr 2; omega
  · congr 2; omega
/-- one more speed seen: keep the nearer, the earlier of two as near -/
def nrS (w v : Int) (s : Option Int) : Option Int := match s with
  | none => some v
  | some b => if (b - w).natAbs ≤ (v - w).natAbs then some b else some v
def nrV (s : Option Int) : Int := match s with
  | none => -1004
  | some b => b
noncomputable def nrC (p : Nat → Int) (w : Int) : Nat → Option Int := itr (fun j x => if fitL p (-1) j = true then nrS w ((j : Int) - p 93) x else x) none
noncomputable def aNear (p : Nat → Int) (w : Int) : Int := if -1000 ≤ w ∧ w ≤ 1000 then nrV (nrC p w (2 * p 93 + 1).toNat) else -1001
theorem nrC_rng {p : Nat → Int} (hV : VP p) (w : Int) : ∀ i, i ≤ (2 * p 93 + 1).toNat → ∀ b, nrC p w i = some b → -1000 ≤ b ∧ b ≤ 1000
  | 0, _, b, h => by simp [nrC, itr] at h
  | i + 1, hi, b, h => by
    have hl := hV.lim
    have ih := nrC_rng hV w i (by omega)
    unfold nrC at h ih
    simp only [itr] at h
    split at h
    · cases hq : itr (fun (j : Nat) x => if fitL p (-1) j = true then nrS w ((j : Int) - p 93) x else x) none i with
      | none => rw [hq] at h; simp only [nrS, Option.some.injEq] at h; omega
      | some b2 =>
        have := ih b2 hq
        rw [hq] at h
        simp only [nrS] at h
        split at h
        · simp only [Option.some.injEq] at h; omega
        · simp only [Option.some.injEq] at h; omega
    · exact ih b h
def nrD0 (w : Int) (s : Option Int) : Int := match s with
  | none => 0
  | some b => ((b - w).natAbs : Int)
theorem cnear {h : XH} {p : Nat → Int} (H : CaAt h p (-1)) (hV : VP p) {w : Int} (hw : -1000 ≤ w ∧ w ≤ 1000) : fX0_nearestTo h 99 (i32 w) = some (i32 (nrV (nrC p w (2 * p 93 + 1).toNat))) := by
  have hl := hV.lim
  unfold fX0_nearestTo
  rw [gI H 3 rfl]; simp only [Option.bind_some, i32_neg, L_m1004, L_0]
  have f := xl_run (fX0_nearestTo_B13 h 99 (i32 w)) (fun i => (i32 (nrV (nrC p w i)), i32 (nrD0 w (nrC p w i)), i32 ((i : Int) - p 93))) (2 * p 93 + 1).toNat (i32 (nrV (nrC p w (2 * p 93 + 1).toNat))) (fun i hi => by
    have hb := nrC_rng hV w i (by omega)
    have nx : nrC p w (i + 1) = if fitL p (-1) i = true then nrS w ((i : Int) - p 93) (nrC p w i) else nrC p w i := rfl
    rw [nx]
    unfold fX0_nearestTo_B13 fX0_nearestTo_b13 fX0_nearestTo_J44
    rw [gI H 3 rfl]; simp only [Option.bind_some]
    rw [ilt_f (by omega), i32_sub, xmabs_ok (by omega), H.c]; simp only [Option.bind_some]
    rw [chas H hV (by omega)]; simp only [Option.bind_some, L_1, L_m1004, i32_add]
    rw [show fit p (-1) ((i : Int) - p 93) = fitL p (-1) i from rfl, show ((i : Int) - p 93 + 1) = ((i + 1 : Nat) : Int) - p 93 by omega]
    cases hq : nrC p w i with
    | none =>
      rw [show nrV none = -1004 from rfl, if_pos rfl]
      cases fitL p (-1) i <;> rfl
    | some b =>
      have := hb b hq
      rw [show nrV (some b) = b from rfl, show nrD0 w (some b) = ((b - w).natAbs : Int) from rfl, ceq (by omega), if_neg (show ¬ b = -1004 by omega), cle (by omega)]
      cases fitL p (-1) i with
      | false =>
        simp only [if_neg Bool.false_ne_true]
        split <;> rfl
      | true =>
        simp only [if_true, nrS]
        by_cases q : (b - w).natAbs ≤ ((i : Int) - p 93 - w).natAbs
        · rw [if_pos (by omega), if_pos q]; rfl
        · rw [if_neg (by omega), if_neg q]; rfl) (by
    unfold fX0_nearestTo_B13 fX0_nearestTo_b13
    rw [gI H 3 rfl]; simp only [Option.bind_some]
    rw [ilt_t (by omega)]) 5000 (by omega)
  have e0 : xloop (fX0_nearestTo_B13 h 99 (i32 w)) 5000 (i32 (-1004), i32 0, i32 (-p 93)) = some (i32 (nrV (nrC p w (2 * p 93 + 1).toNat))) := by
    refine Eq.trans ?_ f
    show xloop _ 5000 (i32 (-1004), i32 0, i32 (-p 93)) = xloop _ 5000 (i32 (-1004), i32 0, i32 (((0 : Nat) : Int) - p 93))
    congr 4
    omega
  rw [e0]
  rfl
theorem cNear {h : XH} {p : Nat → Int} (H : NowAt h p) (hV : VP p) (hC : CaSh h) {w : Int} (hw : -2147483648 ≤ w ∧ w < 2147483648) : COp h (aNear p w) (fX8_nearest h 0 (i32 w)) := by
  unfold fX8_nearest aNear
  rw [L_m1000, L_1000, within_ok hw (by omega) (by omega)]; simp only [Option.bind_some, decide_eq_true_eq]
  by_cases q : -1000 ≤ w ∧ w ≤ 1000
  · rw [if_pos q, if_pos q, H.c, L_m1]; simp only [Option.bind_some]
    obtain ⟨h', e, s, C⟩ := cfind H hV hC (ex := -1) (by omega)
    rw [e]; simp only [Option.bind_some]
    rw [C.c]; simp only [Option.bind_some]
    rw [cnear C hV q]
    exact ⟨_, rfl, s⟩
  · rw [if_neg q, if_neg q]
    exact ⟨h, rfl, Sc.rf hC⟩
noncomputable def fnV (A : Nat → Nat → Int32) (m : Nat) : Int := (A 4 m).toInt
theorem FnAt.v {A : Nat → Nat → Int32} {p : Nat → Int} (hV : VP p) {ex : Int} (F : FnAt A p ex (2 * p 93 + 1).toNat) {m : Nat} (h : m < nc p ex) : A 4 m = i32 (fnV A m) ∧ -1000 ≤ fnV A m ∧ fnV A m ≤ 1000 := by
  have hl := hV.lim
  obtain ⟨n1, n2, n3⟩ := nth_ok (fitL p ex) (n := (2 * p 93 + 1).toNat) (m := m) h
  have e := F.at h
  have e2 : fnV A m = (nth (fitL p ex) (2 * p 93 + 1).toNat m : Int) - p 93 := by
    unfold fnV
    rw [e, i32_toInt (by omega)]
  exact ⟨by rw [e, e2], by omega, by omega⟩
theorem FnAt.j {A : Nat → Nat → Int32} {p : Nat → Int} (hV : VP p) {ex : Int} (F : FnAt A p ex (2 * p 93 + 1).toNat) {j : Nat} (hj : j < (2 * p 93 + 1).toNat) (hf : fitL p ex j = true) : fnV A (cnt (fitL p ex) j) = (j : Int) - p 93 := by
  have hl := hV.lim
  unfold fnV
  rw [F j hj hf, i32_toInt (by omega)]
theorem mNear {h0 h : XH} {A : Nat → Nat → Int32} {S : Nat → Int32} {Z : Int64} (M : MdAt h0 h A S Z) {p : Nat → Int} (G : PgAt A p) (hV : VP p) {w : Int} (hw : -2147483648 ≤ w ∧ w < 2147483648) : MOp h0 A S Z (aNear p w) (fX9_nearest h 102 (i32 w)) := by
  have hn := nc_le hV (-1)
  unfold fX9_nearest aNear
  rw [L_m1000, L_1000, in_ok hw (by omega) (by omega)]; simp only [Option.bind_some, decide_eq_true_eq]
  by_cases q : -1000 ≤ w ∧ w ≤ 1000
  · rw [if_pos q, if_pos q, M.c]; simp only [Option.bind_some]
    obtain ⟨h', A', S', e, M', K, c, F⟩ := finds_all M G hV
    rw [e]; simp only [Option.bind_some, L_0]
    let T : Nat → Option Int := itr (fun m x => nrS w (fnV A' m) x) none
    have hT : T (nc p (-1)) = nrC p w (2 * p 93 + 1).toNat := itr_sel (fitL p (-1)) (fun j x => nrS w ((j : Int) - p 93) x) (fun m x => nrS w (fnV A' m) x) none _ (fun j hj hf => by funext x; rw [F.j hV hj hf])
    have hTr : ∀ m, m ≤ nc p (-1) → (m = 0 ∧ T m = none) ∨ (1 ≤ m ∧ ∃ b, T m = some b ∧ -1000 ≤ b ∧ b ≤ 1000) := by
      intro m
      induction m with
      | zero => intro _; exact .inl ⟨rfl, rfl⟩
      | succ m ih =>
        intro hm
        have v := F.v hV (m := m) (by omega)
        right
        refine ⟨by omega, ?_⟩
        show ∃ b, nrS w (fnV A' m) (T m) = some b ∧ _
        rcases ih (by omega) with ⟨-, t⟩ | ⟨-, b, t, br⟩
        · rw [t]; exact ⟨_, rfl, v.2.1, v.2.2⟩
        · rw [t]; simp only [nrS]
          split
          · exact ⟨_, rfl, br⟩
          · exact ⟨_, rfl, v.2.1, v.2.2⟩
    have f := xl_run (fX9_nearest_B33 h' 102 (i32 w)) (fun m => (i32 (nrV (T m)), i32 (nrD0 w (T m)), i32 (m : Nat))) (nc p (-1)) (i32 (nrV (nrC p w (2 * p 93 + 1).toNat))) (fun m hm => by
      have v := F.v hV hm
      have nx : T (m + 1) = nrS w (fnV A' m) (T m) := rfl
      rw [nx]
      unfold fX9_nearest_B33 fX9_nearest_b33 fX9_nearest_J66 fX9_nearest_J71 fX9_nearest_J89
      rw [M'.i12, c]; simp only [Option.bind_some]
      rw [ile_f (by omega), M'.r11]; simp only [Option.bind_some]
      rw [M'.a4 (by omega), Int.toNat_natCast, v.1]; simp only [Option.bind_some]
      rw [apart_ok v.2 q]; simp only [Option.bind_some, L_0, L_1, i32_add, if_true, if_neg Bool.false_ne_true]
      rw [ceq (by omega)]
      rcases hTr m (by omega) with ⟨t0, t⟩ | ⟨t0, b, t, br⟩
      · rw [t, if_pos (by omega)]; rfl
      · rw [t, if_neg (by omega)]
        show (if i32 ((b - w).natAbs : Int) ≤ i32 ((fnV A' m - w).natAbs : Int) then _ else _) = _
        rw [cle (by omega)]
        simp only [nrS]
        by_cases q : (b - w).natAbs ≤ (fnV A' m - w).natAbs
        · rw [if_pos (by omega), if_pos q]; rfl
        · rw [if_neg (by omega), if_neg q]; rfl) (by
      unfold fX9_nearest_B33 fX9_nearest_b33
      rw [M'.i12, c]; simp only [Option.bind_some]
      rw [ile_t (by omega), hT]) 5000 (by omega)
    rw [L_m1004, show (i32 (-1004), i32 0, i32 0) = (i32 (nrV (T 0)), i32 (nrD0 w (T 0)), i32 ((0 : Nat) : Int)) from rfl, f]
    exact ⟨h', A', S', rfl, M', K⟩
  · rw [if_neg q, if_neg q]
    exact ⟨h, A, S, rfl, M, Kp.rf A S⟩
