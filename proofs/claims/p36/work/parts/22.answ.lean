/-! choosing and folding over what holds -/
def nth (P : Nat → Bool) : Nat → Nat → Nat
  | 0, _ => 0
  | n + 1, m => if P n = true ∧ cnt P n = m then n else nth P n m
theorem nth_ok (P : Nat → Bool) : ∀ {n m : Nat}, m < cnt P n → nth P n m < n ∧ P (nth P n m) = true ∧ cnt P (nth P n m) = m
  | 0, m, h => absurd h (by simp [cnt])
  | n + 1, m, h => by
    simp only [nth]
    by_cases q : P n = true ∧ cnt P n = m
    · rw [if_pos q]
      exact ⟨by omega, q.1, q.2⟩
    · rw [if_neg q]
      have h2 : m < cnt P n := by
        simp only [cnt] at h
        by_cases a : P n = true
        · rw [if_pos a] at h
          have : cnt P n ≠ m := fun z => q ⟨a, z⟩
          omega
        · rw [if_neg a] at h
          omega
      have := nth_ok P h2
      exact ⟨by omega, this.2⟩
theorem cnt_inj {P : Nat → Bool} {i j : Nat} (hi : P i = true) (hj : P j = true) (h : cnt P i = cnt P j) : i = j := by
  rcases Nat.lt_trichotomy i j with q | q | q
  · have a := cnt_mono P (show i + 1 ≤ j by omega)
    simp only [cnt, hi, if_true] at a
    omega
  · exact q
  · have a := cnt_mono P (show j + 1 ≤ i by omega)
    simp only [cnt, hj, if_true] at a
    omega
def itr {σ : Type} (g : Nat → σ → σ) (s : σ) : Nat → σ
  | 0 => s
  | n + 1 => g n (itr g s n)
theorem itr_sel {σ : Type} (P : Nat → Bool) (G F : Nat → σ → σ) (s : σ) : ∀ n, (∀ j, j < n → P j = true → F (cnt P j) = G j) → itr F s (cnt P n) = itr (fun j x => if P j = true then G j x else x) s n
  | 0, _ => rfl
  | n + 1, h => by
    have ih := itr_sel P G F s n (fun j hj => h j (by omega))
    simp only [cnt, itr]
    by_cases q : P n = true
    · rw [if_pos q, if_pos q, itr, ih, h n (by omega) q]
    · rw [if_neg q, if_neg q, Nat.add_zero, ih]
theorem itr_congr {σ : Type} {F G : Nat → σ → σ} (s : σ) : ∀ {n : Nat}, (∀ j, j < n → F j = G j) → itr F s n = itr G s n
  | 0, _ => rfl
  | n + 1, h => by simp only [itr, h n (by omega), itr_congr s (n := n) (fun j hj => h j (by omega))]
/-! answers -/
def COp (h : XH) (r : Int) (res : Option (Int32 × XH)) : Prop := ∃ h', res = some (i32 r, h') ∧ Sc h h'
theorem cCands {h : XH} {p : Nat → Int} (H : NowAt h p) (hV : VP p) (hC : CaSh h) : COp h (nc p (-1)) (fX8_candidates h 0) := by
  unfold fX8_candidates
  rw [H.c, L_m1]; simp only [Option.bind_some]
  obtain ⟨h', e, s, C⟩ := cfind H hV hC (ex := -1) (by omega)
  rw [e]; simp only [Option.bind_some]
  rw [C.c]; simp only [Option.bind_some]
  rw [cnumber C hV]
  exact ⟨_, rfl, s⟩
theorem nc_neg (p : Nat → Int) : nc p (-1004) = nc p (-1) := by
  have : fitL p (-1004) = fitL p (-1) := by funext i; exact fit_neg p _ (by omega)
  unfold nc
  rw [this]
theorem fitL_neg (p : Nat → Int) : fitL p (-1004) = fitL p (-1) := by funext i; exact fit_neg p _ (by omega)
/-- candidate -/
noncomputable def aCand (p : Nat → Int) (z : Int) : Int := if 0 ≤ z then (if z < nc p (-1) then (nth (fitL p (-1)) (2 * p 93 + 1).toNat z.toNat : Int) - p 93 else -1004) else -1001
theorem cord {h : XH} {p : Nat → Int} {ex : Int} (H : CaAt h p ex) (hV : VP p) {z : Int} (hz : 0 ≤ z ∧ z < 2147483648) : fX0_inOrder h 99 (i32 z) = some (i32 (if z < nc p ex then (nth (fitL p ex) (2 * p 93 + 1).toNat z.toNat : Int) - p 93 else -1004)) := by
  have hl := hV.lim
  have hn := nc_le hV ex
  unfold fX0_inOrder
  rw [gI H 3 rfl]; simp only [Option.bind_some, i32_neg, L_0]
  have st : ∀ i : Nat, i < (2 * p 93 + 1).toNat → fX0_inOrder_B8 h 99 (i32 z) (i32 (cnt (fitL p ex) i), i32 ((i : Int) - p 93)) = some (if fitL p ex i = true then (if (cnt (fitL p ex) i : Int) = z then .inr (.inl (i32 ((i : Int) - p 93))) else .inl (i32 (cnt (fitL p ex) i + 1 : Nat), i32 ((i + 1 : Nat) - p 93))) else .inl (i32 (cnt (fitL p ex) i), i32 ((i + 1 : Nat) - p 93))) := fun i hi => by
    have hc := cnt_le (fitL p ex) i
    unfold fX0_inOrder_B8 fX0_inOrder_b8
    rw [gI H 3 rfl]; simp only [Option.bind_some]
    rw [ilt_f (by omega), H.c]; simp only [Option.bind_some]
    rw [chas H hV (by omega)]; simp only [Option.bind_some, L_1, i32_add]
    rw [show fit p ex ((i : Int) - p 93) = fitL p ex i from rfl, ceq (by omega), show ((i : Int) - p 93 + 1) = ((i + 1 : Nat) : Int) - p 93 by omega]
    cases fitL p ex i
    · rfl
    · simp only [if_true]
      split <;> rfl
  have e0 : xloop (fX0_inOrder_B8 h 99 (i32 z)) 5000 (i32 0, i32 (-p 93)) = xloop (fX0_inOrder_B8 h 99 (i32 z)) 5000 (i32 (cnt (fitL p ex) 0), i32 (((0 : Nat) : Int) - p 93)) := by
    congr 3
    omega
  rw [e0]
  by_cases q : z < nc p ex
  · have q1 : z.toNat < cnt (fitL p ex) (2 * p 93 + 1).toNat := by unfold nc at q; omega
    obtain ⟨n1, n2, n3⟩ := nth_ok _ q1
    rw [if_pos q]
    have f := xl_run (fX0_inOrder_B8 h 99 (i32 z)) (fun i => (i32 (cnt (fitL p ex) i), i32 ((i : Int) - p 93))) (nth (fitL p ex) (2 * p 93 + 1).toNat z.toNat) (.inl (i32 ((nth (fitL p ex) (2 * p 93 + 1).toNat z.toNat : Int) - p 93))) (fun i hi => by
      rw [st i (by omega)]
      cases hf : fitL p ex i with
      | false => rw [if_neg Bool.false_ne_true]; simp only [cnt, hf, if_neg Bool.false_ne_true, Nat.add_zero]
      | true =>
        have ne : ¬ (cnt (fitL p ex) i : Int) = z := fun y => by
          have := cnt_inj hf n2 (by omega)
          omega
        rw [if_pos rfl, if_neg ne]; simp only [cnt, hf, if_true]) (by rw [st _ n1, if_pos n2, if_pos (by omega)]) 5000 (by omega)
    rw [f]
    rfl
  · rw [if_neg q]
    have f := xl_run (fX0_inOrder_B8 h 99 (i32 z)) (fun i => (i32 (cnt (fitL p ex) i), i32 ((i : Int) - p 93))) (2 * p 93 + 1).toNat (.inr ()) (fun i hi => by
      rw [st i (by omega)]
      cases hf : fitL p ex i with
      | false => rw [if_neg Bool.false_ne_true]; simp only [cnt, hf, if_neg Bool.false_ne_true, Nat.add_zero]
      | true =>
        have ne : ¬ (cnt (fitL p ex) i : Int) = z := fun y => by
          have a := cnt_mono (fitL p ex) (show i + 1 ≤ (2 * p 93 + 1).toNat by omega)
          simp only [cnt, hf, if_true] at a
          unfold nc at q
          omega
        rw [if_pos rfl, if_neg ne]; simp only [cnt, hf, if_true]) (by
      unfold fX0_inOrder_B8 fX0_inOrder_b8
      rw [gI H 3 rfl]; simp only [Option.bind_some]
      rw [ilt_t (by omega)]) 5000 (by omega)
    rw [f]
    rfl
theorem cCand {h : XH} {p : Nat → Int} (H : NowAt h p) (hV : VP p) (hC : CaSh h) {z : Int} (hz : -2147483648 ≤ z ∧ z < 2147483648) : COp h (aCand p z) (fX8_candidate h 0 (i32 z)) := by
  unfold fX8_candidate aCand
  rw [L_0, cle (by omega)]
  by_cases q : 0 ≤ z
  · rw [if_pos q, if_pos q, H.c, L_m1]; simp only [Option.bind_some]
    obtain ⟨h', e, s, C⟩ := cfind H hV hC (ex := -1) (by omega)
    rw [e]; simp only [Option.bind_some]
    rw [C.c]; simp only [Option.bind_some]
    rw [cord C hV (by omega)]
    exact ⟨_, rfl, s⟩
  · rw [if_neg q, if_neg q]
    exact ⟨h, rfl, Sc.rf hC⟩
theorem FnAt.at {A : Nat → Nat → Int32} {p : Nat → Int} {ex : Int} (F : FnAt A p ex (2 * p 93 + 1).toNat) {m : Nat} (h : m < nc p ex) : A 4 m = i32 ((nth (fitL p ex) (2 * p 93 + 1).toNat m : Int) - p 93) := by
  obtain ⟨n1, n2, n3⟩ := nth_ok (fitL p ex) (n := (2 * p 93 + 1).toNat) (m := m) h
  have := F _ n1 n2
  rw [n3] at this
  exact this
/-- odd -/
noncomputable def fst1 (p : Nat → Int) : Nat → Nat → Int
  | 0, _ => -1004
  | n + 1, k => if 0 < nc p k then (k : Int) else fst1 p n (k + 1)
noncomputable def aOdd (p : Nat → Int) : Int := if nc p (-1) = 0 then fst1 p (p 76).toNat 0 else -1002
theorem codd_lp {p : Nat → Int} (hV : VP p) : ∀ (n k f : Nat) (h : XH), (p 76).toNat = k + n → n < f → NowAt h p → CaSh h → ∃ h', Sc h h' ∧ xloop (fX8_odd_B13 0) f (h, i32 k) = some (if fst1 p n k < 0 then .inr h' else .inl (h', i32 (fst1 p n k)))
  | 0, k, f, h, hk, hf, H, C => by
    obtain ⟨f, rfl⟩ : ∃ g, f = g + 1 := ⟨f - 1, by omega⟩
    have hr := hV.rd
    refine ⟨h, Sc.rf C, ?_⟩
    rw [xloop]
    unfold fX8_odd_B13 fX8_odd_b13
    dsimp only
    rw [H.n]; simp only [Option.bind_some]
    rw [H.n2]; simp only [Option.bind_some]
    rw [H.rd.i2]; simp only [Option.bind_some]
    rw [ile_t (by omega)]
    rfl
  | n + 1, k, f, h, hk, hf, H, C => by
    obtain ⟨f, rfl⟩ : ∃ g, f = g + 1 := ⟨f - 1, by omega⟩
    have hr := hV.rd
    obtain ⟨h', e, s, C'⟩ := cfind H hV C (ex := k) (by omega)
    have hn := nc_le hV k
    have st : fX8_odd_B13 0 (h, i32 k) = some (if 0 < nc p k then .inr (.inl (h', i32 k)) else .inl (h', i32 (k + 1 : Nat))) := by
      unfold fX8_odd_B13 fX8_odd_b13
      dsimp only
      rw [H.n]; simp only [Option.bind_some]
      rw [H.n2]; simp only [Option.bind_some]
      rw [H.rd.i2]; simp only [Option.bind_some]
      rw [ile_f (by omega), H.c]; simp only [Option.bind_some]
      rw [e]; simp only [Option.bind_some]
      rw [C'.c]; simp only [Option.bind_some]
      rw [cnumber C' hV]; simp only [Option.bind_some, L_0, L_1, i32_add]
      rw [cle (by omega)]
      by_cases q : 0 < nc p k
      · rw [if_neg (by omega), if_pos q]
      · rw [if_pos (by omega), if_neg q]; rfl
    rw [xloop, st]
    by_cases q : 0 < nc p k
    · rw [if_pos q, show fst1 p (n + 1) k = k by simp only [fst1]; rw [if_pos q]]
      exact ⟨h', s, by rw [if_neg (by omega)]⟩
    · rw [if_neg q, show fst1 p (n + 1) k = fst1 p n (k + 1) by simp only [fst1]; rw [if_neg q]]
      obtain ⟨h2, s2, e2⟩ := codd_lp hV n (k + 1) f h' (by omega) (by omega) (H.scf s) s.2
      exact ⟨h2, s.tr s2, e2⟩
theorem fst1_rng (p : Nat → Int) : ∀ n k, fst1 p n k = -1004 ∨ ((k : Int) ≤ fst1 p n k ∧ fst1 p n k < k + n)
  | 0, _ => .inl rfl
  | n + 1, k => by
    simp only [fst1]
    split
    · right; omega
    · rcases fst1_rng p n (k + 1) with q | q
      · exact .inl q
      · right; omega
theorem cOdd {h : XH} {p : Nat → Int} (H : NowAt h p) (hV : VP p) (hC : CaSh h) : COp h (aOdd p) (fX8_odd h 0) := by
  have hn := nc_le hV (-1)
  have hr := hV.rd
  unfold fX8_odd aOdd
  rw [H.c]; simp only [Option.bind_some]
  obtain ⟨h', e, s⟩ := cCands H hV hC
  rw [e]; simp only [Option.bind_some, L_0]
  rw [cle (by omega)]
  by_cases q : nc p (-1) = 0
  · rw [if_pos q, if_pos (by omega)]
    obtain ⟨h2, s2, e2⟩ := codd_lp hV (p 76).toNat 0 5000 h' (by omega) (by omega) (H.scf s) s.2
    rw [show i32 0 = i32 ((0 : Nat) : Int) from rfl, e2]
    refine ⟨h2, ?_, s.tr s2⟩
    rcases fst1_rng p (p 76).toNat 0 with r | r
    · rw [r]; rfl
    · rw [if_neg (by omega)]; rfl
  · rw [if_neg q, if_neg (by omega)]
    exact ⟨h', rfl, s⟩
/-- reading -/
noncomputable def aRead (p : Nat → Int) (i w : Int) : Int := if 0 ≤ i ∧ i ≤ p 76 - 1 then (if 0 ≤ w ∧ w ≤ 2 then (if w = 0 then p (77 + 2 * i.toNat) else if w = 1 then p (78 + 2 * i.toNat) else nc p i) else -1001) else -1001
theorem cisrd {h : XH} {p : Nat → Int} (H : NowAt h p) (hV : VP p) {z : Int} (hz : -2147483648 ≤ z ∧ z < 2147483648) : fX8_isReading h 0 (i32 z) = some (decide (0 ≤ z ∧ z ≤ p 76 - 1)) := by
  have hr := hV.rd
  unfold fX8_isReading
  rw [H.n]; simp only [Option.bind_some]
  rw [H.n2]; simp only [Option.bind_some]
  rw [H.rd.i2]; simp only [Option.bind_some, L_0, L_1, i32_sub]
  rw [within_ok hz (by omega) (by omega)]
  rfl
theorem cRead {h : XH} {p : Nat → Int} (H : NowAt h p) (hV : VP p) (hC : CaSh h) {i w : Int} (hi : -2147483648 ≤ i ∧ i < 2147483648) (hw : -2147483648 ≤ w ∧ w < 2147483648) : COp h (aRead p i w) (fX8_reading h 0 (i32 i) (i32 w)) := by
  have hr := hV.rd
  unfold fX8_reading aRead
  rw [H.c]; simp only [Option.bind_some]
  rw [cisrd H hV hi]; simp only [Option.bind_some, decide_eq_true_eq]
  by_cases q : 0 ≤ i ∧ i ≤ p 76 - 1
  · rw [if_pos q, if_pos q, L_0, L_2, within_ok hw (by omega) (by omega)]; simp only [Option.bind_some, decide_eq_true_eq]
    by_cases q2 : 0 ≤ w ∧ w ≤ 2
    · rw [if_pos q2, if_pos q2, ceq (by omega), L_1, ceq (by omega), H.n]; simp only [Option.bind_some]
      rw [H.n2]; simp only [Option.bind_some]
      rw [H.rd.r0, H.rd.r1]; simp only [Option.bind_some]
      rw [H.rd.tk hV (by omega), H.rd.sp hV (by omega)]; simp only [Option.bind_some]
      obtain ⟨h', e, s, C⟩ := cfind H hV hC (ex := i) (by omega)
      rw [e]; simp only [Option.bind_some]
      rw [C.c]; simp only [Option.bind_some]
      rw [cnumber C hV]; simp only [Option.bind_some]
      split
      · exact ⟨h, rfl, Sc.rf hC⟩
      · split
        · exact ⟨h, rfl, Sc.rf hC⟩
        · exact ⟨h', rfl, s⟩
    · rw [if_neg q2, if_neg q2]
      exact ⟨h, rfl, Sc.rf hC⟩
  · rw [if_neg q, if_neg q]
    exact ⟨h, rfl, Sc.rf hC⟩
