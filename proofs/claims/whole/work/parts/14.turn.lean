/-! the turn -/
def spk (p : Nat → Int) (t : Nat) : Nat → Int
  | 0 => p 62
  | k + 1 => if p (64 + 2 * k) ≤ t then p (65 + 2 * k) else spk p t k
def spd (p : Nat → Int) (t : Nat) : Int := spk p t (p 63).toNat
def trn (p : Nat → Int) : Nat → Int
  | 0 => p 61
  | t + 1 => trn p t + spd p t
def cur (p : Nat → Int) (k : Nat) : Int := if k = 0 then p 62 else p (65 + 2 * (k - 1))
def tkt (p : Nat → Int) (k : Nat) : Nat := if k = 0 then 0 else (p (64 + 2 * (k - 1))).toNat
theorem spk_rng {p : Nat → Int} (hV : VP p) (t : Nat) : ∀ k : Nat, (k : Int) ≤ p 63 → -1000 ≤ spk p t k ∧ spk p t k ≤ 1000
  | 0, _ => hV.speed
  | k + 1, h => by
    have h1 := spk_rng hV t k (by omega)
    have h2 := (hV.cht k (by omega)).2
    simp only [spk]
    split <;> omega
theorem spd_rng {p : Nat → Int} (hV : VP p) (t : Nat) : -1000 ≤ spd p t ∧ spd p t ≤ 1000 := spk_rng hV t _ (by have := hV.ch; omega)
theorem trn_rng {p : Nat → Int} (hV : VP p) : ∀ t : Nat, -(1000 * (t : Int)) ≤ trn p t ∧ trn p t ≤ 59 + 1000 * (t : Int)
  | 0 => by have := hV.start; simp only [trn]; omega
  | t + 1 => by have := trn_rng hV t; have := spd_rng hV t; simp only [trn]; omega
theorem spk_skip {p : Nat → Int} {t k : Nat} : ∀ m, k ≤ m → (∀ j, k ≤ j → j < m → (t : Int) < p (64 + 2 * j)) → spk p t m = spk p t k
  | 0, h, _ => by have : k = 0 := by omega
                  rw [this]
  | m + 1, h, hj => by
    rcases Nat.lt_or_ge k (m + 1) with q | q
    · simp only [spk]
      rw [if_neg (by have := hj m (by omega) (by omega); omega)]
      exact spk_skip m (by omega) (fun j a b => hj j a (by omega))
    · have : k = m + 1 := by omega
      rw [this]
theorem spd_cur {p : Nat → Int} {t k : Nat} (hk : (k : Int) ≤ p 63) (h1 : k = 0 ∨ p (64 + 2 * (k - 1)) ≤ t) (h2 : ∀ j : Nat, k ≤ j → (j : Int) < p 63 → (t : Int) < p (64 + 2 * j)) : spd p t = cur p k := by
  unfold spd
  rw [spk_skip (k := k) _ (by omega) (fun j a b => h2 j a (by omega))]
  unfold cur
  rcases k with _ | k
  · rfl
  · rw [if_neg (by omega)]
    simp only [spk]
    rw [if_pos (by rcases h1 with q | q; omega; exact q)]
    rfl
theorem trn_seg {p : Nat → Int} {v : Int} {a : Nat} : ∀ d : Nat, (∀ u, a ≤ u → u < a + d → spd p u = v) → trn p (a + d) = trn p a + v * d
  | 0, _ => by simp
  | d + 1, h => by
    have := trn_seg d (fun u a b => h u a (by omega))
    show trn p (a + d) + spd p (a + d) = _
    rw [this, h (a + d) (by omega) (by omega)]
    rw [show ((d + 1 : Nat) : Int) = (d : Int) + 1 by omega, Int.mul_add]
    omega
theorem tkt_succ (p : Nat → Int) (k : Nat) : tkt p (k + 1) = (p (64 + 2 * k)).toNat := by simp [tkt]
theorem cur_succ (p : Nat → Int) (k : Nat) : cur p (k + 1) = p (65 + 2 * k) := by simp [cur]
/-- between two changes: the turn goes on with the speed that holds -/
theorem trn_cur {p : Nat → Int} (hV : VP p) {k t : Nat} (hk : (k : Int) ≤ p 63) (h1 : tkt p k ≤ t) (h2 : ∀ j : Nat, k ≤ j → (j : Int) < p 63 → (t : Int) ≤ p (64 + 2 * j)) : trn p t = trn p (tkt p k) + cur p k * ((t : Int) - tkt p k) := by
  have e : t = tkt p k + (t - tkt p k) := by omega
  have h := trn_seg (p := p) (v := cur p k) (a := tkt p k) (t - tkt p k) (fun u a b => by
    refine spd_cur hk ?_ (fun j c d => by have := h2 j c d; omega)
    rcases k with _ | k
    · exact Or.inl rfl
    · right
      rw [tkt_succ] at a
      show p (64 + 2 * k) ≤ u
      have := (hV.cht k (by omega)).1
      omega)
  rw [← e] at h
  rw [h]
  congr 2
  omega
theorem cturn_ok {h : XH} {w : Nat} {p : Nat → Int} (H : WhAt h w p) (hV : VP p) {t : Nat} (ht : t ≤ 1000) : fX6_turnAt h w (i32 t) = some (i32 (trn p t)) := by
  have hc := hV.ch
  obtain ⟨k, hk, hmin⟩ := pk_least (fun k => (p 63).toNat ≤ k ∨ (t : Int) ≤ p (64 + 2 * k)) ⟨_, Or.inl (Nat.le_refl _)⟩
  have hlt : ∀ i, i < k → (i : Int) < p 63 ∧ p (64 + 2 * i) < t := fun i hi => by
    have := hmin i hi
    omega
  have hkc : (k : Int) ≤ p 63 := by
    rcases k with _ | k
    · omega
    · have := (hlt k (by omega)).1
      omega
  have step : ∀ i, i < k → fX6_turnAt_B16 h w (i32 t) (i32 (trn p (tkt p i)), i32 (tkt p i), i32 (cur p i), i32 i) = some (.inl (i32 (trn p (tkt p (i + 1))), i32 (tkt p (i + 1)), i32 (cur p (i + 1)), i32 (i + 1 : Nat))) := by
    intro i hi
    obtain ⟨h1, h2⟩ := hlt i hi
    have ct := hV.cht i h1
    unfold fX6_turnAt_B16 fX6_turnAt_b16
    rw [H.i6]
    simp only [Option.bind_some]
    rw [ile_f (by omega), H.r1]
    simp only [Option.bind_some]
    rw [H.ctk hV (by omega)]
    simp only [Option.bind_some]
    rw [Int.toNat_natCast, ile_f (by omega), H.r2]
    simp only [Option.bind_some]
    rw [H.csp hV (by omega)]
    simp only [Option.bind_some, L_1, i32_add, i32_sub, i32_mul]
    rw [Int.toNat_natCast, tkt_succ, cur_succ]
    have e := trn_cur hV (k := i) (t := (p (64 + 2 * i)).toNat) (by omega) (by
      rcases i with _ | i
      · simp [tkt]
      · rw [tkt_succ]
        have := hV.srt i (i + 1) (by omega) (by omega)
        omega) (fun j a b => by
      rcases Nat.lt_or_ge i j with q | q
      · have := hV.srt i j q b
        omega
      · obtain rfl : i = j := by omega
        omega)
    rw [e]
    have e2 : (((p (64 + 2 * i)).toNat : Nat) : Int) = p (64 + 2 * i) := by omega
    rw [e2]
    rfl
  have hf := xl_run (fX6_turnAt_B16 h w (i32 t)) (fun i => (i32 (trn p (tkt p i)), i32 (tkt p i), i32 (cur p i), i32 i)) k (i32 (trn p (tkt p k)), i32 (tkt p k), i32 (cur p k)) step (by
    unfold fX6_turnAt_B16 fX6_turnAt_b16
    rw [H.i6]
    simp only [Option.bind_some]
    rcases Int.lt_or_le (k : Int) (p 63) with q | q
    · rw [ile_f (by omega), H.r1]
      simp only [Option.bind_some]
      rw [H.ctk hV (by omega)]
      simp only [Option.bind_some]
      have ct := hV.cht k q
      rw [Int.toNat_natCast, ile_t (by omega)]
    · rw [ile_t (by omega)]) 5000 (by omega)
  unfold fX6_turnAt
  rw [H.i4]
  simp only [Option.bind_some]
  rw [H.i5]
  simp only [Option.bind_some, L_0]
  have hf2 : xloop (fX6_turnAt_B16 h w (i32 t)) 5000 (i32 (p 61), i32 0, i32 (p 62), i32 0) = some (i32 (trn p (tkt p k)), i32 (tkt p k), i32 (cur p k)) := hf
  rw [hf2]
  simp only [Option.bind_some, i32_add, i32_sub, i32_mul]
  rw [← trn_cur hV hkc]
  · rcases k with _ | k
    · simp [tkt]
    · rw [tkt_succ]
      have := (hlt k (by omega)).2
      omega
  · intro j a b
    have hk2 : (k : Int) < p 63 := by omega
    have h3 : (t : Int) ≤ p (64 + 2 * k) := by omega
    rcases Nat.lt_or_ge k j with q | q
    · have := hV.srt k j q b
      omega
    · obtain rfl : k = j := by omega
      exact h3
/-! the model's turns -/
theorem aup_aup (A : Nat → Nat → Int32) (k : Nat) (f g : Nat → Int32) : aup (aup A k f) k g = aup A k g := by
  funext j
  by_cases q : j = k <;> simp [aup, q]
theorem PgAt.up {A : Nat → Nat → Int32} {p : Nat → Int} (G : PgAt A p) {k : Nat} (f : Nat → Int32) (hk : k ≠ 0) : PgAt (aup A k f) p := fun i hi => by rw [aup_n _ _ (Ne.symm hk)]; exact G i hi
theorem tickOf_ok {h0 h : XH} {A : Nat → Nat → Int32} {S : Nat → Int32} {Z : Int64} (M : MdAt h0 h A S Z) {p : Nat → Int} (G : PgAt A p) {k : Nat} (hk : k < 5) : fX9_tickOf h 102 (i32 k) = some (i32 (p (64 + 2 * k))) := by
  unfold fX9_tickOf
  rw [M.r0]
  simp only [Option.bind_some, L_64, L_2, i32_add, i32_mul]
  rw [M.pg G (by omega)]
  rw [show ((64 : Int) + 2 * (k : Int)).toNat = 64 + 2 * k by omega]
  rfl
def TnAt (A : Nat → Nat → Int32) (p : Nat → Int) (t : Nat) : Prop := ∀ j, j ≤ t → A 1 j = i32 (trn p j % p 0)
theorem lays_ok {h0 h : XH} {A : Nat → Nat → Int32} {S : Nat → Int32} {Z : Int64} (M : MdAt h0 h A S Z) {p : Nat → Int} (G : PgAt A p) (hV : VP p) : ∃ h' f, fX9_laysTurns h 102 = some h' ∧ MdAt h0 h' (aup A 1 f) (sup S 3 (i32 (msr p))) Z ∧ TnAt (aup A 1 f) p 1000 := by
  have hn := hV.n
  have hc := hV.ch
  have hs := hV.start
  unfold fX9_laysTurns
  rw [M.r0]
  simp only [Option.bind_some, L_62]
  rw [M.pg G (by omega), M.c]
  simp only [Option.bind_some]
  rw [mmsr_ok M G hV]
  simp only [Option.bind_some]
  obtain ⟨h1, e1, M1⟩ := M.p3 (i32 (msr p))
  rw [e1]
  simp only [Option.bind_some]
  rw [M1.r2, M1.r0]
  simp only [Option.bind_some, L_61]
  rw [M1.pg G (by omega), M1.c]
  simp only [Option.bind_some]
  rw [cells_ok M1 G]
  simp only [Option.bind_some]
  rw [modulo_ok (by show _ ∧ _; simp only [Int.reduceToNat]; omega) (by omega)]
  simp only [Option.bind_some, L_0]
  obtain ⟨h2, e2, M2⟩ := M1.s1 (i := 0) (i32 (p 61 % p 0)) (by omega)
  simp only [Int.reduceToNat] at e2 M2 ⊢
  rw [e2]
  simp only [Option.bind_some]
  obtain ⟨e, e3, h3, f, he, M3, T3⟩ := xl_inv (fX9_laysTurns_B40 102) (fun t s => ∃ (h' : XH) (f : Nat → Int32) (k : Nat), s = (h', i32 k, i32 (cur p k), i32 t) ∧ MdAt h0 h' (aup A 1 f) (sup S 3 (i32 (msr p))) Z ∧ TnAt (aup A 1 f) p t ∧ (k : Int) ≤ p 63 ∧ (∀ j : Nat, j < k → p (64 + 2 * j) < t) ∧ (∀ j : Nat, k ≤ j → (j : Int) < p 63 → (t : Int) ≤ p (64 + 2 * j))) 1000 (fun e => ∃ (h' : XH) (f : Nat → Int32), e = h' ∧ MdAt h0 h' (aup A 1 f) (sup S 3 (i32 (msr p))) Z ∧ TnAt (aup A 1 f) p 1000) (by
    rintro t s ht ⟨h', f, k, rfl, M', T', q1, q2, q3⟩
    have G' := G.up f (k := 1) (by omega)
    -- the step itself, once speed and place are known
    have body : ∀ k' : Nat, (k' : Int) ≤ p 63 → (∀ j : Nat, j < k' → p (64 + 2 * j) ≤ t) → (∀ j : Nat, k' ≤ j → (j : Int) < p 63 → (t : Int) < p (64 + 2 * j)) → ∃ s', fX9_laysTurns_J84 h' 102 (i32 k') (i32 (cur p k')) (i32 t) = some (.inl s') ∧ ∃ (h'' : XH) (f : Nat → Int32) (k : Nat), s' = (h'', i32 k, i32 (cur p k), i32 (t + 1 : Nat)) ∧ MdAt h0 h'' (aup A 1 f) (sup S 3 (i32 (msr p))) Z ∧ TnAt (aup A 1 f) p (t + 1) ∧ (k : Int) ≤ p 63 ∧ (∀ j : Nat, j < k → p (64 + 2 * j) < (t + 1 : Nat)) ∧ (∀ j : Nat, k ≤ j → (j : Int) < p 63 → ((t + 1 : Nat) : Int) ≤ p (64 + 2 * j)) := by
      intro k' a1 a2 a3
      have hsp : spd p t = cur p k' := spd_cur a1 (by
        rcases k' with _ | k'
        · exact Or.inl rfl
        · exact Or.inr (a2 k' (by omega))) a3
      have hr := spd_rng hV t
      have hm := Int.emod_nonneg (trn p t) (show p 0 ≠ 0 by omega)
      have hm2 := Int.emod_lt_of_pos (trn p t) (show 0 < p 0 by omega)
      unfold fX9_laysTurns_J84
      rw [M'.r2]
      simp only [Option.bind_some]
      rw [M'.a1 (by omega), M'.c]
      simp only [Option.bind_some]
      rw [cells_ok M' G', Int.toNat_natCast, T' t (Nat.le_refl _)]
      simp only [Option.bind_some, i32_add, L_1]
      rw [modulo_ok (by omega) (by omega)]
      simp only [Option.bind_some]
      obtain ⟨h'', e'', M''⟩ := M'.s1 (i := (t : Int) + 1) (i32 ((trn p t % p 0 + cur p k') % p 0)) (by omega)
      rw [e'']
      refine ⟨_, rfl, h'', _, k', rfl, by rw [aup_s, aup_aup] at M''; exact M'', ?_, a1, fun j hj => by have := a2 j hj; omega, fun j hj hj2 => by have := a3 j hj hj2; omega⟩
      intro j hj
      rw [aup_s]
      unfold upd
      split
      · rename_i z
        have z : j = t + 1 := by omega
        subst z
        congr 1
        show _ = (trn p t + spd p t) % p 0
        rw [hsp, Int.emod_add_emod]
      · have z : j ≤ t := by omega
        have := T' j z
        rw [aup_s] at this
        exact this
    unfold fX9_laysTurns_B40 fX9_laysTurns_b40
    simp only [L_1000]
    rw [ile_f (by omega), M'.r0]
    simp only [Option.bind_some, L_63]
    rw [M'.pg G' (by omega)]
    simp only [Option.bind_some, Int.reduceToNat]
    rcases Int.lt_or_le (k : Int) (p 63) with z | z
    · rw [ile_f (by omega), M'.c]
      simp only [Option.bind_some]
      rw [tickOf_ok M' G' (by omega)]
      simp only [Option.bind_some]
      have ct := hV.cht k z
      rcases Classical.em (p (64 + 2 * k) = t) with z2 | z2
      · rw [ieq_t z2]
        simp only [L_64, L_2, L_1, i32_mul, i32_add]
        rw [M'.pg G' (by omega)]
        simp only [Option.bind_some]
        rw [show ((64 : Int) + 2 * (k : Int) + 1).toNat = 65 + 2 * k by omega, ← cur_succ p k]
        exact body (k + 1) (by omega) (fun j hj => by
          rcases Nat.lt_or_ge j k with y | y
          · have := q2 j y; omega
          · obtain rfl : j = k := by omega
            omega) (fun j hj hj2 => by have := hV.srt k j (by omega) hj2; omega)
      · rw [ieq_f (by omega)]
        exact body k q1 (fun j hj => by have := q2 j hj; omega) (fun j hj hj2 => by
          rcases Nat.lt_or_ge k j with y | y
          · have := hV.srt k j y hj2
            have := q3 k (Nat.le_refl _) z
            omega
          · obtain rfl : k = j := by omega
            have := q3 k hj z
            omega)
    · rw [ile_t (by omega)]
      exact body k q1 (fun j hj => by have := q2 j hj; omega) (fun j hj hj2 => by omega)) (by
    rintro s ⟨h', f, k, rfl, M', T', -⟩
    refine ⟨h', ?_, h', f, rfl, M', T'⟩
    unfold fX9_laysTurns_B40 fX9_laysTurns_b40
    simp only [L_1000]
    exact ile_t (by omega)) (h2, i32 0, i32 (p 62), i32 0) ⟨h2, _, 0, rfl, M2, (by
      intro j hj
      have z : j = 0 := by omega
      subst z
      rw [aup_s]
      simp [upd, trn]), by omega, fun j hj => by omega, fun j hj hj2 => by have := (hV.cht j hj2).1; omega⟩ 5000 (by omega)
  subst he
  have e4 : xloop (fX9_laysTurns_B40 102) 5000 (h2, i32 0, i32 (p 62), i32 0) = some e := e3
  rw [e4]
  exact ⟨e, f, rfl, M3, T3⟩
