/-! the turn -/
def spk (p : Nat → Int) (t : Nat) : Nat → Int
  | 0 => p 62
  | k + 1 => if p (64 + 2 * k) ≤ t then p (65 + 2 * k) else spk p t k
def spd (p : Nat → Int) (t : Nat) : Int := spk p t (p 63).toNat
def trn (p : Nat → Int) : Nat → Int
  | 0 => p 61
  | t + 1 => trn p t + spd p t
def cur (p : Nat → Int) (k : Nat) : Int := if k = 0 then p 62 else p (65 + 2 * (k - 1))
def tkt (p : Nat → Int) (k : Nat) : Nat := if k = 0 then 0 else (p (64 + 2 * (k - 1))).toNat
theorem spk_rng {p : Nat → Int} (hV : VP p) (t : Nat) : ∀ k : Nat, (k : Int) ≤ p 63 → -1000 ≤ spk p t k ∧ spk p t k ≤ 1000
  | 0, _ => hV.speed
  | k + 1, h => by
    have h1 := spk_rng hV t k (by omega)
    have h2 := (hV.cht k (by omega)).2
    simp only [spk]
    split <;> omega
theorem spd_rng {p : Nat → Int} (hV : VP p) (t : Nat) : -1000 ≤ spd p t ∧ spd p t ≤ 1000 := spk_rng hV t _ (by have := hV.ch; omega)
theorem trn_rng {p : Nat → Int} (hV : VP p) : ∀ t : Nat, -(1000 * (t : Int)) ≤ trn p t ∧ trn p t ≤ 59 + 1000 * (t : Int)
  | 0 => by have := hV.start; simp only [trn]; omega
  | t + 1 => by have := trn_rng hV t; have := spd_rng hV t; simp only [trn]; omega
theorem spk_skip {p : Nat → Int} {t k : Nat} : ∀ m, k ≤ m → (∀ j, k ≤ j → j < m → (t : Int) < p (64 + 2 * j)) → spk p t m = spk p t k
  | 0, h, _ => by have : k = 0 := by omega
                  rw [this]
  | m + 1, h, hj => by
    rcases Nat.lt_or_ge k (m + 1) with q | q
    · simp only [spk]
      rw [if_neg (by have := hj m (by omega) (by omega); omega)]
      exact spk_skip m (by omega) (fun j a b => hj j a (by omega))
    · have : k = m + 1 := by omega
      rw [this]
theorem spd_cur {p : Nat → Int} {t k : Nat} (hk : (k : Int) ≤ p 63) (h1 : k = 0 ∨ p (64 + 2 * (k - 1)) ≤ t) (h2 : ∀ j : Nat, k ≤ j → (j : Int) < p 63 → (t : Int) < p (64 + 2 * j)) : spd p t = cur p k := by
  unfold spd
  rw [spk_skip (k := k) _ (by omega) (fun j a b => h2 j a (by omega))]
  unfold cur
  rcases k with _ | k
  · rfl
  · rw [if_neg (by omega)]
    simp only [spk]
    rw [if_pos (by rcases h1 with q | q; omega; exact q)]
    rfl
theorem trn_seg {p : Nat → Int} {v : Int} {a : Nat} : ∀ d : Nat, (∀ u, a ≤ u → u < a + d → spd p u = v) → trn p (a + d) = trn p a + v * d
  | 0, _ => by simp
  | d + 1, h => by
    have := trn_seg d (fun u a b => h u a (by omega))
    show trn p (a + d) + spd p (a + d) = _
    rw [this, h (a + d) (by omega) (by omega)]
    rw [show ((d + 1 : Nat) : Int) = (d : Int) + 1 by omega, Int.mul_add]
    omega
theorem tkt_succ (p : Nat → Int) (k : Nat) : tkt p (k + 1) = (p (64 + 2 * k)).toNat := by simp [tkt]
theorem cur_succ (p : Nat → Int) (k : Nat) : cur p (k + 1) = p (65 + 2 * k) := by simp [cur]
/-- between two changes: the turn goes on with the speed that holds -/
theorem trn_cur {p : Nat → Int} (hV : VP p) {k t : Nat} (hk : (k : Int) ≤ p 63) (h1 : tkt p k ≤ t) (h2 : ∀ j : Nat, k ≤ j → (j : Int) < p 63 → (t : Int) ≤ p (64 + 2 * j)) : trn p t = trn p (tkt p k) + cur p k * ((t : Int) - tkt p k) := by
  have e : t = tkt p k + (t - tkt p k) := by omega
  have h := trn_seg (p := p) (v := cur p k) (a := tkt p k) (t - tkt p k) (fun u a b => by
    refine spd_cur hk ?_ (fun j c d => by have := h2 j c d; omega)
    rcases k with _ | k
    · exact Or.inl rfl
    · right
      rw [tkt_succ] at a
      show p (64 + 2 * k) ≤ u
      have := (hV.cht k (by omega)).1
      omega)
  rw [← e] at h
  rw [h]
  congr 2
  omega
theorem cturn_ok {h : XH} {w : Nat} {p : Nat → Int} (H : WhAt h w p) (hV : VP p) {t : Nat} (ht : t ≤ 1000) : fX6_turnAt h w (i32 t) = some (i32 (trn p t)) := by
  have hc := hV.ch
  obtain ⟨k, hk, hmin⟩ := pk_least (fun k => (p 63).toNat ≤ k ∨ (t : Int) ≤ p (64 + 2 * k)) ⟨_, Or.inl (Nat.le_refl _)⟩
  have hlt : ∀ i, i < k → (i : Int) < p 63 ∧ p (64 + 2 * i) < t := fun i hi => by
    have := hmin i hi
    omega
  have hkc : (k : Int) ≤ p 63 := by
    rcases k with _ | k
    · omega
    · have := (hlt k (by omega)).1
      omega
  have step : ∀ i, i < k → fX6_turnAt_B16 h w (i32 t) (i32 (trn p (tkt p i)), i32 (tkt p i), i32 (cur p i), i32 i) = some (.inl (i32 (trn p (tkt p (i + 1))), i32 (tkt p (i + 1)), i32 (cur p (i + 1)), i32 (i + 1 : Nat))) := by
    intro i hi
    obtain ⟨h1, h2⟩ := hlt i hi
    have ct := hV.cht i h1
    unfold fX6_turnAt_B16 fX6_turnAt_b16
    rw [H.i6]
    simp only [Option.bind_some]
    rw [ile_f (by omega), H.r1]
    simp only [Option.bind_some]
    rw [H.ctk hV (by omega)]
    simp only [Option.bind_some]
    rw [Int.toNat_natCast, ile_f (by omega), H.r2]
    simp only [Option.bind_some]
    rw [H.csp hV (by omega)]
    simp only [Option.bind_some, L_1, i32_add, i32_sub, i32_mul]
    rw [Int.toNat_natCast, tkt_succ, cur_succ]
    have e := trn_cur hV (k := i) (t := (p (64 + 2 * i)).toNat) (by omega) (by
      rcases i with _ | i
      · simp [tkt]
      · rw [tkt_succ]
        have := hV.srt i (i + 1) (by omega) (by omega)
        omega) (fun j a b => by
      rcases Nat.lt_or_ge i j with q | q
      · have := hV.srt i j q b
        omega
      · obtain rfl : i = j := by omega
        omega)
    rw [e]
    have e2 : (((p (64 + 2 * i)).toNat : Nat) : Int) = p (64 + 2 * i) := by omega
    rw [e2]
    rfl
  have hf := xl_run (fX6_turnAt_B16 h w (i32 t)) (fun i => (i32 (trn p (tkt p i)), i32 (tkt p i), i32 (cur p i), i32 i)) k (i32 (trn p (tkt p k)), i32 (tkt p k), i32 (cur p k)) step (by
    unfold fX6_turnAt_B16 fX6_turnAt_b16
    rw [H.i6]
    simp only [Option.bind_some]
    rcases Int.lt_or_le (k : Int) (p 63) with q | q
    · rw [ile_f (by omega), H.r1]
      simp only [Option.bind_some]
      rw [H.ctk hV (by omega)]
      simp only [Option.bind_some]
      have ct := hV.cht k q
      rw [Int.toNat_natCast, ile_t (by omega)]
    · rw [ile_t (by omega)]) 5000 (by omega)
  unfold fX6_turnAt
  rw [H.i4]
  simp only [Option.bind_some]
  rw [H.i5]
  simp only [Option.bind_some, L_0]
  have hf2 : xloop (fX6_turnAt_B16 h w (i32 t)) 5000 (i32 (p 61), i32 0, i32 (p 62), i32 0) = some (i32 (trn p (tkt p k)), i32 (tkt p k), i32 (cur p k)) := hf
  rw [hf2]
  simp only [Option.bind_some, i32_add, i32_sub, i32_mul]
  rw [← trn_cur hV hkc]
  · rcases k with _ | k
    · simp [tkt]
    · rw [tkt_succ]
      have := (hlt k (by omega)).2
      omega
  · intro j a b
    have hk2 : (k : Int) < p 63 := by omega
    have h3 : (t : Int) ≤ p (64 + 2 * k) := by omega
    rcases Nat.lt_or_ge k j with q | q
    · have := hV.srt k j q b
      omega
    · obtain rfl : k = j := by omega
      exact h3
