/-! the law's measure -/
theorem mk_at {h : XH} {p : Nat → Int} (M : MkAt h p) (V : VP p) {i : Int} (hi : 0 ≤ i ∧ i < p 0) : xaI h 102 0 (i32 i) = some (i32 (p (1 + i.toNat))) := by
  obtain ⟨f, A, Q⟩ := M
  have := V.n
  rw [gA A (by omega) (by omega), Q _ (by omega)]
def smb (p : Nat → Int) (n s : Nat) : Nat → Bool := fun k => decide (p (1 + (k + s) % n) = p (1 + k))
theorem lsame {h : XH} {p : Nat → Int} (M : MkAt h p) (V : VP p) {n s : Nat} (hn : p 0 = n) (hs : s ≤ n) : fL_isSame h 102 (i32 (n : Nat)) (i32 (s : Nat)) = some (allb (smb p n s) n) := by
  have b := V.n
  unfold fL_isSame
  have f := xl_run (fL_isSame_B5 h 102 (i32 (n : Nat)) (i32 (s : Nat))) (fun k => (allb (smb p n s) k, i32 (k : Nat))) n (allb (smb p n s) n) (fun k hk => by
    have hm : (k + s) % n < n := Nat.mod_lt _ (by omega)
    have m1 := V.mk k (by omega)
    have m2 := V.mk ((k + s) % n) (by omega)
    unfold fL_isSame_B5 fL_isSame_b5 fL_isSame_J34
    dsimp only
    have a1 : allb (smb p n s) (k + 1) = (allb (smb p n s) k && smb p n s k) := rfl
    rw [ile_f (by omega), a1]
    by_cases q : allb (smb p n s) k = true
    · rw [if_pos q, if_neg (by rw [L_0, i32_eq (by omega)]; omega), i32_add, i32_rem (by omega) (by omega), tmod_pos (by omega), show ((k : Int) + (s : Int)) % (n : Int) = (((k + s) % n : Nat) : Int) from rfl, obb (mk_at M V (by omega)), obb (mk_at M V (by omega)), Int.toNat_natCast, Int.toNat_natCast, ceq (by omega), q, L_1, i32_add]
      unfold smb
      by_cases z : p (1 + (k + s) % n) = p (1 + k)
      · rw [if_pos z, decide_eq_true z]; rfl
      · rw [if_neg z, decide_eq_false z]; rfl
    · rw [if_neg q, L_1, i32_add]
      simp only [Bool.not_eq_true] at q
      rw [q]
      rfl) (by
    unfold fL_isSame_B5 fL_isSame_b5
    dsimp only
    rw [ile_t (by omega)]) 5000 (by omega)
  have f2 : xloop (fL_isSame_B5 h 102 (i32 (n : Nat)) (i32 (s : Nat))) 5000 (true, (0 : Int32)) = some (allb (smb p n s) n) := f
  rw [obb f2]
theorem smb_cyc {p : Nat → Int} {n s : Nat} : allb (smb p n s) n = true ↔ cyc n (fun i => p (1 + i)) s := by
  rw [allb_iff]
  unfold smb cyc
  simp only [decide_eq_true_eq]
  exact ⟨fun a i hi => (a i hi).symm, fun a i hi => (a i hi).symm⟩
theorem lmeas {h : XH} {p : Nat → Int} (M : MkAt h p) (V : VP p) : fL_measure h 102 (i32 (p 0)) = some (i32 (msr p)) := by
  have b := V.n
  obtain ⟨n, hn⟩ : ∃ n : Nat, p 0 = n := ⟨(p 0).toNat, by omega⟩
  obtain ⟨m1, m2, m3, m4⟩ := msr_ok V
  rw [hn] at m2 m3 m4
  rw [Int.toNat_natCast] at m2 m3 m4
  unfold fL_measure
  have f := xl_run (fL_measure_B2 h 102 (i32 (p 0))) (fun k => i32 ((1 + k : Nat) : Int)) (msr p - 1) (i32 (msr p)) (fun k hk => by
    unfold fL_measure_B2 fL_measure_b2
    rw [hn, obb (lsame M V hn (by omega)), if_neg (fun q => m4 (1 + k) (by omega) (by omega) (smb_cyc.mp q)), L_1, i32_add]
    rfl) (by
    unfold fL_measure_B2 fL_measure_b2
    rw [hn, show 1 + (msr p - 1) = msr p by omega, obb (lsame M V hn (by omega)), if_pos (smb_cyc.mpr m3)]) 5000 (by omega)
  have f2 : xloop (fL_measure_B2 h 102 (i32 (p 0))) 5000 (1 : Int32) = some (i32 (msr p)) := f
  rw [obb f2]
/-! the law's turn -/
def mt (p : Nat → Int) (t k : Nat) : Nat := if (k : Int) ≤ p 63 then min (tkt p k) t else t
theorem lturn {h : XH} {p : Nat → Int} (V : VP p) (Ts : TsAt h p) {t : Nat} (ht : t ≤ 2000) : fL_turn h (i32 (p 61)) 103 104 (i32 (p 63 + 1)) (i32 (t : Nat)) (i32 (p 0)) = some (i32 (trn p t % p 0)) := by
  obtain ⟨f, g, A, B, Q⟩ := Ts
  have c := V.ch
  have n0 := V.n
  have tb : ∀ j : Nat, (j : Int) ≤ p 63 → tkt p j ≤ 1000 := fun j hj => by
    rcases j with _ | j
    · show 0 ≤ 1000
      omega
    · rw [tkt_succ]
      have := (V.cht j (by omega)).1
      omega
  unfold fL_turn
  have fl := xl_run (fL_turn_B6 h 103 104 (i32 (p 63 + 1)) (i32 (t : Nat)) (i32 (p 0))) (fun k => (i32 (trn p (mt p t k)), i32 (k : Nat))) (p 63 + 1).toNat (i32 (trn p t)) (fun k hk => by
    have hk2 : (k : Int) ≤ p 63 := by omega
    have g1 := xget A (i := k) (by omega) (by omega)
    have g2 := xget B (i := k) (by omega) (by omega)
    rw [(Q k hk2).1] at g1
    rw [(Q k hk2).2] at g2
    have b1 := tb k hk2
    -- the end of this speed's ticks
    have J : ∀ e : Nat, e = mt p t (k + 1) → fL_turn_J42 h 103 104 (i32 (p 63 + 1)) (i32 (t : Nat)) (i32 (p 0)) (i32 (trn p (mt p t k))) (i32 (k : Nat)) (i32 (e : Nat)) = some (.inl (i32 (trn p (mt p t (k + 1))), i32 ((k + 1 : Nat) : Int))) := by
      intro e he
      have e1 : e ≤ t := by
        rw [he]; unfold mt
        split
        · exact Nat.min_le_right _ _
        · exact Nat.le_refl _
      have e0 : mt p t k = min (tkt p k) t := if_pos hk2
      have e2 : (k : Int) < p 63 → e = min (tkt p (k + 1)) t ∧ tkt p k < tkt p (k + 1) := fun z => ⟨by rw [he]; exact if_pos (by omega), tkt_mono V (by omega) (by omega)⟩
      have e3 : ¬ (k : Int) < p 63 → e = t := fun z => by rw [he]; exact if_neg (by omega)
      unfold fL_turn_J42
      rw [obb g1, cle (by omega), L_1, i32_add, show ((k : Int) + 1) = ((k + 1 : Nat) : Int) from rfl, ← he]
      by_cases z : e ≤ tkt p k
      · have z2 : mt p t k = e := by
          rw [e0]
          by_cases y : (k : Int) < p 63
          · have := e2 y
            omega
          · have := e3 y
            omega
        rw [if_pos (by omega), L_0, i32_add, z2, Int.add_zero]
      · have z2 : mt p t k = tkt p k := by rw [e0]; omega
        rw [if_neg (by omega), obb g2, obb g1, i32_sub, i32_mul, i32_add, z2, ← trn_cur V hk2 (by omega) (fun j h1 h2 => by
          have y : (k : Int) < p 63 := by omega
          have y2 := e2 y
          rw [tkt_succ] at y2
          have y3 := (V.cht k y).1
          rcases Nat.lt_or_ge k j with y4 | y4
          · have := V.srt k j y4 h2
            omega
          · obtain rfl : k = j := by omega
            omega)]
    unfold fL_turn_B6 fL_turn_b6 fL_turn_J40
    dsimp only
    rw [ile_f (by omega), show i32 (k : Nat) + (1 : Int32) = i32 ((k + 1 : Nat) : Int) by rw [L_1, i32_add]; rfl, cle (by omega)]
    by_cases y : (k : Int) < p 63
    · have g3 := xget A (i := k + 1) (by omega) (by omega)
      rw [(Q (k + 1) (by omega)).1] at g3
      have b2 := tb (k + 1) (by omega)
      have e4 : mt p t (k + 1) = min (tkt p (k + 1)) t := if_pos (by omega)
      rw [if_neg (by omega), obb g3, cle (by omega)]
      by_cases z : t ≤ tkt p (k + 1)
      · rw [if_pos (by omega)]
        exact J t (by rw [e4]; omega)
      · rw [if_neg (by omega), obb g3]
        exact J _ (by rw [e4]; omega)
    · rw [if_pos (by omega)]
      exact J t (by unfold mt; rw [if_neg (by omega)])) (by
    unfold fL_turn_B6 fL_turn_b6
    dsimp only
    rw [ile_t (by omega)]
    have e : mt p t (p 63 + 1).toNat = t := if_neg (by omega)
    rw [e]) 5000 (by omega)
  have m0 : mt p t 0 = 0 := by
    unfold mt
    rw [if_pos (by omega)]
    show min 0 t = 0
    omega
  have f2 : xloop (fL_turn_B6 h 103 104 (i32 (p 63 + 1)) (i32 (t : Nat)) (i32 (p 0))) 5000 (i32 (p 61), (0 : Int32)) = some (i32 (trn p t)) := by
    rw [m0] at fl
    exact fl
  have r := trn_rng V t
  rw [obb f2, obb (lmod_ok (by omega) (by omega))]
