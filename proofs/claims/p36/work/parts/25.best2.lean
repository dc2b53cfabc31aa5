noncomputable def bp (p : Nat → Int) : Nat → Nat × Nat := itr (fun k b => if b.2 ≤ rst p ((k + 2 : Nat) : Int) then b else (k + 2, rst p ((k + 2 : Nat) : Int))) (1, rst p 1)
theorem bp_rng {p : Nat → Int} (hV : VP p) : ∀ k, (bp p k).1 ≤ k + 1 ∧ (bp p k).2 ≤ 2001
  | 0 => ⟨Nat.le_refl _, rst_le hV 1⟩
  | k + 1 => by
    have ih := bp_rng hV k
    have r := rst_le hV ((k + 2 : Nat) : Int)
    unfold bp at ih ⊢
    simp only [itr]
    split
    · omega
    · dsimp only; omega
noncomputable def aBest (p : Nat → Int) (per : Int) (w : Bool) : Int := if 1 ≤ per ∧ per ≤ 500 then (if nc p (-1) = 0 then -1004 else if w = true then (bp p (per - 1).toNat).2 else (bp p (per - 1).toNat).1) else -1001
theorem cBest {h : XH} {p : Nat → Int} (H : NowAt h p) (hV : VP p) (hC : CaSh h) {z : Int} (hz : -2147483648 ≤ z ∧ z < 2147483648) (w : Bool) : COp h (aBest p z w) (fX8_bestPeriod h 0 (i32 z) w) := by
  have hn := nc_le hV (-1)
  unfold fX8_bestPeriod aBest
  rw [L_m1, L_1, L_500, within_ok hz (by omega) (by omega)]; simp only [Option.bind_some, decide_eq_true_eq]
  by_cases q : 1 ≤ z ∧ z ≤ 500
  · rw [if_pos q, if_pos q, H.c]; simp only [Option.bind_some]
    obtain ⟨h', e, s, C⟩ := cfind H hV hC (ex := -1) (by omega)
    rw [e]; simp only [Option.bind_some]
    rw [C.c]; simp only [Option.bind_some]
    rw [cnumber C hV]; simp only [Option.bind_some, L_0]
    rw [ceq (by omega)]
    by_cases q0 : nc p (-1) = 0
    · rw [if_pos q0, if_pos (show ((nc p (-1) : Nat) : Int) = 0 by omega)]
      exact ⟨_, rfl, s⟩
    · rw [if_neg q0, if_neg (show ¬ ((nc p (-1) : Nat) : Int) = 0 by omega)]
      have s0 := s
      obtain ⟨-, _, _, _, fb, fc, -, c2, c3⟩ := s
      have H0 : CaH h' h' (caP p) fb fc := ⟨fun _ _ => rfl, C, c2, c3⟩
      obtain ⟨h1, f1, e1, H1, z1⟩ := ccbr hV H0
      rw [e1]; simp only [Option.bind_some]
      rw [H1.ca.c]; simp only [Option.bind_some]
      obtain ⟨h2, g2, e2, H2⟩ := crest hV H1 z1 (per := 1) (by omega)
      rw [e2]; simp only [Option.bind_some]
      obtain ⟨e, f, I, g, HE⟩ := xl_inv (fX8_bestPeriod_B49 (i32 z) w 99) (fun k s => s.2 = (i32 ((bp p k).1 : Nat), i32 ((bp p k).2 : Nat), i32 ((k + 2 : Nat) : Int)) ∧ ∃ g, CaH h' s.1 (caP p) f1 g) (z - 1).toNat (fun e => e.2 = (i32 ((bp p (z - 1).toNat).1 : Nat), i32 ((bp p (z - 1).toNat).2 : Nat)) ∧ ∃ g, CaH h' e.1 (caP p) f1 g) (fun k s hk I => by
        obtain ⟨h3, x⟩ := s
        obtain ⟨rfl, g3, H3⟩ := I
        dsimp only at H3
        obtain ⟨h4, g4, e4, H4⟩ := crest hV H3 z1 (per := ((k + 2 : Nat) : Int)) (by omega)
        have b := bp_rng hV k
        have r := rst_le hV ((k + 2 : Nat) : Int)
        have nx : bp p (k + 1) = if (bp p k).2 ≤ rst p ((k + 2 : Nat) : Int) then bp p k else (k + 2, rst p ((k + 2 : Nat) : Int)) := rfl
        unfold fX8_bestPeriod_B49 fX8_bestPeriod_b49
        dsimp only
        rw [ilt_f (by omega), H3.ca.c]; simp only [Option.bind_some]
        rw [e4]; simp only [Option.bind_some, L_1, i32_add]
        rw [cle (by omega), nx]
        by_cases qq : (bp p k).2 ≤ rst p ((k + 2 : Nat) : Int)
        · rw [if_pos (by omega), if_pos qq]
          exact ⟨_, rfl, rfl, g4, H4⟩
        · rw [if_neg (by omega), if_neg qq]
          exact ⟨_, rfl, rfl, g4, H4⟩) (fun s I => by
        obtain ⟨h3, x⟩ := s
        obtain ⟨rfl, g3, H3⟩ := I
        unfold fX8_bestPeriod_B49 fX8_bestPeriod_b49
        dsimp only
        rw [ilt_t (by omega)]
        exact ⟨_, rfl, rfl, g3, H3⟩) (h2, i32 1, i32 (rst p 1), i32 2) ⟨rfl, g2, H2⟩ 5000 (by omega)
      rw [show (2 : Int32) = i32 2 from L_2, f]; simp only [Option.bind_some]
      have sc : Sc h e.1 := s0.tr HE.sc
      rw [I]
      cases w
      · exact ⟨_, rfl, sc⟩
      · exact ⟨_, rfl, sc⟩
  · rw [if_neg q, if_neg q]
    exact ⟨h, rfl, Sc.rf hC⟩

/-! the model -/
noncomputable def rsM (p : Nat → Int) (V : Nat → Int) (per : Int) (m q : Nat) : Nat := cnt (fun j => decide ((V j * per) % (msr p : Int) = q)) m
