noncomputable def bp (p : Nat → Int) : Nat → Nat × Nat := itr (fun k b => if b.2 ≤ rst p ((k + 2 : Nat) : Int) then b else (k + 2, rst p ((k + 2 : Nat) : Int))) (1, rst p 1)
theorem bp_rng {p : Nat → Int} (hV : VP p) : ∀ k, (bp p k).1 ≤ k + 1 ∧ (bp p k).2 ≤ 2001
  | 0 => ⟨Nat.le_refl _, rst_le hV 1⟩
  | k + 1 => by
    have ih := bp_rng hV k
    have r := rst_le hV ((k + 2 : Nat) : Int)
    unfold bp at ih ⊢
    simp only [itr]
    split
    · omega
    · dsimp only; omega
noncomputable def aBest (p : Nat → Int) (per : Int) (w : Bool) : Int := if 1 ≤ per ∧ per ≤ 500 then (if nc p (-1) = 0 then -1004 else if w = true then (bp p (per - 1).toNat).2 else (bp p (per - 1).toNat).1) else -1001
theorem cBest {h : XH} {p : Nat → Int} (H : NowAt h p) (hV : VP p) (hC : CaSh h) {z : Int} (hz : -2147483648 ≤ z ∧ z < 2147483648) (w : Bool) : COp h (aBest p z w) (fX8_bestPeriod h 0 (i32 z) w) := by
  have hn := nc_le hV (-1)
  unfold fX8_bestPeriod aBest
  rw [L_m1, L_1, L_500, within_ok hz (by omega) (by omega)]; simp only [Option.bind_some, decide_eq_true_eq]
  by_cases q : 1 ≤ z ∧ z ≤ 500
  · rw [if_pos q, if_pos q, H.c]; simp only [Option.bind_some]
    obtain ⟨h', e, s, C⟩ := cfind H hV hC (ex := -1) (by omega)
    rw [e]; simp only [Option.bind_some]
    rw [C.c]; simp only [Option.bind_some]
    rw [cnumber C hV]; simp only [Option.bind_some, L_0]
    rw [ceq (by omega)]
    by_cases q0 : nc p (-1) = 0
    · rw [if_pos q0, if_pos (show ((nc p (-1) : Nat) : Int) = 0 by omega)]
      exact ⟨_, rfl, s⟩
    · rw [if_neg q0, if_neg (show ¬ ((nc p (-1) : Nat) : Int) = 0 by omega)]
      have s0 := s
      obtain ⟨-, _, _, _, fb, fc, -, c2, c3⟩ := s
      have H0 : CaH h' h' (caP p) fb fc := ⟨fun _ _ => rfl, C, c2, c3⟩
      obtain ⟨h1, f1, e1, H1, z1⟩ := ccbr hV H0
      rw [e1]; simp only [Option.bind_some]
      rw [H1.ca.c]; simp only [Option.bind_some]
      obtain ⟨h2, g2, e2, H2⟩ := crest hV H1 z1 (per := 1) (by omega)
      rw [e2]; simp only [Option.bind_some]
      obtain ⟨e, f, I, g, HE⟩ := xl_inv (fX8_bestPeriod_B49 (i32 z) w 99) (fun k s => s.2 = (i32 ((bp p k).1 : Nat), i32 ((bp p k).2 : Nat), i32 ((k + 2 : Nat) : Int)) ∧ ∃ g, CaH h' s.1 (caP p) f1 g) (z - 1).toNat (fun e => e.2 = (i32 ((bp p (z - 1).toNat).1 : Nat), i32 ((bp p (z - 1).toNat).2 : Nat)) ∧ ∃ g, CaH h' e.1 (caP p) f1 g) (fun k s hk I => by
        obtain ⟨h3, x⟩ := s
        obtain ⟨rfl, g3, H3⟩ := I
        dsimp only at H3
        obtain ⟨h4, g4, e4, H4⟩ := crest hV H3 z1 (per := ((k + 2 : Nat) : Int)) (by omega)
        have b := bp_rng hV k
        have r := rst_le hV ((k + 2 : Nat) : Int)
        have nx : bp p (k + 1) = if (bp p k).2 ≤ rst p ((k + 2 : Nat) : Int) then bp p k else (k + 2, rst p ((k + 2 : Nat) : Int)) := rfl
        unfold fX8_bestPeriod_B49 fX8_bestPeriod_b49
        dsimp only
        rw [ilt_f (by omega), H3.ca.c]; simp only [Option.bind_some]
        rw [e4]; simp only [Option.bind_some, L_1, i32_add]
        rw [cle (by omega), nx]
        by_cases qq : (bp p k).2 ≤ rst p ((k + 2 : Nat) : Int)
        · rw [if_pos (by omega), if_pos qq]
          exact ⟨_, rfl, rfl, g4, H4⟩
        · rw [if_neg (by omega), if_neg qq]
          exact ⟨_, rfl, rfl, g4, H4⟩) (fun s I => by
        obtain ⟨h3, x⟩ := s
        obtain ⟨rfl, g3, H3⟩ := I
        unfold fX8_bestPeriod_B49 fX8_bestPeriod_b49
        dsimp only
        rw [ilt_t (by omega)]
        exact ⟨_, rfl, rfl, g3, H3⟩) (h2, i32 1, i32 (rst p 1), i32 2) ⟨rfl, g2, H2⟩ 5000 (by omega)
      rw [show (2 : Int32) = i32 2 from L_2, f]; simp only [Option.bind_some]
      have sc : Sc h e.1 := s0.tr HE.sc
      rw [I]
      cases w
      · exact ⟨_, rfl, sc⟩
      · exact ⟨_, rfl, sc⟩
  · rw [if_neg q, if_neg q]
    exact ⟨h, rfl, Sc.rf hC⟩

/-! the model -/
noncomputable def rsM (p : Nat → Int) (V : Nat → Int) (per : Int) (m q : Nat) : Nat := cnt (fun j => decide ((V j * per) % (msr p : Int) = q)) m
theorem mrest {h0 h : XH} {A : Nat → Nat → Int32} {S : Nat → Int32} {Z : Int64} (M : MdAt h0 h A S Z) {p : Nat → Int} (hV : VP p) (c : S 12 = i32 (nc p (-1))) (F : FnAt A p (-1) (2 * p 93 + 1).toNat) {per : Int} (hp : 1 ≤ per ∧ per ≤ 500) : ∃ h' A' S', fX9_restOf h 102 (i32 per) (i32 (msr p)) = some (i32 (rst p per), h') ∧ MdAt h0 h' A' S' Z ∧ Kp A A' S S' ∧ S' 12 = S 12 ∧ A' 4 = A 4 := by
  have hm := msr_rng hV
  have hn := nc_le hV (-1)
  unfold fX9_restOf
  obtain ⟨h1, e1, A1, M1, K1, D1, z1⟩ := xl_inv (fX9_restOf_B5 102 (i32 per) (i32 (msr p)) (i32 0)) (fun i s => s.2 = i32 (i : Nat) ∧ ∃ A', MdAt h0 s.1 A' S Z ∧ Kp A A' S S ∧ A' 4 = A 4 ∧ ∀ q : Nat, q < i → A' 5 q = 0) (msr p) (fun h' => ∃ A', MdAt h0 h' A' S Z ∧ Kp A A' S S ∧ A' 4 = A 4 ∧ ∀ q : Nat, q < msr p → A' 5 q = 0) (fun i s hi I => by
    obtain ⟨h2, x⟩ := s
    obtain ⟨rfl, A2, M2, K2, D2, z2⟩ := I
    dsimp only at M2 ⊢
    unfold fX9_restOf_B5 fX9_restOf_b5
    dsimp only
    rw [ile_f (by omega), M2.r13]; simp only [Option.bind_some]
    obtain ⟨h3, e3, M3⟩ := M2.s5 (i := i) 0 (by omega)
    rw [L_0] at e3
    rw [L_0, e3]; simp only [Option.bind_some, L_1, i32_add]
    refine ⟨_, rfl, rfl, _, M3, K2.a 5 _ (by omega), ?_, ?_⟩
    · rw [aup_n _ _ (by omega)]; exact D2
    intro q hq
    rw [aup_s]
    simp only [upd, Int.toNat_natCast]
    split
    · rfl
    · exact z2 q (by omega)) (fun s I => by
    obtain ⟨h2, x⟩ := s
    obtain ⟨rfl, A2, M2, K2, D2, z2⟩ := I
    dsimp only at M2 ⊢
    unfold fX9_restOf_B5 fX9_restOf_b5
    dsimp only
    rw [ile_t (by omega)]
    exact ⟨_, rfl, A2, M2, K2, D2, z2⟩) (h, i32 (0 : Nat)) ⟨rfl, A, M, Kp.rf A S, rfl, fun q hq => absurd hq (by omega)⟩ 5000 (by omega)
  have e1' : xloop (fX9_restOf_B5 102 (i32 per) (i32 (msr p)) (i32 0)) 5000 (h, i32 0) = some h1 := e1
  rw [L_0, e1']; simp only [Option.bind_some]
  have V := fun m (hm : m < nc p (-1)) => F.v hV hm
  have key : mx (rsM p (fnV A) per (nc p (-1))) (msr p) = rst p per := by
    apply mx_congr
    intro q _
    exact cnt_sel (fitL p (-1)) (fun j => decide ((fnV A j * per) % (msr p : Int) = q)) (fun i => decide ((((i : Int) - p 93) * per) % (msr p : Int) = q)) _ (fun j hj hf => by rw [F.j hV hj hf])
  obtain ⟨e, e4, e5, A4, M4, K4, D4⟩ := xl_inv (fX9_restOf_B28 102 (i32 per) (i32 (msr p))) (fun m s => s.2.2 = i32 (m : Nat) ∧ s.2.1 = i32 (mx (rsM p (fnV A) per m) (msr p) : Nat) ∧ ∃ A', MdAt h0 s.1 A' S Z ∧ Kp A A' S S ∧ A' 4 = A 4 ∧ ∀ q : Nat, q < msr p → A' 5 q = i32 (rsM p (fnV A) per m q : Nat)) (nc p (-1)) (fun s => s.2 = i32 (rst p per) ∧ ∃ A', MdAt h0 s.1 A' S Z ∧ Kp A A' S S ∧ A' 4 = A 4) (fun m s hr I => by
    obtain ⟨h2, x, y⟩ := s
    obtain ⟨rfl, rfl, A2, M2, K2, D2, z2⟩ := I
    dsimp only at M2 ⊢
    have v := V m hr
    have mb := mulb (a := fnV A m) (b := per) (A := 1000) (B := 500) (by omega) (by omega)
    have md := s_mod hV (fnV A m * per)
    unfold fX9_restOf_B28 fX9_restOf_b28
    dsimp only
    rw [M2.i12, c]; simp only [Option.bind_some]
    rw [ile_f (by omega), M2.r11]; simp only [Option.bind_some]
    rw [M2.a4 (by omega), Int.toNat_natCast, D2, v.1]; simp only [Option.bind_some]
    rw [i32_mul, modulo_ok (by omega) (by omega), M2.r13]; simp only [Option.bind_some]
    rw [M2.a5 (by omega), z2 _ (by omega)]; simp only [Option.bind_some, L_1, i32_add]
    obtain ⟨h3, e3, M3⟩ := M2.s5 (i := (fnV A m * per) % (msr p : Int)) (i32 ((rsM p (fnV A) per m ((fnV A m * per) % (msr p : Int)).toNat : Nat) + 1)) (by omega)
    rw [e3]; simp only [Option.bind_some]
    rw [M3.r13]; simp only [Option.bind_some]
    rw [M3.a5 (by omega)]; simp only [Option.bind_some]
    have up : ∀ q : Nat, rsM p (fnV A) per (m + 1) q = rsM p (fnV A) per m q + (if q = ((fnV A m * per) % (msr p : Int)).toNat then 1 else 0) := fun q => by
      show rsM p (fnV A) per m q + (if decide ((fnV A m * per) % (msr p : Int) = q) = true then 1 else 0) = _
      by_cases e : q = ((fnV A m * per) % (msr p : Int)).toNat
      · rw [if_pos e, decide_eq_true (show (fnV A m * per) % (msr p : Int) = q by omega), if_pos rfl]
      · rw [if_neg e, decide_eq_false (show ¬ (fnV A m * per) % (msr p : Int) = q by omega), if_neg Bool.false_ne_true]
    have u0 := up ((fnV A m * per) % (msr p : Int)).toNat
    rw [if_pos rfl] at u0
    have bm : ∀ m q, rsM p (fnV A) per m q ≤ m := fun m q => cnt_le _ m
    have b1 : mx (rsM p (fnV A) per m) (msr p) ≤ 2001 := mx_le.mpr fun q _ => by have := bm m q; omega
    have b2 := bm (m + 1) ((fnV A m * per) % (msr p : Int)).toNat
    have ev : aup A2 5 (upd (A2 5) ((fnV A m * per) % (msr p : Int)).toNat (i32 ((rsM p (fnV A) per m ((fnV A m * per) % (msr p : Int)).toNat : Nat) + 1))) 5 ((fnV A m * per) % (msr p : Int)).toNat = i32 (rsM p (fnV A) per (m + 1) ((fnV A m * per) % (msr p : Int)).toNat : Nat) := by
      rw [aup_s]
      simp only [upd, if_true]
      rw [u0]
      congr 1
    have mu := mx_up (f := rsM p (fnV A) per m) (g := rsM p (fnV A) per (m + 1)) (n := msr p) (q0 := ((fnV A m * per) % (msr p : Int)).toNat) (by omega) (fun q _ => up q)
    have z3 : ∀ q : Nat, q < msr p → aup A2 5 (upd (A2 5) ((fnV A m * per) % (msr p : Int)).toNat (i32 ((rsM p (fnV A) per m ((fnV A m * per) % (msr p : Int)).toNat : Nat) + 1))) 5 q = i32 (rsM p (fnV A) per (m + 1) q : Nat) := by
      intro q hq
      by_cases e : q = ((fnV A m * per) % (msr p : Int)).toNat
      · subst e; exact ev
      · rw [aup_s, up q, if_neg e]
        simp only [upd, if_neg e]
        exact z2 q hq
    rw [ev, cle (by omega)]
    by_cases qq : ((rsM p (fnV A) per (m + 1) ((fnV A m * per) % (msr p : Int)).toNat : Nat) : Int) ≤ (mx (rsM p (fnV A) per m) (msr p) : Nat)
    · rw [if_pos qq]
      refine ⟨_, rfl, rfl, ?_, _, M3, K2.a 5 _ (by omega), ?_, z3⟩
      · dsimp only; rw [mu, Nat.max_eq_left (by omega)]
      · rw [aup_n _ _ (by omega)]; exact D2
    · rw [if_neg qq]
      refine ⟨_, rfl, rfl, ?_, _, M3, K2.a 5 _ (by omega), ?_, z3⟩
      · dsimp only; rw [mu, Nat.max_eq_right (by omega)]
      · rw [aup_n _ _ (by omega)]; exact D2) (fun s I => by
    obtain ⟨h2, x, y⟩ := s
    obtain ⟨rfl, rfl, A2, M2, K2, D2, z2⟩ := I
    dsimp only at M2 ⊢
    unfold fX9_restOf_B28 fX9_restOf_b28
    dsimp only
    rw [M2.i12, c]; simp only [Option.bind_some]
    rw [ile_t (by omega)]
    exact ⟨_, rfl, by dsimp only; rw [key], A2, M2, K2, D2⟩) (h1, i32 (0 : Nat), i32 (0 : Nat)) ⟨rfl, by dsimp only; rw [mx_0 (f := rsM p (fnV A) per 0) (fun q _ => rfl)], A1, M1, K1, D1, fun q hq => by rw [z1 q hq]; rfl⟩ 5000 (by omega)
  have e4' : xloop (fX9_restOf_B28 102 (i32 per) (i32 (msr p))) 5000 (h1, i32 0, i32 0) = some e := e4
  rw [e4']
  exact ⟨e.1, A4, S, by rw [← e5]; rfl, M4, K4, rfl, D4⟩
theorem mBest {h0 h : XH} {A : Nat → Nat → Int32} {S : Nat → Int32} {Z : Int64} (M : MdAt h0 h A S Z) {p : Nat → Int} (G : PgAt A p) (hV : VP p) {z : Int} (hz : -2147483648 ≤ z ∧ z < 2147483648) (w : Bool) : MOp h0 A S Z (aBest p z w) (fX9_bestPeriod h 102 (i32 z) w) := by
  have hn := nc_le hV (-1)
  have hm := msr_rng hV
  unfold fX9_bestPeriod aBest
  rw [L_1, L_500, in_ok hz (by omega) (by omega)]; simp only [Option.bind_some, decide_eq_true_eq]
  by_cases q : 1 ≤ z ∧ z ≤ 500
  · rw [if_pos q, if_pos q, M.c]; simp only [Option.bind_some]
    obtain ⟨h', A', S', e, M', K, c, F⟩ := finds_all M G hV
    rw [e]; simp only [Option.bind_some, L_0]
    rw [M'.i12, c]; simp only [Option.bind_some]
    rw [ceq (by omega)]
    by_cases q0 : nc p (-1) = 0
    · rw [if_pos q0, if_pos (show ((nc p (-1) : Nat) : Int) = 0 by omega)]
      exact ⟨h', A', S', rfl, M', K⟩
    · rw [if_neg q0, if_neg (show ¬ ((nc p (-1) : Nat) : Int) = 0 by omega), M'.c]; simp only [Option.bind_some]
      rw [mmsr_ok M' (G.kp K) hV]; simp only [Option.bind_some]
      obtain ⟨e, f, I, A2, S2, M2, K2⟩ := xl_inv (fX9_bestPeriod_B49 102 (i32 z) w (i32 (msr p))) (fun k s => s.2 = (if k = 0 then (i32 (-1004), i32 0, i32 1) else (i32 ((bp p (k - 1)).1 : Nat), i32 ((bp p (k - 1)).2 : Nat), i32 ((k + 1 : Nat) : Int))) ∧ ∃ A2 S2, MdAt h0 s.1 A2 S2 Z ∧ Kp A A2 S S2 ∧ S2 12 = S' 12 ∧ A2 4 = A' 4) z.toNat (fun e => e.2 = (i32 ((bp p (z - 1).toNat).1 : Nat), i32 ((bp p (z - 1).toNat).2 : Nat)) ∧ ∃ A2 S2, MdAt h0 e.1 A2 S2 Z ∧ Kp A A2 S S2) (fun k s hk I => by
        obtain ⟨h3, x⟩ := s
        obtain ⟨rfl, A3, S3, M3, K3, c3, d3⟩ := I
        dsimp only at M3
        obtain ⟨h4, A4, S4, e4, M4, K4, c4, d4⟩ := mrest M3 hV (c3.trans c) (by intro j hj hf; rw [d3]; exact F j hj hf) (per := ((k + 1 : Nat) : Int)) (by omega)
        unfold fX9_bestPeriod_B49 fX9_bestPeriod_b49 fX9_bestPeriod_J77 fX9_bestPeriod_J82 fX9_bestPeriod_J96
        by_cases k0 : k = 0
        · subst k0
          rw [if_pos rfl]
          dsimp only
          rw [ilt_f (by omega), M3.c]; simp only [Option.bind_some]
          rw [show i32 1 = i32 ((0 + 1 : Nat) : Int) from rfl, e4]; simp only [Option.bind_some, if_true, L_1, i32_add]
          rw [if_pos (show i32 ((0 + 1 : Nat) : Int) = i32 1 from rfl)]
          exact ⟨_, rfl, by rw [if_neg (by omega)]; rfl, A4, S4, M4, K3.tr K4, c4.trans c3, d4.trans d3⟩
        · rw [if_neg k0]
          obtain ⟨k, rfl⟩ : ∃ j, k = j + 1 := ⟨k - 1, by omega⟩
          have b := bp_rng hV k
          have r := rst_le hV ((k + 2 : Nat) : Int)
          have nx : bp p (k + 1) = if (bp p k).2 ≤ rst p ((k + 2 : Nat) : Int) then bp p k else (k + 2, rst p ((k + 2 : Nat) : Int)) := rfl
          dsimp only
          rw [ilt_f (by omega), M3.c]; simp only [Option.bind_some]
          rw [e4]; simp only [Option.bind_some, if_true, if_neg Bool.false_ne_true, L_1, i32_add, Nat.add_sub_cancel]
          rw [ieq_f (by omega)]
          rw [show ((k + 1 + 1 : Nat) : Int) = ((k + 2 : Nat) : Int) from rfl, cle (by omega)]
          by_cases qq : (bp p k).2 ≤ rst p ((k + 2 : Nat) : Int)
          · rw [if_pos (by omega)]
            exact ⟨_, rfl, by rw [if_neg (by omega)]; simp only [Nat.add_sub_cancel]; rw [nx, if_pos qq]; rfl, A4, S4, M4, K3.tr K4, c4.trans c3, d4.trans d3⟩
          · rw [if_neg (by omega)]
            exact ⟨_, rfl, by rw [if_neg (by omega)]; simp only [Nat.add_sub_cancel]; rw [nx, if_neg qq]; rfl, A4, S4, M4, K3.tr K4, c4.trans c3, d4.trans d3⟩) (fun s I => by
        obtain ⟨h3, x⟩ := s
        obtain ⟨rfl, A3, S3, M3, K3, c3, d3⟩ := I
        dsimp only at M3
        unfold fX9_bestPeriod_B49 fX9_bestPeriod_b49
        rw [if_neg (show ¬ z.toNat = 0 by omega)]
        dsimp only
        rw [ilt_t (by omega)]
        exact ⟨_, rfl, by rw [show z.toNat - 1 = (z - 1).toNat by omega], A3, S3, M3, K3⟩) (h', i32 (-1004), i32 0, i32 1) ⟨rfl, A', S', M', K, rfl, rfl⟩ 5000 (by omega)
      rw [show (-1004 : Int32) = i32 (-1004) from L_m1004, f]; simp only [Option.bind_some]
      rw [I]
      cases w
      · exact ⟨_, A2, S2, rfl, M2, K2⟩
      · exact ⟨_, A2, S2, rfl, M2, K2⟩
  · rw [if_neg q, if_neg q]
    exact ⟨h, A, S, rfl, M, Kp.rf A S⟩
