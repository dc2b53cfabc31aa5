set_option maxHeartbeats 4000000 in
set_option maxRecDepth 100000 in
theorem wL_cell {l : Launch} {n sl : Nat} {h : XH} {x1 : Int32} {b N0 : Nat} {xs : Nat → Int32} {o : Int32} (hm : fL_cell N0 xs x1 = some o) : XMS l yL_cell cL_cell 2 (some .int) 0 0 b N0 xs [.retAddr b, .int x1] h n sl (some (.int o)) h n sl := by
  refine xm_ofS pnL [some (.retAddr b), some (.int x1)] 0 rfl (Nat.le_of_ble_eq_true rfl) ?_
  intro X hT C hS
  replace C : XOK X RL cL_cell 2 "cell" (some .int) 0 0 := C
  obtain ⟨-, hN, hX⟩ := hT
  unfold fL_cell at hm
  refine xw_iload_n (pc := 0) (i := 1) (x := x1) C dL_cell_0 rfl rfl ?_
  refine xw_aload_nS (pc := 1) (i := 0) (x := b) C dL_cell_1 rfl rfl ?_
  refine xw_salen (pc := 2) C dL_cell_2 hS ?_
  refine xw_icmp_ge (pc := 3) (tgt := 12) C dL_cell_3 (by decide) (fun q => ?_) (fun q => ?_)
  · replace hm := xif_t q hm
    refine xw_ldc (pc := 12) (v := 86028157) C dL_cell_12 cn_L_7 ?_
    refine xw_iload_n (pc := 14) (i := 1) (x := x1) C dL_cell_14 rfl rfl ?_
    refine xw_imul (pc := 15) C dL_cell_15 ?_
    refine xw_ldc (pc := 16) (v := 49979693) C dL_cell_16 cn_L_8 ?_
    refine xw_iadd (pc := 18) C dL_cell_18 ?_
    obtain rfl := Option.some.inj hm
    exact xw_ireturn (pc := 19) C dL_cell_19 rfl hX
  · replace hm := xif_f q hm
    refine xw_aload_nS (pc := 6) (i := 0) (x := b) C dL_cell_6 rfl rfl ?_
    refine xw_iload_n (pc := 7) (i := 1) (x := x1) C dL_cell_7 rfl rfl ?_
    obtain ⟨v1, q2, hm⟩ := xbind hm
    refine xw_siaload (pc := 8) C dL_cell_8 hS q2 ?_
    refine xw_goto (pc := 9) (tgt := 19) C dL_cell_9 (by decide) ?_
    obtain rfl := Option.some.inj hm
    exact xw_ireturn (pc := 19) C dL_cell_19 rfl hX
set_option maxHeartbeats 4000000 in
set_option maxRecDepth 100000 in
theorem wL_mod {l : Launch} {n sl : Nat} {h : XH} {x0 : Int32} {x1 : Int32} {o : Int32} (hm : fL_mod x0 x1 = some o) : XM l yL_mod cL_mod 2 (some .int) 0 0 [.int x0, .int x1] h n sl (some (.int o)) h n sl := by
  refine xm_of pnL [some (.int x0), some (.int x1)] 0 rfl (Nat.le_of_ble_eq_true rfl) ?_
  intro X hT C
  replace C : XOK X RL cL_mod 2 "mod" (some .int) 0 0 := C
  obtain ⟨-, hN, hX⟩ := hT
  unfold fL_mod at hm
  refine xw_iload_n (pc := 0) (i := 0) (x := x0) C dL_mod_0 rfl rfl ?_
  refine xw_iload_n (pc := 1) (i := 1) (x := x1) C dL_mod_1 rfl rfl ?_
  obtain ⟨q1, hm⟩ := xif_n hm
  refine xw_irem (pc := 2) C dL_mod_2 q1 ?_
  refine xw_iload_n (pc := 3) (i := 1) (x := x1) C dL_mod_3 rfl rfl ?_
  refine xw_iadd (pc := 4) C dL_mod_4 ?_
  refine xw_iload_n (pc := 5) (i := 1) (x := x1) C dL_mod_5 rfl rfl ?_
  obtain ⟨q2, hm⟩ := xif_n hm
  refine xw_irem (pc := 6) C dL_mod_6 q2 ?_
  obtain rfl := Option.some.inj hm
  exact xw_ireturn (pc := 7) C dL_mod_7 rfl hX
def fL_fits_P6 (X : XCtx) (x0 : Nat) (x1 : Int32) (x2 : Int32) (x3 : Int32) (n sl : Nat) (s : (XH × Bool × Int32)) : Prop := XW X 6 [some (.ref x0), some (.int x1), some (.int x2), some (.int x3), some (.int (xbi s.2.1)), some (.int s.2.2)] [] s.1 n sl
def fL_fits_E6 (X : XCtx) (x0 : Nat) (x1 : Int32) (x2 : Int32) (x3 : Int32) (n sl : Nat) (e : (XH × Bool)) : Prop := XW X 65 [none, none, none, none, some (.int (xbi e.2)), none] [] e.1 n sl
set_option maxHeartbeats 4000000 in
set_option maxRecDepth 100000 in
theorem fL_fits_J56_w {X : XCtx} (C : XOK X RL cL_fits 6 "fits" (some .boolean) 5 113) {n sl : Nat} (hN : XN X n sl)  {h : XH} {x0 : Nat} {x1 : Int32} {x2 : Int32} {x3 : Int32} {x5 : Int32} {o : (XH × Bool × Int32) ⊕ (XH × Bool)} (hm : fL_fits_J56 h x0 x1 x2 x3 x5 = some o) (hc : ∀ s', o = .inl s' → fL_fits_P6 X x0 x1 x2 x3 n sl s') (he : ∀ e', o = .inr e' → fL_fits_E6 X x0 x1 x2 x3 n sl e') : XW X 56 [some (.ref x0), some (.int x1), some (.int x2), some (.int x3), none, some (.int x5)] [] h n sl := by
  unfold fL_fits_J56 at hm
  refine xw_iconst (pc := 56) (v := 0) C dL_fits_56 xk_i_0 ?_
  refine xw_istore (pc := 57) (i := 4) (x := (0 : Int32)) (L' := [some (.ref x0), some (.int x1), some (.int x2), some (.int x3), some (.int (0 : Int32)), some (.int x5)]) C dL_fits_57 (Nat.le_of_ble_eq_true rfl) rfl ?_
  refine xw_iinc (pc := 59) (i := 5) (x := x5) (v := (x5 + (1 : Int32))) (L' := [some (.ref x0), some (.int x1), some (.int x2), some (.int x3), some (.int (0 : Int32)), some (.int (x5 + (1 : Int32)))]) C dL_fits_59 rfl (congrArg (HAdd.hAdd _) xk_i_1) (Nat.le_of_ble_eq_true rfl) rfl ?_
  refine xw_goto (pc := 62) (tgt := 6) C dL_fits_62 (by decide) ?_
  obtain rfl := Option.some.inj hm
  refine xw_sub (pc := 6) _ ?_ (hc _ rfl)
  exact ⟨Or.inr rfl, Or.inr rfl, Or.inr rfl, Or.inr rfl, Or.inr rfl, Or.inr rfl, trivial⟩
set_option maxHeartbeats 4000000 in
set_option maxRecDepth 100000 in
theorem fL_fits_J52_w {X : XCtx} (C : XOK X RL cL_fits 6 "fits" (some .boolean) 5 113) {n sl : Nat} (hN : XN X n sl)  {h : XH} {x0 : Nat} {x1 : Int32} {x2 : Int32} {x3 : Int32} {x5 : Int32} {o : (XH × Bool × Int32) ⊕ (XH × Bool)} (hm : fL_fits_J52 h x0 x1 x2 x3 x5 = some o) (hc : ∀ s', o = .inl s' → fL_fits_P6 X x0 x1 x2 x3 n sl s') (he : ∀ e', o = .inr e' → fL_fits_E6 X x0 x1 x2 x3 n sl e') : XW X 52 [some (.ref x0), some (.int x1), some (.int x2), some (.int x3), none, some (.int x5)] [] h n sl := by
  unfold fL_fits_J52 at hm
  refine xw_iconst (pc := 52) (v := 1) C dL_fits_52 xk_i_1 ?_
  refine xw_goto (pc := 53) (tgt := 57) C dL_fits_53 (by decide) ?_
  refine xw_istore (pc := 57) (i := 4) (x := (1 : Int32)) (L' := [some (.ref x0), some (.int x1), some (.int x2), some (.int x3), some (.int (1 : Int32)), some (.int x5)]) C dL_fits_57 (Nat.le_of_ble_eq_true rfl) rfl ?_
  refine xw_iinc (pc := 59) (i := 5) (x := x5) (v := (x5 + (1 : Int32))) (L' := [some (.ref x0), some (.int x1), some (.int x2), some (.int x3), some (.int (1 : Int32)), some (.int (x5 + (1 : Int32)))]) C dL_fits_59 rfl (congrArg (HAdd.hAdd _) xk_i_1) (Nat.le_of_ble_eq_true rfl) rfl ?_
  refine xw_goto (pc := 62) (tgt := 6) C dL_fits_62 (by decide) ?_
  obtain rfl := Option.some.inj hm
  refine xw_sub (pc := 6) _ ?_ (hc _ rfl)
  exact ⟨Or.inr rfl, Or.inr rfl, Or.inr rfl, Or.inr rfl, Or.inr rfl, Or.inr rfl, trivial⟩
set_option maxHeartbeats 4000000 in
set_option maxRecDepth 100000 in
theorem fL_fits_B6_w {X : XCtx} (C : XOK X RL cL_fits 6 "fits" (some .boolean) 5 113) {n sl : Nat} (hN : XN X n sl) {x0 : Nat} {x1 : Int32} {x2 : Int32} {x3 : Int32} (s : (XH × Bool × Int32)) (o : (XH × Bool × Int32) ⊕ (XH × Bool)) (hm : fL_fits_B6 x0 x1 x2 x3 s = some o) (hc : ∀ s', o = .inl s' → fL_fits_P6 X x0 x1 x2 x3 n sl s') (he : ∀ e', o = .inr e' → fL_fits_E6 X x0 x1 x2 x3 n sl e') : fL_fits_P6 X x0 x1 x2 x3 n sl s := by
  obtain ⟨h, x4, x5⟩ := s
  show XW X 6 [some (.ref x0), some (.int x1), some (.int x2), some (.int x3), some (.int (xbi x4)), some (.int x5)] [] h n sl
  replace hm : fL_fits_b6 x0 x1 x2 x3 h x4 x5 = some o := hm
  unfold fL_fits_b6 at hm
  refine xw_iload (pc := 6) (i := 5) (x := x5) C dL_fits_6 rfl ?_
  refine xw_aload_n (pc := 8) (i := 0) (x := x0) C dL_fits_8 rfl rfl ?_
  refine xw_bipush (pc := 9) (v := 9) C dL_fits_9 xk_b_9 ?_
  obtain ⟨_, q1, hm⟩ := xbind hm
  obtain ⟨v2, q3, hm⟩ := xbind hm
  refine xw_callV1 (pc := 11) (As := [.int (9 : Int32)]) (st := [.int x5]) C dL_fits_11 (wX8_count q3) dd_X8_count lk_L_33 dv_X8_count (xco_spec q1) rfl (Nat.le_of_ble_eq_true rfl) (Nat.le_of_ble_eq_true rfl) (Nat.le_of_ble_eq_true rfl) ⟨Nat.le_refl _, Nat.le_refl _⟩ hN ?_
  refine xw_icmp_ge (pc := 14) (tgt := 65) C dL_fits_14 (by decide) (fun q => ?_) (fun q => ?_)
  · replace hm := xif_t q hm
    obtain rfl := Option.some.inj hm
    refine xw_sub (pc := 65) _ ?_ (he _ rfl)
    exact ⟨Or.inl rfl, Or.inl rfl, Or.inl rfl, Or.inl rfl, Or.inr rfl, Or.inl rfl, trivial⟩
  · replace hm := xif_f q hm
    refine xw_iload (pc := 17) (i := 4) (x := (xbi x4)) C dL_fits_17 rfl ?_
    refine xw_if_eqZ (pc := 19) (b := x4) (tgt := 56) C dL_fits_19 (by decide) (fun q => ?_) (fun q => ?_)
    · replace hm := xif_f q hm
      exact xw_sub (pc := 56) [some (.ref x0), some (.int x1), some (.int x2), some (.int x3), none, some (.int x5)] ⟨Or.inr rfl, Or.inr rfl, Or.inr rfl, Or.inr rfl, Or.inl rfl, Or.inr rfl, trivial⟩ (fL_fits_J56_w C hN hm hc he)
    · replace hm := xif_t q hm
      refine xw_iload (pc := 22) (i := 5) (x := x5) C dL_fits_22 rfl ?_
      refine xw_iload_n (pc := 24) (i := 2) (x := x2) C dL_fits_24 rfl rfl ?_
      refine xw_icmp_eq (pc := 25) (tgt := 52) C dL_fits_25 (by decide) (fun q => ?_) (fun q => ?_)
      · replace hm := xif_t q hm
        exact xw_sub (pc := 52) [some (.ref x0), some (.int x1), some (.int x2), some (.int x3), none, some (.int x5)] ⟨Or.inr rfl, Or.inr rfl, Or.inr rfl, Or.inr rfl, Or.inl rfl, Or.inr rfl, trivial⟩ (fL_fits_J52_w C hN hm hc he)
      · replace hm := xif_f q hm
        refine xw_iload_n (pc := 28) (i := 1) (x := x1) C dL_fits_28 rfl rfl ?_
        refine xw_aload_n (pc := 29) (i := 0) (x := x0) C dL_fits_29 rfl rfl ?_
        refine xw_iload (pc := 30) (i := 5) (x := x5) C dL_fits_30 rfl ?_
        refine xw_iconst (pc := 32) (v := 0) C dL_fits_32 xk_i_0 ?_
        obtain ⟨_, q4, hm⟩ := xbind hm
        obtain ⟨v5, q6, hm⟩ := xbind hm
        refine xw_callV1 (pc := 33) (As := [.int x5, .int (0 : Int32)]) (st := [.int x1]) C dL_fits_33 (wX8_reading q6) dd_X8_reading lk_L_66 dv_X8_reading (xco_spec q4) rfl (Nat.le_of_ble_eq_true rfl) (Nat.le_of_ble_eq_true rfl) (Nat.le_of_ble_eq_true rfl) ⟨Nat.le_refl _, Nat.le_refl _⟩ hN ?_
        refine xw_imul (pc := 36) C dL_fits_36 ?_
        refine xw_aload_n (pc := 37) (i := 0) (x := x0) C dL_fits_37 rfl rfl ?_
        refine xw_iload (pc := 38) (i := 5) (x := x5) C dL_fits_38 rfl ?_
        refine xw_iconst (pc := 40) (v := 1) C dL_fits_40 xk_i_1 ?_
        obtain ⟨_, q7, hm⟩ := xbind hm
        obtain ⟨v8, q9, hm⟩ := xbind hm
        refine xw_callV1 (pc := 41) (As := [.int x5, .int (1 : Int32)]) (st := [.int (x1 * v5.1)]) C dL_fits_41 (wX8_reading q9) dd_X8_reading lk_L_66 dv_X8_reading (xco_spec q7) rfl (Nat.le_of_ble_eq_true rfl) (Nat.le_of_ble_eq_true rfl) (Nat.le_of_ble_eq_true rfl) ⟨Nat.le_refl _, Nat.le_refl _⟩ hN ?_
        refine xw_isub (pc := 44) C dL_fits_44 ?_
        refine xw_iload_n (pc := 45) (i := 3) (x := x3) C dL_fits_45 rfl rfl ?_
        obtain ⟨v10, q11, hm⟩ := xbind hm
        refine xw_callS1 (pc := 46) (As := [.int ((x1 * v5.1) - v8.1), .int x3]) (st := []) C dL_fits_46 (wL_mod q11) dd_L_mod lk_L_43 ds_L_mod rfl (Nat.le_of_ble_eq_true rfl) (Nat.le_of_ble_eq_true rfl) (Nat.le_of_ble_eq_true rfl) ⟨Nat.le_refl _, Nat.le_refl _⟩ hN ?_
        refine xw_if_ne (pc := 49) (tgt := 56) C dL_fits_49 (by decide) (fun q => ?_) (fun q => ?_)
        · replace hm := xif_f q hm
          exact xw_sub (pc := 56) [some (.ref x0), some (.int x1), some (.int x2), some (.int x3), none, some (.int x5)] ⟨Or.inr rfl, Or.inr rfl, Or.inr rfl, Or.inr rfl, Or.inl rfl, Or.inr rfl, trivial⟩ (fL_fits_J56_w C hN hm hc he)
        · replace hm := xif_t q hm
          exact xw_sub (pc := 52) [some (.ref x0), some (.int x1), some (.int x2), some (.int x3), none, some (.int x5)] ⟨Or.inr rfl, Or.inr rfl, Or.inr rfl, Or.inr rfl, Or.inl rfl, Or.inr rfl, trivial⟩ (fL_fits_J52_w C hN hm hc he)
set_option maxHeartbeats 4000000 in
set_option maxRecDepth 100000 in
theorem wL_fits {l : Launch} {n sl : Nat} {h : XH} {x0 : Nat} {x1 : Int32} {x2 : Int32} {x3 : Int32} {o : Bool × XH} (hm : fL_fits h x0 x1 x2 x3 = some o) : XM l yL_fits cL_fits 6 (some .boolean) 5 113 [.ref x0, .int x1, .int x2, .int x3] h n sl (some (.int (xbi o.1))) o.2 n sl := by
  refine xm_of pnL [some (.ref x0), some (.int x1), some (.int x2), some (.int x3), none, none] 2 rfl (Nat.le_of_ble_eq_true rfl) ?_
  intro X hT C
  replace C : XOK X RL cL_fits 6 "fits" (some .boolean) 5 113 := C
  obtain ⟨-, hN, hX⟩ := hT
  unfold fL_fits at hm
  refine xw_iconst (pc := 0) (v := 1) C dL_fits_0 xk_i_1 ?_
  refine xw_istore (pc := 1) (i := 4) (x := (1 : Int32)) (L' := [some (.ref x0), some (.int x1), some (.int x2), some (.int x3), some (.int (1 : Int32)), none]) C dL_fits_1 (Nat.le_of_ble_eq_true rfl) rfl ?_
  refine xw_iconst (pc := 3) (v := 0) C dL_fits_3 xk_i_0 ?_
  refine xw_istore (pc := 4) (i := 5) (x := (0 : Int32)) (L' := [some (.ref x0), some (.int x1), some (.int x2), some (.int x3), some (.int (1 : Int32)), some (.int (0 : Int32))]) C dL_fits_4 (Nat.le_of_ble_eq_true rfl) rfl ?_
  obtain ⟨e12, q13, hm⟩ := xbind hm
  refine xw_sub (pc := 6) [some (.ref x0), some (.int x1), some (.int x2), some (.int x3), some (.int (xbi true)), some (.int (0 : Int32))] ⟨Or.inr rfl, Or.inr rfl, Or.inr rfl, Or.inr rfl, Or.inr rfl, Or.inr rfl, trivial⟩ ?_
  refine xloop_walk (fL_fits_B6 x0 x1 x2 x3) (fL_fits_P6 X x0 x1 x2 x3 n sl) (fL_fits_E6 X x0 x1 x2 x3 n sl) (fun s' o' => fL_fits_B6_w C hN s' o') 5000 (h, true, (0 : Int32)) e12 q13 ?_
  show XW X 65 [none, none, none, none, some (.int (xbi e12.2)), none] [] e12.1 n sl
  refine xw_iload (pc := 65) (i := 4) (x := (xbi e12.2)) C dL_fits_65 rfl ?_
  obtain rfl := Option.some.inj hm
  exact xw_zreturn (pc := 67) (v := xbi e12.2) C dL_fits_67 rfl (xbi_nar _) hX
set_option maxHeartbeats 4000000 in
set_option maxRecDepth 100000 in
theorem wL_low {l : Launch} {n sl : Nat} {h : XH} {x0 : Int32} {x1 : Int32} {o : Int32} (hm : fL_low x0 x1 = some o) : XM l yL_low cL_low 2 (some .int) 0 0 [.int x0, .int x1] h n sl (some (.int o)) h n sl := by
  refine xm_of pnL [some (.int x0), some (.int x1)] 0 rfl (Nat.le_of_ble_eq_true rfl) ?_
  intro X hT C
  replace C : XOK X RL cL_low 2 "low" (some .int) 0 0 := C
  obtain ⟨-, hN, hX⟩ := hT
  unfold fL_low at hm
  refine xw_iload_n (pc := 0) (i := 0) (x := x0) C dL_low_0 rfl rfl ?_
  refine xw_ldc (pc := 1) (v := 2147483647) C dL_low_1 cn_L_9 ?_
  refine xw_iand (pc := 3) C dL_low_3 ?_
  refine xw_iload_n (pc := 4) (i := 1) (x := x1) C dL_low_4 rfl rfl ?_
  obtain ⟨q1, hm⟩ := xif_n hm
  refine xw_irem (pc := 5) C dL_low_5 q1 ?_
  obtain rfl := Option.some.inj hm
  exact xw_ireturn (pc := 6) C dL_low_6 rfl hX
def fL_step_P3 (X : XCtx) (h : XH) (x0 : Nat) (x1 : Int32) (x2 : Int32) (x3 : Int32) (n sl : Nat) (s : Int32) : Prop := XW X 3 [some (.ref x0), some (.int x1), some (.int x2), some (.int x3), some (.int s), none, none, none] [] h n sl
def fL_step_E3 (X : XCtx) (h : XH) (x0 : Nat) (x1 : Int32) (x2 : Int32) (x3 : Int32) (n sl : Nat) (e : ((Int32 × Int32) ⊕ Unit)) : Prop := match e with
  | .inl e => XW X 82 [none, none, none, none, some (.int e.1), some (.int e.2), none, none] [] h n sl
  | .inr e => XW X 100 [none, none, none, none, none, none, none, none] [] h n sl
def fL_step_P12 (X : XCtx) (h : XH) (x0 : Nat) (x1 : Int32) (x2 : Int32) (x3 : Int32) (x4 : Int32) (n sl : Nat) (s : Int32) : Prop := XW X 12 [some (.ref x0), some (.int x1), some (.int x2), some (.int x3), some (.int x4), some (.int s), none, none] [] h n sl
def fL_step_E12 (X : XCtx) (h : XH) (x0 : Nat) (x1 : Int32) (x2 : Int32) (x3 : Int32) (x4 : Int32) (n sl : Nat) (e : (Int32 ⊕ Unit)) : Prop := match e with
  | .inl e => XW X 82 [none, none, none, none, some (.int x4), some (.int e), none, none] [] h n sl
  | .inr e => XW X 94 [some (.ref x0), some (.int x1), some (.int x2), some (.int x3), some (.int x4), none, none, none] [] h n sl
def fL_step_P24 (X : XCtx) (h : XH) (x0 : Nat) (x1 : Int32) (x2 : Int32) (x3 : Int32) (x4 : Int32) (x5 : Int32) (n sl : Nat) (s : (Bool × Int32)) : Prop := XW X 24 [some (.ref x0), some (.int x1), some (.int x2), some (.int x3), some (.int x4), some (.int x5), some (.int (xbi s.1)), some (.int s.2)] [] h n sl
def fL_step_E24 (X : XCtx) (h : XH) (x0 : Nat) (x1 : Int32) (x2 : Int32) (x3 : Int32) (x4 : Int32) (x5 : Int32) (n sl : Nat) (e : Bool) : Prop := XW X 77 [some (.ref x0), some (.int x1), some (.int x2), some (.int x3), some (.int x4), some (.int x5), some (.int (xbi e)), none] [] h n sl
set_option maxHeartbeats 4000000 in
set_option maxRecDepth 100000 in
theorem fL_step_J68_w {X : XCtx} (C : XOK X RL cL_step 8 "step" (some .int) 1 21) {n sl : Nat} (hN : XN X n sl)  {h : XH} {x0 : Nat} {x1 : Int32} {x2 : Int32} {x3 : Int32} {x4 : Int32} {x5 : Int32} {x7 : Int32} {o : (Bool × Int32) ⊕ Bool} (hm : fL_step_J68 h x0 x1 x2 x3 x4 x5 x7 = some o) (hc : ∀ s', o = .inl s' → fL_step_P24 X h x0 x1 x2 x3 x4 x5 n sl s') (he : ∀ e', o = .inr e' → fL_step_E24 X h x0 x1 x2 x3 x4 x5 n sl e') : XW X 68 [some (.ref x0), some (.int x1), some (.int x2), some (.int x3), some (.int x4), some (.int x5), none, some (.int x7)] [] h n sl := by
  unfold fL_step_J68 at hm
  refine xw_iconst (pc := 68) (v := 0) C dL_step_68 xk_i_0 ?_
  refine xw_istore (pc := 69) (i := 6) (x := (0 : Int32)) (L' := [some (.ref x0), some (.int x1), some (.int x2), some (.int x3), some (.int x4), some (.int x5), some (.int (0 : Int32)), some (.int x7)]) C dL_step_69 (Nat.le_of_ble_eq_true rfl) rfl ?_
  refine xw_iinc (pc := 71) (i := 7) (x := x7) (v := (x7 + (1 : Int32))) (L' := [some (.ref x0), some (.int x1), some (.int x2), some (.int x3), some (.int x4), some (.int x5), some (.int (0 : Int32)), some (.int (x7 + (1 : Int32)))]) C dL_step_71 rfl (congrArg (HAdd.hAdd _) xk_i_1) (Nat.le_of_ble_eq_true rfl) rfl ?_
  refine xw_goto (pc := 74) (tgt := 24) C dL_step_74 (by decide) ?_
  obtain rfl := Option.some.inj hm
  refine xw_sub (pc := 24) _ ?_ (hc _ rfl)
  exact ⟨Or.inr rfl, Or.inr rfl, Or.inr rfl, Or.inr rfl, Or.inr rfl, Or.inr rfl, Or.inr rfl, Or.inr rfl, trivial⟩
set_option maxHeartbeats 4000000 in
set_option maxRecDepth 100000 in
theorem fL_step_B24_w {X : XCtx} (C : XOK X RL cL_step 8 "step" (some .int) 1 21) {n sl : Nat} (hN : XN X n sl) {h : XH} {x0 : Nat} {x1 : Int32} {x2 : Int32} {x3 : Int32} {x4 : Int32} {x5 : Int32} (s : (Bool × Int32)) (o : (Bool × Int32) ⊕ Bool) (hm : fL_step_B24 h x0 x1 x2 x3 x4 x5 s = some o) (hc : ∀ s', o = .inl s' → fL_step_P24 X h x0 x1 x2 x3 x4 x5 n sl s') (he : ∀ e', o = .inr e' → fL_step_E24 X h x0 x1 x2 x3 x4 x5 n sl e') : fL_step_P24 X h x0 x1 x2 x3 x4 x5 n sl s := by
  obtain ⟨x6, x7⟩ := s
  show XW X 24 [some (.ref x0), some (.int x1), some (.int x2), some (.int x3), some (.int x4), some (.int x5), some (.int (xbi x6)), some (.int x7)] [] h n sl
  replace hm : fL_step_b24 h x0 x1 x2 x3 x4 x5 x6 x7 = some o := hm
  unfold fL_step_b24 at hm
  refine xw_iload (pc := 24) (i := 7) (x := x7) C dL_step_24 rfl ?_
  refine xw_iload_n (pc := 26) (i := 1) (x := x1) C dL_step_26 rfl rfl ?_
  refine xw_icmp_ge (pc := 27) (tgt := 77) C dL_step_27 (by decide) (fun q => ?_) (fun q => ?_)
  · replace hm := xif_t q hm
    obtain rfl := Option.some.inj hm
    refine xw_sub (pc := 77) _ ?_ (he _ rfl)
    exact ⟨Or.inr rfl, Or.inr rfl, Or.inr rfl, Or.inr rfl, Or.inr rfl, Or.inr rfl, Or.inr rfl, Or.inl rfl, trivial⟩
  · replace hm := xif_f q hm
    refine xw_iload (pc := 30) (i := 6) (x := (xbi x6)) C dL_step_30 rfl ?_
    refine xw_if_eqZ (pc := 32) (b := x6) (tgt := 68) C dL_step_32 (by decide) (fun q => ?_) (fun q => ?_)
    · replace hm := xif_f q hm
      exact xw_sub (pc := 68) [some (.ref x0), some (.int x1), some (.int x2), some (.int x3), some (.int x4), some (.int x5), none, some (.int x7)] ⟨Or.inr rfl, Or.inr rfl, Or.inr rfl, Or.inr rfl, Or.inr rfl, Or.inr rfl, Or.inl rfl, Or.inr rfl, trivial⟩ (fL_step_J68_w C hN hm hc he)
    · replace hm := xif_t q hm
      refine xw_aload_n (pc := 35) (i := 0) (x := x0) C dL_step_35 rfl rfl ?_
      refine xw_iload (pc := 36) (i := 7) (x := x7) C dL_step_36 rfl ?_
      refine xw_iload (pc := 38) (i := 5) (x := x5) C dL_step_38 rfl ?_
      refine xw_iload (pc := 40) (i := 4) (x := x4) C dL_step_40 rfl ?_
      refine xw_imul (pc := 42) C dL_step_42 ?_
      refine xw_isub (pc := 43) C dL_step_43 ?_
      refine xw_iload_n (pc := 44) (i := 2) (x := x2) C dL_step_44 rfl rfl ?_
      refine xw_isub (pc := 45) C dL_step_45 ?_
      refine xw_iload_n (pc := 46) (i := 1) (x := x1) C dL_step_46 rfl rfl ?_
      obtain ⟨v1, q2, hm⟩ := xbind hm
      refine xw_callS1 (pc := 47) (As := [.int ((x7 - (x5 * x4)) - x2), .int x1]) (st := [.ref x0]) C dL_step_47 (wL_mod q2) dd_L_mod lk_L_43 ds_L_mod rfl (Nat.le_of_ble_eq_true rfl) (Nat.le_of_ble_eq_true rfl) (Nat.le_of_ble_eq_true rfl) ⟨Nat.le_refl _, Nat.le_refl _⟩ hN ?_
      obtain ⟨v3, q4, hm⟩ := xbind hm
      refine xw_iaload (pc := 50) C dL_step_50 q4 ?_
      refine xw_aload_n (pc := 51) (i := 0) (x := x0) C dL_step_51 rfl rfl ?_
      refine xw_iload (pc := 52) (i := 7) (x := x7) C dL_step_52 rfl ?_
      refine xw_iload_n (pc := 54) (i := 3) (x := x3) C dL_step_54 rfl rfl ?_
      refine xw_isub (pc := 55) C dL_step_55 ?_
      refine xw_iload_n (pc := 56) (i := 1) (x := x1) C dL_step_56 rfl rfl ?_
      obtain ⟨v5, q6, hm⟩ := xbind hm
      refine xw_callS1 (pc := 57) (As := [.int (x7 - x3), .int x1]) (st := [.ref x0, .int v3]) C dL_step_57 (wL_mod q6) dd_L_mod lk_L_43 ds_L_mod rfl (Nat.le_of_ble_eq_true rfl) (Nat.le_of_ble_eq_true rfl) (Nat.le_of_ble_eq_true rfl) ⟨Nat.le_refl _, Nat.le_refl _⟩ hN ?_
      obtain ⟨v7, q8, hm⟩ := xbind hm
      refine xw_iaload (pc := 60) C dL_step_60 q8 ?_
      refine xw_icmp_ne (pc := 61) (tgt := 68) C dL_step_61 (by decide) (fun q => ?_) (fun q => ?_)
      · replace hm := xif_f q hm
        exact xw_sub (pc := 68) [some (.ref x0), some (.int x1), some (.int x2), some (.int x3), some (.int x4), some (.int x5), none, some (.int x7)] ⟨Or.inr rfl, Or.inr rfl, Or.inr rfl, Or.inr rfl, Or.inr rfl, Or.inr rfl, Or.inl rfl, Or.inr rfl, trivial⟩ (fL_step_J68_w C hN hm hc he)
      · replace hm := xif_t q hm
        refine xw_iconst (pc := 64) (v := 1) C dL_step_64 xk_i_1 ?_
        refine xw_goto (pc := 65) (tgt := 69) C dL_step_65 (by decide) ?_
        refine xw_istore (pc := 69) (i := 6) (x := (1 : Int32)) (L' := [some (.ref x0), some (.int x1), some (.int x2), some (.int x3), some (.int x4), some (.int x5), some (.int (1 : Int32)), some (.int x7)]) C dL_step_69 (Nat.le_of_ble_eq_true rfl) rfl ?_
        refine xw_iinc (pc := 71) (i := 7) (x := x7) (v := (x7 + (1 : Int32))) (L' := [some (.ref x0), some (.int x1), some (.int x2), some (.int x3), some (.int x4), some (.int x5), some (.int (1 : Int32)), some (.int (x7 + (1 : Int32)))]) C dL_step_71 rfl (congrArg (HAdd.hAdd _) xk_i_1) (Nat.le_of_ble_eq_true rfl) rfl ?_
        refine xw_goto (pc := 74) (tgt := 24) C dL_step_74 (by decide) ?_
        obtain rfl := Option.some.inj hm
        refine xw_sub (pc := 24) _ ?_ (hc _ rfl)
        exact ⟨Or.inr rfl, Or.inr rfl, Or.inr rfl, Or.inr rfl, Or.inr rfl, Or.inr rfl, Or.inr rfl, Or.inr rfl, trivial⟩
set_option maxHeartbeats 4000000 in
set_option maxRecDepth 100000 in
theorem fL_step_B12_w {X : XCtx} (C : XOK X RL cL_step 8 "step" (some .int) 1 21) {n sl : Nat} (hN : XN X n sl) {h : XH} {x0 : Nat} {x1 : Int32} {x2 : Int32} {x3 : Int32} {x4 : Int32} (s : Int32) (o : Int32 ⊕ (Int32 ⊕ Unit)) (hm : fL_step_B12 h x0 x1 x2 x3 x4 s = some o) (hc : ∀ s', o = .inl s' → fL_step_P12 X h x0 x1 x2 x3 x4 n sl s') (he : ∀ e', o = .inr e' → fL_step_E12 X h x0 x1 x2 x3 x4 n sl e') : fL_step_P12 X h x0 x1 x2 x3 x4 n sl s := by
  revert s; intro x5 hm
  show XW X 12 [some (.ref x0), some (.int x1), some (.int x2), some (.int x3), some (.int x4), some (.int x5), none, none] [] h n sl
  replace hm : fL_step_b12 h x0 x1 x2 x3 x4 x5 = some o := hm
  unfold fL_step_b12 at hm
  refine xw_iload (pc := 12) (i := 5) (x := x5) C dL_step_12 rfl ?_
  refine xw_iconst (pc := 14) (v := -1) C dL_step_14 xk_i_m1 ?_
  refine xw_icmp_lt (pc := 15) (tgt := 94) C dL_step_15 (by decide) (fun q => ?_) (fun q => ?_)
  · replace hm := xif_t q hm
    obtain rfl := Option.some.inj hm
    refine xw_sub (pc := 94) _ ?_ (he _ rfl)
    exact ⟨Or.inr rfl, Or.inr rfl, Or.inr rfl, Or.inr rfl, Or.inr rfl, Or.inl rfl, Or.inl rfl, Or.inl rfl, trivial⟩
  · replace hm := xif_f q hm
    refine xw_iconst (pc := 18) (v := 1) C dL_step_18 xk_i_1 ?_
    refine xw_istore (pc := 19) (i := 6) (x := (1 : Int32)) (L' := [some (.ref x0), some (.int x1), some (.int x2), some (.int x3), some (.int x4), some (.int x5), some (.int (1 : Int32)), none]) C dL_step_19 (Nat.le_of_ble_eq_true rfl) rfl ?_
    refine xw_iconst (pc := 21) (v := 0) C dL_step_21 xk_i_0 ?_
    refine xw_istore (pc := 22) (i := 7) (x := (0 : Int32)) (L' := [some (.ref x0), some (.int x1), some (.int x2), some (.int x3), some (.int x4), some (.int x5), some (.int (1 : Int32)), some (.int (0 : Int32))]) C dL_step_22 (Nat.le_of_ble_eq_true rfl) rfl ?_
    obtain ⟨e9, q10, hm⟩ := xbind hm
    refine xw_sub (pc := 24) [some (.ref x0), some (.int x1), some (.int x2), some (.int x3), some (.int x4), some (.int x5), some (.int (xbi true)), some (.int (0 : Int32))] ⟨Or.inr rfl, Or.inr rfl, Or.inr rfl, Or.inr rfl, Or.inr rfl, Or.inr rfl, Or.inr rfl, Or.inr rfl, trivial⟩ ?_
    refine xloop_walk (fL_step_B24 h x0 x1 x2 x3 x4 x5) (fL_step_P24 X h x0 x1 x2 x3 x4 x5 n sl) (fL_step_E24 X h x0 x1 x2 x3 x4 x5 n sl) (fun s' o' => fL_step_B24_w C hN s' o') 5000 (true, (0 : Int32)) e9 q10 ?_
    show XW X 77 [some (.ref x0), some (.int x1), some (.int x2), some (.int x3), some (.int x4), some (.int x5), some (.int (xbi e9)), none] [] h n sl
    refine xw_iload (pc := 77) (i := 6) (x := (xbi e9)) C dL_step_77 rfl ?_
    refine xw_if_eqZ (pc := 79) (b := e9) (tgt := 88) C dL_step_79 (by decide) (fun q => ?_) (fun q => ?_)
    · replace hm := xif_f q hm
      refine xw_iinc (pc := 88) (i := 5) (x := x5) (v := (x5 + (-2 : Int32))) (L' := [some (.ref x0), some (.int x1), some (.int x2), some (.int x3), some (.int x4), some (.int (x5 + (-2 : Int32))), some (.int (xbi e9)), none]) C dL_step_88 rfl (congrArg (HAdd.hAdd _) xk_i_m2) (Nat.le_of_ble_eq_true rfl) rfl ?_
      refine xw_goto (pc := 91) (tgt := 12) C dL_step_91 (by decide) ?_
      obtain rfl := Option.some.inj hm
      refine xw_sub (pc := 12) _ ?_ (hc _ rfl)
      exact ⟨Or.inr rfl, Or.inr rfl, Or.inr rfl, Or.inr rfl, Or.inr rfl, Or.inr rfl, Or.inl rfl, Or.inl rfl, trivial⟩
    · replace hm := xif_t q hm
      obtain rfl := Option.some.inj hm
      refine xw_sub (pc := 82) _ ?_ (he _ rfl)
      exact ⟨Or.inl rfl, Or.inl rfl, Or.inl rfl, Or.inl rfl, Or.inr rfl, Or.inr rfl, Or.inl rfl, Or.inl rfl, trivial⟩
set_option maxHeartbeats 4000000 in
set_option maxRecDepth 100000 in
theorem fL_step_B3_w {X : XCtx} (C : XOK X RL cL_step 8 "step" (some .int) 1 21) {n sl : Nat} (hN : XN X n sl) {h : XH} {x0 : Nat} {x1 : Int32} {x2 : Int32} {x3 : Int32} (s : Int32) (o : Int32 ⊕ ((Int32 × Int32) ⊕ Unit)) (hm : fL_step_B3 h x0 x1 x2 x3 s = some o) (hc : ∀ s', o = .inl s' → fL_step_P3 X h x0 x1 x2 x3 n sl s') (he : ∀ e', o = .inr e' → fL_step_E3 X h x0 x1 x2 x3 n sl e') : fL_step_P3 X h x0 x1 x2 x3 n sl s := by
  revert s; intro x4 hm
  show XW X 3 [some (.ref x0), some (.int x1), some (.int x2), some (.int x3), some (.int x4), none, none, none] [] h n sl
  replace hm : fL_step_b3 h x0 x1 x2 x3 x4 = some o := hm
  unfold fL_step_b3 at hm
  refine xw_iload (pc := 3) (i := 4) (x := x4) C dL_step_3 rfl ?_
  refine xw_iload_n (pc := 5) (i := 1) (x := x1) C dL_step_5 rfl rfl ?_
  refine xw_icmp_gt (pc := 6) (tgt := 100) C dL_step_6 (by decide) (fun q => ?_) (fun q => ?_)
  · replace hm := xif_t q hm
    obtain rfl := Option.some.inj hm
    refine xw_sub (pc := 100) _ ?_ (he _ rfl)
    exact ⟨Or.inl rfl, Or.inl rfl, Or.inl rfl, Or.inl rfl, Or.inl rfl, Or.inl rfl, Or.inl rfl, Or.inl rfl, trivial⟩
  · replace hm := xif_f q hm
    refine xw_iconst (pc := 9) (v := 1) C dL_step_9 xk_i_1 ?_
    refine xw_istore (pc := 10) (i := 5) (x := (1 : Int32)) (L' := [some (.ref x0), some (.int x1), some (.int x2), some (.int x3), some (.int x4), some (.int (1 : Int32)), none, none]) C dL_step_10 (Nat.le_of_ble_eq_true rfl) rfl ?_
    obtain ⟨e11, q12, hm⟩ := xbind hm
    refine xw_sub (pc := 12) [some (.ref x0), some (.int x1), some (.int x2), some (.int x3), some (.int x4), some (.int (1 : Int32)), none, none] ⟨Or.inr rfl, Or.inr rfl, Or.inr rfl, Or.inr rfl, Or.inr rfl, Or.inr rfl, Or.inl rfl, Or.inl rfl, trivial⟩ ?_
    refine xloop_walk (fL_step_B12 h x0 x1 x2 x3 x4) (fL_step_P12 X h x0 x1 x2 x3 x4 n sl) (fL_step_E12 X h x0 x1 x2 x3 x4 n sl) (fun s' o' => fL_step_B12_w C hN s' o') 5000 (1 : Int32) e11 q12 ?_
    rcases e11 with e11 | e11
    · dsimp only at hm
      show XW X 82 [none, none, none, none, some (.int x4), some (.int e11), none, none] [] h n sl
      obtain rfl := Option.some.inj hm
      refine xw_sub (pc := 82) _ ?_ (he _ rfl)
      exact ⟨Or.inl rfl, Or.inl rfl, Or.inl rfl, Or.inl rfl, Or.inr rfl, Or.inr rfl, Or.inl rfl, Or.inl rfl, trivial⟩
    · dsimp only at hm
      show XW X 94 [some (.ref x0), some (.int x1), some (.int x2), some (.int x3), some (.int x4), none, none, none] [] h n sl
      refine xw_iinc (pc := 94) (i := 4) (x := x4) (v := (x4 + (1 : Int32))) (L' := [some (.ref x0), some (.int x1), some (.int x2), some (.int x3), some (.int (x4 + (1 : Int32))), none, none, none]) C dL_step_94 rfl (congrArg (HAdd.hAdd _) xk_i_1) (Nat.le_of_ble_eq_true rfl) rfl ?_
      refine xw_goto (pc := 97) (tgt := 3) C dL_step_97 (by decide) ?_
      obtain rfl := Option.some.inj hm
      refine xw_sub (pc := 3) _ ?_ (hc _ rfl)
      exact ⟨Or.inr rfl, Or.inr rfl, Or.inr rfl, Or.inr rfl, Or.inr rfl, Or.inl rfl, Or.inl rfl, Or.inl rfl, trivial⟩
set_option maxHeartbeats 4000000 in
set_option maxRecDepth 100000 in
theorem wL_step {l : Launch} {n sl : Nat} {h : XH} {x0 : Nat} {x1 : Int32} {x2 : Int32} {x3 : Int32} {o : Int32} (hm : fL_step h x0 x1 x2 x3 = some o) : XM l yL_step cL_step 8 (some .int) 1 21 [.ref x0, .int x1, .int x2, .int x3] h n sl (some (.int o)) h n sl := by
  refine xm_of pnL [some (.ref x0), some (.int x1), some (.int x2), some (.int x3), none, none, none, none] 4 rfl (Nat.le_of_ble_eq_true rfl) ?_
  intro X hT C
  replace C : XOK X RL cL_step 8 "step" (some .int) 1 21 := C
  obtain ⟨-, hN, hX⟩ := hT
  unfold fL_step at hm
  refine xw_iconst (pc := 0) (v := 0) C dL_step_0 xk_i_0 ?_
  refine xw_istore (pc := 1) (i := 4) (x := (0 : Int32)) (L' := [some (.ref x0), some (.int x1), some (.int x2), some (.int x3), some (.int (0 : Int32)), none, none, none]) C dL_step_1 (Nat.le_of_ble_eq_true rfl) rfl ?_
  obtain ⟨e13, q14, hm⟩ := xbind hm
  refine xw_sub (pc := 3) [some (.ref x0), some (.int x1), some (.int x2), some (.int x3), some (.int (0 : Int32)), none, none, none] ⟨Or.inr rfl, Or.inr rfl, Or.inr rfl, Or.inr rfl, Or.inr rfl, Or.inl rfl, Or.inl rfl, Or.inl rfl, trivial⟩ ?_
  refine xloop_walk (fL_step_B3 h x0 x1 x2 x3) (fL_step_P3 X h x0 x1 x2 x3 n sl) (fL_step_E3 X h x0 x1 x2 x3 n sl) (fun s' o' => fL_step_B3_w C hN s' o') 5000 (0 : Int32) e13 q14 ?_
  rcases e13 with e13 | e13
  · dsimp only at hm
    show XW X 82 [none, none, none, none, some (.int e13.1), some (.int e13.2), none, none] [] h n sl
    refine xw_iload (pc := 82) (i := 5) (x := e13.2) C dL_step_82 rfl ?_
    refine xw_iload (pc := 84) (i := 4) (x := e13.1) C dL_step_84 rfl ?_
    refine xw_imul (pc := 86) C dL_step_86 ?_
    obtain rfl := Option.some.inj hm
    exact xw_ireturn (pc := 87) C dL_step_87 rfl hX
  · dsimp only at hm
    show XW X 100 [none, none, none, none, none, none, none, none] [] h n sl
    refine xw_sipush (pc := 100) (v := 1000) C dL_step_100 xk_s_1000 ?_
    obtain rfl := Option.some.inj hm
    exact xw_ireturn (pc := 103) C dL_step_103 rfl hX
def fL_turn_P6 (X : XCtx) (h : XH) (x1 : Nat) (x2 : Nat) (x3 : Int32) (x4 : Int32) (x5 : Int32) (n sl : Nat) (s : (Int32 × Int32)) : Prop := XW X 6 [none, some (.ref x1), some (.ref x2), some (.int x3), some (.int x4), some (.int x5), some (.int s.1), some (.int s.2), none] [] h n sl
def fL_turn_E6 (X : XCtx) (h : XH) (x1 : Nat) (x2 : Nat) (x3 : Int32) (x4 : Int32) (x5 : Int32) (n sl : Nat) (e : Int32) : Prop := XW X 80 [none, none, none, none, none, some (.int x5), some (.int e), none, none] [] h n sl
set_option maxHeartbeats 4000000 in
set_option maxRecDepth 100000 in
theorem fL_turn_J42_w {X : XCtx} (C : XOK X RL cL_turn 9 "turn" (some .int) 1 21) {n sl : Nat} (hN : XN X n sl)  {h : XH} {x1 : Nat} {x2 : Nat} {x3 : Int32} {x4 : Int32} {x5 : Int32} {x6 : Int32} {x7 : Int32} {s0 : Int32} {o : (Int32 × Int32) ⊕ Int32} (hm : fL_turn_J42 h x1 x2 x3 x4 x5 x6 x7 s0 = some o) (hc : ∀ s', o = .inl s' → fL_turn_P6 X h x1 x2 x3 x4 x5 n sl s') (he : ∀ e', o = .inr e' → fL_turn_E6 X h x1 x2 x3 x4 x5 n sl e') : XW X 42 [none, some (.ref x1), some (.ref x2), some (.int x3), some (.int x4), some (.int x5), some (.int x6), some (.int x7), none] [.int s0] h n sl := by
  unfold fL_turn_J42 at hm
  refine xw_istore (pc := 42) (i := 8) (x := s0) (L' := [none, some (.ref x1), some (.ref x2), some (.int x3), some (.int x4), some (.int x5), some (.int x6), some (.int x7), some (.int s0)]) C dL_turn_42 (Nat.le_of_ble_eq_true rfl) rfl ?_
  refine xw_iload (pc := 44) (i := 6) (x := x6) C dL_turn_44 rfl ?_
  refine xw_iload (pc := 46) (i := 8) (x := s0) C dL_turn_46 rfl ?_
  refine xw_aload_n (pc := 48) (i := 1) (x := x1) C dL_turn_48 rfl rfl ?_
  refine xw_iload (pc := 49) (i := 7) (x := x7) C dL_turn_49 rfl ?_
  obtain ⟨v1, q2, hm⟩ := xbind hm
  refine xw_iaload (pc := 51) C dL_turn_51 q2 ?_
  refine xw_icmp_le (pc := 52) (tgt := 70) C dL_turn_52 (by decide) (fun q => ?_) (fun q => ?_)
  · replace hm := xif_t q hm
    refine xw_iconst (pc := 70) (v := 0) C dL_turn_70 xk_i_0 ?_
    refine xw_iadd (pc := 71) C dL_turn_71 ?_
    refine xw_istore (pc := 72) (i := 6) (x := (x6 + (0 : Int32))) (L' := [none, some (.ref x1), some (.ref x2), some (.int x3), some (.int x4), some (.int x5), some (.int (x6 + (0 : Int32))), some (.int x7), some (.int s0)]) C dL_turn_72 (Nat.le_of_ble_eq_true rfl) rfl ?_
    refine xw_iinc (pc := 74) (i := 7) (x := x7) (v := (x7 + (1 : Int32))) (L' := [none, some (.ref x1), some (.ref x2), some (.int x3), some (.int x4), some (.int x5), some (.int (x6 + (0 : Int32))), some (.int (x7 + (1 : Int32))), some (.int s0)]) C dL_turn_74 rfl (congrArg (HAdd.hAdd _) xk_i_1) (Nat.le_of_ble_eq_true rfl) rfl ?_
    refine xw_goto (pc := 77) (tgt := 6) C dL_turn_77 (by decide) ?_
    obtain rfl := Option.some.inj hm
    refine xw_sub (pc := 6) _ ?_ (hc _ rfl)
    exact ⟨Or.inl rfl, Or.inr rfl, Or.inr rfl, Or.inr rfl, Or.inr rfl, Or.inr rfl, Or.inr rfl, Or.inr rfl, Or.inl rfl, trivial⟩
  · replace hm := xif_f q hm
    refine xw_aload_n (pc := 55) (i := 2) (x := x2) C dL_turn_55 rfl rfl ?_
    refine xw_iload (pc := 56) (i := 7) (x := x7) C dL_turn_56 rfl ?_
    obtain ⟨v3, q4, hm⟩ := xbind hm
    refine xw_iaload (pc := 58) C dL_turn_58 q4 ?_
    refine xw_iload (pc := 59) (i := 8) (x := s0) C dL_turn_59 rfl ?_
    refine xw_aload_n (pc := 61) (i := 1) (x := x1) C dL_turn_61 rfl rfl ?_
    refine xw_iload (pc := 62) (i := 7) (x := x7) C dL_turn_62 rfl ?_
    obtain ⟨v5, q6, hm⟩ := xbind hm
    refine xw_iaload (pc := 64) C dL_turn_64 q6 ?_
    refine xw_isub (pc := 65) C dL_turn_65 ?_
    refine xw_imul (pc := 66) C dL_turn_66 ?_
    refine xw_goto (pc := 67) (tgt := 71) C dL_turn_67 (by decide) ?_
    refine xw_iadd (pc := 71) C dL_turn_71 ?_
    refine xw_istore (pc := 72) (i := 6) (x := (x6 + (v3 * (s0 - v5)))) (L' := [none, some (.ref x1), some (.ref x2), some (.int x3), some (.int x4), some (.int x5), some (.int (x6 + (v3 * (s0 - v5)))), some (.int x7), some (.int s0)]) C dL_turn_72 (Nat.le_of_ble_eq_true rfl) rfl ?_
    refine xw_iinc (pc := 74) (i := 7) (x := x7) (v := (x7 + (1 : Int32))) (L' := [none, some (.ref x1), some (.ref x2), some (.int x3), some (.int x4), some (.int x5), some (.int (x6 + (v3 * (s0 - v5)))), some (.int (x7 + (1 : Int32))), some (.int s0)]) C dL_turn_74 rfl (congrArg (HAdd.hAdd _) xk_i_1) (Nat.le_of_ble_eq_true rfl) rfl ?_
    refine xw_goto (pc := 77) (tgt := 6) C dL_turn_77 (by decide) ?_
    obtain rfl := Option.some.inj hm
    refine xw_sub (pc := 6) _ ?_ (hc _ rfl)
    exact ⟨Or.inl rfl, Or.inr rfl, Or.inr rfl, Or.inr rfl, Or.inr rfl, Or.inr rfl, Or.inr rfl, Or.inr rfl, Or.inl rfl, trivial⟩
set_option maxHeartbeats 4000000 in
set_option maxRecDepth 100000 in
theorem fL_turn_J40_w {X : XCtx} (C : XOK X RL cL_turn 9 "turn" (some .int) 1 21) {n sl : Nat} (hN : XN X n sl)  {h : XH} {x1 : Nat} {x2 : Nat} {x3 : Int32} {x4 : Int32} {x5 : Int32} {x6 : Int32} {x7 : Int32} {o : (Int32 × Int32) ⊕ Int32} (hm : fL_turn_J40 h x1 x2 x3 x4 x5 x6 x7 = some o) (hc : ∀ s', o = .inl s' → fL_turn_P6 X h x1 x2 x3 x4 x5 n sl s') (he : ∀ e', o = .inr e' → fL_turn_E6 X h x1 x2 x3 x4 x5 n sl e') : XW X 40 [none, some (.ref x1), some (.ref x2), some (.int x3), some (.int x4), some (.int x5), some (.int x6), some (.int x7), none] [] h n sl := by
  unfold fL_turn_J40 at hm
  refine xw_iload (pc := 40) (i := 4) (x := x4) C dL_turn_40 rfl ?_
  exact xw_sub (pc := 42) [none, some (.ref x1), some (.ref x2), some (.int x3), some (.int x4), some (.int x5), some (.int x6), some (.int x7), none] ⟨Or.inl rfl, Or.inr rfl, Or.inr rfl, Or.inr rfl, Or.inr rfl, Or.inr rfl, Or.inr rfl, Or.inr rfl, Or.inl rfl, trivial⟩ (fL_turn_J42_w C hN hm hc he)
set_option maxHeartbeats 4000000 in
set_option maxRecDepth 100000 in
theorem fL_turn_B6_w {X : XCtx} (C : XOK X RL cL_turn 9 "turn" (some .int) 1 21) {n sl : Nat} (hN : XN X n sl) {h : XH} {x1 : Nat} {x2 : Nat} {x3 : Int32} {x4 : Int32} {x5 : Int32} (s : (Int32 × Int32)) (o : (Int32 × Int32) ⊕ Int32) (hm : fL_turn_B6 h x1 x2 x3 x4 x5 s = some o) (hc : ∀ s', o = .inl s' → fL_turn_P6 X h x1 x2 x3 x4 x5 n sl s') (he : ∀ e', o = .inr e' → fL_turn_E6 X h x1 x2 x3 x4 x5 n sl e') : fL_turn_P6 X h x1 x2 x3 x4 x5 n sl s := by
  obtain ⟨x6, x7⟩ := s
  show XW X 6 [none, some (.ref x1), some (.ref x2), some (.int x3), some (.int x4), some (.int x5), some (.int x6), some (.int x7), none] [] h n sl
  replace hm : fL_turn_b6 h x1 x2 x3 x4 x5 x6 x7 = some o := hm
  unfold fL_turn_b6 at hm
  refine xw_iload (pc := 6) (i := 7) (x := x7) C dL_turn_6 rfl ?_
  refine xw_iload_n (pc := 8) (i := 3) (x := x3) C dL_turn_8 rfl rfl ?_
  refine xw_icmp_ge (pc := 9) (tgt := 80) C dL_turn_9 (by decide) (fun q => ?_) (fun q => ?_)
  · replace hm := xif_t q hm
    obtain rfl := Option.some.inj hm
    refine xw_sub (pc := 80) _ ?_ (he _ rfl)
    exact ⟨Or.inl rfl, Or.inl rfl, Or.inl rfl, Or.inl rfl, Or.inl rfl, Or.inr rfl, Or.inr rfl, Or.inl rfl, Or.inl rfl, trivial⟩
  · replace hm := xif_f q hm
    refine xw_iload (pc := 12) (i := 7) (x := x7) C dL_turn_12 rfl ?_
    refine xw_iconst (pc := 14) (v := 1) C dL_turn_14 xk_i_1 ?_
    refine xw_iadd (pc := 15) C dL_turn_15 ?_
    refine xw_iload_n (pc := 16) (i := 3) (x := x3) C dL_turn_16 rfl rfl ?_
    refine xw_icmp_ge (pc := 17) (tgt := 40) C dL_turn_17 (by decide) (fun q => ?_) (fun q => ?_)
    · replace hm := xif_t q hm
      exact xw_sub (pc := 40) [none, some (.ref x1), some (.ref x2), some (.int x3), some (.int x4), some (.int x5), some (.int x6), some (.int x7), none] ⟨Or.inl rfl, Or.inr rfl, Or.inr rfl, Or.inr rfl, Or.inr rfl, Or.inr rfl, Or.inr rfl, Or.inr rfl, Or.inl rfl, trivial⟩ (fL_turn_J40_w C hN hm hc he)
    · replace hm := xif_f q hm
      refine xw_aload_n (pc := 20) (i := 1) (x := x1) C dL_turn_20 rfl rfl ?_
      refine xw_iload (pc := 21) (i := 7) (x := x7) C dL_turn_21 rfl ?_
      refine xw_iconst (pc := 23) (v := 1) C dL_turn_23 xk_i_1 ?_
      refine xw_iadd (pc := 24) C dL_turn_24 ?_
      obtain ⟨v7, q8, hm⟩ := xbind hm
      refine xw_iaload (pc := 25) C dL_turn_25 q8 ?_
      refine xw_iload (pc := 26) (i := 4) (x := x4) C dL_turn_26 rfl ?_
      refine xw_icmp_ge (pc := 28) (tgt := 40) C dL_turn_28 (by decide) (fun q => ?_) (fun q => ?_)
      · replace hm := xif_t q hm
        exact xw_sub (pc := 40) [none, some (.ref x1), some (.ref x2), some (.int x3), some (.int x4), some (.int x5), some (.int x6), some (.int x7), none] ⟨Or.inl rfl, Or.inr rfl, Or.inr rfl, Or.inr rfl, Or.inr rfl, Or.inr rfl, Or.inr rfl, Or.inr rfl, Or.inl rfl, trivial⟩ (fL_turn_J40_w C hN hm hc he)
      · replace hm := xif_f q hm
        refine xw_aload_n (pc := 31) (i := 1) (x := x1) C dL_turn_31 rfl rfl ?_
        refine xw_iload (pc := 32) (i := 7) (x := x7) C dL_turn_32 rfl ?_
        refine xw_iconst (pc := 34) (v := 1) C dL_turn_34 xk_i_1 ?_
        refine xw_iadd (pc := 35) C dL_turn_35 ?_
        obtain ⟨v9, q10, hm⟩ := xbind hm
        refine xw_iaload (pc := 36) C dL_turn_36 q10 ?_
        refine xw_goto (pc := 37) (tgt := 42) C dL_turn_37 (by decide) ?_
        exact xw_sub (pc := 42) [none, some (.ref x1), some (.ref x2), some (.int x3), some (.int x4), some (.int x5), some (.int x6), some (.int x7), none] ⟨Or.inl rfl, Or.inr rfl, Or.inr rfl, Or.inr rfl, Or.inr rfl, Or.inr rfl, Or.inr rfl, Or.inr rfl, Or.inl rfl, trivial⟩ (fL_turn_J42_w C hN hm hc he)
set_option maxHeartbeats 4000000 in
set_option maxRecDepth 100000 in
theorem wL_turn {l : Launch} {n sl : Nat} {h : XH} {x0 : Int32} {x1 : Nat} {x2 : Nat} {x3 : Int32} {x4 : Int32} {x5 : Int32} {o : Int32} (hm : fL_turn h x0 x1 x2 x3 x4 x5 = some o) : XM l yL_turn cL_turn 9 (some .int) 1 21 [.int x0, .ref x1, .ref x2, .int x3, .int x4, .int x5] h n sl (some (.int o)) h n sl := by
  refine xm_of pnL [some (.int x0), some (.ref x1), some (.ref x2), some (.int x3), some (.int x4), some (.int x5), none, none, none] 3 rfl (Nat.le_of_ble_eq_true rfl) ?_
  intro X hT C
  replace C : XOK X RL cL_turn 9 "turn" (some .int) 1 21 := C
  obtain ⟨-, hN, hX⟩ := hT
  unfold fL_turn at hm
  refine xw_iload_n (pc := 0) (i := 0) (x := x0) C dL_turn_0 rfl rfl ?_
  refine xw_istore (pc := 1) (i := 6) (x := x0) (L' := [some (.int x0), some (.ref x1), some (.ref x2), some (.int x3), some (.int x4), some (.int x5), some (.int x0), none, none]) C dL_turn_1 (Nat.le_of_ble_eq_true rfl) rfl ?_
  refine xw_iconst (pc := 3) (v := 0) C dL_turn_3 xk_i_0 ?_
  refine xw_istore (pc := 4) (i := 7) (x := (0 : Int32)) (L' := [some (.int x0), some (.ref x1), some (.ref x2), some (.int x3), some (.int x4), some (.int x5), some (.int x0), some (.int (0 : Int32)), none]) C dL_turn_4 (Nat.le_of_ble_eq_true rfl) rfl ?_
  obtain ⟨e11, q12, hm⟩ := xbind hm
  refine xw_sub (pc := 6) [none, some (.ref x1), some (.ref x2), some (.int x3), some (.int x4), some (.int x5), some (.int x0), some (.int (0 : Int32)), none] ⟨Or.inl rfl, Or.inr rfl, Or.inr rfl, Or.inr rfl, Or.inr rfl, Or.inr rfl, Or.inr rfl, Or.inr rfl, Or.inl rfl, trivial⟩ ?_
  refine xloop_walk (fL_turn_B6 h x1 x2 x3 x4 x5) (fL_turn_P6 X h x1 x2 x3 x4 x5 n sl) (fL_turn_E6 X h x1 x2 x3 x4 x5 n sl) (fun s' o' => fL_turn_B6_w C hN s' o') 5000 (x0, (0 : Int32)) e11 q12 ?_
  show XW X 80 [none, none, none, none, none, some (.int x5), some (.int e11), none, none] [] h n sl
  refine xw_iload (pc := 80) (i := 6) (x := e11) C dL_turn_80 rfl ?_
  refine xw_iload (pc := 82) (i := 5) (x := x5) C dL_turn_82 rfl ?_
  obtain ⟨v13, q14, hm⟩ := xbind hm
  refine xw_callS1 (pc := 84) (As := [.int e11, .int x5]) (st := []) C dL_turn_84 (wL_mod q14) dd_L_mod lk_L_43 ds_L_mod rfl (Nat.le_of_ble_eq_true rfl) (Nat.le_of_ble_eq_true rfl) (Nat.le_of_ble_eq_true rfl) ⟨Nat.le_refl _, Nat.le_refl _⟩ hN ?_
  obtain rfl := Option.some.inj hm
  exact xw_ireturn (pc := 87) C dL_turn_87 rfl hX
def fL_isSame_P5 (X : XCtx) (h : XH) (x0 : Nat) (x1 : Int32) (x2 : Int32) (n sl : Nat) (s : (Bool × Int32)) : Prop := XW X 5 [some (.ref x0), some (.int x1), some (.int x2), some (.int (xbi s.1)), some (.int s.2)] [] h n sl
def fL_isSame_E5 (X : XCtx) (h : XH) (x0 : Nat) (x1 : Int32) (x2 : Int32) (n sl : Nat) (e : Bool) : Prop := XW X 42 [none, none, none, some (.int (xbi e)), none] [] h n sl
set_option maxHeartbeats 4000000 in
set_option maxRecDepth 100000 in
theorem fL_isSame_J34_w {X : XCtx} (C : XOK X RL cL_isSame 5 "isSame" (some .boolean) 0 0) {n sl : Nat} (hN : XN X n sl)  {h : XH} {x0 : Nat} {x1 : Int32} {x2 : Int32} {x4 : Int32} {o : (Bool × Int32) ⊕ Bool} (hm : fL_isSame_J34 h x0 x1 x2 x4 = some o) (hc : ∀ s', o = .inl s' → fL_isSame_P5 X h x0 x1 x2 n sl s') (he : ∀ e', o = .inr e' → fL_isSame_E5 X h x0 x1 x2 n sl e') : XW X 34 [some (.ref x0), some (.int x1), some (.int x2), none, some (.int x4)] [] h n sl := by
  unfold fL_isSame_J34 at hm
  refine xw_iconst (pc := 34) (v := 0) C dL_isSame_34 xk_i_0 ?_
  refine xw_istore_n (pc := 35) (i := 3) (x := (0 : Int32)) (L' := [some (.ref x0), some (.int x1), some (.int x2), some (.int (0 : Int32)), some (.int x4)]) C dL_isSame_35 rfl (Nat.le_of_ble_eq_true rfl) rfl ?_
  refine xw_iinc (pc := 36) (i := 4) (x := x4) (v := (x4 + (1 : Int32))) (L' := [some (.ref x0), some (.int x1), some (.int x2), some (.int (0 : Int32)), some (.int (x4 + (1 : Int32)))]) C dL_isSame_36 rfl (congrArg (HAdd.hAdd _) xk_i_1) (Nat.le_of_ble_eq_true rfl) rfl ?_
  refine xw_goto (pc := 39) (tgt := 5) C dL_isSame_39 (by decide) ?_
  obtain rfl := Option.some.inj hm
  refine xw_sub (pc := 5) _ ?_ (hc _ rfl)
  exact ⟨Or.inr rfl, Or.inr rfl, Or.inr rfl, Or.inr rfl, Or.inr rfl, trivial⟩
set_option maxHeartbeats 4000000 in
set_option maxRecDepth 100000 in
theorem fL_isSame_B5_w {X : XCtx} (C : XOK X RL cL_isSame 5 "isSame" (some .boolean) 0 0) {n sl : Nat} (hN : XN X n sl) {h : XH} {x0 : Nat} {x1 : Int32} {x2 : Int32} (s : (Bool × Int32)) (o : (Bool × Int32) ⊕ Bool) (hm : fL_isSame_B5 h x0 x1 x2 s = some o) (hc : ∀ s', o = .inl s' → fL_isSame_P5 X h x0 x1 x2 n sl s') (he : ∀ e', o = .inr e' → fL_isSame_E5 X h x0 x1 x2 n sl e') : fL_isSame_P5 X h x0 x1 x2 n sl s := by
  obtain ⟨x3, x4⟩ := s
  show XW X 5 [some (.ref x0), some (.int x1), some (.int x2), some (.int (xbi x3)), some (.int x4)] [] h n sl
  replace hm : fL_isSame_b5 h x0 x1 x2 x3 x4 = some o := hm
  unfold fL_isSame_b5 at hm
  refine xw_iload (pc := 5) (i := 4) (x := x4) C dL_isSame_5 rfl ?_
  refine xw_iload_n (pc := 7) (i := 1) (x := x1) C dL_isSame_7 rfl rfl ?_
  refine xw_icmp_ge (pc := 8) (tgt := 42) C dL_isSame_8 (by decide) (fun q => ?_) (fun q => ?_)
  · replace hm := xif_t q hm
    obtain rfl := Option.some.inj hm
    refine xw_sub (pc := 42) _ ?_ (he _ rfl)
    exact ⟨Or.inl rfl, Or.inl rfl, Or.inl rfl, Or.inr rfl, Or.inl rfl, trivial⟩
  · replace hm := xif_f q hm
    refine xw_iload_n (pc := 11) (i := 3) (x := (xbi x3)) C dL_isSame_11 rfl rfl ?_
    refine xw_if_eqZ (pc := 12) (b := x3) (tgt := 34) C dL_isSame_12 (by decide) (fun q => ?_) (fun q => ?_)
    · replace hm := xif_f q hm
      exact xw_sub (pc := 34) [some (.ref x0), some (.int x1), some (.int x2), none, some (.int x4)] ⟨Or.inr rfl, Or.inr rfl, Or.inr rfl, Or.inl rfl, Or.inr rfl, trivial⟩ (fL_isSame_J34_w C hN hm hc he)
    · replace hm := xif_t q hm
      refine xw_aload_n (pc := 15) (i := 0) (x := x0) C dL_isSame_15 rfl rfl ?_
      refine xw_iload (pc := 16) (i := 4) (x := x4) C dL_isSame_16 rfl ?_
      refine xw_iload_n (pc := 18) (i := 2) (x := x2) C dL_isSame_18 rfl rfl ?_
      refine xw_iadd (pc := 19) C dL_isSame_19 ?_
      refine xw_iload_n (pc := 20) (i := 1) (x := x1) C dL_isSame_20 rfl rfl ?_
      obtain ⟨q1, hm⟩ := xif_n hm
      refine xw_irem (pc := 21) C dL_isSame_21 q1 ?_
      obtain ⟨v2, q3, hm⟩ := xbind hm
      refine xw_iaload (pc := 22) C dL_isSame_22 q3 ?_
      refine xw_aload_n (pc := 23) (i := 0) (x := x0) C dL_isSame_23 rfl rfl ?_
      refine xw_iload (pc := 24) (i := 4) (x := x4) C dL_isSame_24 rfl ?_
      obtain ⟨v4, q5, hm⟩ := xbind hm
      refine xw_iaload (pc := 26) C dL_isSame_26 q5 ?_
      refine xw_icmp_ne (pc := 27) (tgt := 34) C dL_isSame_27 (by decide) (fun q => ?_) (fun q => ?_)
      · replace hm := xif_f q hm
        exact xw_sub (pc := 34) [some (.ref x0), some (.int x1), some (.int x2), none, some (.int x4)] ⟨Or.inr rfl, Or.inr rfl, Or.inr rfl, Or.inl rfl, Or.inr rfl, trivial⟩ (fL_isSame_J34_w C hN hm hc he)
      · replace hm := xif_t q hm
        refine xw_iconst (pc := 30) (v := 1) C dL_isSame_30 xk_i_1 ?_
        refine xw_goto (pc := 31) (tgt := 35) C dL_isSame_31 (by decide) ?_
        refine xw_istore_n (pc := 35) (i := 3) (x := (1 : Int32)) (L' := [some (.ref x0), some (.int x1), some (.int x2), some (.int (1 : Int32)), some (.int x4)]) C dL_isSame_35 rfl (Nat.le_of_ble_eq_true rfl) rfl ?_
        refine xw_iinc (pc := 36) (i := 4) (x := x4) (v := (x4 + (1 : Int32))) (L' := [some (.ref x0), some (.int x1), some (.int x2), some (.int (1 : Int32)), some (.int (x4 + (1 : Int32)))]) C dL_isSame_36 rfl (congrArg (HAdd.hAdd _) xk_i_1) (Nat.le_of_ble_eq_true rfl) rfl ?_
        refine xw_goto (pc := 39) (tgt := 5) C dL_isSame_39 (by decide) ?_
        obtain rfl := Option.some.inj hm
        refine xw_sub (pc := 5) _ ?_ (hc _ rfl)
        exact ⟨Or.inr rfl, Or.inr rfl, Or.inr rfl, Or.inr rfl, Or.inr rfl, trivial⟩
set_option maxHeartbeats 4000000 in
set_option maxRecDepth 100000 in
theorem wL_isSame {l : Launch} {n sl : Nat} {h : XH} {x0 : Nat} {x1 : Int32} {x2 : Int32} {o : Bool} (hm : fL_isSame h x0 x1 x2 = some o) : XM l yL_isSame cL_isSame 5 (some .boolean) 0 0 [.ref x0, .int x1, .int x2] h n sl (some (.int (xbi o))) h n sl := by
  refine xm_of pnL [some (.ref x0), some (.int x1), some (.int x2), none, none] 2 rfl (Nat.le_of_ble_eq_true rfl) ?_
  intro X hT C
  replace C : XOK X RL cL_isSame 5 "isSame" (some .boolean) 0 0 := C
  obtain ⟨-, hN, hX⟩ := hT
  unfold fL_isSame at hm
  refine xw_iconst (pc := 0) (v := 1) C dL_isSame_0 xk_i_1 ?_
  refine xw_istore_n (pc := 1) (i := 3) (x := (1 : Int32)) (L' := [some (.ref x0), some (.int x1), some (.int x2), some (.int (1 : Int32)), none]) C dL_isSame_1 rfl (Nat.le_of_ble_eq_true rfl) rfl ?_
  refine xw_iconst (pc := 2) (v := 0) C dL_isSame_2 xk_i_0 ?_
  refine xw_istore (pc := 3) (i := 4) (x := (0 : Int32)) (L' := [some (.ref x0), some (.int x1), some (.int x2), some (.int (1 : Int32)), some (.int (0 : Int32))]) C dL_isSame_3 (Nat.le_of_ble_eq_true rfl) rfl ?_
  obtain ⟨e6, q7, hm⟩ := xbind hm
  refine xw_sub (pc := 5) [some (.ref x0), some (.int x1), some (.int x2), some (.int (xbi true)), some (.int (0 : Int32))] ⟨Or.inr rfl, Or.inr rfl, Or.inr rfl, Or.inr rfl, Or.inr rfl, trivial⟩ ?_
  refine xloop_walk (fL_isSame_B5 h x0 x1 x2) (fL_isSame_P5 X h x0 x1 x2 n sl) (fL_isSame_E5 X h x0 x1 x2 n sl) (fun s' o' => fL_isSame_B5_w C hN s' o') 5000 (true, (0 : Int32)) e6 q7 ?_
  show XW X 42 [none, none, none, some (.int (xbi e6)), none] [] h n sl
  refine xw_iload_n (pc := 42) (i := 3) (x := (xbi e6)) C dL_isSame_42 rfl rfl ?_
  obtain rfl := Option.some.inj hm
  exact xw_zreturn (pc := 43) (v := xbi e6) C dL_isSame_43 rfl (xbi_nar _) hX
def fL_measure_P2 (X : XCtx) (h : XH) (x0 : Nat) (x1 : Int32) (n sl : Nat) (s : Int32) : Prop := XW X 2 [some (.ref x0), some (.int x1), some (.int s)] [] h n sl
def fL_measure_E2 (X : XCtx) (h : XH) (x0 : Nat) (x1 : Int32) (n sl : Nat) (e : Int32) : Prop := XW X 17 [none, none, some (.int e)] [] h n sl
set_option maxHeartbeats 4000000 in
set_option maxRecDepth 100000 in
theorem fL_measure_B2_w {X : XCtx} (C : XOK X RL cL_measure 3 "measure" (some .int) 1 24) {n sl : Nat} (hN : XN X n sl) {h : XH} {x0 : Nat} {x1 : Int32} (s : Int32) (o : Int32 ⊕ Int32) (hm : fL_measure_B2 h x0 x1 s = some o) (hc : ∀ s', o = .inl s' → fL_measure_P2 X h x0 x1 n sl s') (he : ∀ e', o = .inr e' → fL_measure_E2 X h x0 x1 n sl e') : fL_measure_P2 X h x0 x1 n sl s := by
  revert s; intro x2 hm
  show XW X 2 [some (.ref x0), some (.int x1), some (.int x2)] [] h n sl
  replace hm : fL_measure_b2 h x0 x1 x2 = some o := hm
  unfold fL_measure_b2 at hm
  refine xw_aload_n (pc := 2) (i := 0) (x := x0) C dL_measure_2 rfl rfl ?_
  refine xw_iload_n (pc := 3) (i := 1) (x := x1) C dL_measure_3 rfl rfl ?_
  refine xw_iload_n (pc := 4) (i := 2) (x := x2) C dL_measure_4 rfl rfl ?_
  obtain ⟨v1, q2, hm⟩ := xbind hm
  refine xw_callS1 (pc := 5) (As := [.ref x0, .int x1, .int x2]) (st := []) C dL_measure_5 (wL_isSame q2) dd_L_isSame lk_L_39 ds_L_isSame rfl (Nat.le_of_ble_eq_true rfl) (Nat.le_of_ble_eq_true rfl) (Nat.le_of_ble_eq_true rfl) ⟨Nat.le_refl _, Nat.le_refl _⟩ hN ?_
  refine xw_if_neZ (pc := 8) (b := v1) (tgt := 17) C dL_measure_8 (by decide) (fun q => ?_) (fun q => ?_)
  · replace hm := xif_t q hm
    obtain rfl := Option.some.inj hm
    refine xw_sub (pc := 17) _ ?_ (he _ rfl)
    exact ⟨Or.inl rfl, Or.inl rfl, Or.inr rfl, trivial⟩
  · replace hm := xif_f q hm
    refine xw_iinc (pc := 11) (i := 2) (x := x2) (v := (x2 + (1 : Int32))) (L' := [some (.ref x0), some (.int x1), some (.int (x2 + (1 : Int32)))]) C dL_measure_11 rfl (congrArg (HAdd.hAdd _) xk_i_1) (Nat.le_of_ble_eq_true rfl) rfl ?_
    refine xw_goto (pc := 14) (tgt := 2) C dL_measure_14 (by decide) ?_
    obtain rfl := Option.some.inj hm
    refine xw_sub (pc := 2) _ ?_ (hc _ rfl)
    exact ⟨Or.inr rfl, Or.inr rfl, Or.inr rfl, trivial⟩
set_option maxHeartbeats 4000000 in
set_option maxRecDepth 100000 in
theorem wL_measure {l : Launch} {n sl : Nat} {h : XH} {x0 : Nat} {x1 : Int32} {o : Int32} (hm : fL_measure h x0 x1 = some o) : XM l yL_measure cL_measure 3 (some .int) 1 24 [.ref x0, .int x1] h n sl (some (.int o)) h n sl := by
  refine xm_of pnL [some (.ref x0), some (.int x1), none] 1 rfl (Nat.le_of_ble_eq_true rfl) ?_
  intro X hT C
  replace C : XOK X RL cL_measure 3 "measure" (some .int) 1 24 := C
  obtain ⟨-, hN, hX⟩ := hT
  unfold fL_measure at hm
  refine xw_iconst (pc := 0) (v := 1) C dL_measure_0 xk_i_1 ?_
  refine xw_istore_n (pc := 1) (i := 2) (x := (1 : Int32)) (L' := [some (.ref x0), some (.int x1), some (.int (1 : Int32))]) C dL_measure_1 rfl (Nat.le_of_ble_eq_true rfl) rfl ?_
  obtain ⟨e3, q4, hm⟩ := xbind hm
  refine xw_sub (pc := 2) [some (.ref x0), some (.int x1), some (.int (1 : Int32))] ⟨Or.inr rfl, Or.inr rfl, Or.inr rfl, trivial⟩ ?_
  refine xloop_walk (fL_measure_B2 h x0 x1) (fL_measure_P2 X h x0 x1 n sl) (fL_measure_E2 X h x0 x1 n sl) (fun s' o' => fL_measure_B2_w C hN s' o') 5000 (1 : Int32) e3 q4 ?_
  show XW X 17 [none, none, some (.int e3)] [] h n sl
  refine xw_iload_n (pc := 17) (i := 2) (x := e3) C dL_measure_17 rfl rfl ?_
  obtain rfl := Option.some.inj hm
  exact xw_ireturn (pc := 18) C dL_measure_18 rfl hX
def fL_speeds_P70 (X : XCtx) (b : Nat) (x0 : Nat) (x2 : Int32) (x3 : Nat) (x4 : Nat) (x5 : Int32) (n sl : Nat) (s : (XH × Int32)) : Prop := XW X 70 [some (.ref x0), some (.retAddr b), some (.int x2), some (.ref x3), some (.ref x4), some (.int x5), none, some (.int s.2), none] [] s.1 n sl
def fL_speeds_E70 (X : XCtx) (b : Nat) (x0 : Nat) (x2 : Int32) (x3 : Nat) (x4 : Nat) (x5 : Int32) (n sl : Nat) (e : (XH ⊕ XH)) : Prop := match e with
  | .inl e => XW X 143 [none, none, none, none, none, none, none, none, none] [] e n sl
  | .inr e => XW X 151 [some (.ref x0), none, none, none, none, some (.int x5), none, none, none] [] e n sl
set_option maxHeartbeats 4000000 in
set_option maxRecDepth 100000 in
theorem fL_speeds_B70_w {X : XCtx} (C : XOK X RL cL_speeds 9 "speeds" (some .boolean) 5 110) {n sl : Nat} (hN : XN X n sl) {b N0 : Nat} {xs : Nat → Int32} (hS : XSc X b N0 xs) {x0 : Nat} {x2 : Int32} {x3 : Nat} {x4 : Nat} {x5 : Int32} (s : (XH × Int32)) (o : (XH × Int32) ⊕ (XH ⊕ XH)) (hm : fL_speeds_B70 N0 xs x0 x2 x3 x4 x5 s = some o) (hc : ∀ s', o = .inl s' → fL_speeds_P70 X b x0 x2 x3 x4 x5 n sl s') (he : ∀ e', o = .inr e' → fL_speeds_E70 X b x0 x2 x3 x4 x5 n sl e') : fL_speeds_P70 X b x0 x2 x3 x4 x5 n sl s := by
  obtain ⟨h, x7⟩ := s
  show XW X 70 [some (.ref x0), some (.retAddr b), some (.int x2), some (.ref x3), some (.ref x4), some (.int x5), none, some (.int x7), none] [] h n sl
  replace hm : fL_speeds_b70 N0 xs x0 x2 x3 x4 x5 h x7 = some o := hm
  unfold fL_speeds_b70 at hm
  refine xw_iload (pc := 70) (i := 7) (x := x7) C dL_speeds_70 rfl ?_
  refine xw_iload (pc := 72) (i := 5) (x := x5) C dL_speeds_72 rfl ?_
  refine xw_icmp_gt (pc := 74) (tgt := 151) C dL_speeds_74 (by decide) (fun q => ?_) (fun q => ?_)
  · replace hm := xif_t q hm
    obtain rfl := Option.some.inj hm
    refine xw_sub (pc := 151) _ ?_ (he _ rfl)
    exact ⟨Or.inr rfl, Or.inl rfl, Or.inl rfl, Or.inl rfl, Or.inl rfl, Or.inr rfl, Or.inl rfl, Or.inl rfl, Or.inl rfl, trivial⟩
  · replace hm := xif_f q hm
    refine xw_aload_nS (pc := 77) (i := 1) (x := b) C dL_speeds_77 rfl rfl ?_
    refine xw_iload_n (pc := 78) (i := 2) (x := x2) C dL_speeds_78 rfl rfl ?_
    refine xw_iload (pc := 79) (i := 7) (x := x7) C dL_speeds_79 rfl ?_
    refine xw_iadd (pc := 81) C dL_speeds_81 ?_
    obtain ⟨v16, q17, hm⟩ := xbind hm
    refine xw_callSS1 (pc := 82) (As := [.retAddr b, .int (x2 + x7)]) (st := []) C hS dL_speeds_82 (wL_cell q17) dd_L_cell lk_L_10 ds_L_cell rfl (Nat.le_of_ble_eq_true rfl) (Nat.le_of_ble_eq_true rfl) (Nat.le_of_ble_eq_true rfl) ⟨Nat.le_refl _, Nat.le_refl _⟩ hN ?_
    refine xw_istore (pc := 85) (i := 8) (x := v16) (L' := [some (.ref x0), some (.retAddr b), some (.int x2), some (.ref x3), some (.ref x4), some (.int x5), none, some (.int x7), some (.int v16)]) C dL_speeds_85 (Nat.le_of_ble_eq_true rfl) rfl ?_
    refine xw_aload_n (pc := 87) (i := 3) (x := x3) C dL_speeds_87 rfl rfl ?_
    refine xw_iload (pc := 88) (i := 7) (x := x7) C dL_speeds_88 rfl ?_
    refine xw_aload_n (pc := 90) (i := 3) (x := x3) C dL_speeds_90 rfl rfl ?_
    refine xw_iload (pc := 91) (i := 7) (x := x7) C dL_speeds_91 rfl ?_
    refine xw_iconst (pc := 93) (v := 1) C dL_speeds_93 xk_i_1 ?_
    refine xw_isub (pc := 94) C dL_speeds_94 ?_
    obtain ⟨v18, q19, hm⟩ := xbind hm
    refine xw_iaload (pc := 95) C dL_speeds_95 q19 ?_
    refine xw_iconst (pc := 96) (v := 1) C dL_speeds_96 xk_i_1 ?_
    refine xw_iadd (pc := 97) C dL_speeds_97 ?_
    refine xw_iload (pc := 98) (i := 8) (x := v16) C dL_speeds_98 rfl ?_
    refine xw_bipush (pc := 100) (v := 60) C dL_speeds_100 xk_b_60 ?_
    obtain ⟨v20, q21, hm⟩ := xbind hm
    refine xw_callS1 (pc := 102) (As := [.int v16, .int (60 : Int32)]) (st := [.int (v18 + (1 : Int32)), .int x7, .ref x3]) C dL_speeds_102 (wL_low q21) dd_L_low lk_L_16 ds_L_low rfl (Nat.le_of_ble_eq_true rfl) (Nat.le_of_ble_eq_true rfl) (Nat.le_of_ble_eq_true rfl) ⟨Nat.le_refl _, Nat.le_refl _⟩ hN ?_
    refine xw_iadd (pc := 105) C dL_speeds_105 ?_
    obtain ⟨h22, q23, hm⟩ := xbind hm
    refine xw_iastore (pc := 106) C dL_speeds_106 q23 ?_
    refine xw_aload (pc := 107) (i := 4) (x := x4) C dL_speeds_107 rfl ?_
    refine xw_iload (pc := 109) (i := 7) (x := x7) C dL_speeds_109 rfl ?_
    refine xw_iload (pc := 111) (i := 8) (x := v16) C dL_speeds_111 rfl ?_
    refine xw_bipush (pc := 113) (v := 8) C dL_speeds_113 xk_b_8 ?_
    refine xw_ishr (pc := 115) C dL_speeds_115 ?_
    refine xw_bipush (pc := 116) (v := 61) C dL_speeds_116 xk_b_61 ?_
    obtain ⟨v24, q25, hm⟩ := xbind hm
    refine xw_callS1 (pc := 118) (As := [.int (v16 >>> ((8 : Int32) &&& 31)), .int (61 : Int32)]) (st := [.int x7, .ref x4]) C dL_speeds_118 (wL_low q25) dd_L_low lk_L_16 ds_L_low rfl (Nat.le_of_ble_eq_true rfl) (Nat.le_of_ble_eq_true rfl) (Nat.le_of_ble_eq_true rfl) ⟨Nat.le_refl _, Nat.le_refl _⟩ hN ?_
    refine xw_bipush (pc := 121) (v := 30) C dL_speeds_121 xk_b_30 ?_
    refine xw_isub (pc := 123) C dL_speeds_123 ?_
    obtain ⟨h26, q27, hm⟩ := xbind hm
    refine xw_iastore (pc := 124) C dL_speeds_124 q27 ?_
    refine xw_aload_n (pc := 125) (i := 0) (x := x0) C dL_speeds_125 rfl rfl ?_
    refine xw_aload_n (pc := 126) (i := 3) (x := x3) C dL_speeds_126 rfl rfl ?_
    refine xw_iload (pc := 127) (i := 7) (x := x7) C dL_speeds_127 rfl ?_
    obtain ⟨v28, q29, hm⟩ := xbind hm
    refine xw_iaload (pc := 129) C dL_speeds_129 q29 ?_
    refine xw_aload (pc := 130) (i := 4) (x := x4) C dL_speeds_130 rfl ?_
    refine xw_iload (pc := 132) (i := 7) (x := x7) C dL_speeds_132 rfl ?_
    obtain ⟨v30, q31, hm⟩ := xbind hm
    refine xw_iaload (pc := 134) C dL_speeds_134 q31 ?_
    obtain ⟨_, q32, hm⟩ := xbind hm
    obtain ⟨v33, q34, hm⟩ := xbind hm
    refine xw_callV1 (pc := 135) (As := [.int v28, .int v30]) (st := []) C dL_speeds_135 (wX8_setSpeed q34) dd_X8_setSpeed lk_L_36 dv_X8_setSpeed (xco_spec q32) rfl (Nat.le_of_ble_eq_true rfl) (Nat.le_of_ble_eq_true rfl) (Nat.le_of_ble_eq_true rfl) ⟨Nat.le_refl _, Nat.le_refl _⟩ hN ?_
    refine xw_iload (pc := 138) (i := 7) (x := x7) C dL_speeds_138 rfl ?_
    refine xw_icmp_eq (pc := 140) (tgt := 145) C dL_speeds_140 (by decide) (fun q => ?_) (fun q => ?_)
    · replace hm := xif_t q hm
      refine xw_iinc (pc := 145) (i := 7) (x := x7) (v := (x7 + (1 : Int32))) (L' := [some (.ref x0), some (.retAddr b), some (.int x2), some (.ref x3), some (.ref x4), some (.int x5), none, some (.int (x7 + (1 : Int32))), some (.int v16)]) C dL_speeds_145 rfl (congrArg (HAdd.hAdd _) xk_i_1) (Nat.le_of_ble_eq_true rfl) rfl ?_
      refine xw_goto (pc := 148) (tgt := 70) C dL_speeds_148 (by decide) ?_
      obtain rfl := Option.some.inj hm
      refine xw_sub (pc := 70) _ ?_ (hc _ rfl)
      exact ⟨Or.inr rfl, Or.inr rfl, Or.inr rfl, Or.inr rfl, Or.inr rfl, Or.inr rfl, Or.inl rfl, Or.inr rfl, Or.inl rfl, trivial⟩
    · replace hm := xif_f q hm
      obtain rfl := Option.some.inj hm
      refine xw_sub (pc := 143) _ ?_ (he _ rfl)
      exact ⟨Or.inl rfl, Or.inl rfl, Or.inl rfl, Or.inl rfl, Or.inl rfl, Or.inl rfl, Or.inl rfl, Or.inl rfl, Or.inl rfl, trivial⟩
set_option maxHeartbeats 4000000 in
set_option maxRecDepth 100000 in
theorem fL_speeds_J52_w {X : XCtx} (C : XOK X RL cL_speeds 9 "speeds" (some .boolean) 5 110) {n sl : Nat} (hN : XN X n sl) {b N0 : Nat} {xs : Nat → Int32} (hS : XSc X b N0 xs)  {h : XH} {x0 : Nat} {x2 : Int32} {x3 : Nat} {x4 : Nat} {x5 : Int32} {s0 : Nat} {s1 : Int32} {s2 : Int32} {o : Bool × XH} (hm : fL_speeds_J52 N0 xs h x0 x2 x3 x4 x5 s0 s1 s2 = some o) (hX : XR X (some (.int (xbi o.1))) o.2 n sl) : XW X 52 [some (.ref x0), some (.retAddr b), some (.int x2), some (.ref x3), some (.ref x4), some (.int x5), none, none, none] [.int s2, .int s1, .ref s0] h n sl := by
  unfold fL_speeds_J52 at hm
  obtain ⟨h9, q10, hm⟩ := xbind hm
  refine xw_iastore (pc := 52) C dL_speeds_52 q10 ?_
  refine xw_aload_n (pc := 53) (i := 0) (x := x0) C dL_speeds_53 rfl rfl ?_
  refine xw_iconst (pc := 54) (v := 0) C dL_speeds_54 xk_i_0 ?_
  refine xw_aload (pc := 55) (i := 4) (x := x4) C dL_speeds_55 rfl ?_
  refine xw_iconst (pc := 57) (v := 0) C dL_speeds_57 xk_i_0 ?_
  obtain ⟨v11, q12, hm⟩ := xbind hm
  refine xw_iaload (pc := 58) C dL_speeds_58 q12 ?_
  obtain ⟨_, q13, hm⟩ := xbind hm
  obtain ⟨v14, q15, hm⟩ := xbind hm
  refine xw_callV1 (pc := 59) (As := [.int (0 : Int32), .int v11]) (st := []) C dL_speeds_59 (wX8_setSpeed q15) dd_X8_setSpeed lk_L_36 dv_X8_setSpeed (xco_spec q13) rfl (Nat.le_of_ble_eq_true rfl) (Nat.le_of_ble_eq_true rfl) (Nat.le_of_ble_eq_true rfl) ⟨Nat.le_refl _, Nat.le_refl _⟩ hN ?_
  refine xw_if_eq (pc := 62) (tgt := 67) C dL_speeds_62 (by decide) (fun q => ?_) (fun q => ?_)
  · replace hm := xif_t q hm
    refine xw_iconst (pc := 67) (v := 1) C dL_speeds_67 xk_i_1 ?_
    refine xw_istore (pc := 68) (i := 7) (x := (1 : Int32)) (L' := [some (.ref x0), some (.retAddr b), some (.int x2), some (.ref x3), some (.ref x4), some (.int x5), none, some (.int (1 : Int32)), none]) C dL_speeds_68 (Nat.le_of_ble_eq_true rfl) rfl ?_
    obtain ⟨e35, q36, hm⟩ := xbind hm
    refine xw_sub (pc := 70) [some (.ref x0), some (.retAddr b), some (.int x2), some (.ref x3), some (.ref x4), some (.int x5), none, some (.int (1 : Int32)), none] ⟨Or.inr rfl, Or.inr rfl, Or.inr rfl, Or.inr rfl, Or.inr rfl, Or.inr rfl, Or.inl rfl, Or.inr rfl, Or.inl rfl, trivial⟩ ?_
    refine xloop_walk (fL_speeds_B70 N0 xs x0 x2 x3 x4 x5) (fL_speeds_P70 X b x0 x2 x3 x4 x5 n sl) (fL_speeds_E70 X b x0 x2 x3 x4 x5 n sl) (fun s' o' => fL_speeds_B70_w C hN hS s' o') 5000 (v14.2, (1 : Int32)) e35 q36 ?_
    rcases e35 with e35 | e35
    · dsimp only at hm
      show XW X 143 [none, none, none, none, none, none, none, none, none] [] e35 n sl
      refine xw_iconst (pc := 143) (v := 0) C dL_speeds_143 xk_i_0 ?_
      obtain rfl := Option.some.inj hm
      exact xw_zreturn (pc := 144) (v := xbi false) C dL_speeds_144 rfl (xbi_nar _) hX
    · dsimp only at hm
      show XW X 151 [some (.ref x0), none, none, none, none, some (.int x5), none, none, none] [] e35 n sl
      refine xw_aload_n (pc := 151) (i := 0) (x := x0) C dL_speeds_151 rfl rfl ?_
      refine xw_iconst (pc := 152) (v := 5) C dL_speeds_152 xk_i_5 ?_
      obtain ⟨_, q37, hm⟩ := xbind hm
      obtain ⟨v38, q39, hm⟩ := xbind hm
      refine xw_callV1 (pc := 153) (As := [.int (5 : Int32)]) (st := []) C dL_speeds_153 (wX8_count q39) dd_X8_count lk_L_33 dv_X8_count (xco_spec q37) rfl (Nat.le_of_ble_eq_true rfl) (Nat.le_of_ble_eq_true rfl) (Nat.le_of_ble_eq_true rfl) ⟨Nat.le_refl _, Nat.le_refl _⟩ hN ?_
      refine xw_iload (pc := 156) (i := 5) (x := x5) C dL_speeds_156 rfl ?_
      refine xw_icmp_ne (pc := 158) (tgt := 165) C dL_speeds_158 (by decide) (fun q => ?_) (fun q => ?_)
      · replace hm := xif_f q hm
        refine xw_iconst (pc := 165) (v := 0) C dL_speeds_165 xk_i_0 ?_
        obtain rfl := Option.some.inj hm
        exact xw_zreturn (pc := 166) (v := xbi false) C dL_speeds_166 rfl (xbi_nar _) hX
      · replace hm := xif_t q hm
        refine xw_iconst (pc := 161) (v := 1) C dL_speeds_161 xk_i_1 ?_
        refine xw_goto (pc := 162) (tgt := 166) C dL_speeds_162 (by decide) ?_
        obtain rfl := Option.some.inj hm
        exact xw_zreturn (pc := 166) (v := xbi true) C dL_speeds_166 rfl (xbi_nar _) hX
  · replace hm := xif_f q hm
    refine xw_iconst (pc := 65) (v := 0) C dL_speeds_65 xk_i_0 ?_
    obtain rfl := Option.some.inj hm
    exact xw_zreturn (pc := 66) (v := xbi false) C dL_speeds_66 rfl (xbi_nar _) hX
set_option maxHeartbeats 4000000 in
set_option maxRecDepth 100000 in
theorem wL_speeds {l : Launch} {n sl : Nat} {h : XH} {x0 : Nat} {x2 : Int32} {x3 : Nat} {x4 : Nat} {x5 : Int32} {b N0 : Nat} {xs : Nat → Int32} {o : Bool × XH} (hm : fL_speeds N0 xs h x0 x2 x3 x4 x5 = some o) : XMS l yL_speeds cL_speeds 9 (some .boolean) 5 110 b N0 xs [.ref x0, .retAddr b, .int x2, .ref x3, .ref x4, .int x5] h n sl (some (.int (xbi o.1))) o.2 n sl := by
  refine xm_ofS pnL [some (.ref x0), some (.retAddr b), some (.int x2), some (.ref x3), some (.ref x4), some (.int x5), none, none, none] 3 rfl (Nat.le_of_ble_eq_true rfl) ?_
  intro X hT C hS
  replace C : XOK X RL cL_speeds 9 "speeds" (some .boolean) 5 110 := C
  obtain ⟨-, hN, hX⟩ := hT
  unfold fL_speeds at hm
  refine xw_aload_nS (pc := 0) (i := 1) (x := b) C dL_speeds_0 rfl rfl ?_
  refine xw_iload_n (pc := 1) (i := 2) (x := x2) C dL_speeds_1 rfl rfl ?_
  obtain ⟨v1, q2, hm⟩ := xbind hm
  refine xw_callSS1 (pc := 2) (As := [.retAddr b, .int x2]) (st := []) C hS dL_speeds_2 (wL_cell q2) dd_L_cell lk_L_10 ds_L_cell rfl (Nat.le_of_ble_eq_true rfl) (Nat.le_of_ble_eq_true rfl) (Nat.le_of_ble_eq_true rfl) ⟨Nat.le_refl _, Nat.le_refl _⟩ hN ?_
  refine xw_istore (pc := 5) (i := 6) (x := v1) (L' := [some (.ref x0), some (.retAddr b), some (.int x2), some (.ref x3), some (.ref x4), some (.int x5), some (.int v1), none, none]) C dL_speeds_5 (Nat.le_of_ble_eq_true rfl) rfl ?_
  refine xw_aload_n (pc := 7) (i := 3) (x := x3) C dL_speeds_7 rfl rfl ?_
  refine xw_iconst (pc := 8) (v := 0) C dL_speeds_8 xk_i_0 ?_
  refine xw_iconst (pc := 9) (v := 0) C dL_speeds_9 xk_i_0 ?_
  obtain ⟨h3, q4, hm⟩ := xbind hm
  refine xw_iastore (pc := 10) C dL_speeds_10 q4 ?_
  refine xw_aload (pc := 11) (i := 4) (x := x4) C dL_speeds_11 rfl ?_
  refine xw_iconst (pc := 13) (v := 0) C dL_speeds_13 xk_i_0 ?_
  refine xw_iload (pc := 14) (i := 6) (x := v1) C dL_speeds_14 rfl ?_
  refine xw_iconst (pc := 16) (v := 3) C dL_speeds_16 xk_i_3 ?_
  obtain ⟨v5, q6, hm⟩ := xbind hm
  refine xw_callS1 (pc := 17) (As := [.int v1, .int (3 : Int32)]) (st := [.int (0 : Int32), .ref x4]) C dL_speeds_17 (wL_low q6) dd_L_low lk_L_16 ds_L_low rfl (Nat.le_of_ble_eq_true rfl) (Nat.le_of_ble_eq_true rfl) (Nat.le_of_ble_eq_true rfl) ⟨Nat.le_refl _, Nat.le_refl _⟩ hN ?_
  refine xw_if_ne (pc := 20) (tgt := 40) C dL_speeds_20 (by decide) (fun q => ?_) (fun q => ?_)
  · replace hm := xif_f q hm
    refine xw_iload (pc := 40) (i := 6) (x := v1) C dL_speeds_40 rfl ?_
    refine xw_iconst (pc := 42) (v := 2) C dL_speeds_42 xk_i_2 ?_
    refine xw_ishr (pc := 43) C dL_speeds_43 ?_
    refine xw_bipush (pc := 44) (v := 61) C dL_speeds_44 xk_b_61 ?_
    obtain ⟨v7, q8, hm⟩ := xbind hm
    refine xw_callS1 (pc := 46) (As := [.int (v1 >>> ((2 : Int32) &&& 31)), .int (61 : Int32)]) (st := [.int (0 : Int32), .ref x4]) C dL_speeds_46 (wL_low q8) dd_L_low lk_L_16 ds_L_low rfl (Nat.le_of_ble_eq_true rfl) (Nat.le_of_ble_eq_true rfl) (Nat.le_of_ble_eq_true rfl) ⟨Nat.le_refl _, Nat.le_refl _⟩ hN ?_
    refine xw_bipush (pc := 49) (v := 30) C dL_speeds_49 xk_b_30 ?_
    refine xw_isub (pc := 51) C dL_speeds_51 ?_
    exact xw_sub (pc := 52) [some (.ref x0), some (.retAddr b), some (.int x2), some (.ref x3), some (.ref x4), some (.int x5), none, none, none] ⟨Or.inr rfl, Or.inr rfl, Or.inr rfl, Or.inr rfl, Or.inr rfl, Or.inr rfl, Or.inl rfl, Or.inl rfl, Or.inl rfl, trivial⟩ (fL_speeds_J52_w C hN hS hm hX)
  · replace hm := xif_t q hm
    refine xw_iload (pc := 23) (i := 6) (x := v1) C dL_speeds_23 rfl ?_
    refine xw_iconst (pc := 25) (v := 2) C dL_speeds_25 xk_i_2 ?_
    refine xw_ishr (pc := 26) C dL_speeds_26 ?_
    refine xw_sipush (pc := 27) (v := 2001) C dL_speeds_27 xk_s_2001 ?_
    obtain ⟨v40, q41, hm⟩ := xbind hm
    refine xw_callS1 (pc := 30) (As := [.int (v1 >>> ((2 : Int32) &&& 31)), .int (2001 : Int32)]) (st := [.int (0 : Int32), .ref x4]) C dL_speeds_30 (wL_low q41) dd_L_low lk_L_16 ds_L_low rfl (Nat.le_of_ble_eq_true rfl) (Nat.le_of_ble_eq_true rfl) (Nat.le_of_ble_eq_true rfl) ⟨Nat.le_refl _, Nat.le_refl _⟩ hN ?_
    refine xw_sipush (pc := 33) (v := 1000) C dL_speeds_33 xk_s_1000 ?_
    refine xw_isub (pc := 36) C dL_speeds_36 ?_
    refine xw_goto (pc := 37) (tgt := 52) C dL_speeds_37 (by decide) ?_
    exact xw_sub (pc := 52) [some (.ref x0), some (.retAddr b), some (.int x2), some (.ref x3), some (.ref x4), some (.int x5), none, none, none] ⟨Or.inr rfl, Or.inr rfl, Or.inr rfl, Or.inr rfl, Or.inr rfl, Or.inr rfl, Or.inl rfl, Or.inl rfl, Or.inl rfl, trivial⟩ (fL_speeds_J52_w C hN hS hm hX)
def fL_wheel_P65 (X : XCtx) (b : Nat) (x0 : Nat) (x2 : Int32) (x3 : Nat) (x4 : Int32) (x5 : Int32) (x7 : Int32) (n sl : Nat) (s : (XH × Int32)) : Prop := XW X 65 [some (.ref x0), some (.retAddr b), some (.int x2), some (.ref x3), some (.int x4), some (.int x5), none, some (.int x7), some (.int s.2), none] [] s.1 n sl
def fL_wheel_E65 (X : XCtx) (b : Nat) (x0 : Nat) (x2 : Int32) (x3 : Nat) (x4 : Int32) (x5 : Int32) (x7 : Int32) (n sl : Nat) (e : XH) : Prop := XW X 215 [some (.ref x0), none, none, none, some (.int x4), none, none, some (.int x7), none, none] [] e n sl
set_option maxHeartbeats 4000000 in
set_option maxRecDepth 100000 in
theorem fL_wheel_J182_w {X : XCtx} (C : XOK X RL cL_wheel 10 "wheel" (some .boolean) 6 127) {n sl : Nat} (hN : XN X n sl) {b N0 : Nat} {xs : Nat → Int32} (hS : XSc X b N0 xs)  {h : XH} {x0 : Nat} {x2 : Int32} {x3 : Nat} {x4 : Int32} {x5 : Int32} {x7 : Int32} {x8 : Int32} {s0 : Nat} {s1 : Int32} {s2 : Int32} {o : (XH × Int32) ⊕ XH} (hm : fL_wheel_J182 N0 xs h x0 x2 x3 x4 x5 x7 x8 s0 s1 s2 = some o) (hc : ∀ s', o = .inl s' → fL_wheel_P65 X b x0 x2 x3 x4 x5 x7 n sl s') (he : ∀ e', o = .inr e' → fL_wheel_E65 X b x0 x2 x3 x4 x5 x7 n sl e') : XW X 182 [some (.ref x0), some (.retAddr b), some (.int x2), some (.ref x3), some (.int x4), some (.int x5), none, some (.int x7), some (.int x8), none] [.int s2, .int s1, .ref s0] h n sl := by
  unfold fL_wheel_J182 at hm
  obtain ⟨h33, q34, hm⟩ := xbind hm
  refine xw_iastore (pc := 182) C dL_wheel_182 q34 ?_
  refine xw_aload_n (pc := 183) (i := 0) (x := x0) C dL_wheel_183 rfl rfl ?_
  refine xw_aload_n (pc := 184) (i := 3) (x := x3) C dL_wheel_184 rfl rfl ?_
  refine xw_iload (pc := 185) (i := 8) (x := x8) C dL_wheel_185 rfl ?_
  obtain ⟨v35, q36, hm⟩ := xbind hm
  refine xw_iaload (pc := 187) C dL_wheel_187 q36 ?_
  refine xw_if_ne (pc := 188) (tgt := 196) C dL_wheel_188 (by decide) (fun q => ?_) (fun q => ?_)
  · replace hm := xif_f q hm
    refine xw_bipush (pc := 196) (v := 97) C dL_wheel_196 xk_b_97 ?_
    refine xw_aload_n (pc := 198) (i := 3) (x := x3) C dL_wheel_198 rfl rfl ?_
    refine xw_iload (pc := 199) (i := 8) (x := x8) C dL_wheel_199 rfl ?_
    obtain ⟨v37, q38, hm⟩ := xbind hm
    refine xw_iaload (pc := 201) C dL_wheel_201 q38 ?_
    refine xw_iadd (pc := 202) C dL_wheel_202 ?_
    refine xw_iconst (pc := 203) (v := 1) C dL_wheel_203 xk_i_1 ?_
    refine xw_isub (pc := 204) C dL_wheel_204 ?_
    obtain ⟨_, q39, hm⟩ := xbind hm
    obtain ⟨v40, q41, hm⟩ := xbind hm
    refine xw_callV1 (pc := 205) (As := [.int (((97 : Int32) + v37) - (1 : Int32))]) (st := []) C dL_wheel_205 (wX8_type q41) dd_X8_type lk_L_26 dv_X8_type (xco_spec q39) rfl (Nat.le_of_ble_eq_true rfl) (Nat.le_of_ble_eq_true rfl) (Nat.le_of_ble_eq_true rfl) ⟨Nat.le_refl _, Nat.le_refl _⟩ hN ?_
    refine xw_pop (pc := 208) C dL_wheel_208 rfl ?_
    refine xw_iinc (pc := 209) (i := 8) (x := x8) (v := (x8 + (1 : Int32))) (L' := [some (.ref x0), some (.retAddr b), some (.int x2), some (.ref x3), some (.int x4), some (.int x5), none, some (.int x7), some (.int (x8 + (1 : Int32))), none]) C dL_wheel_209 rfl (congrArg (HAdd.hAdd _) xk_i_1) (Nat.le_of_ble_eq_true rfl) rfl ?_
    refine xw_goto (pc := 212) (tgt := 65) C dL_wheel_212 (by decide) ?_
    obtain rfl := Option.some.inj hm
    refine xw_sub (pc := 65) _ ?_ (hc _ rfl)
    exact ⟨Or.inr rfl, Or.inr rfl, Or.inr rfl, Or.inr rfl, Or.inr rfl, Or.inr rfl, Or.inl rfl, Or.inr rfl, Or.inr rfl, Or.inl rfl, trivial⟩
  · replace hm := xif_t q hm
    refine xw_bipush (pc := 191) (v := 46) C dL_wheel_191 xk_b_46 ?_
    refine xw_goto (pc := 193) (tgt := 205) C dL_wheel_193 (by decide) ?_
    obtain ⟨_, q42, hm⟩ := xbind hm
    obtain ⟨v43, q44, hm⟩ := xbind hm
    refine xw_callV1 (pc := 205) (As := [.int (46 : Int32)]) (st := []) C dL_wheel_205 (wX8_type q44) dd_X8_type lk_L_26 dv_X8_type (xco_spec q42) rfl (Nat.le_of_ble_eq_true rfl) (Nat.le_of_ble_eq_true rfl) (Nat.le_of_ble_eq_true rfl) ⟨Nat.le_refl _, Nat.le_refl _⟩ hN ?_
    refine xw_pop (pc := 208) C dL_wheel_208 rfl ?_
    refine xw_iinc (pc := 209) (i := 8) (x := x8) (v := (x8 + (1 : Int32))) (L' := [some (.ref x0), some (.retAddr b), some (.int x2), some (.ref x3), some (.int x4), some (.int x5), none, some (.int x7), some (.int (x8 + (1 : Int32))), none]) C dL_wheel_209 rfl (congrArg (HAdd.hAdd _) xk_i_1) (Nat.le_of_ble_eq_true rfl) rfl ?_
    refine xw_goto (pc := 212) (tgt := 65) C dL_wheel_212 (by decide) ?_
    obtain rfl := Option.some.inj hm
    refine xw_sub (pc := 65) _ ?_ (hc _ rfl)
    exact ⟨Or.inr rfl, Or.inr rfl, Or.inr rfl, Or.inr rfl, Or.inr rfl, Or.inr rfl, Or.inl rfl, Or.inr rfl, Or.inr rfl, Or.inl rfl, trivial⟩
set_option maxHeartbeats 4000000 in
set_option maxRecDepth 100000 in
theorem fL_wheel_J178_w {X : XCtx} (C : XOK X RL cL_wheel 10 "wheel" (some .boolean) 6 127) {n sl : Nat} (hN : XN X n sl) {b N0 : Nat} {xs : Nat → Int32} (hS : XSc X b N0 xs)  {h : XH} {x0 : Nat} {x2 : Int32} {x3 : Nat} {x4 : Int32} {x5 : Int32} {x7 : Int32} {x8 : Int32} {s0 : Nat} {s1 : Int32} {o : (XH × Int32) ⊕ XH} (hm : fL_wheel_J178 N0 xs h x0 x2 x3 x4 x5 x7 x8 s0 s1 = some o) (hc : ∀ s', o = .inl s' → fL_wheel_P65 X b x0 x2 x3 x4 x5 x7 n sl s') (he : ∀ e', o = .inr e' → fL_wheel_E65 X b x0 x2 x3 x4 x5 x7 n sl e') : XW X 178 [some (.ref x0), some (.retAddr b), some (.int x2), some (.ref x3), some (.int x4), some (.int x5), none, some (.int x7), some (.int x8), none] [.int s1, .ref s0] h n sl := by
  unfold fL_wheel_J178 at hm
  refine xw_aload_n (pc := 178) (i := 3) (x := x3) C dL_wheel_178 rfl rfl ?_
  refine xw_iload (pc := 179) (i := 8) (x := x8) C dL_wheel_179 rfl ?_
  obtain ⟨v31, q32, hm⟩ := xbind hm
  refine xw_iaload (pc := 181) C dL_wheel_181 q32 ?_
  exact xw_sub (pc := 182) [some (.ref x0), some (.retAddr b), some (.int x2), some (.ref x3), some (.int x4), some (.int x5), none, some (.int x7), some (.int x8), none] ⟨Or.inr rfl, Or.inr rfl, Or.inr rfl, Or.inr rfl, Or.inr rfl, Or.inr rfl, Or.inl rfl, Or.inr rfl, Or.inr rfl, Or.inl rfl, trivial⟩ (fL_wheel_J182_w C hN hS hm hc he)
set_option maxHeartbeats 4000000 in
set_option maxRecDepth 100000 in
theorem fL_wheel_J143_w {X : XCtx} (C : XOK X RL cL_wheel 10 "wheel" (some .boolean) 6 127) {n sl : Nat} (hN : XN X n sl) {b N0 : Nat} {xs : Nat → Int32} (hS : XSc X b N0 xs)  {h : XH} {x0 : Nat} {x2 : Int32} {x3 : Nat} {x4 : Int32} {x5 : Int32} {x7 : Int32} {x8 : Int32} {s0 : Nat} {s1 : Int32} {s2 : Int32} {o : (XH × Int32) ⊕ XH} (hm : fL_wheel_J143 N0 xs h x0 x2 x3 x4 x5 x7 x8 s0 s1 s2 = some o) (hc : ∀ s', o = .inl s' → fL_wheel_P65 X b x0 x2 x3 x4 x5 x7 n sl s') (he : ∀ e', o = .inr e' → fL_wheel_E65 X b x0 x2 x3 x4 x5 x7 n sl e') : XW X 143 [some (.ref x0), some (.retAddr b), some (.int x2), some (.ref x3), some (.int x4), some (.int x5), none, some (.int x7), some (.int x8), none] [.int s2, .int s1, .ref s0] h n sl := by
  unfold fL_wheel_J143 at hm
  obtain ⟨h27, q28, hm⟩ := xbind hm
  refine xw_iastore (pc := 143) C dL_wheel_143 q28 ?_
  refine xw_aload_n (pc := 144) (i := 3) (x := x3) C dL_wheel_144 rfl rfl ?_
  refine xw_iload (pc := 145) (i := 8) (x := x8) C dL_wheel_145 rfl ?_
  refine xw_iload (pc := 147) (i := 4) (x := x4) C dL_wheel_147 rfl ?_
  refine xw_bipush (pc := 149) (v := 11) C dL_wheel_149 xk_b_11 ?_
  refine xw_ishr (pc := 151) C dL_wheel_151 ?_
  refine xw_iconst (pc := 152) (v := 4) C dL_wheel_152 xk_i_4 ?_
  obtain ⟨v29, q30, hm⟩ := xbind hm
  refine xw_callS1 (pc := 153) (As := [.int (x4 >>> ((11 : Int32) &&& 31)), .int (4 : Int32)]) (st := [.int x8, .ref x3]) C dL_wheel_153 (wL_low q30) dd_L_low lk_L_16 ds_L_low rfl (Nat.le_of_ble_eq_true rfl) (Nat.le_of_ble_eq_true rfl) (Nat.le_of_ble_eq_true rfl) ⟨Nat.le_refl _, Nat.le_refl _⟩ hN ?_
  refine xw_if_ne (pc := 156) (tgt := 178) C dL_wheel_156 (by decide) (fun q => ?_) (fun q => ?_)
  · replace hm := xif_f q hm
    exact xw_sub (pc := 178) [some (.ref x0), some (.retAddr b), some (.int x2), some (.ref x3), some (.int x4), some (.int x5), none, some (.int x7), some (.int x8), none] ⟨Or.inr rfl, Or.inr rfl, Or.inr rfl, Or.inr rfl, Or.inr rfl, Or.inr rfl, Or.inl rfl, Or.inr rfl, Or.inr rfl, Or.inl rfl, trivial⟩ (fL_wheel_J178_w C hN hS hm hc he)
  · replace hm := xif_t q hm
    refine xw_iload (pc := 159) (i := 8) (x := x8) C dL_wheel_159 rfl ?_
    refine xw_iload (pc := 161) (i := 4) (x := x4) C dL_wheel_161 rfl ?_
    refine xw_bipush (pc := 163) (v := 13) C dL_wheel_163 xk_b_13 ?_
    refine xw_ishr (pc := 165) C dL_wheel_165 ?_
    refine xw_iload (pc := 166) (i := 7) (x := x7) C dL_wheel_166 rfl ?_
    obtain ⟨v45, q46, hm⟩ := xbind hm
    refine xw_callS1 (pc := 168) (As := [.int (x4 >>> ((13 : Int32) &&& 31)), .int x7]) (st := [.int x8, .int x8, .ref x3]) C dL_wheel_168 (wL_low q46) dd_L_low lk_L_16 ds_L_low rfl (Nat.le_of_ble_eq_true rfl) (Nat.le_of_ble_eq_true rfl) (Nat.le_of_ble_eq_true rfl) ⟨Nat.le_refl _, Nat.le_refl _⟩ hN ?_
    refine xw_icmp_ne (pc := 171) (tgt := 178) C dL_wheel_171 (by decide) (fun q => ?_) (fun q => ?_)
    · replace hm := xif_f q hm
      exact xw_sub (pc := 178) [some (.ref x0), some (.retAddr b), some (.int x2), some (.ref x3), some (.int x4), some (.int x5), none, some (.int x7), some (.int x8), none] ⟨Or.inr rfl, Or.inr rfl, Or.inr rfl, Or.inr rfl, Or.inr rfl, Or.inr rfl, Or.inl rfl, Or.inr rfl, Or.inr rfl, Or.inl rfl, trivial⟩ (fL_wheel_J178_w C hN hS hm hc he)
    · replace hm := xif_t q hm
      refine xw_iconst (pc := 174) (v := 3) C dL_wheel_174 xk_i_3 ?_
      refine xw_goto (pc := 175) (tgt := 182) C dL_wheel_175 (by decide) ?_
      exact xw_sub (pc := 182) [some (.ref x0), some (.retAddr b), some (.int x2), some (.ref x3), some (.int x4), some (.int x5), none, some (.int x7), some (.int x8), none] ⟨Or.inr rfl, Or.inr rfl, Or.inr rfl, Or.inr rfl, Or.inr rfl, Or.inr rfl, Or.inl rfl, Or.inr rfl, Or.inr rfl, Or.inl rfl, trivial⟩ (fL_wheel_J182_w C hN hS hm hc he)
set_option maxHeartbeats 4000000 in
set_option maxRecDepth 100000 in
theorem fL_wheel_J139_w {X : XCtx} (C : XOK X RL cL_wheel 10 "wheel" (some .boolean) 6 127) {n sl : Nat} (hN : XN X n sl) {b N0 : Nat} {xs : Nat → Int32} (hS : XSc X b N0 xs)  {h : XH} {x0 : Nat} {x2 : Int32} {x3 : Nat} {x4 : Int32} {x5 : Int32} {x7 : Int32} {x8 : Int32} {s0 : Nat} {s1 : Int32} {s2 : Int32} {s3 : Int32} {s4 : Int32} {o : (XH × Int32) ⊕ XH} (hm : fL_wheel_J139 N0 xs h x0 x2 x3 x4 x5 x7 x8 s0 s1 s2 s3 s4 = some o) (hc : ∀ s', o = .inl s' → fL_wheel_P65 X b x0 x2 x3 x4 x5 x7 n sl s') (he : ∀ e', o = .inr e' → fL_wheel_E65 X b x0 x2 x3 x4 x5 x7 n sl e') : XW X 139 [some (.ref x0), some (.retAddr b), some (.int x2), some (.ref x3), some (.int x4), some (.int x5), none, some (.int x7), some (.int x8), none] [.int s4, .int s3, .int s2, .int s1, .ref s0] h n sl := by
  unfold fL_wheel_J139 at hm
  obtain ⟨v25, q26, hm⟩ := xbind hm
  refine xw_callS1 (pc := 139) (As := [.int s3, .int s4]) (st := [.int s2, .int s1, .ref s0]) C dL_wheel_139 (wL_low q26) dd_L_low lk_L_16 ds_L_low rfl (Nat.le_of_ble_eq_true rfl) (Nat.le_of_ble_eq_true rfl) (Nat.le_of_ble_eq_true rfl) ⟨Nat.le_refl _, Nat.le_refl _⟩ hN ?_
  refine xw_iadd (pc := 142) C dL_wheel_142 ?_
  exact xw_sub (pc := 143) [some (.ref x0), some (.retAddr b), some (.int x2), some (.ref x3), some (.int x4), some (.int x5), none, some (.int x7), some (.int x8), none] ⟨Or.inr rfl, Or.inr rfl, Or.inr rfl, Or.inr rfl, Or.inr rfl, Or.inr rfl, Or.inl rfl, Or.inr rfl, Or.inr rfl, Or.inl rfl, trivial⟩ (fL_wheel_J143_w C hN hS hm hc he)
set_option maxHeartbeats 4000000 in
set_option maxRecDepth 100000 in
theorem fL_wheel_B65_w {X : XCtx} (C : XOK X RL cL_wheel 10 "wheel" (some .boolean) 6 127) {n sl : Nat} (hN : XN X n sl) {b N0 : Nat} {xs : Nat → Int32} (hS : XSc X b N0 xs) {x0 : Nat} {x2 : Int32} {x3 : Nat} {x4 : Int32} {x5 : Int32} {x7 : Int32} (s : (XH × Int32)) (o : (XH × Int32) ⊕ XH) (hm : fL_wheel_B65 N0 xs x0 x2 x3 x4 x5 x7 s = some o) (hc : ∀ s', o = .inl s' → fL_wheel_P65 X b x0 x2 x3 x4 x5 x7 n sl s') (he : ∀ e', o = .inr e' → fL_wheel_E65 X b x0 x2 x3 x4 x5 x7 n sl e') : fL_wheel_P65 X b x0 x2 x3 x4 x5 x7 n sl s := by
  obtain ⟨h, x8⟩ := s
  show XW X 65 [some (.ref x0), some (.retAddr b), some (.int x2), some (.ref x3), some (.int x4), some (.int x5), none, some (.int x7), some (.int x8), none] [] h n sl
  replace hm : fL_wheel_b65 N0 xs x0 x2 x3 x4 x5 x7 h x8 = some o := hm
  unfold fL_wheel_b65 at hm
  refine xw_iload (pc := 65) (i := 8) (x := x8) C dL_wheel_65 rfl ?_
  refine xw_iload (pc := 67) (i := 7) (x := x7) C dL_wheel_67 rfl ?_
  refine xw_icmp_ge (pc := 69) (tgt := 215) C dL_wheel_69 (by decide) (fun q => ?_) (fun q => ?_)
  · replace hm := xif_t q hm
    obtain rfl := Option.some.inj hm
    refine xw_sub (pc := 215) _ ?_ (he _ rfl)
    exact ⟨Or.inr rfl, Or.inl rfl, Or.inl rfl, Or.inl rfl, Or.inr rfl, Or.inl rfl, Or.inl rfl, Or.inr rfl, Or.inl rfl, Or.inl rfl, trivial⟩
  · replace hm := xif_f q hm
    refine xw_aload_nS (pc := 72) (i := 1) (x := b) C dL_wheel_72 rfl rfl ?_
    refine xw_iload_n (pc := 73) (i := 2) (x := x2) C dL_wheel_73 rfl rfl ?_
    refine xw_iconst (pc := 74) (v := 1) C dL_wheel_74 xk_i_1 ?_
    refine xw_iadd (pc := 75) C dL_wheel_75 ?_
    refine xw_iload (pc := 76) (i := 8) (x := x8) C dL_wheel_76 rfl ?_
    refine xw_iload (pc := 78) (i := 5) (x := x5) C dL_wheel_78 rfl ?_
    obtain ⟨q14, hm⟩ := xif_n hm
    refine xw_irem (pc := 80) C dL_wheel_80 q14 ?_
    refine xw_bipush (pc := 81) (v := 6) C dL_wheel_81 xk_b_6 ?_
    obtain ⟨q15, hm⟩ := xif_n hm
    refine xw_irem (pc := 83) C dL_wheel_83 q15 ?_
    refine xw_iadd (pc := 84) C dL_wheel_84 ?_
    obtain ⟨v16, q17, hm⟩ := xbind hm
    refine xw_callSS1 (pc := 85) (As := [.retAddr b, .int ((x2 + (1 : Int32)) + (xrem (xrem x8 x5) (6 : Int32)))]) (st := []) C hS dL_wheel_85 (wL_cell q17) dd_L_cell lk_L_10 ds_L_cell rfl (Nat.le_of_ble_eq_true rfl) (Nat.le_of_ble_eq_true rfl) (Nat.le_of_ble_eq_true rfl) ⟨Nat.le_refl _, Nat.le_refl _⟩ hN ?_
    refine xw_iconst (pc := 88) (v := 4) C dL_wheel_88 xk_i_4 ?_
    refine xw_iload (pc := 89) (i := 8) (x := x8) C dL_wheel_89 rfl ?_
    refine xw_iload (pc := 91) (i := 5) (x := x5) C dL_wheel_91 rfl ?_
    obtain ⟨q18, hm⟩ := xif_n hm
    refine xw_irem (pc := 93) C dL_wheel_93 q18 ?_
    refine xw_bipush (pc := 94) (v := 6) C dL_wheel_94 xk_b_6 ?_
    obtain ⟨q19, hm⟩ := xif_n hm
    refine xw_idiv (pc := 96) C dL_wheel_96 q19 ?_
    refine xw_imul (pc := 97) C dL_wheel_97 ?_
    refine xw_ishr (pc := 98) C dL_wheel_98 ?_
    obtain ⟨y20, ey20, hm⟩ := xlet_ex hm
    refine xw_topI ey20 ?_
    refine xw_istore (pc := 99) (i := 9) (x := y20) (L' := [some (.ref x0), some (.retAddr b), some (.int x2), some (.ref x3), some (.int x4), some (.int x5), none, some (.int x7), some (.int x8), some (.int y20)]) C dL_wheel_99 (Nat.le_of_ble_eq_true rfl) rfl ?_
    refine xw_aload_n (pc := 101) (i := 3) (x := x3) C dL_wheel_101 rfl rfl ?_
    refine xw_iload (pc := 102) (i := 8) (x := x8) C dL_wheel_102 rfl ?_
    refine xw_iload (pc := 104) (i := 9) (x := y20) C dL_wheel_104 rfl ?_
    refine xw_iconst (pc := 106) (v := 2) C dL_wheel_106 xk_i_2 ?_
    obtain ⟨v21, q22, hm⟩ := xbind hm
    refine xw_callS1 (pc := 107) (As := [.int y20, .int (2 : Int32)]) (st := [.int x8, .ref x3]) C dL_wheel_107 (wL_low q22) dd_L_low lk_L_16 ds_L_low rfl (Nat.le_of_ble_eq_true rfl) (Nat.le_of_ble_eq_true rfl) (Nat.le_of_ble_eq_true rfl) ⟨Nat.le_refl _, Nat.le_refl _⟩ hN ?_
    refine xw_if_ne (pc := 110) (tgt := 117) C dL_wheel_110 (by decide) (fun q => ?_) (fun q => ?_)
    · replace hm := xif_f q hm
      refine xw_iconst (pc := 117) (v := 1) C dL_wheel_117 xk_i_1 ?_
      refine xw_iload (pc := 118) (i := 9) (x := y20) C dL_wheel_118 rfl ?_
      refine xw_iconst (pc := 120) (v := 1) C dL_wheel_120 xk_i_1 ?_
      refine xw_ishr (pc := 121) C dL_wheel_121 ?_
      refine xw_iload (pc := 122) (i := 4) (x := x4) C dL_wheel_122 rfl ?_
      refine xw_bipush (pc := 124) (v := 9) C dL_wheel_124 xk_b_9 ?_
      refine xw_ishr (pc := 126) C dL_wheel_126 ?_
      refine xw_iconst (pc := 127) (v := 2) C dL_wheel_127 xk_i_2 ?_
      obtain ⟨v23, q24, hm⟩ := xbind hm
      refine xw_callS1 (pc := 128) (As := [.int (x4 >>> ((9 : Int32) &&& 31)), .int (2 : Int32)]) (st := [.int (y20 >>> ((1 : Int32) &&& 31)), .int (1 : Int32), .int x8, .ref x3]) C dL_wheel_128 (wL_low q24) dd_L_low lk_L_16 ds_L_low rfl (Nat.le_of_ble_eq_true rfl) (Nat.le_of_ble_eq_true rfl) (Nat.le_of_ble_eq_true rfl) ⟨Nat.le_refl _, Nat.le_refl _⟩ hN ?_
      refine xw_if_ne (pc := 131) (tgt := 138) C dL_wheel_131 (by decide) (fun q => ?_) (fun q => ?_)
      · replace hm := xif_f q hm
        refine xw_iconst (pc := 138) (v := 3) C dL_wheel_138 xk_i_3 ?_
        exact xw_sub (pc := 139) [some (.ref x0), some (.retAddr b), some (.int x2), some (.ref x3), some (.int x4), some (.int x5), none, some (.int x7), some (.int x8), none] ⟨Or.inr rfl, Or.inr rfl, Or.inr rfl, Or.inr rfl, Or.inr rfl, Or.inr rfl, Or.inl rfl, Or.inr rfl, Or.inr rfl, Or.inl rfl, trivial⟩ (fL_wheel_J139_w C hN hS hm hc he)
      · replace hm := xif_t q hm
        refine xw_iconst (pc := 134) (v := 1) C dL_wheel_134 xk_i_1 ?_
        refine xw_goto (pc := 135) (tgt := 139) C dL_wheel_135 (by decide) ?_
        exact xw_sub (pc := 139) [some (.ref x0), some (.retAddr b), some (.int x2), some (.ref x3), some (.int x4), some (.int x5), none, some (.int x7), some (.int x8), none] ⟨Or.inr rfl, Or.inr rfl, Or.inr rfl, Or.inr rfl, Or.inr rfl, Or.inr rfl, Or.inl rfl, Or.inr rfl, Or.inr rfl, Or.inl rfl, trivial⟩ (fL_wheel_J139_w C hN hS hm hc he)
    · replace hm := xif_t q hm
      refine xw_iconst (pc := 113) (v := 0) C dL_wheel_113 xk_i_0 ?_
      refine xw_goto (pc := 114) (tgt := 143) C dL_wheel_114 (by decide) ?_
      exact xw_sub (pc := 143) [some (.ref x0), some (.retAddr b), some (.int x2), some (.ref x3), some (.int x4), some (.int x5), none, some (.int x7), some (.int x8), none] ⟨Or.inr rfl, Or.inr rfl, Or.inr rfl, Or.inr rfl, Or.inr rfl, Or.inr rfl, Or.inl rfl, Or.inr rfl, Or.inr rfl, Or.inl rfl, trivial⟩ (fL_wheel_J143_w C hN hS hm hc he)
set_option maxHeartbeats 4000000 in
set_option maxRecDepth 100000 in
theorem fL_wheel_J28_w {X : XCtx} (C : XOK X RL cL_wheel 10 "wheel" (some .boolean) 6 127) {n sl : Nat} (hN : XN X n sl) {b N0 : Nat} {xs : Nat → Int32} (hS : XSc X b N0 xs)  {h : XH} {x0 : Nat} {x2 : Int32} {x3 : Nat} {x4 : Int32} {s0 : Int32} {s1 : Int32} {s2 : Int32} {o : Bool × XH} (hm : fL_wheel_J28 N0 xs h x0 x2 x3 x4 s0 s1 s2 = some o) (hX : XR X (some (.int (xbi o.1))) o.2 n sl) : XW X 28 [some (.ref x0), some (.retAddr b), some (.int x2), some (.ref x3), some (.int x4), none, none, none, none, none] [.int s2, .int s1, .int s0] h n sl := by
  unfold fL_wheel_J28 at hm
  obtain ⟨v5, q6, hm⟩ := xbind hm
  refine xw_callS1 (pc := 28) (As := [.int s1, .int s2]) (st := [.int s0]) C dL_wheel_28 (wL_low q6) dd_L_low lk_L_16 ds_L_low rfl (Nat.le_of_ble_eq_true rfl) (Nat.le_of_ble_eq_true rfl) (Nat.le_of_ble_eq_true rfl) ⟨Nat.le_refl _, Nat.le_refl _⟩ hN ?_
  refine xw_iadd (pc := 31) C dL_wheel_31 ?_
  refine xw_istore (pc := 32) (i := 5) (x := (s0 + v5)) (L' := [some (.ref x0), some (.retAddr b), some (.int x2), some (.ref x3), some (.int x4), some (.int (s0 + v5)), none, none, none, none]) C dL_wheel_32 (Nat.le_of_ble_eq_true rfl) rfl ?_
  refine xw_iconst (pc := 34) (v := 1) C dL_wheel_34 xk_i_1 ?_
  refine xw_iload (pc := 35) (i := 4) (x := x4) C dL_wheel_35 rfl ?_
  refine xw_iconst (pc := 37) (v := 5) C dL_wheel_37 xk_i_5 ?_
  refine xw_ishr (pc := 38) C dL_wheel_38 ?_
  refine xw_bipush (pc := 39) (v := 60) C dL_wheel_39 xk_b_60 ?_
  refine xw_iload (pc := 41) (i := 5) (x := (s0 + v5)) C dL_wheel_41 rfl ?_
  obtain ⟨q7, hm⟩ := xif_n hm
  refine xw_idiv (pc := 43) C dL_wheel_43 q7 ?_
  obtain ⟨v8, q9, hm⟩ := xbind hm
  refine xw_callS1 (pc := 44) (As := [.int (x4 >>> ((5 : Int32) &&& 31)), .int ((60 : Int32) / (s0 + v5))]) (st := [.int (1 : Int32)]) C dL_wheel_44 (wL_low q9) dd_L_low lk_L_16 ds_L_low rfl (Nat.le_of_ble_eq_true rfl) (Nat.le_of_ble_eq_true rfl) (Nat.le_of_ble_eq_true rfl) ⟨Nat.le_refl _, Nat.le_refl _⟩ hN ?_
  refine xw_iadd (pc := 47) C dL_wheel_47 ?_
  refine xw_istore (pc := 48) (i := 6) (x := ((1 : Int32) + v8)) (L' := [some (.ref x0), some (.retAddr b), some (.int x2), some (.ref x3), some (.int x4), some (.int (s0 + v5)), some (.int ((1 : Int32) + v8)), none, none, none]) C dL_wheel_48 (Nat.le_of_ble_eq_true rfl) rfl ?_
  refine xw_iload (pc := 50) (i := 5) (x := (s0 + v5)) C dL_wheel_50 rfl ?_
  refine xw_iload (pc := 52) (i := 6) (x := ((1 : Int32) + v8)) C dL_wheel_52 rfl ?_
  refine xw_imul (pc := 54) C dL_wheel_54 ?_
  obtain ⟨y10, ey10, hm⟩ := xlet_ex hm
  refine xw_topI ey10 ?_
  refine xw_istore (pc := 55) (i := 7) (x := y10) (L' := [some (.ref x0), some (.retAddr b), some (.int x2), some (.ref x3), some (.int x4), some (.int (s0 + v5)), some (.int ((1 : Int32) + v8)), some (.int y10), none, none]) C dL_wheel_55 (Nat.le_of_ble_eq_true rfl) rfl ?_
  refine xw_aload_n (pc := 57) (i := 0) (x := x0) C dL_wheel_57 rfl rfl ?_
  obtain ⟨_, q11, hm⟩ := xbind hm
  obtain ⟨v12, q13, hm⟩ := xbind hm
  refine xw_callV1 (pc := 58) (As := []) (st := []) C dL_wheel_58 (wX8_clearText q13) dd_X8_clearText lk_L_20 dv_X8_clearText (xco_spec q11) rfl (Nat.le_of_ble_eq_true rfl) (Nat.le_of_ble_eq_true rfl) (Nat.le_of_ble_eq_true rfl) ⟨Nat.le_refl _, Nat.le_refl _⟩ hN ?_
  refine xw_pop (pc := 61) C dL_wheel_61 rfl ?_
  refine xw_iconst (pc := 62) (v := 0) C dL_wheel_62 xk_i_0 ?_
  refine xw_istore (pc := 63) (i := 8) (x := (0 : Int32)) (L' := [some (.ref x0), some (.retAddr b), some (.int x2), some (.ref x3), some (.int x4), some (.int (s0 + v5)), some (.int ((1 : Int32) + v8)), some (.int y10), some (.int (0 : Int32)), none]) C dL_wheel_63 (Nat.le_of_ble_eq_true rfl) rfl ?_
  obtain ⟨e47, q48, hm⟩ := xbind hm
  refine xw_sub (pc := 65) [some (.ref x0), some (.retAddr b), some (.int x2), some (.ref x3), some (.int x4), some (.int (s0 + v5)), none, some (.int y10), some (.int (0 : Int32)), none] ⟨Or.inr rfl, Or.inr rfl, Or.inr rfl, Or.inr rfl, Or.inr rfl, Or.inr rfl, Or.inl rfl, Or.inr rfl, Or.inr rfl, Or.inl rfl, trivial⟩ ?_
  refine xloop_walk (fL_wheel_B65 N0 xs x0 x2 x3 x4 (s0 + v5) y10) (fL_wheel_P65 X b x0 x2 x3 x4 (s0 + v5) y10 n sl) (fL_wheel_E65 X b x0 x2 x3 x4 (s0 + v5) y10 n sl) (fun s' o' => fL_wheel_B65_w C hN hS s' o') 5000 (v12.2, (0 : Int32)) e47 q48 ?_
  show XW X 215 [some (.ref x0), none, none, none, some (.int x4), none, none, some (.int y10), none, none] [] e47 n sl
  refine xw_iload (pc := 215) (i := 4) (x := x4) C dL_wheel_215 rfl ?_
  refine xw_bipush (pc := 217) (v := 16) C dL_wheel_217 xk_b_16 ?_
  refine xw_ishr (pc := 219) C dL_wheel_219 ?_
  refine xw_bipush (pc := 220) (v := 60) C dL_wheel_220 xk_b_60 ?_
  obtain ⟨v49, q50, hm⟩ := xbind hm
  refine xw_callS1 (pc := 222) (As := [.int (x4 >>> ((16 : Int32) &&& 31)), .int (60 : Int32)]) (st := []) C dL_wheel_222 (wL_low q50) dd_L_low lk_L_16 ds_L_low rfl (Nat.le_of_ble_eq_true rfl) (Nat.le_of_ble_eq_true rfl) (Nat.le_of_ble_eq_true rfl) ⟨Nat.le_refl _, Nat.le_refl _⟩ hN ?_
  refine xw_istore (pc := 225) (i := 8) (x := v49) (L' := [some (.ref x0), none, none, none, some (.int x4), none, none, some (.int y10), some (.int v49), none]) C dL_wheel_225 (Nat.le_of_ble_eq_true rfl) rfl ?_
  refine xw_aload_n (pc := 227) (i := 0) (x := x0) C dL_wheel_227 rfl rfl ?_
  refine xw_bipush (pc := 228) (v := 64) C dL_wheel_228 xk_b_64 ?_
  obtain ⟨_, q51, hm⟩ := xbind hm
  obtain ⟨v52, q53, hm⟩ := xbind hm
  refine xw_callV1 (pc := 230) (As := [.int (64 : Int32)]) (st := []) C dL_wheel_230 (wX8_type q53) dd_X8_type lk_L_26 dv_X8_type (xco_spec q51) rfl (Nat.le_of_ble_eq_true rfl) (Nat.le_of_ble_eq_true rfl) (Nat.le_of_ble_eq_true rfl) ⟨Nat.le_refl _, Nat.le_refl _⟩ hN ?_
  refine xw_pop (pc := 233) C dL_wheel_233 rfl ?_
  refine xw_aload_n (pc := 234) (i := 0) (x := x0) C dL_wheel_234 rfl rfl ?_
  refine xw_bipush (pc := 235) (v := 48) C dL_wheel_235 xk_b_48 ?_
  refine xw_iload (pc := 237) (i := 8) (x := v49) C dL_wheel_237 rfl ?_
  refine xw_bipush (pc := 239) (v := 10) C dL_wheel_239 xk_b_10 ?_
  obtain ⟨q54, hm⟩ := xif_n hm
  refine xw_idiv (pc := 241) C dL_wheel_241 q54 ?_
  refine xw_iadd (pc := 242) C dL_wheel_242 ?_
  obtain ⟨_, q55, hm⟩ := xbind hm
  obtain ⟨v56, q57, hm⟩ := xbind hm
  refine xw_callV1 (pc := 243) (As := [.int ((48 : Int32) + (v49 / (10 : Int32)))]) (st := []) C dL_wheel_243 (wX8_type q57) dd_X8_type lk_L_26 dv_X8_type (xco_spec q55) rfl (Nat.le_of_ble_eq_true rfl) (Nat.le_of_ble_eq_true rfl) (Nat.le_of_ble_eq_true rfl) ⟨Nat.le_refl _, Nat.le_refl _⟩ hN ?_
  refine xw_pop (pc := 246) C dL_wheel_246 rfl ?_
  refine xw_aload_n (pc := 247) (i := 0) (x := x0) C dL_wheel_247 rfl rfl ?_
  refine xw_bipush (pc := 248) (v := 48) C dL_wheel_248 xk_b_48 ?_
  refine xw_iload (pc := 250) (i := 8) (x := v49) C dL_wheel_250 rfl ?_
  refine xw_bipush (pc := 252) (v := 10) C dL_wheel_252 xk_b_10 ?_
  obtain ⟨q58, hm⟩ := xif_n hm
  refine xw_irem (pc := 254) C dL_wheel_254 q58 ?_
  refine xw_iadd (pc := 255) C dL_wheel_255 ?_
  obtain ⟨_, q59, hm⟩ := xbind hm
  obtain ⟨v60, q61, hm⟩ := xbind hm
  refine xw_callV1 (pc := 256) (As := [.int ((48 : Int32) + (xrem v49 (10 : Int32)))]) (st := []) C dL_wheel_256 (wX8_type q61) dd_X8_type lk_L_26 dv_X8_type (xco_spec q59) rfl (Nat.le_of_ble_eq_true rfl) (Nat.le_of_ble_eq_true rfl) (Nat.le_of_ble_eq_true rfl) ⟨Nat.le_refl _, Nat.le_refl _⟩ hN ?_
  refine xw_pop (pc := 259) C dL_wheel_259 rfl ?_
  refine xw_aload_n (pc := 260) (i := 0) (x := x0) C dL_wheel_260 rfl rfl ?_
  obtain ⟨_, q62, hm⟩ := xbind hm
  obtain ⟨v63, q64, hm⟩ := xbind hm
  refine xw_callV1 (pc := 261) (As := []) (st := []) C dL_wheel_261 (wX8_load q64) dd_X8_load lk_L_30 dv_X8_load (xco_spec q62) rfl (Nat.le_of_ble_eq_true rfl) (Nat.le_of_ble_eq_true rfl) (Nat.le_of_ble_eq_true rfl) ⟨Nat.le_refl _, Nat.le_refl _⟩ hN ?_
  refine xw_iload (pc := 264) (i := 7) (x := y10) C dL_wheel_264 rfl ?_
  refine xw_icmp_ne (pc := 266) (tgt := 301) C dL_wheel_266 (by decide) (fun q => ?_) (fun q => ?_)
  · replace hm := xif_f q hm
    refine xw_iconst (pc := 301) (v := 0) C dL_wheel_301 xk_i_0 ?_
    obtain rfl := Option.some.inj hm
    exact xw_zreturn (pc := 302) (v := xbi false) C dL_wheel_302 rfl (xbi_nar _) hX
  · replace hm := xif_t q hm
    refine xw_aload_n (pc := 269) (i := 0) (x := x0) C dL_wheel_269 rfl rfl ?_
    refine xw_iconst (pc := 270) (v := 0) C dL_wheel_270 xk_i_0 ?_
    obtain ⟨_, q65, hm⟩ := xbind hm
    obtain ⟨v66, q67, hm⟩ := xbind hm
    refine xw_callV1 (pc := 271) (As := [.int (0 : Int32)]) (st := []) C dL_wheel_271 (wX8_count q67) dd_X8_count lk_L_33 dv_X8_count (xco_spec q65) rfl (Nat.le_of_ble_eq_true rfl) (Nat.le_of_ble_eq_true rfl) (Nat.le_of_ble_eq_true rfl) ⟨Nat.le_refl _, Nat.le_refl _⟩ hN ?_
    refine xw_iload (pc := 274) (i := 7) (x := y10) C dL_wheel_274 rfl ?_
    refine xw_icmp_ne (pc := 276) (tgt := 301) C dL_wheel_276 (by decide) (fun q => ?_) (fun q => ?_)
    · replace hm := xif_f q hm
      refine xw_iconst (pc := 301) (v := 0) C dL_wheel_301 xk_i_0 ?_
      obtain rfl := Option.some.inj hm
      exact xw_zreturn (pc := 302) (v := xbi false) C dL_wheel_302 rfl (xbi_nar _) hX
    · replace hm := xif_t q hm
      refine xw_aload_n (pc := 279) (i := 0) (x := x0) C dL_wheel_279 rfl rfl ?_
      refine xw_iconst (pc := 280) (v := 3) C dL_wheel_280 xk_i_3 ?_
      obtain ⟨_, q68, hm⟩ := xbind hm
      obtain ⟨v69, q70, hm⟩ := xbind hm
      refine xw_callV1 (pc := 281) (As := [.int (3 : Int32)]) (st := []) C dL_wheel_281 (wX8_count q70) dd_X8_count lk_L_33 dv_X8_count (xco_spec q68) rfl (Nat.le_of_ble_eq_true rfl) (Nat.le_of_ble_eq_true rfl) (Nat.le_of_ble_eq_true rfl) ⟨Nat.le_refl _, Nat.le_refl _⟩ hN ?_
      refine xw_iload (pc := 284) (i := 8) (x := v49) C dL_wheel_284 rfl ?_
      refine xw_icmp_ne (pc := 286) (tgt := 301) C dL_wheel_286 (by decide) (fun q => ?_) (fun q => ?_)
      · replace hm := xif_f q hm
        refine xw_iconst (pc := 301) (v := 0) C dL_wheel_301 xk_i_0 ?_
        obtain rfl := Option.some.inj hm
        exact xw_zreturn (pc := 302) (v := xbi false) C dL_wheel_302 rfl (xbi_nar _) hX
      · replace hm := xif_t q hm
        refine xw_aload_n (pc := 289) (i := 0) (x := x0) C dL_wheel_289 rfl rfl ?_
        refine xw_iconst (pc := 290) (v := 4) C dL_wheel_290 xk_i_4 ?_
        obtain ⟨_, q71, hm⟩ := xbind hm
        obtain ⟨v72, q73, hm⟩ := xbind hm
        refine xw_callV1 (pc := 291) (As := [.int (4 : Int32)]) (st := []) C dL_wheel_291 (wX8_count q73) dd_X8_count lk_L_33 dv_X8_count (xco_spec q71) rfl (Nat.le_of_ble_eq_true rfl) (Nat.le_of_ble_eq_true rfl) (Nat.le_of_ble_eq_true rfl) ⟨Nat.le_refl _, Nat.le_refl _⟩ hN ?_
        refine xw_if_ne (pc := 294) (tgt := 301) C dL_wheel_294 (by decide) (fun q => ?_) (fun q => ?_)
        · replace hm := xif_f q hm
          refine xw_iconst (pc := 301) (v := 0) C dL_wheel_301 xk_i_0 ?_
          obtain rfl := Option.some.inj hm
          exact xw_zreturn (pc := 302) (v := xbi false) C dL_wheel_302 rfl (xbi_nar _) hX
        · replace hm := xif_t q hm
          refine xw_iconst (pc := 297) (v := 1) C dL_wheel_297 xk_i_1 ?_
          refine xw_goto (pc := 298) (tgt := 302) C dL_wheel_298 (by decide) ?_
          obtain rfl := Option.some.inj hm
          exact xw_zreturn (pc := 302) (v := xbi true) C dL_wheel_302 rfl (xbi_nar _) hX
set_option maxHeartbeats 4000000 in
set_option maxRecDepth 100000 in
theorem wL_wheel {l : Launch} {n sl : Nat} {h : XH} {x0 : Nat} {x2 : Int32} {x3 : Nat} {b N0 : Nat} {xs : Nat → Int32} {o : Bool × XH} (hm : fL_wheel N0 xs h x0 x2 x3 = some o) : XMS l yL_wheel cL_wheel 10 (some .boolean) 6 127 b N0 xs [.ref x0, .retAddr b, .int x2, .ref x3] h n sl (some (.int (xbi o.1))) o.2 n sl := by
  refine xm_ofS pnL [some (.ref x0), some (.retAddr b), some (.int x2), some (.ref x3), none, none, none, none, none, none] 6 rfl (Nat.le_of_ble_eq_true rfl) ?_
  intro X hT C hS
  replace C : XOK X RL cL_wheel 10 "wheel" (some .boolean) 6 127 := C
  obtain ⟨-, hN, hX⟩ := hT
  unfold fL_wheel at hm
  refine xw_aload_nS (pc := 0) (i := 1) (x := b) C dL_wheel_0 rfl rfl ?_
  refine xw_iload_n (pc := 1) (i := 2) (x := x2) C dL_wheel_1 rfl rfl ?_
  obtain ⟨v1, q2, hm⟩ := xbind hm
  refine xw_callSS1 (pc := 2) (As := [.retAddr b, .int x2]) (st := []) C hS dL_wheel_2 (wL_cell q2) dd_L_cell lk_L_10 ds_L_cell rfl (Nat.le_of_ble_eq_true rfl) (Nat.le_of_ble_eq_true rfl) (Nat.le_of_ble_eq_true rfl) ⟨Nat.le_refl _, Nat.le_refl _⟩ hN ?_
  refine xw_istore (pc := 5) (i := 4) (x := v1) (L' := [some (.ref x0), some (.retAddr b), some (.int x2), some (.ref x3), some (.int v1), none, none, none, none, none]) C dL_wheel_5 (Nat.le_of_ble_eq_true rfl) rfl ?_
  refine xw_iconst (pc := 7) (v := 1) C dL_wheel_7 xk_i_1 ?_
  refine xw_iload (pc := 8) (i := 4) (x := v1) C dL_wheel_8 rfl ?_
  refine xw_iload (pc := 10) (i := 4) (x := v1) C dL_wheel_10 rfl ?_
  refine xw_iconst (pc := 12) (v := 3) C dL_wheel_12 xk_i_3 ?_
  refine xw_ishr (pc := 13) C dL_wheel_13 ?_
  refine xw_iconst (pc := 14) (v := 3) C dL_wheel_14 xk_i_3 ?_
  obtain ⟨v3, q4, hm⟩ := xbind hm
  refine xw_callS1 (pc := 15) (As := [.int (v1 >>> ((3 : Int32) &&& 31)), .int (3 : Int32)]) (st := [.int v1, .int (1 : Int32)]) C dL_wheel_15 (wL_low q4) dd_L_low lk_L_16 ds_L_low rfl (Nat.le_of_ble_eq_true rfl) (Nat.le_of_ble_eq_true rfl) (Nat.le_of_ble_eq_true rfl) ⟨Nat.le_refl _, Nat.le_refl _⟩ hN ?_
  refine xw_if_ne (pc := 18) (tgt := 26) C dL_wheel_18 (by decide) (fun q => ?_) (fun q => ?_)
  · replace hm := xif_f q hm
    refine xw_bipush (pc := 26) (v := 6) C dL_wheel_26 xk_b_6 ?_
    exact xw_sub (pc := 28) [some (.ref x0), some (.retAddr b), some (.int x2), some (.ref x3), some (.int v1), none, none, none, none, none] ⟨Or.inr rfl, Or.inr rfl, Or.inr rfl, Or.inr rfl, Or.inr rfl, Or.inl rfl, Or.inl rfl, Or.inl rfl, Or.inl rfl, Or.inl rfl, trivial⟩ (fL_wheel_J28_w C hN hS hm hX)
  · replace hm := xif_t q hm
    refine xw_bipush (pc := 21) (v := 20) C dL_wheel_21 xk_b_20 ?_
    refine xw_goto (pc := 23) (tgt := 28) C dL_wheel_23 (by decide) ?_
    exact xw_sub (pc := 28) [some (.ref x0), some (.retAddr b), some (.int x2), some (.ref x3), some (.int v1), none, none, none, none, none] ⟨Or.inr rfl, Or.inr rfl, Or.inr rfl, Or.inr rfl, Or.inr rfl, Or.inl rfl, Or.inl rfl, Or.inl rfl, Or.inl rfl, Or.inl rfl, trivial⟩ (fL_wheel_J28_w C hN hS hm hX)
