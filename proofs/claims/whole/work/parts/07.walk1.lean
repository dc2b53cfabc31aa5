def fX6_measure_P2 (X : XCtx) (h : XH) (x0 : Nat) (n sl : Nat) (s : Int32) : Prop := XW X 2 [some (.ref x0), some (.int s)] [] h n sl
def fX6_measure_E2 (X : XCtx) (h : XH) (x0 : Nat) (n sl : Nat) (e : (Int32 ⊕ Unit)) : Prop := match e with
  | .inl e => XW X 29 [none, some (.int e)] [] h n sl
  | .inr e => XW X 37 [some (.ref x0), none] [] h n sl
set_option maxHeartbeats 4000000 in
set_option maxRecDepth 100000 in
theorem fX6_measure_B2_w {X : XCtx} (C : XOK X RX6 cX6_measure 2 "measure" (some .int) 2 43) {n sl : Nat} (hN : XN X n sl) {h : XH} {x0 : Nat} (s : Int32) (o : Int32 ⊕ (Int32 ⊕ Unit)) (hm : fX6_measure_B2 h x0 s = some o) (hc : ∀ s', o = .inl s' → fX6_measure_P2 X h x0 n sl s') (he : ∀ e', o = .inr e' → fX6_measure_E2 X h x0 n sl e') : fX6_measure_P2 X h x0 n sl s := by
  revert s; intro x1 hm
  show XW X 2 [some (.ref x0), some (.int x1)] [] h n sl
  replace hm : fX6_measure_b2 h x0 x1 = some o := hm
  unfold fX6_measure_b2 at hm
  refine xw_iload_n (pc := 2) (i := 1) (x := x1) C dX6_measure_2 rfl rfl ?_
  refine xw_aload_n (pc := 3) (i := 0) (x := x0) C dX6_measure_3 rfl rfl ?_
  obtain ⟨v1, q2, hm⟩ := xbind hm
  refine xw_getI (pc := 4) C dX6_measure_4 fl_X6_21 q2 ?_
  refine xw_icmp_ge (pc := 7) (tgt := 37) C dX6_measure_7 (by decide) (fun q => ?_) (fun q => ?_)
  · replace hm := xif_t q hm
    obtain rfl := Option.some.inj hm
    refine xw_sub (pc := 37) _ ?_ (he _ rfl)
    exact ⟨Or.inr rfl, Or.inl rfl, trivial⟩
  · replace hm := xif_f q hm
    refine xw_aload_n (pc := 10) (i := 0) (x := x0) C dX6_measure_10 rfl rfl ?_
    obtain ⟨v3, q4, hm⟩ := xbind hm
    refine xw_getI (pc := 11) C dX6_measure_11 fl_X6_21 q4 ?_
    refine xw_iload_n (pc := 14) (i := 1) (x := x1) C dX6_measure_14 rfl rfl ?_
    obtain ⟨v5, q6, hm⟩ := xbind hm
    refine xw_callSN1 (pc := 15) (As := [.int v3, .int x1]) (st := []) C dX6_measure_15 (wX8_mod q6) dd_X8_mod lk_X6_50 ds_X8_mod rfl (Nat.le_of_ble_eq_true rfl) (Nat.le_of_ble_eq_true rfl) (Nat.le_of_ble_eq_true rfl) ⟨Nat.le_refl _, Nat.le_refl _⟩ hN ?_
    refine xw_if_ne (pc := 18) (tgt := 31) C dX6_measure_18 (by decide) (fun q => ?_) (fun q => ?_)
    · replace hm := xif_f q hm
      refine xw_iinc (pc := 31) (i := 1) (x := x1) (v := (x1 + (1 : Int32))) (L' := [some (.ref x0), some (.int (x1 + (1 : Int32)))]) C dX6_measure_31 rfl (congrArg (HAdd.hAdd _) xk_i_1) (Nat.le_of_ble_eq_true rfl) rfl ?_
      refine xw_goto (pc := 34) (tgt := 2) C dX6_measure_34 (by decide) ?_
      obtain rfl := Option.some.inj hm
      refine xw_sub (pc := 2) _ ?_ (hc _ rfl)
      exact ⟨Or.inr rfl, Or.inr rfl, trivial⟩
    · replace hm := xif_t q hm
      refine xw_aload_n (pc := 21) (i := 0) (x := x0) C dX6_measure_21 rfl rfl ?_
      refine xw_iload_n (pc := 22) (i := 1) (x := x1) C dX6_measure_22 rfl rfl ?_
      obtain ⟨_, q7, hm⟩ := xbind hm
      obtain ⟨v8, q9, hm⟩ := xbind hm
      refine xw_callV1 (pc := 23) (As := [.int x1]) (st := []) C dX6_measure_23 (wX6_isSameTurnedBy q9) dd_X6_isSameTurnedBy lk_X6_54 dv_X6_isSameTurnedBy (xco_spec q7) rfl (Nat.le_of_ble_eq_true rfl) (Nat.le_of_ble_eq_true rfl) (Nat.le_of_ble_eq_true rfl) ⟨Nat.le_refl _, Nat.le_refl _⟩ hN ?_
      refine xw_if_eqZ (pc := 26) (b := v8) (tgt := 31) C dX6_measure_26 (by decide) (fun q => ?_) (fun q => ?_)
      · replace hm := xif_f q hm
        refine xw_iinc (pc := 31) (i := 1) (x := x1) (v := (x1 + (1 : Int32))) (L' := [some (.ref x0), some (.int (x1 + (1 : Int32)))]) C dX6_measure_31 rfl (congrArg (HAdd.hAdd _) xk_i_1) (Nat.le_of_ble_eq_true rfl) rfl ?_
        refine xw_goto (pc := 34) (tgt := 2) C dX6_measure_34 (by decide) ?_
        obtain rfl := Option.some.inj hm
        refine xw_sub (pc := 2) _ ?_ (hc _ rfl)
        exact ⟨Or.inr rfl, Or.inr rfl, trivial⟩
      · replace hm := xif_t q hm
        obtain rfl := Option.some.inj hm
        refine xw_sub (pc := 29) _ ?_ (he _ rfl)
        exact ⟨Or.inl rfl, Or.inr rfl, trivial⟩
set_option maxHeartbeats 4000000 in
set_option maxRecDepth 100000 in
theorem wX6_measure {l : Launch} {n sl : Nat} {h : XH} {x0 : Nat} {o : Int32} (hm : fX6_measure h x0 = some o) : XM l yX6_measure cX6_measure 2 (some .int) 2 43 [.ref x0] h n sl (some (.int o)) h n sl := by
  refine xm_of pnX6 [some (.ref x0), none] 1 rfl (Nat.le_of_ble_eq_true rfl) ?_
  intro X hT C
  replace C : XOK X RX6 cX6_measure 2 "measure" (some .int) 2 43 := C
  obtain ⟨-, hN, hX⟩ := hT
  unfold fX6_measure at hm
  refine xw_iconst (pc := 0) (v := 1) C dX6_measure_0 xk_i_1 ?_
  refine xw_istore_n (pc := 1) (i := 1) (x := (1 : Int32)) (L' := [some (.ref x0), some (.int (1 : Int32))]) C dX6_measure_1 rfl (Nat.le_of_ble_eq_true rfl) rfl ?_
  obtain ⟨e10, q11, hm⟩ := xbind hm
  refine xw_sub (pc := 2) [some (.ref x0), some (.int (1 : Int32))] ⟨Or.inr rfl, Or.inr rfl, trivial⟩ ?_
  refine xloop_walk (fX6_measure_B2 h x0) (fX6_measure_P2 X h x0 n sl) (fX6_measure_E2 X h x0 n sl) (fun s' o' => fX6_measure_B2_w C hN s' o') 5000 (1 : Int32) e10 q11 ?_
  rcases e10 with e10 | e10
  · dsimp only at hm
    show XW X 29 [none, some (.int e10)] [] h n sl
    refine xw_iload_n (pc := 29) (i := 1) (x := e10) C dX6_measure_29 rfl rfl ?_
    obtain rfl := Option.some.inj hm
    exact xw_ireturn (pc := 30) C dX6_measure_30 rfl hX
  · dsimp only at hm
    show XW X 37 [some (.ref x0), none] [] h n sl
    refine xw_aload_n (pc := 37) (i := 0) (x := x0) C dX6_measure_37 rfl rfl ?_
    obtain ⟨v12, q13, hm⟩ := xbind hm
    refine xw_getI (pc := 38) C dX6_measure_38 fl_X6_21 q13 ?_
    obtain rfl := Option.some.inj hm
    exact xw_ireturn (pc := 41) C dX6_measure_41 rfl hX
def fX6_turnAt_P16 (X : XCtx) (h : XH) (x0 : Nat) (x1 : Int32) (n sl : Nat) (s : (Int32 × Int32 × Int32 × Int32)) : Prop := XW X 16 [some (.ref x0), some (.int x1), some (.int s.1), some (.int s.2.1), some (.int s.2.2.1), some (.int s.2.2.2)] [] h n sl
def fX6_turnAt_E16 (X : XCtx) (h : XH) (x0 : Nat) (x1 : Int32) (n sl : Nat) (e : (Int32 × Int32 × Int32)) : Prop := XW X 82 [none, some (.int x1), some (.int e.1), some (.int e.2.1), some (.int e.2.2), none] [] h n sl
set_option maxHeartbeats 4000000 in
set_option maxRecDepth 100000 in
theorem fX6_turnAt_B16_w {X : XCtx} (C : XOK X RX6 cX6_turnAt 6 "turnAt" (some .int) 1 21) {n sl : Nat} (hN : XN X n sl) {h : XH} {x0 : Nat} {x1 : Int32} (s : (Int32 × Int32 × Int32 × Int32)) (o : (Int32 × Int32 × Int32 × Int32) ⊕ (Int32 × Int32 × Int32)) (hm : fX6_turnAt_B16 h x0 x1 s = some o) (hc : ∀ s', o = .inl s' → fX6_turnAt_P16 X h x0 x1 n sl s') (he : ∀ e', o = .inr e' → fX6_turnAt_E16 X h x0 x1 n sl e') : fX6_turnAt_P16 X h x0 x1 n sl s := by
  obtain ⟨x2, x3, x4, x5⟩ := s
  show XW X 16 [some (.ref x0), some (.int x1), some (.int x2), some (.int x3), some (.int x4), some (.int x5)] [] h n sl
  replace hm : fX6_turnAt_b16 h x0 x1 x2 x3 x4 x5 = some o := hm
  unfold fX6_turnAt_b16 at hm
  refine xw_iload (pc := 16) (i := 5) (x := x5) C dX6_turnAt_16 rfl ?_
  refine xw_aload_n (pc := 18) (i := 0) (x := x0) C dX6_turnAt_18 rfl rfl ?_
  obtain ⟨v5, q6, hm⟩ := xbind hm
  refine xw_getI (pc := 19) C dX6_turnAt_19 fl_X6_39 q6 ?_
  refine xw_icmp_ge (pc := 22) (tgt := 82) C dX6_turnAt_22 (by decide) (fun q => ?_) (fun q => ?_)
  · replace hm := xif_t q hm
    obtain rfl := Option.some.inj hm
    refine xw_sub (pc := 82) _ ?_ (he _ rfl)
    exact ⟨Or.inl rfl, Or.inr rfl, Or.inr rfl, Or.inr rfl, Or.inr rfl, Or.inl rfl, trivial⟩
  · replace hm := xif_f q hm
    refine xw_aload_n (pc := 25) (i := 0) (x := x0) C dX6_turnAt_25 rfl rfl ?_
    obtain ⟨v7, q8, hm⟩ := xbind hm
    refine xw_getR (pc := 26) C dX6_turnAt_26 fl_X6_15 q8 ?_
    refine xw_iload (pc := 29) (i := 5) (x := x5) C dX6_turnAt_29 rfl ?_
    obtain ⟨v9, q10, hm⟩ := xbind hm
    refine xw_callSN1 (pc := 31) (As := [.ref v7, .int x5]) (st := []) C dX6_turnAt_31 (wX8_at q10) dd_X8_at lk_X6_42 ds_X8_at rfl (Nat.le_of_ble_eq_true rfl) (Nat.le_of_ble_eq_true rfl) (Nat.le_of_ble_eq_true rfl) ⟨Nat.le_refl _, Nat.le_refl _⟩ hN ?_
    refine xw_iload_n (pc := 34) (i := 1) (x := x1) C dX6_turnAt_34 rfl rfl ?_
    refine xw_icmp_ge (pc := 35) (tgt := 82) C dX6_turnAt_35 (by decide) (fun q => ?_) (fun q => ?_)
    · replace hm := xif_t q hm
      obtain rfl := Option.some.inj hm
      refine xw_sub (pc := 82) _ ?_ (he _ rfl)
      exact ⟨Or.inl rfl, Or.inr rfl, Or.inr rfl, Or.inr rfl, Or.inr rfl, Or.inl rfl, trivial⟩
    · replace hm := xif_f q hm
      refine xw_iload_n (pc := 38) (i := 2) (x := x2) C dX6_turnAt_38 rfl rfl ?_
      refine xw_iload (pc := 39) (i := 4) (x := x4) C dX6_turnAt_39 rfl ?_
      refine xw_aload_n (pc := 41) (i := 0) (x := x0) C dX6_turnAt_41 rfl rfl ?_
      obtain ⟨v11, q12, hm⟩ := xbind hm
      refine xw_getR (pc := 42) C dX6_turnAt_42 fl_X6_15 q12 ?_
      refine xw_iload (pc := 45) (i := 5) (x := x5) C dX6_turnAt_45 rfl ?_
      obtain ⟨v13, q14, hm⟩ := xbind hm
      refine xw_callSN1 (pc := 47) (As := [.ref v11, .int x5]) (st := [.int x4, .int x2]) C dX6_turnAt_47 (wX8_at q14) dd_X8_at lk_X6_42 ds_X8_at rfl (Nat.le_of_ble_eq_true rfl) (Nat.le_of_ble_eq_true rfl) (Nat.le_of_ble_eq_true rfl) ⟨Nat.le_refl _, Nat.le_refl _⟩ hN ?_
      refine xw_iload_n (pc := 50) (i := 3) (x := x3) C dX6_turnAt_50 rfl rfl ?_
      refine xw_isub (pc := 51) C dX6_turnAt_51 ?_
      refine xw_imul (pc := 52) C dX6_turnAt_52 ?_
      refine xw_iadd (pc := 53) C dX6_turnAt_53 ?_
      refine xw_istore_n (pc := 54) (i := 2) (x := (x2 + (x4 * (v13 - x3)))) (L' := [some (.ref x0), some (.int x1), some (.int (x2 + (x4 * (v13 - x3)))), some (.int x3), some (.int x4), some (.int x5)]) C dX6_turnAt_54 rfl (Nat.le_of_ble_eq_true rfl) rfl ?_
      refine xw_aload_n (pc := 55) (i := 0) (x := x0) C dX6_turnAt_55 rfl rfl ?_
      obtain ⟨v15, q16, hm⟩ := xbind hm
      refine xw_getR (pc := 56) C dX6_turnAt_56 fl_X6_15 q16 ?_
      refine xw_iload (pc := 59) (i := 5) (x := x5) C dX6_turnAt_59 rfl ?_
      obtain ⟨v17, q18, hm⟩ := xbind hm
      refine xw_callSN1 (pc := 61) (As := [.ref v15, .int x5]) (st := []) C dX6_turnAt_61 (wX8_at q18) dd_X8_at lk_X6_42 ds_X8_at rfl (Nat.le_of_ble_eq_true rfl) (Nat.le_of_ble_eq_true rfl) (Nat.le_of_ble_eq_true rfl) ⟨Nat.le_refl _, Nat.le_refl _⟩ hN ?_
      refine xw_istore_n (pc := 64) (i := 3) (x := v17) (L' := [some (.ref x0), some (.int x1), some (.int (x2 + (x4 * (v13 - x3)))), some (.int v17), some (.int x4), some (.int x5)]) C dX6_turnAt_64 rfl (Nat.le_of_ble_eq_true rfl) rfl ?_
      refine xw_aload_n (pc := 65) (i := 0) (x := x0) C dX6_turnAt_65 rfl rfl ?_
      obtain ⟨v19, q20, hm⟩ := xbind hm
      refine xw_getR (pc := 66) C dX6_turnAt_66 fl_X6_18 q20 ?_
      refine xw_iload (pc := 69) (i := 5) (x := x5) C dX6_turnAt_69 rfl ?_
      obtain ⟨v21, q22, hm⟩ := xbind hm
      refine xw_callSN1 (pc := 71) (As := [.ref v19, .int x5]) (st := []) C dX6_turnAt_71 (wX8_at q22) dd_X8_at lk_X6_42 ds_X8_at rfl (Nat.le_of_ble_eq_true rfl) (Nat.le_of_ble_eq_true rfl) (Nat.le_of_ble_eq_true rfl) ⟨Nat.le_refl _, Nat.le_refl _⟩ hN ?_
      refine xw_istore (pc := 74) (i := 4) (x := v21) (L' := [some (.ref x0), some (.int x1), some (.int (x2 + (x4 * (v13 - x3)))), some (.int v17), some (.int v21), some (.int x5)]) C dX6_turnAt_74 (Nat.le_of_ble_eq_true rfl) rfl ?_
      refine xw_iinc (pc := 76) (i := 5) (x := x5) (v := (x5 + (1 : Int32))) (L' := [some (.ref x0), some (.int x1), some (.int (x2 + (x4 * (v13 - x3)))), some (.int v17), some (.int v21), some (.int (x5 + (1 : Int32)))]) C dX6_turnAt_76 rfl (congrArg (HAdd.hAdd _) xk_i_1) (Nat.le_of_ble_eq_true rfl) rfl ?_
      refine xw_goto (pc := 79) (tgt := 16) C dX6_turnAt_79 (by decide) ?_
      obtain rfl := Option.some.inj hm
      refine xw_sub (pc := 16) _ ?_ (hc _ rfl)
      exact ⟨Or.inr rfl, Or.inr rfl, Or.inr rfl, Or.inr rfl, Or.inr rfl, Or.inr rfl, trivial⟩
set_option maxHeartbeats 4000000 in
set_option maxRecDepth 100000 in
theorem wX6_turnAt {l : Launch} {n sl : Nat} {h : XH} {x0 : Nat} {x1 : Int32} {o : Int32} (hm : fX6_turnAt h x0 x1 = some o) : XM l yX6_turnAt cX6_turnAt 6 (some .int) 1 21 [.ref x0, .int x1] h n sl (some (.int o)) h n sl := by
  refine xm_of pnX6 [some (.ref x0), some (.int x1), none, none, none, none] 4 rfl (Nat.le_of_ble_eq_true rfl) ?_
  intro X hT C
  replace C : XOK X RX6 cX6_turnAt 6 "turnAt" (some .int) 1 21 := C
  obtain ⟨-, hN, hX⟩ := hT
  unfold fX6_turnAt at hm
  refine xw_aload_n (pc := 0) (i := 0) (x := x0) C dX6_turnAt_0 rfl rfl ?_
  obtain ⟨v1, q2, hm⟩ := xbind hm
  refine xw_getI (pc := 1) C dX6_turnAt_1 fl_X6_33 q2 ?_
  refine xw_istore_n (pc := 4) (i := 2) (x := v1) (L' := [some (.ref x0), some (.int x1), some (.int v1), none, none, none]) C dX6_turnAt_4 rfl (Nat.le_of_ble_eq_true rfl) rfl ?_
  refine xw_iconst (pc := 5) (v := 0) C dX6_turnAt_5 xk_i_0 ?_
  refine xw_istore_n (pc := 6) (i := 3) (x := (0 : Int32)) (L' := [some (.ref x0), some (.int x1), some (.int v1), some (.int (0 : Int32)), none, none]) C dX6_turnAt_6 rfl (Nat.le_of_ble_eq_true rfl) rfl ?_
  refine xw_aload_n (pc := 7) (i := 0) (x := x0) C dX6_turnAt_7 rfl rfl ?_
  obtain ⟨v3, q4, hm⟩ := xbind hm
  refine xw_getI (pc := 8) C dX6_turnAt_8 fl_X6_36 q4 ?_
  refine xw_istore (pc := 11) (i := 4) (x := v3) (L' := [some (.ref x0), some (.int x1), some (.int v1), some (.int (0 : Int32)), some (.int v3), none]) C dX6_turnAt_11 (Nat.le_of_ble_eq_true rfl) rfl ?_
  refine xw_iconst (pc := 13) (v := 0) C dX6_turnAt_13 xk_i_0 ?_
  refine xw_istore (pc := 14) (i := 5) (x := (0 : Int32)) (L' := [some (.ref x0), some (.int x1), some (.int v1), some (.int (0 : Int32)), some (.int v3), some (.int (0 : Int32))]) C dX6_turnAt_14 (Nat.le_of_ble_eq_true rfl) rfl ?_
  obtain ⟨e23, q24, hm⟩ := xbind hm
  refine xw_sub (pc := 16) [some (.ref x0), some (.int x1), some (.int v1), some (.int (0 : Int32)), some (.int v3), some (.int (0 : Int32))] ⟨Or.inr rfl, Or.inr rfl, Or.inr rfl, Or.inr rfl, Or.inr rfl, Or.inr rfl, trivial⟩ ?_
  refine xloop_walk (fX6_turnAt_B16 h x0 x1) (fX6_turnAt_P16 X h x0 x1 n sl) (fX6_turnAt_E16 X h x0 x1 n sl) (fun s' o' => fX6_turnAt_B16_w C hN s' o') 5000 (v1, (0 : Int32), v3, (0 : Int32)) e23 q24 ?_
  show XW X 82 [none, some (.int x1), some (.int e23.1), some (.int e23.2.1), some (.int e23.2.2), none] [] h n sl
  refine xw_iload_n (pc := 82) (i := 2) (x := e23.1) C dX6_turnAt_82 rfl rfl ?_
  refine xw_iload (pc := 83) (i := 4) (x := e23.2.2) C dX6_turnAt_83 rfl ?_
  refine xw_iload_n (pc := 85) (i := 1) (x := x1) C dX6_turnAt_85 rfl rfl ?_
  refine xw_iload_n (pc := 86) (i := 3) (x := e23.2.1) C dX6_turnAt_86 rfl rfl ?_
  refine xw_isub (pc := 87) C dX6_turnAt_87 ?_
  refine xw_imul (pc := 88) C dX6_turnAt_88 ?_
  refine xw_iadd (pc := 89) C dX6_turnAt_89 ?_
  obtain rfl := Option.some.inj hm
  exact xw_ireturn (pc := 90) C dX6_turnAt_90 rfl hX
set_option maxHeartbeats 4000000 in
set_option maxRecDepth 100000 in
theorem wX6_stepBetween {l : Launch} {n sl : Nat} {h : XH} {x0 : Nat} {x1 : Int32} {x2 : Int32} {x3 : Int32} {o : Int32} (hm : fX6_stepBetween h x0 x1 x2 x3 = some o) : XM l yX6_stepBetween cX6_stepBetween 5 (some .int) 2 46 [.ref x0, .int x1, .int x2, .int x3] h n sl (some (.int o)) h n sl := by
  refine xm_of pnX6 [some (.ref x0), some (.int x1), some (.int x2), some (.int x3), none] 1 rfl (Nat.le_of_ble_eq_true rfl) ?_
  intro X hT C
  replace C : XOK X RX6 cX6_stepBetween 5 "stepBetween" (some .int) 2 46 := C
  obtain ⟨-, hN, hX⟩ := hT
  unfold fX6_stepBetween at hm
  refine xw_aload_n (pc := 0) (i := 0) (x := x0) C dX6_stepBetween_0 rfl rfl ?_
  refine xw_iload_n (pc := 1) (i := 2) (x := x2) C dX6_stepBetween_1 rfl rfl ?_
  obtain ⟨_, q1, hm⟩ := xbind hm
  obtain ⟨v2, q3, hm⟩ := xbind hm
  refine xw_callV1 (pc := 2) (As := [.int x2]) (st := []) C dX6_stepBetween_2 (wX6_turnAt q3) dd_X6_turnAt lk_X6_68 dv_X6_turnAt (xco_spec q1) rfl (Nat.le_of_ble_eq_true rfl) (Nat.le_of_ble_eq_true rfl) (Nat.le_of_ble_eq_true rfl) ⟨Nat.le_refl _, Nat.le_refl _⟩ hN ?_
  refine xw_aload_n (pc := 5) (i := 0) (x := x0) C dX6_stepBetween_5 rfl rfl ?_
  refine xw_iload_n (pc := 6) (i := 1) (x := x1) C dX6_stepBetween_6 rfl rfl ?_
  obtain ⟨_, q4, hm⟩ := xbind hm
  obtain ⟨v5, q6, hm⟩ := xbind hm
  refine xw_callV1 (pc := 7) (As := [.int x1]) (st := [.int v2]) C dX6_stepBetween_7 (wX6_turnAt q6) dd_X6_turnAt lk_X6_68 dv_X6_turnAt (xco_spec q4) rfl (Nat.le_of_ble_eq_true rfl) (Nat.le_of_ble_eq_true rfl) (Nat.le_of_ble_eq_true rfl) ⟨Nat.le_refl _, Nat.le_refl _⟩ hN ?_
  refine xw_isub (pc := 10) C dX6_stepBetween_10 ?_
  refine xw_iload_n (pc := 11) (i := 3) (x := x3) C dX6_stepBetween_11 rfl rfl ?_
  obtain ⟨v7, q8, hm⟩ := xbind hm
  refine xw_callSN1 (pc := 12) (As := [.int (v2 - v5), .int x3]) (st := []) C dX6_stepBetween_12 (wX8_mod q8) dd_X8_mod lk_X6_50 ds_X8_mod rfl (Nat.le_of_ble_eq_true rfl) (Nat.le_of_ble_eq_true rfl) (Nat.le_of_ble_eq_true rfl) ⟨Nat.le_refl _, Nat.le_refl _⟩ hN ?_
  refine xw_istore (pc := 15) (i := 4) (x := v7) (L' := [some (.ref x0), some (.int x1), some (.int x2), some (.int x3), some (.int v7)]) C dX6_stepBetween_15 (Nat.le_of_ble_eq_true rfl) rfl ?_
  refine xw_iconst (pc := 17) (v := 2) C dX6_stepBetween_17 xk_i_2 ?_
  refine xw_iload (pc := 18) (i := 4) (x := v7) C dX6_stepBetween_18 rfl ?_
  refine xw_imul (pc := 20) C dX6_stepBetween_20 ?_
  refine xw_iload_n (pc := 21) (i := 3) (x := x3) C dX6_stepBetween_21 rfl rfl ?_
  refine xw_icmp_le (pc := 22) (tgt := 32) C dX6_stepBetween_22 (by decide) (fun q => ?_) (fun q => ?_)
  · replace hm := xif_t q hm
    refine xw_iload (pc := 32) (i := 4) (x := v7) C dX6_stepBetween_32 rfl ?_
    obtain rfl := Option.some.inj hm
    exact xw_ireturn (pc := 34) C dX6_stepBetween_34 rfl hX
  · replace hm := xif_f q hm
    refine xw_iload (pc := 25) (i := 4) (x := v7) C dX6_stepBetween_25 rfl ?_
    refine xw_iload_n (pc := 27) (i := 3) (x := x3) C dX6_stepBetween_27 rfl rfl ?_
    refine xw_isub (pc := 28) C dX6_stepBetween_28 ?_
    refine xw_goto (pc := 29) (tgt := 34) C dX6_stepBetween_29 (by decide) ?_
    obtain rfl := Option.some.inj hm
    exact xw_ireturn (pc := 34) C dX6_stepBetween_34 rfl hX
def fX5_countSeeming_P22 (X : XCtx) (h : XH) (x0 : Nat) (x1 : Int32) (x2 : Int32) (x3 : Int32) (n sl : Nat) (s : (Int32 × Int32)) : Prop := XW X 22 [some (.ref x0), some (.int x1), some (.int x2), some (.int x3), some (.int s.1), some (.int s.2), none, none] [] h n sl
def fX5_countSeeming_E22 (X : XCtx) (h : XH) (x0 : Nat) (x1 : Int32) (x2 : Int32) (x3 : Int32) (n sl : Nat) (e : Int32) : Prop := XW X 96 [none, none, none, none, some (.int e), none, none, none] [] h n sl
set_option maxHeartbeats 4000000 in
set_option maxRecDepth 100000 in
theorem fX5_countSeeming_J79_w {X : XCtx} (C : XOK X RX5 cX5_countSeeming 8 "countSeeming" (some .int) 3 70) {n sl : Nat} (hN : XN X n sl)  {h : XH} {x0 : Nat} {x1 : Int32} {x2 : Int32} {x3 : Int32} {x4 : Int32} {x5 : Int32} {s0 : Int32} {o : (Int32 × Int32) ⊕ Int32} (hm : fX5_countSeeming_J79 h x0 x1 x2 x3 x4 x5 s0 = some o) (hc : ∀ s', o = .inl s' → fX5_countSeeming_P22 X h x0 x1 x2 x3 n sl s') (he : ∀ e', o = .inr e' → fX5_countSeeming_E22 X h x0 x1 x2 x3 n sl e') : XW X 79 [some (.ref x0), some (.int x1), some (.int x2), some (.int x3), some (.int x4), some (.int x5), none, none] [.int s0] h n sl := by
  unfold fX5_countSeeming_J79 at hm
  refine xw_istore (pc := 79) (i := 7) (x := s0) (L' := [some (.ref x0), some (.int x1), some (.int x2), some (.int x3), some (.int x4), some (.int x5), none, some (.int s0)]) C dX5_countSeeming_79 (Nat.le_of_ble_eq_true rfl) rfl ?_
  refine xw_iload (pc := 81) (i := 7) (x := s0) C dX5_countSeeming_81 rfl ?_
  refine xw_iload_n (pc := 83) (i := 1) (x := x1) C dX5_countSeeming_83 rfl rfl ?_
  refine xw_icmp_ne (pc := 84) (tgt := 90) C dX5_countSeeming_84 (by decide) (fun q => ?_) (fun q => ?_)
  · replace hm := xif_f q hm
    refine xw_iinc (pc := 90) (i := 5) (x := x5) (v := (x5 + (1 : Int32))) (L' := [some (.ref x0), some (.int x1), some (.int x2), some (.int x3), some (.int x4), some (.int (x5 + (1 : Int32))), none, some (.int s0)]) C dX5_countSeeming_90 rfl (congrArg (HAdd.hAdd _) xk_i_1) (Nat.le_of_ble_eq_true rfl) rfl ?_
    refine xw_goto (pc := 93) (tgt := 22) C dX5_countSeeming_93 (by decide) ?_
    obtain rfl := Option.some.inj hm
    refine xw_sub (pc := 22) _ ?_ (hc _ rfl)
    exact ⟨Or.inr rfl, Or.inr rfl, Or.inr rfl, Or.inr rfl, Or.inr rfl, Or.inr rfl, Or.inl rfl, Or.inl rfl, trivial⟩
  · replace hm := xif_t q hm
    refine xw_iinc (pc := 87) (i := 4) (x := x4) (v := (x4 + (1 : Int32))) (L' := [some (.ref x0), some (.int x1), some (.int x2), some (.int x3), some (.int (x4 + (1 : Int32))), some (.int x5), none, some (.int s0)]) C dX5_countSeeming_87 rfl (congrArg (HAdd.hAdd _) xk_i_1) (Nat.le_of_ble_eq_true rfl) rfl ?_
    refine xw_iinc (pc := 90) (i := 5) (x := x5) (v := (x5 + (1 : Int32))) (L' := [some (.ref x0), some (.int x1), some (.int x2), some (.int x3), some (.int (x4 + (1 : Int32))), some (.int (x5 + (1 : Int32))), none, some (.int s0)]) C dX5_countSeeming_90 rfl (congrArg (HAdd.hAdd _) xk_i_1) (Nat.le_of_ble_eq_true rfl) rfl ?_
    refine xw_goto (pc := 93) (tgt := 22) C dX5_countSeeming_93 (by decide) ?_
    obtain rfl := Option.some.inj hm
    refine xw_sub (pc := 22) _ ?_ (hc _ rfl)
    exact ⟨Or.inr rfl, Or.inr rfl, Or.inr rfl, Or.inr rfl, Or.inr rfl, Or.inr rfl, Or.inl rfl, Or.inl rfl, trivial⟩
set_option maxHeartbeats 4000000 in
set_option maxRecDepth 100000 in
theorem fX5_countSeeming_B22_w {X : XCtx} (C : XOK X RX5 cX5_countSeeming 8 "countSeeming" (some .int) 3 70) {n sl : Nat} (hN : XN X n sl) {h : XH} {x0 : Nat} {x1 : Int32} {x2 : Int32} {x3 : Int32} (s : (Int32 × Int32)) (o : (Int32 × Int32) ⊕ Int32) (hm : fX5_countSeeming_B22 h x0 x1 x2 x3 s = some o) (hc : ∀ s', o = .inl s' → fX5_countSeeming_P22 X h x0 x1 x2 x3 n sl s') (he : ∀ e', o = .inr e' → fX5_countSeeming_E22 X h x0 x1 x2 x3 n sl e') : fX5_countSeeming_P22 X h x0 x1 x2 x3 n sl s := by
  obtain ⟨x4, x5⟩ := s
  show XW X 22 [some (.ref x0), some (.int x1), some (.int x2), some (.int x3), some (.int x4), some (.int x5), none, none] [] h n sl
  replace hm : fX5_countSeeming_b22 h x0 x1 x2 x3 x4 x5 = some o := hm
  unfold fX5_countSeeming_b22 at hm
  refine xw_iload (pc := 22) (i := 5) (x := x5) C dX5_countSeeming_22 rfl ?_
  refine xw_iconst (pc := 24) (v := 1) C dX5_countSeeming_24 xk_i_1 ?_
  refine xw_iadd (pc := 25) C dX5_countSeeming_25 ?_
  refine xw_iload_n (pc := 26) (i := 3) (x := x3) C dX5_countSeeming_26 rfl rfl ?_
  refine xw_icmp_ge (pc := 27) (tgt := 96) C dX5_countSeeming_27 (by decide) (fun q => ?_) (fun q => ?_)
  · replace hm := xif_t q hm
    obtain rfl := Option.some.inj hm
    refine xw_sub (pc := 96) _ ?_ (he _ rfl)
    exact ⟨Or.inl rfl, Or.inl rfl, Or.inl rfl, Or.inl rfl, Or.inr rfl, Or.inl rfl, Or.inl rfl, Or.inl rfl, trivial⟩
  · replace hm := xif_f q hm
    refine xw_aload_n (pc := 30) (i := 0) (x := x0) C dX5_countSeeming_30 rfl rfl ?_
    obtain ⟨v11, q12, hm⟩ := xbind hm
    refine xw_getR (pc := 31) C dX5_countSeeming_31 fl_X5_10 q12 ?_
    refine xw_aload_n (pc := 34) (i := 0) (x := x0) C dX5_countSeeming_34 rfl rfl ?_
    obtain ⟨v13, q14, hm⟩ := xbind hm
    refine xw_getR (pc := 35) C dX5_countSeeming_35 fl_X5_19 q14 ?_
    refine xw_iload (pc := 38) (i := 5) (x := x5) C dX5_countSeeming_38 rfl ?_
    obtain ⟨_, q15, hm⟩ := xbind hm
    obtain ⟨v16, q17, hm⟩ := xbind hm
    refine xw_callV1 (pc := 40) (As := [.int x5]) (st := [.ref v11]) C dX5_countSeeming_40 (wX2_tickOf q17) dd_X2_tickOf lk_X5_54 dv_X2_tickOf (xco_spec q15) rfl (Nat.le_of_ble_eq_true rfl) (Nat.le_of_ble_eq_true rfl) (Nat.le_of_ble_eq_true rfl) ⟨Nat.le_refl _, Nat.le_refl _⟩ hN ?_
    refine xw_aload_n (pc := 43) (i := 0) (x := x0) C dX5_countSeeming_43 rfl rfl ?_
    obtain ⟨v18, q19, hm⟩ := xbind hm
    refine xw_getR (pc := 44) C dX5_countSeeming_44 fl_X5_19 q19 ?_
    refine xw_iload (pc := 47) (i := 5) (x := x5) C dX5_countSeeming_47 rfl ?_
    refine xw_iconst (pc := 49) (v := 1) C dX5_countSeeming_49 xk_i_1 ?_
    refine xw_iadd (pc := 50) C dX5_countSeeming_50 ?_
    obtain ⟨_, q20, hm⟩ := xbind hm
    obtain ⟨v21, q22, hm⟩ := xbind hm
    refine xw_callV1 (pc := 51) (As := [.int (x5 + (1 : Int32))]) (st := [.int v16, .ref v11]) C dX5_countSeeming_51 (wX2_tickOf q22) dd_X2_tickOf lk_X5_54 dv_X2_tickOf (xco_spec q20) rfl (Nat.le_of_ble_eq_true rfl) (Nat.le_of_ble_eq_true rfl) (Nat.le_of_ble_eq_true rfl) ⟨Nat.le_refl _, Nat.le_refl _⟩ hN ?_
    refine xw_iload_n (pc := 54) (i := 2) (x := x2) C dX5_countSeeming_54 rfl rfl ?_
    obtain ⟨_, q23, hm⟩ := xbind hm
    obtain ⟨v24, q25, hm⟩ := xbind hm
    refine xw_callV1 (pc := 55) (As := [.int v16, .int v21, .int x2]) (st := []) C dX5_countSeeming_55 (wX6_stepBetween q25) dd_X6_stepBetween lk_X5_70 dv_X6_stepBetween (xco_spec q23) rfl (Nat.le_of_ble_eq_true rfl) (Nat.le_of_ble_eq_true rfl) (Nat.le_of_ble_eq_true rfl) ⟨Nat.le_refl _, Nat.le_refl _⟩ hN ?_
    refine xw_istore (pc := 58) (i := 6) (x := v24) (L' := [some (.ref x0), some (.int x1), some (.int x2), some (.int x3), some (.int x4), some (.int x5), some (.int v24), none]) C dX5_countSeeming_58 (Nat.le_of_ble_eq_true rfl) rfl ?_
    refine xw_iload (pc := 60) (i := 6) (x := v24) C dX5_countSeeming_60 rfl ?_
    refine xw_if_ne (pc := 62) (tgt := 69) C dX5_countSeeming_62 (by decide) (fun q => ?_) (fun q => ?_)
    · replace hm := xif_f q hm
      refine xw_iload (pc := 69) (i := 6) (x := v24) C dX5_countSeeming_69 rfl ?_
      refine xw_if_le (pc := 71) (tgt := 78) C dX5_countSeeming_71 (by decide) (fun q => ?_) (fun q => ?_)
      · replace hm := xif_t q hm
        refine xw_iconst (pc := 78) (v := 2) C dX5_countSeeming_78 xk_i_2 ?_
        exact xw_sub (pc := 79) [some (.ref x0), some (.int x1), some (.int x2), some (.int x3), some (.int x4), some (.int x5), none, none] ⟨Or.inr rfl, Or.inr rfl, Or.inr rfl, Or.inr rfl, Or.inr rfl, Or.inr rfl, Or.inl rfl, Or.inl rfl, trivial⟩ (fX5_countSeeming_J79_w C hN hm hc he)
      · replace hm := xif_f q hm
        refine xw_iconst (pc := 74) (v := 1) C dX5_countSeeming_74 xk_i_1 ?_
        refine xw_goto (pc := 75) (tgt := 79) C dX5_countSeeming_75 (by decide) ?_
        exact xw_sub (pc := 79) [some (.ref x0), some (.int x1), some (.int x2), some (.int x3), some (.int x4), some (.int x5), none, none] ⟨Or.inr rfl, Or.inr rfl, Or.inr rfl, Or.inr rfl, Or.inr rfl, Or.inr rfl, Or.inl rfl, Or.inl rfl, trivial⟩ (fX5_countSeeming_J79_w C hN hm hc he)
    · replace hm := xif_t q hm
      refine xw_iconst (pc := 65) (v := 0) C dX5_countSeeming_65 xk_i_0 ?_
      refine xw_goto (pc := 66) (tgt := 79) C dX5_countSeeming_66 (by decide) ?_
      exact xw_sub (pc := 79) [some (.ref x0), some (.int x1), some (.int x2), some (.int x3), some (.int x4), some (.int x5), none, none] ⟨Or.inr rfl, Or.inr rfl, Or.inr rfl, Or.inr rfl, Or.inr rfl, Or.inr rfl, Or.inl rfl, Or.inl rfl, trivial⟩ (fX5_countSeeming_J79_w C hN hm hc he)
set_option maxHeartbeats 4000000 in
set_option maxRecDepth 100000 in
theorem wX5_countSeeming {l : Launch} {n sl : Nat} {h : XH} {x0 : Nat} {x1 : Int32} {o : Int32} (hm : fX5_countSeeming h x0 x1 = some o) : XM l yX5_countSeeming cX5_countSeeming 8 (some .int) 3 70 [.ref x0, .int x1] h n sl (some (.int o)) h n sl := by
  refine xm_of pnX5 [some (.ref x0), some (.int x1), none, none, none, none, none, none] 6 rfl (Nat.le_of_ble_eq_true rfl) ?_
  intro X hT C
  replace C : XOK X RX5 cX5_countSeeming 8 "countSeeming" (some .int) 3 70 := C
  obtain ⟨-, hN, hX⟩ := hT
  unfold fX5_countSeeming at hm
  refine xw_aload_n (pc := 0) (i := 0) (x := x0) C dX5_countSeeming_0 rfl rfl ?_
  obtain ⟨v1, q2, hm⟩ := xbind hm
  refine xw_getR (pc := 1) C dX5_countSeeming_1 fl_X5_10 q2 ?_
  obtain ⟨_, q3, hm⟩ := xbind hm
  obtain ⟨v4, q5, hm⟩ := xbind hm
  refine xw_callV1 (pc := 4) (As := []) (st := []) C dX5_countSeeming_4 (wX6_measure q5) dd_X6_measure lk_X5_50 dv_X6_measure (xco_spec q3) rfl (Nat.le_of_ble_eq_true rfl) (Nat.le_of_ble_eq_true rfl) (Nat.le_of_ble_eq_true rfl) ⟨Nat.le_refl _, Nat.le_refl _⟩ hN ?_
  refine xw_istore_n (pc := 7) (i := 2) (x := v4) (L' := [some (.ref x0), some (.int x1), some (.int v4), none, none, none, none, none]) C dX5_countSeeming_7 rfl (Nat.le_of_ble_eq_true rfl) rfl ?_
  refine xw_aload_n (pc := 8) (i := 0) (x := x0) C dX5_countSeeming_8 rfl rfl ?_
  obtain ⟨v6, q7, hm⟩ := xbind hm
  refine xw_getR (pc := 9) C dX5_countSeeming_9 fl_X5_19 q7 ?_
  obtain ⟨_, q8, hm⟩ := xbind hm
  obtain ⟨v9, q10, hm⟩ := xbind hm
  refine xw_callV1 (pc := 12) (As := []) (st := []) C dX5_countSeeming_12 (wX2_number q10) dd_X2_number lk_X5_67 dv_X2_number (xco_spec q8) rfl (Nat.le_of_ble_eq_true rfl) (Nat.le_of_ble_eq_true rfl) (Nat.le_of_ble_eq_true rfl) ⟨Nat.le_refl _, Nat.le_refl _⟩ hN ?_
  refine xw_istore_n (pc := 15) (i := 3) (x := v9) (L' := [some (.ref x0), some (.int x1), some (.int v4), some (.int v9), none, none, none, none]) C dX5_countSeeming_15 rfl (Nat.le_of_ble_eq_true rfl) rfl ?_
  refine xw_iconst (pc := 16) (v := 0) C dX5_countSeeming_16 xk_i_0 ?_
  refine xw_istore (pc := 17) (i := 4) (x := (0 : Int32)) (L' := [some (.ref x0), some (.int x1), some (.int v4), some (.int v9), some (.int (0 : Int32)), none, none, none]) C dX5_countSeeming_17 (Nat.le_of_ble_eq_true rfl) rfl ?_
  refine xw_iconst (pc := 19) (v := 0) C dX5_countSeeming_19 xk_i_0 ?_
  refine xw_istore (pc := 20) (i := 5) (x := (0 : Int32)) (L' := [some (.ref x0), some (.int x1), some (.int v4), some (.int v9), some (.int (0 : Int32)), some (.int (0 : Int32)), none, none]) C dX5_countSeeming_20 (Nat.le_of_ble_eq_true rfl) rfl ?_
  obtain ⟨e26, q27, hm⟩ := xbind hm
  refine xw_sub (pc := 22) [some (.ref x0), some (.int x1), some (.int v4), some (.int v9), some (.int (0 : Int32)), some (.int (0 : Int32)), none, none] ⟨Or.inr rfl, Or.inr rfl, Or.inr rfl, Or.inr rfl, Or.inr rfl, Or.inr rfl, Or.inl rfl, Or.inl rfl, trivial⟩ ?_
  refine xloop_walk (fX5_countSeeming_B22 h x0 x1 v4 v9) (fX5_countSeeming_P22 X h x0 x1 v4 v9 n sl) (fX5_countSeeming_E22 X h x0 x1 v4 v9 n sl) (fun s' o' => fX5_countSeeming_B22_w C hN s' o') 5000 ((0 : Int32), (0 : Int32)) e26 q27 ?_
  show XW X 96 [none, none, none, none, some (.int e26), none, none, none] [] h n sl
  refine xw_iload (pc := 96) (i := 4) (x := e26) C dX5_countSeeming_96 rfl ?_
  obtain rfl := Option.some.inj hm
  exact xw_ireturn (pc := 98) C dX5_countSeeming_98 rfl hX
def fX6_turnsModulo_P6 (X : XCtx) (h : XH) (x0 : Nat) (x1 : Int32) (x2 : Int32) (x3 : Int32) (x4 : Int32) (n sl : Nat) (s : (Int64 × Int32)) : Prop := XW X 6 [some (.ref x0), some (.int x1), some (.int x2), some (.int x3), some (.int x4), some (.long s.1), none, some (.int s.2)] [] h n sl
def fX6_turnsModulo_E6 (X : XCtx) (h : XH) (x0 : Nat) (x1 : Int32) (x2 : Int32) (x3 : Int32) (x4 : Int32) (n sl : Nat) (e : Int64) : Prop := XW X 40 [none, none, none, none, none, some (.long e), none, none] [] h n sl
set_option maxHeartbeats 4000000 in
set_option maxRecDepth 100000 in
theorem fX6_turnsModulo_B6_w {X : XCtx} (C : XOK X RX6 cX6_turnsModulo 8 "turnsModulo" (some .long) 2 46) {n sl : Nat} (hN : XN X n sl) {h : XH} {x0 : Nat} {x1 : Int32} {x2 : Int32} {x3 : Int32} {x4 : Int32} (s : (Int64 × Int32)) (o : (Int64 × Int32) ⊕ Int64) (hm : fX6_turnsModulo_B6 h x0 x1 x2 x3 x4 s = some o) (hc : ∀ s', o = .inl s' → fX6_turnsModulo_P6 X h x0 x1 x2 x3 x4 n sl s') (he : ∀ e', o = .inr e' → fX6_turnsModulo_E6 X h x0 x1 x2 x3 x4 n sl e') : fX6_turnsModulo_P6 X h x0 x1 x2 x3 x4 n sl s := by
  obtain ⟨x5, x7⟩ := s
  show XW X 6 [some (.ref x0), some (.int x1), some (.int x2), some (.int x3), some (.int x4), some (.long x5), none, some (.int x7)] [] h n sl
  replace hm : fX6_turnsModulo_b6 h x0 x1 x2 x3 x4 x5 x7 = some o := hm
  unfold fX6_turnsModulo_b6 at hm
  refine xw_iload (pc := 6) (i := 7) (x := x7) C dX6_turnsModulo_6 rfl ?_
  refine xw_iload_n (pc := 8) (i := 3) (x := x3) C dX6_turnsModulo_8 rfl rfl ?_
  refine xw_icmp_ge (pc := 9) (tgt := 40) C dX6_turnsModulo_9 (by decide) (fun q => ?_) (fun q => ?_)
  · replace hm := xif_t q hm
    obtain rfl := Option.some.inj hm
    refine xw_sub (pc := 40) _ ?_ (he _ rfl)
    exact ⟨Or.inl rfl, Or.inl rfl, Or.inl rfl, Or.inl rfl, Or.inl rfl, Or.inr rfl, Or.inl rfl, Or.inl rfl, trivial⟩
  · replace hm := xif_f q hm
    refine xw_lload (pc := 12) (i := 5) (x := x5) C dX6_turnsModulo_12 rfl ?_
    refine xw_lconst (pc := 14) (v := 1) C dX6_turnsModulo_14 xk_l_1 ?_
    refine xw_aload_n (pc := 15) (i := 0) (x := x0) C dX6_turnsModulo_15 rfl rfl ?_
    refine xw_iload_n (pc := 16) (i := 2) (x := x2) C dX6_turnsModulo_16 rfl rfl ?_
    refine xw_iload (pc := 17) (i := 7) (x := x7) C dX6_turnsModulo_17 rfl ?_
    refine xw_iload (pc := 19) (i := 4) (x := x4) C dX6_turnsModulo_19 rfl ?_
    refine xw_imul (pc := 21) C dX6_turnsModulo_21 ?_
    refine xw_iadd (pc := 22) C dX6_turnsModulo_22 ?_
    obtain ⟨_, q1, hm⟩ := xbind hm
    obtain ⟨v2, q3, hm⟩ := xbind hm
    refine xw_callV1 (pc := 23) (As := [.int (x2 + (x7 * x4))]) (st := [.long (1 : Int64), .long x5]) C dX6_turnsModulo_23 (wX6_turnAt q3) dd_X6_turnAt lk_X6_68 dv_X6_turnAt (xco_spec q1) rfl (Nat.le_of_ble_eq_true rfl) (Nat.le_of_ble_eq_true rfl) (Nat.le_of_ble_eq_true rfl) ⟨Nat.le_refl _, Nat.le_refl _⟩ hN ?_
    refine xw_iload_n (pc := 26) (i := 1) (x := x1) C dX6_turnsModulo_26 rfl rfl ?_
    obtain ⟨v4, q5, hm⟩ := xbind hm
    refine xw_callSN1 (pc := 27) (As := [.int v2, .int x1]) (st := [.long (1 : Int64), .long x5]) C dX6_turnsModulo_27 (wX8_mod q5) dd_X8_mod lk_X6_50 ds_X8_mod rfl (Nat.le_of_ble_eq_true rfl) (Nat.le_of_ble_eq_true rfl) (Nat.le_of_ble_eq_true rfl) ⟨Nat.le_refl _, Nat.le_refl _⟩ hN ?_
    refine xw_lshl (pc := 30) C dX6_turnsModulo_30 ?_
    refine xw_lor (pc := 31) C dX6_turnsModulo_31 ?_
    obtain ⟨y6, ey6, hm⟩ := xlet_ex hm
    refine xw_topJ ey6 ?_
    refine xw_lstore (pc := 32) (i := 5) (x := y6) (L' := [some (.ref x0), some (.int x1), some (.int x2), some (.int x3), some (.int x4), some (.long y6), none, some (.int x7)]) C dX6_turnsModulo_32 (Nat.le_of_ble_eq_true rfl) rfl ?_
    refine xw_iinc (pc := 34) (i := 7) (x := x7) (v := (x7 + (1 : Int32))) (L' := [some (.ref x0), some (.int x1), some (.int x2), some (.int x3), some (.int x4), some (.long y6), none, some (.int (x7 + (1 : Int32)))]) C dX6_turnsModulo_34 rfl (congrArg (HAdd.hAdd _) xk_i_1) (Nat.le_of_ble_eq_true rfl) rfl ?_
    refine xw_goto (pc := 37) (tgt := 6) C dX6_turnsModulo_37 (by decide) ?_
    obtain rfl := Option.some.inj hm
    refine xw_sub (pc := 6) _ ?_ (hc _ rfl)
    exact ⟨Or.inr rfl, Or.inr rfl, Or.inr rfl, Or.inr rfl, Or.inr rfl, Or.inr rfl, Or.inl rfl, Or.inr rfl, trivial⟩
set_option maxHeartbeats 4000000 in
set_option maxRecDepth 100000 in
theorem wX6_turnsModulo {l : Launch} {n sl : Nat} {h : XH} {x0 : Nat} {x1 : Int32} {x2 : Int32} {x3 : Int32} {x4 : Int32} {o : Int64} (hm : fX6_turnsModulo h x0 x1 x2 x3 x4 = some o) : XM l yX6_turnsModulo cX6_turnsModulo 8 (some .long) 2 46 [.ref x0, .int x1, .int x2, .int x3, .int x4] h n sl (some (.long o)) h n sl := by
  refine xm_of pnX6 [some (.ref x0), some (.int x1), some (.int x2), some (.int x3), some (.int x4), none, none, none] 3 rfl (Nat.le_of_ble_eq_true rfl) ?_
  intro X hT C
  replace C : XOK X RX6 cX6_turnsModulo 8 "turnsModulo" (some .long) 2 46 := C
  obtain ⟨-, hN, hX⟩ := hT
  unfold fX6_turnsModulo at hm
  refine xw_lconst (pc := 0) (v := 0) C dX6_turnsModulo_0 xk_l_0 ?_
  refine xw_lstore (pc := 1) (i := 5) (x := (0 : Int64)) (L' := [some (.ref x0), some (.int x1), some (.int x2), some (.int x3), some (.int x4), some (.long (0 : Int64)), none, none]) C dX6_turnsModulo_1 (Nat.le_of_ble_eq_true rfl) rfl ?_
  refine xw_iconst (pc := 3) (v := 0) C dX6_turnsModulo_3 xk_i_0 ?_
  refine xw_istore (pc := 4) (i := 7) (x := (0 : Int32)) (L' := [some (.ref x0), some (.int x1), some (.int x2), some (.int x3), some (.int x4), some (.long (0 : Int64)), none, some (.int (0 : Int32))]) C dX6_turnsModulo_4 (Nat.le_of_ble_eq_true rfl) rfl ?_
  obtain ⟨e7, q8, hm⟩ := xbind hm
  refine xw_sub (pc := 6) [some (.ref x0), some (.int x1), some (.int x2), some (.int x3), some (.int x4), some (.long (0 : Int64)), none, some (.int (0 : Int32))] ⟨Or.inr rfl, Or.inr rfl, Or.inr rfl, Or.inr rfl, Or.inr rfl, Or.inr rfl, Or.inl rfl, Or.inr rfl, trivial⟩ ?_
  refine xloop_walk (fX6_turnsModulo_B6 h x0 x1 x2 x3 x4) (fX6_turnsModulo_P6 X h x0 x1 x2 x3 x4 n sl) (fX6_turnsModulo_E6 X h x0 x1 x2 x3 x4 n sl) (fun s' o' => fX6_turnsModulo_B6_w C hN s' o') 5000 ((0 : Int64), (0 : Int32)) e7 q8 ?_
  show XW X 40 [none, none, none, none, none, some (.long e7), none, none] [] h n sl
  refine xw_lload (pc := 40) (i := 5) (x := e7) C dX6_turnsModulo_40 rfl ?_
  obtain rfl := Option.some.inj hm
  exact xw_lreturn (pc := 42) C dX6_turnsModulo_42 rfl hX
set_option maxHeartbeats 4000000 in
set_option maxRecDepth 100000 in
theorem wX5_differentPictures {l : Launch} {n sl : Nat} {h : XH} {x0 : Nat} {o : Int32} (hm : fX5_differentPictures h x0 = some o) : XM l yX5_differentPictures cX5_differentPictures 1 (some .int) 3 73 [.ref x0] h n sl (some (.int o)) h n sl := by
  refine xm_of pnX5 [some (.ref x0)] 0 rfl (Nat.le_of_ble_eq_true rfl) ?_
  intro X hT C
  replace C : XOK X RX5 cX5_differentPictures 1 "differentPictures" (some .int) 3 73 := C
  obtain ⟨-, hN, hX⟩ := hT
  unfold fX5_differentPictures at hm
  refine xw_aload_n (pc := 0) (i := 0) (x := x0) C dX5_differentPictures_0 rfl rfl ?_
  obtain ⟨v1, q2, hm⟩ := xbind hm
  refine xw_getR (pc := 1) C dX5_differentPictures_1 fl_X5_10 q2 ?_
  refine xw_aload_n (pc := 4) (i := 0) (x := x0) C dX5_differentPictures_4 rfl rfl ?_
  obtain ⟨v3, q4, hm⟩ := xbind hm
  refine xw_getR (pc := 5) C dX5_differentPictures_5 fl_X5_10 q4 ?_
  obtain ⟨_, q5, hm⟩ := xbind hm
  obtain ⟨v6, q7, hm⟩ := xbind hm
  refine xw_callV1 (pc := 8) (As := []) (st := [.ref v1]) C dX5_differentPictures_8 (wX6_measure q7) dd_X6_measure lk_X5_50 dv_X6_measure (xco_spec q5) rfl (Nat.le_of_ble_eq_true rfl) (Nat.le_of_ble_eq_true rfl) (Nat.le_of_ble_eq_true rfl) ⟨Nat.le_refl _, Nat.le_refl _⟩ hN ?_
  refine xw_aload_n (pc := 11) (i := 0) (x := x0) C dX5_differentPictures_11 rfl rfl ?_
  obtain ⟨v8, q9, hm⟩ := xbind hm
  refine xw_getR (pc := 12) C dX5_differentPictures_12 fl_X5_19 q9 ?_
  obtain ⟨v10, q11, hm⟩ := xbind hm
  refine xw_getI (pc := 15) C dX5_differentPictures_15 fl_X5_74 q11 ?_
  refine xw_aload_n (pc := 18) (i := 0) (x := x0) C dX5_differentPictures_18 rfl rfl ?_
  obtain ⟨v12, q13, hm⟩ := xbind hm
  refine xw_getR (pc := 19) C dX5_differentPictures_19 fl_X5_19 q13 ?_
  obtain ⟨_, q14, hm⟩ := xbind hm
  obtain ⟨v15, q16, hm⟩ := xbind hm
  refine xw_callV1 (pc := 22) (As := []) (st := [.int v10, .int v6, .ref v1]) C dX5_differentPictures_22 (wX2_number q16) dd_X2_number lk_X5_67 dv_X2_number (xco_spec q14) rfl (Nat.le_of_ble_eq_true rfl) (Nat.le_of_ble_eq_true rfl) (Nat.le_of_ble_eq_true rfl) ⟨Nat.le_refl _, Nat.le_refl _⟩ hN ?_
  refine xw_aload_n (pc := 25) (i := 0) (x := x0) C dX5_differentPictures_25 rfl rfl ?_
  obtain ⟨v17, q18, hm⟩ := xbind hm
  refine xw_getR (pc := 26) C dX5_differentPictures_26 fl_X5_19 q18 ?_
  obtain ⟨v19, q20, hm⟩ := xbind hm
  refine xw_getI (pc := 29) C dX5_differentPictures_29 fl_X5_78 q20 ?_
  obtain ⟨_, q21, hm⟩ := xbind hm
  obtain ⟨v22, q23, hm⟩ := xbind hm
  refine xw_callV1 (pc := 32) (As := [.int v6, .int v10, .int v15, .int v19]) (st := []) C dX5_differentPictures_32 (wX6_turnsModulo q23) dd_X6_turnsModulo lk_X5_81 dv_X6_turnsModulo (xco_spec q21) rfl (Nat.le_of_ble_eq_true rfl) (Nat.le_of_ble_eq_true rfl) (Nat.le_of_ble_eq_true rfl) ⟨Nat.le_refl _, Nat.le_refl _⟩ hN ?_
  obtain ⟨v24, q25, hm⟩ := xbind hm
  refine xw_callS1 (pc := 35) (As := [.long v22]) (st := []) C dX5_differentPictures_35 (wJ13_bitCount_95d88 q25) dd_J13_bitCount_95d88 lk_X5_85 ds_J13_bitCount_95d88 rfl (Nat.le_of_ble_eq_true rfl) (Nat.le_of_ble_eq_true rfl) (Nat.le_of_ble_eq_true rfl) ⟨Nat.le_refl _, Nat.le_refl _⟩ hN ?_
  obtain rfl := Option.some.inj hm
  exact xw_ireturn (pc := 38) C dX5_differentPictures_38 rfl hX
def fX5_earliestAlike_P31 (X : XCtx) (h : XH) (x0 : Nat) (x1 : Int32) (x2 : Int32) (x3 : Int32) (n sl : Nat) (s : Int32) : Prop := XW X 31 [some (.ref x0), some (.int x1), some (.int x2), some (.int x3), some (.int s)] [] h n sl
def fX5_earliestAlike_E31 (X : XCtx) (h : XH) (x0 : Nat) (x1 : Int32) (x2 : Int32) (x3 : Int32) (n sl : Nat) (e : (Int32 ⊕ Unit)) : Prop := match e with
  | .inl e => XW X 61 [none, none, none, none, some (.int e)] [] h n sl
  | .inr e => XW X 70 [none, some (.int x1), none, none, none] [] h n sl
set_option maxHeartbeats 4000000 in
set_option maxRecDepth 100000 in
theorem fX5_earliestAlike_B31_w {X : XCtx} (C : XOK X RX5 cX5_earliestAlike 5 "earliestAlike" (some .int) 3 64) {n sl : Nat} (hN : XN X n sl) {h : XH} {x0 : Nat} {x1 : Int32} {x2 : Int32} {x3 : Int32} (s : Int32) (o : Int32 ⊕ (Int32 ⊕ Unit)) (hm : fX5_earliestAlike_B31 h x0 x1 x2 x3 s = some o) (hc : ∀ s', o = .inl s' → fX5_earliestAlike_P31 X h x0 x1 x2 x3 n sl s') (he : ∀ e', o = .inr e' → fX5_earliestAlike_E31 X h x0 x1 x2 x3 n sl e') : fX5_earliestAlike_P31 X h x0 x1 x2 x3 n sl s := by
  revert s; intro x4 hm
  show XW X 31 [some (.ref x0), some (.int x1), some (.int x2), some (.int x3), some (.int x4)] [] h n sl
  replace hm : fX5_earliestAlike_b31 h x0 x1 x2 x3 x4 = some o := hm
  unfold fX5_earliestAlike_b31 at hm
  refine xw_iload (pc := 31) (i := 4) (x := x4) C dX5_earliestAlike_31 rfl ?_
  refine xw_iload_n (pc := 33) (i := 1) (x := x1) C dX5_earliestAlike_33 rfl rfl ?_
  refine xw_icmp_ge (pc := 34) (tgt := 70) C dX5_earliestAlike_34 (by decide) (fun q => ?_) (fun q => ?_)
  · replace hm := xif_t q hm
    obtain rfl := Option.some.inj hm
    refine xw_sub (pc := 70) _ ?_ (he _ rfl)
    exact ⟨Or.inl rfl, Or.inr rfl, Or.inl rfl, Or.inl rfl, Or.inl rfl, trivial⟩
  · replace hm := xif_f q hm
    refine xw_aload_n (pc := 37) (i := 0) (x := x0) C dX5_earliestAlike_37 rfl rfl ?_
    obtain ⟨v18, q19, hm⟩ := xbind hm
    refine xw_getR (pc := 38) C dX5_earliestAlike_38 fl_X5_10 q19 ?_
    refine xw_aload_n (pc := 41) (i := 0) (x := x0) C dX5_earliestAlike_41 rfl rfl ?_
    obtain ⟨v20, q21, hm⟩ := xbind hm
    refine xw_getR (pc := 42) C dX5_earliestAlike_42 fl_X5_19 q21 ?_
    refine xw_iload (pc := 45) (i := 4) (x := x4) C dX5_earliestAlike_45 rfl ?_
    obtain ⟨_, q22, hm⟩ := xbind hm
    obtain ⟨v23, q24, hm⟩ := xbind hm
    refine xw_callV1 (pc := 47) (As := [.int x4]) (st := [.ref v18]) C dX5_earliestAlike_47 (wX2_tickOf q24) dd_X2_tickOf lk_X5_54 dv_X2_tickOf (xco_spec q22) rfl (Nat.le_of_ble_eq_true rfl) (Nat.le_of_ble_eq_true rfl) (Nat.le_of_ble_eq_true rfl) ⟨Nat.le_refl _, Nat.le_refl _⟩ hN ?_
    obtain ⟨_, q25, hm⟩ := xbind hm
    obtain ⟨v26, q27, hm⟩ := xbind hm
    refine xw_callV1 (pc := 50) (As := [.int v23]) (st := []) C dX5_earliestAlike_50 (wX6_turnAt q27) dd_X6_turnAt lk_X5_58 dv_X6_turnAt (xco_spec q25) rfl (Nat.le_of_ble_eq_true rfl) (Nat.le_of_ble_eq_true rfl) (Nat.le_of_ble_eq_true rfl) ⟨Nat.le_refl _, Nat.le_refl _⟩ hN ?_
    refine xw_iload_n (pc := 53) (i := 2) (x := x2) C dX5_earliestAlike_53 rfl rfl ?_
    obtain ⟨v28, q29, hm⟩ := xbind hm
    refine xw_callSN1 (pc := 54) (As := [.int v26, .int x2]) (st := []) C dX5_earliestAlike_54 (wX8_mod q29) dd_X8_mod lk_X5_61 ds_X8_mod rfl (Nat.le_of_ble_eq_true rfl) (Nat.le_of_ble_eq_true rfl) (Nat.le_of_ble_eq_true rfl) ⟨Nat.le_refl _, Nat.le_refl _⟩ hN ?_
    refine xw_iload_n (pc := 57) (i := 3) (x := x3) C dX5_earliestAlike_57 rfl rfl ?_
    refine xw_icmp_ne (pc := 58) (tgt := 64) C dX5_earliestAlike_58 (by decide) (fun q => ?_) (fun q => ?_)
    · replace hm := xif_f q hm
      refine xw_iinc (pc := 64) (i := 4) (x := x4) (v := (x4 + (1 : Int32))) (L' := [some (.ref x0), some (.int x1), some (.int x2), some (.int x3), some (.int (x4 + (1 : Int32)))]) C dX5_earliestAlike_64 rfl (congrArg (HAdd.hAdd _) xk_i_1) (Nat.le_of_ble_eq_true rfl) rfl ?_
      refine xw_goto (pc := 67) (tgt := 31) C dX5_earliestAlike_67 (by decide) ?_
      obtain rfl := Option.some.inj hm
      refine xw_sub (pc := 31) _ ?_ (hc _ rfl)
      exact ⟨Or.inr rfl, Or.inr rfl, Or.inr rfl, Or.inr rfl, Or.inr rfl, trivial⟩
    · replace hm := xif_t q hm
      obtain rfl := Option.some.inj hm
      refine xw_sub (pc := 61) _ ?_ (he _ rfl)
      exact ⟨Or.inl rfl, Or.inl rfl, Or.inl rfl, Or.inl rfl, Or.inr rfl, trivial⟩
set_option maxHeartbeats 4000000 in
set_option maxRecDepth 100000 in
theorem wX5_earliestAlike {l : Launch} {n sl : Nat} {h : XH} {x0 : Nat} {x1 : Int32} {o : Int32} (hm : fX5_earliestAlike h x0 x1 = some o) : XM l yX5_earliestAlike cX5_earliestAlike 5 (some .int) 3 64 [.ref x0, .int x1] h n sl (some (.int o)) h n sl := by
  refine xm_of pnX5 [some (.ref x0), some (.int x1), none, none, none] 3 rfl (Nat.le_of_ble_eq_true rfl) ?_
  intro X hT C
  replace C : XOK X RX5 cX5_earliestAlike 5 "earliestAlike" (some .int) 3 64 := C
  obtain ⟨-, hN, hX⟩ := hT
  unfold fX5_earliestAlike at hm
  refine xw_aload_n (pc := 0) (i := 0) (x := x0) C dX5_earliestAlike_0 rfl rfl ?_
  obtain ⟨v1, q2, hm⟩ := xbind hm
  refine xw_getR (pc := 1) C dX5_earliestAlike_1 fl_X5_10 q2 ?_
  obtain ⟨_, q3, hm⟩ := xbind hm
  obtain ⟨v4, q5, hm⟩ := xbind hm
  refine xw_callV1 (pc := 4) (As := []) (st := []) C dX5_earliestAlike_4 (wX6_measure q5) dd_X6_measure lk_X5_50 dv_X6_measure (xco_spec q3) rfl (Nat.le_of_ble_eq_true rfl) (Nat.le_of_ble_eq_true rfl) (Nat.le_of_ble_eq_true rfl) ⟨Nat.le_refl _, Nat.le_refl _⟩ hN ?_
  refine xw_istore_n (pc := 7) (i := 2) (x := v4) (L' := [some (.ref x0), some (.int x1), some (.int v4), none, none]) C dX5_earliestAlike_7 rfl (Nat.le_of_ble_eq_true rfl) rfl ?_
  refine xw_aload_n (pc := 8) (i := 0) (x := x0) C dX5_earliestAlike_8 rfl rfl ?_
  obtain ⟨v6, q7, hm⟩ := xbind hm
  refine xw_getR (pc := 9) C dX5_earliestAlike_9 fl_X5_10 q7 ?_
  refine xw_aload_n (pc := 12) (i := 0) (x := x0) C dX5_earliestAlike_12 rfl rfl ?_
  obtain ⟨v8, q9, hm⟩ := xbind hm
  refine xw_getR (pc := 13) C dX5_earliestAlike_13 fl_X5_19 q9 ?_
  refine xw_iload_n (pc := 16) (i := 1) (x := x1) C dX5_earliestAlike_16 rfl rfl ?_
  obtain ⟨_, q10, hm⟩ := xbind hm
  obtain ⟨v11, q12, hm⟩ := xbind hm
  refine xw_callV1 (pc := 17) (As := [.int x1]) (st := [.ref v6]) C dX5_earliestAlike_17 (wX2_tickOf q12) dd_X2_tickOf lk_X5_54 dv_X2_tickOf (xco_spec q10) rfl (Nat.le_of_ble_eq_true rfl) (Nat.le_of_ble_eq_true rfl) (Nat.le_of_ble_eq_true rfl) ⟨Nat.le_refl _, Nat.le_refl _⟩ hN ?_
  obtain ⟨_, q13, hm⟩ := xbind hm
  obtain ⟨v14, q15, hm⟩ := xbind hm
  refine xw_callV1 (pc := 20) (As := [.int v11]) (st := []) C dX5_earliestAlike_20 (wX6_turnAt q15) dd_X6_turnAt lk_X5_58 dv_X6_turnAt (xco_spec q13) rfl (Nat.le_of_ble_eq_true rfl) (Nat.le_of_ble_eq_true rfl) (Nat.le_of_ble_eq_true rfl) ⟨Nat.le_refl _, Nat.le_refl _⟩ hN ?_
  refine xw_iload_n (pc := 23) (i := 2) (x := v4) C dX5_earliestAlike_23 rfl rfl ?_
  obtain ⟨v16, q17, hm⟩ := xbind hm
  refine xw_callSN1 (pc := 24) (As := [.int v14, .int v4]) (st := []) C dX5_earliestAlike_24 (wX8_mod q17) dd_X8_mod lk_X5_61 ds_X8_mod rfl (Nat.le_of_ble_eq_true rfl) (Nat.le_of_ble_eq_true rfl) (Nat.le_of_ble_eq_true rfl) ⟨Nat.le_refl _, Nat.le_refl _⟩ hN ?_
  refine xw_istore_n (pc := 27) (i := 3) (x := v16) (L' := [some (.ref x0), some (.int x1), some (.int v4), some (.int v16), none]) C dX5_earliestAlike_27 rfl (Nat.le_of_ble_eq_true rfl) rfl ?_
  refine xw_iconst (pc := 28) (v := 0) C dX5_earliestAlike_28 xk_i_0 ?_
  refine xw_istore (pc := 29) (i := 4) (x := (0 : Int32)) (L' := [some (.ref x0), some (.int x1), some (.int v4), some (.int v16), some (.int (0 : Int32))]) C dX5_earliestAlike_29 (Nat.le_of_ble_eq_true rfl) rfl ?_
  obtain ⟨e30, q31, hm⟩ := xbind hm
  refine xw_sub (pc := 31) [some (.ref x0), some (.int x1), some (.int v4), some (.int v16), some (.int (0 : Int32))] ⟨Or.inr rfl, Or.inr rfl, Or.inr rfl, Or.inr rfl, Or.inr rfl, trivial⟩ ?_
  refine xloop_walk (fX5_earliestAlike_B31 h x0 x1 v4 v16) (fX5_earliestAlike_P31 X h x0 x1 v4 v16 n sl) (fX5_earliestAlike_E31 X h x0 x1 v4 v16 n sl) (fun s' o' => fX5_earliestAlike_B31_w C hN s' o') 5000 (0 : Int32) e30 q31 ?_
  rcases e30 with e30 | e30
  · dsimp only at hm
    show XW X 61 [none, none, none, none, some (.int e30)] [] h n sl
    refine xw_iload (pc := 61) (i := 4) (x := e30) C dX5_earliestAlike_61 rfl ?_
    obtain rfl := Option.some.inj hm
    exact xw_ireturn (pc := 63) C dX5_earliestAlike_63 rfl hX
  · dsimp only at hm
    show XW X 70 [none, some (.int x1), none, none, none] [] h n sl
    refine xw_iload_n (pc := 70) (i := 1) (x := x1) C dX5_earliestAlike_70 rfl rfl ?_
    obtain rfl := Option.some.inj hm
    exact xw_ireturn (pc := 71) C dX5_earliestAlike_71 rfl hX
set_option maxHeartbeats 4000000 in
set_option maxRecDepth 100000 in
theorem wX6_addCell {l : Launch} {n sl : Nat} {h : XH} {x0 : Nat} {x1 : Int32} {o : XH} (hm : fX6_addCell h x0 x1 = some o) : XM l yX6_addCell cX6_addCell 2 none 1 22 [.ref x0, .int x1] h n sl none o n sl := by
  refine xm_of pnX6 [some (.ref x0), some (.int x1)] 0 rfl (Nat.le_of_ble_eq_true rfl) ?_
  intro X hT C
  replace C : XOK X RX6 cX6_addCell 2 "addCell" none 1 22 := C
  obtain ⟨-, hN, hX⟩ := hT
  unfold fX6_addCell at hm
  refine xw_aload_n (pc := 0) (i := 0) (x := x0) C dX6_addCell_0 rfl rfl ?_
  obtain ⟨v1, q2, hm⟩ := xbind hm
  refine xw_getR (pc := 1) C dX6_addCell_1 fl_X6_9 q2 ?_
  refine xw_aload_n (pc := 4) (i := 0) (x := x0) C dX6_addCell_4 rfl rfl ?_
  obtain ⟨v3, q4, hm⟩ := xbind hm
  refine xw_getI (pc := 5) C dX6_addCell_5 fl_X6_21 q4 ?_
  refine xw_iload_n (pc := 8) (i := 1) (x := x1) C dX6_addCell_8 rfl rfl ?_
  obtain ⟨h5, q6, hm⟩ := xbind hm
  refine xw_callSN0 (pc := 9) (As := [.ref v1, .int v3, .int x1]) (st := []) C dX6_addCell_9 (wX8_put q6) dd_X8_put lk_X6_25 ds_X8_put rfl (Nat.le_of_ble_eq_true rfl) (Nat.le_of_ble_eq_true rfl) (Nat.le_of_ble_eq_true rfl) ⟨Nat.le_refl _, Nat.le_refl _⟩ hN ?_
  refine xw_aload_n (pc := 12) (i := 0) (x := x0) C dX6_addCell_12 rfl rfl ?_
  refine xw_dup (pc := 13) C dX6_addCell_13 rfl ?_
  obtain ⟨v7, q8, hm⟩ := xbind hm
  refine xw_getI (pc := 14) C dX6_addCell_14 fl_X6_21 q8 ?_
  refine xw_iconst (pc := 17) (v := 1) C dX6_addCell_17 xk_i_1 ?_
  refine xw_iadd (pc := 18) C dX6_addCell_18 ?_
  obtain ⟨h9, q10, hm⟩ := xbind hm
  refine xw_put (pc := 19) C dX6_addCell_19 fl_X6_21 q10 (fun _ => rfl) (fun _ => rfl) ?_
  obtain rfl := Option.some.inj hm
  exact xw_return (pc := 22) C dX6_addCell_22 rfl hX
set_option maxHeartbeats 4000000 in
set_option maxRecDepth 100000 in
theorem wX6_empty {l : Launch} {n sl : Nat} {h : XH} {x0 : Nat} {o : XH} (hm : fX6_empty h x0 = some o) : XM l yX6_empty cX6_empty 1 none 0 0 [.ref x0] h n sl none o n sl := by
  refine xm_of pnX6 [some (.ref x0)] 0 rfl (Nat.le_of_ble_eq_true rfl) ?_
  intro X hT C
  replace C : XOK X RX6 cX6_empty 1 "empty" none 0 0 := C
  obtain ⟨-, hN, hX⟩ := hT
  unfold fX6_empty at hm
  refine xw_aload_n (pc := 0) (i := 0) (x := x0) C dX6_empty_0 rfl rfl ?_
  refine xw_iconst (pc := 1) (v := 0) C dX6_empty_1 xk_i_0 ?_
  obtain ⟨h1, q2, hm⟩ := xbind hm
  refine xw_put (pc := 2) C dX6_empty_2 fl_X6_21 q2 (fun _ => rfl) (fun _ => rfl) ?_
  refine xw_aload_n (pc := 5) (i := 0) (x := x0) C dX6_empty_5 rfl rfl ?_
  refine xw_iconst (pc := 6) (v := 0) C dX6_empty_6 xk_i_0 ?_
  obtain ⟨h3, q4, hm⟩ := xbind hm
  refine xw_put (pc := 7) C dX6_empty_7 fl_X6_33 q4 (fun _ => rfl) (fun _ => rfl) ?_
  refine xw_aload_n (pc := 10) (i := 0) (x := x0) C dX6_empty_10 rfl rfl ?_
  refine xw_iconst (pc := 11) (v := 0) C dX6_empty_11 xk_i_0 ?_
  obtain ⟨h5, q6, hm⟩ := xbind hm
  refine xw_put (pc := 12) C dX6_empty_12 fl_X6_36 q6 (fun _ => rfl) (fun _ => rfl) ?_
  refine xw_aload_n (pc := 15) (i := 0) (x := x0) C dX6_empty_15 rfl rfl ?_
  refine xw_iconst (pc := 16) (v := 0) C dX6_empty_16 xk_i_0 ?_
  obtain ⟨h7, q8, hm⟩ := xbind hm
  refine xw_put (pc := 17) C dX6_empty_17 fl_X6_39 q8 (fun _ => rfl) (fun _ => rfl) ?_
  obtain rfl := Option.some.inj hm
  exact xw_return (pc := 20) C dX6_empty_20 rfl hX
def fX6_placeOfChange_P2 (X : XCtx) (h : XH) (x0 : Nat) (x1 : Int32) (n sl : Nat) (s : Int32) : Prop := XW X 2 [some (.ref x0), some (.int x1), some (.int s)] [] h n sl
def fX6_placeOfChange_E2 (X : XCtx) (h : XH) (x0 : Nat) (x1 : Int32) (n sl : Nat) (e : Int32) : Prop := XW X 28 [none, none, some (.int e)] [] h n sl
set_option maxHeartbeats 4000000 in
set_option maxRecDepth 100000 in
theorem fX6_placeOfChange_B2_w {X : XCtx} (C : XOK X RX6 cX6_placeOfChange 3 "placeOfChange" (some .int) 1 21) {n sl : Nat} (hN : XN X n sl) {h : XH} {x0 : Nat} {x1 : Int32} (s : Int32) (o : Int32 ⊕ Int32) (hm : fX6_placeOfChange_B2 h x0 x1 s = some o) (hc : ∀ s', o = .inl s' → fX6_placeOfChange_P2 X h x0 x1 n sl s') (he : ∀ e', o = .inr e' → fX6_placeOfChange_E2 X h x0 x1 n sl e') : fX6_placeOfChange_P2 X h x0 x1 n sl s := by
  revert s; intro x2 hm
  show XW X 2 [some (.ref x0), some (.int x1), some (.int x2)] [] h n sl
  replace hm : fX6_placeOfChange_b2 h x0 x1 x2 = some o := hm
  unfold fX6_placeOfChange_b2 at hm
  refine xw_iload_n (pc := 2) (i := 2) (x := x2) C dX6_placeOfChange_2 rfl rfl ?_
  refine xw_aload_n (pc := 3) (i := 0) (x := x0) C dX6_placeOfChange_3 rfl rfl ?_
  obtain ⟨v1, q2, hm⟩ := xbind hm
  refine xw_getI (pc := 4) C dX6_placeOfChange_4 fl_X6_39 q2 ?_
  refine xw_icmp_ge (pc := 7) (tgt := 28) C dX6_placeOfChange_7 (by decide) (fun q => ?_) (fun q => ?_)
  · replace hm := xif_t q hm
    obtain rfl := Option.some.inj hm
    refine xw_sub (pc := 28) _ ?_ (he _ rfl)
    exact ⟨Or.inl rfl, Or.inl rfl, Or.inr rfl, trivial⟩
  · replace hm := xif_f q hm
    refine xw_aload_n (pc := 10) (i := 0) (x := x0) C dX6_placeOfChange_10 rfl rfl ?_
    obtain ⟨v3, q4, hm⟩ := xbind hm
    refine xw_getR (pc := 11) C dX6_placeOfChange_11 fl_X6_15 q4 ?_
    refine xw_iload_n (pc := 14) (i := 2) (x := x2) C dX6_placeOfChange_14 rfl rfl ?_
    obtain ⟨v5, q6, hm⟩ := xbind hm
    refine xw_callSN1 (pc := 15) (As := [.ref v3, .int x2]) (st := []) C dX6_placeOfChange_15 (wX8_at q6) dd_X8_at lk_X6_42 ds_X8_at rfl (Nat.le_of_ble_eq_true rfl) (Nat.le_of_ble_eq_true rfl) (Nat.le_of_ble_eq_true rfl) ⟨Nat.le_refl _, Nat.le_refl _⟩ hN ?_
    refine xw_iload_n (pc := 18) (i := 1) (x := x1) C dX6_placeOfChange_18 rfl rfl ?_
    refine xw_icmp_ge (pc := 19) (tgt := 28) C dX6_placeOfChange_19 (by decide) (fun q => ?_) (fun q => ?_)
    · replace hm := xif_t q hm
      obtain rfl := Option.some.inj hm
      refine xw_sub (pc := 28) _ ?_ (he _ rfl)
      exact ⟨Or.inl rfl, Or.inl rfl, Or.inr rfl, trivial⟩
    · replace hm := xif_f q hm
      refine xw_iinc (pc := 22) (i := 2) (x := x2) (v := (x2 + (1 : Int32))) (L' := [some (.ref x0), some (.int x1), some (.int (x2 + (1 : Int32)))]) C dX6_placeOfChange_22 rfl (congrArg (HAdd.hAdd _) xk_i_1) (Nat.le_of_ble_eq_true rfl) rfl ?_
      refine xw_goto (pc := 25) (tgt := 2) C dX6_placeOfChange_25 (by decide) ?_
      obtain rfl := Option.some.inj hm
      refine xw_sub (pc := 2) _ ?_ (hc _ rfl)
      exact ⟨Or.inr rfl, Or.inr rfl, Or.inr rfl, trivial⟩
set_option maxHeartbeats 4000000 in
set_option maxRecDepth 100000 in
theorem wX6_placeOfChange {l : Launch} {n sl : Nat} {h : XH} {x0 : Nat} {x1 : Int32} {o : Int32} (hm : fX6_placeOfChange h x0 x1 = some o) : XM l yX6_placeOfChange cX6_placeOfChange 3 (some .int) 1 21 [.ref x0, .int x1] h n sl (some (.int o)) h n sl := by
  refine xm_of pnX6 [some (.ref x0), some (.int x1), none] 1 rfl (Nat.le_of_ble_eq_true rfl) ?_
  intro X hT C
  replace C : XOK X RX6 cX6_placeOfChange 3 "placeOfChange" (some .int) 1 21 := C
  obtain ⟨-, hN, hX⟩ := hT
  unfold fX6_placeOfChange at hm
  refine xw_iconst (pc := 0) (v := 0) C dX6_placeOfChange_0 xk_i_0 ?_
  refine xw_istore_n (pc := 1) (i := 2) (x := (0 : Int32)) (L' := [some (.ref x0), some (.int x1), some (.int (0 : Int32))]) C dX6_placeOfChange_1 rfl (Nat.le_of_ble_eq_true rfl) rfl ?_
  obtain ⟨e7, q8, hm⟩ := xbind hm
  refine xw_sub (pc := 2) [some (.ref x0), some (.int x1), some (.int (0 : Int32))] ⟨Or.inr rfl, Or.inr rfl, Or.inr rfl, trivial⟩ ?_
  refine xloop_walk (fX6_placeOfChange_B2 h x0 x1) (fX6_placeOfChange_P2 X h x0 x1 n sl) (fX6_placeOfChange_E2 X h x0 x1 n sl) (fun s' o' => fX6_placeOfChange_B2_w C hN s' o') 5000 (0 : Int32) e7 q8 ?_
  show XW X 28 [none, none, some (.int e7)] [] h n sl
  refine xw_iload_n (pc := 28) (i := 2) (x := e7) C dX6_placeOfChange_28 rfl rfl ?_
  obtain rfl := Option.some.inj hm
  exact xw_ireturn (pc := 29) C dX6_placeOfChange_29 rfl hX
set_option maxHeartbeats 4000000 in
set_option maxRecDepth 100000 in
theorem wX6_hasChange {l : Launch} {n sl : Nat} {h : XH} {x0 : Nat} {x1 : Int32} {o : Bool} (hm : fX6_hasChange h x0 x1 = some o) : XM l yX6_hasChange cX6_hasChange 3 (some .boolean) 2 43 [.ref x0, .int x1] h n sl (some (.int (xbi o))) h n sl := by
  refine xm_of pnX6 [some (.ref x0), some (.int x1), none] 1 rfl (Nat.le_of_ble_eq_true rfl) ?_
  intro X hT C
  replace C : XOK X RX6 cX6_hasChange 3 "hasChange" (some .boolean) 2 43 := C
  obtain ⟨-, hN, hX⟩ := hT
  unfold fX6_hasChange at hm
  refine xw_aload_n (pc := 0) (i := 0) (x := x0) C dX6_hasChange_0 rfl rfl ?_
  refine xw_iload_n (pc := 1) (i := 1) (x := x1) C dX6_hasChange_1 rfl rfl ?_
  obtain ⟨_, q1, hm⟩ := xbind hm
  obtain ⟨v2, q3, hm⟩ := xbind hm
  refine xw_callV1 (pc := 2) (As := [.int x1]) (st := []) C dX6_hasChange_2 (wX6_placeOfChange q3) dd_X6_placeOfChange lk_X6_58 dv_X6_placeOfChange (xco_spec q1) rfl (Nat.le_of_ble_eq_true rfl) (Nat.le_of_ble_eq_true rfl) (Nat.le_of_ble_eq_true rfl) ⟨Nat.le_refl _, Nat.le_refl _⟩ hN ?_
  refine xw_istore_n (pc := 5) (i := 2) (x := v2) (L' := [some (.ref x0), some (.int x1), some (.int v2)]) C dX6_hasChange_5 rfl (Nat.le_of_ble_eq_true rfl) rfl ?_
  refine xw_iload_n (pc := 6) (i := 2) (x := v2) C dX6_hasChange_6 rfl rfl ?_
  refine xw_aload_n (pc := 7) (i := 0) (x := x0) C dX6_hasChange_7 rfl rfl ?_
  obtain ⟨v4, q5, hm⟩ := xbind hm
  refine xw_getI (pc := 8) C dX6_hasChange_8 fl_X6_39 q5 ?_
  refine xw_icmp_ge (pc := 11) (tgt := 30) C dX6_hasChange_11 (by decide) (fun q => ?_) (fun q => ?_)
  · replace hm := xif_t q hm
    refine xw_iconst (pc := 30) (v := 0) C dX6_hasChange_30 xk_i_0 ?_
    obtain rfl := Option.some.inj hm
    exact xw_zreturn (pc := 31) (v := xbi false) C dX6_hasChange_31 rfl (xbi_nar _) hX
  · replace hm := xif_f q hm
    refine xw_aload_n (pc := 14) (i := 0) (x := x0) C dX6_hasChange_14 rfl rfl ?_
    obtain ⟨v6, q7, hm⟩ := xbind hm
    refine xw_getR (pc := 15) C dX6_hasChange_15 fl_X6_15 q7 ?_
    refine xw_iload_n (pc := 18) (i := 2) (x := v2) C dX6_hasChange_18 rfl rfl ?_
    obtain ⟨v8, q9, hm⟩ := xbind hm
    refine xw_callSN1 (pc := 19) (As := [.ref v6, .int v2]) (st := []) C dX6_hasChange_19 (wX8_at q9) dd_X8_at lk_X6_42 ds_X8_at rfl (Nat.le_of_ble_eq_true rfl) (Nat.le_of_ble_eq_true rfl) (Nat.le_of_ble_eq_true rfl) ⟨Nat.le_refl _, Nat.le_refl _⟩ hN ?_
    refine xw_iload_n (pc := 22) (i := 1) (x := x1) C dX6_hasChange_22 rfl rfl ?_
    refine xw_icmp_ne (pc := 23) (tgt := 30) C dX6_hasChange_23 (by decide) (fun q => ?_) (fun q => ?_)
    · replace hm := xif_f q hm
      refine xw_iconst (pc := 30) (v := 0) C dX6_hasChange_30 xk_i_0 ?_
      obtain rfl := Option.some.inj hm
      exact xw_zreturn (pc := 31) (v := xbi false) C dX6_hasChange_31 rfl (xbi_nar _) hX
    · replace hm := xif_t q hm
      refine xw_iconst (pc := 26) (v := 1) C dX6_hasChange_26 xk_i_1 ?_
      refine xw_goto (pc := 27) (tgt := 31) C dX6_hasChange_27 (by decide) ?_
      obtain rfl := Option.some.inj hm
      exact xw_zreturn (pc := 31) (v := xbi true) C dX6_hasChange_31 rfl (xbi_nar _) hX
set_option maxHeartbeats 4000000 in
set_option maxRecDepth 100000 in
theorem wX6_hasRoomFor {l : Launch} {n sl : Nat} {h : XH} {x0 : Nat} {x1 : Int32} {o : Bool} (hm : fX6_hasRoomFor h x0 x1 = some o) : XM l yX6_hasRoomFor cX6_hasRoomFor 2 (some .boolean) 3 65 [.ref x0, .int x1] h n sl (some (.int (xbi o))) h n sl := by
  refine xm_of pnX6 [some (.ref x0), some (.int x1)] 0 rfl (Nat.le_of_ble_eq_true rfl) ?_
  intro X hT C
  replace C : XOK X RX6 cX6_hasRoomFor 2 "hasRoomFor" (some .boolean) 3 65 := C
  obtain ⟨-, hN, hX⟩ := hT
  unfold fX6_hasRoomFor at hm
  refine xw_iload_n (pc := 0) (i := 1) (x := x1) C dX6_hasRoomFor_0 rfl rfl ?_
  refine xw_if_eq (pc := 1) (tgt := 20) C dX6_hasRoomFor_1 (by decide) (fun q => ?_) (fun q => ?_)
  · replace hm := xif_t q hm
    refine xw_iconst (pc := 20) (v := 1) C dX6_hasRoomFor_20 xk_i_1 ?_
    refine xw_goto (pc := 21) (tgt := 25) C dX6_hasRoomFor_21 (by decide) ?_
    obtain rfl := Option.some.inj hm
    exact xw_zreturn (pc := 25) (v := xbi true) C dX6_hasRoomFor_25 rfl (xbi_nar _) hX
  · replace hm := xif_f q hm
    refine xw_aload_n (pc := 4) (i := 0) (x := x0) C dX6_hasRoomFor_4 rfl rfl ?_
    refine xw_iload_n (pc := 5) (i := 1) (x := x1) C dX6_hasRoomFor_5 rfl rfl ?_
    obtain ⟨_, q1, hm⟩ := xbind hm
    obtain ⟨v2, q3, hm⟩ := xbind hm
    refine xw_callV1 (pc := 6) (As := [.int x1]) (st := []) C dX6_hasRoomFor_6 (wX6_hasChange q3) dd_X6_hasChange lk_X6_61 dv_X6_hasChange (xco_spec q1) rfl (Nat.le_of_ble_eq_true rfl) (Nat.le_of_ble_eq_true rfl) (Nat.le_of_ble_eq_true rfl) ⟨Nat.le_refl _, Nat.le_refl _⟩ hN ?_
    refine xw_if_neZ (pc := 9) (b := v2) (tgt := 20) C dX6_hasRoomFor_9 (by decide) (fun q => ?_) (fun q => ?_)
    · replace hm := xif_t q hm
      refine xw_iconst (pc := 20) (v := 1) C dX6_hasRoomFor_20 xk_i_1 ?_
      refine xw_goto (pc := 21) (tgt := 25) C dX6_hasRoomFor_21 (by decide) ?_
      obtain rfl := Option.some.inj hm
      exact xw_zreturn (pc := 25) (v := xbi true) C dX6_hasRoomFor_25 rfl (xbi_nar _) hX
    · replace hm := xif_f q hm
      refine xw_aload_n (pc := 12) (i := 0) (x := x0) C dX6_hasRoomFor_12 rfl rfl ?_
      obtain ⟨v4, q5, hm⟩ := xbind hm
      refine xw_getI (pc := 13) C dX6_hasRoomFor_13 fl_X6_39 q5 ?_
      refine xw_iconst (pc := 16) (v := 5) C dX6_hasRoomFor_16 xk_i_5 ?_
      refine xw_icmp_ge (pc := 17) (tgt := 24) C dX6_hasRoomFor_17 (by decide) (fun q => ?_) (fun q => ?_)
      · replace hm := xif_t q hm
        refine xw_iconst (pc := 24) (v := 0) C dX6_hasRoomFor_24 xk_i_0 ?_
        obtain rfl := Option.some.inj hm
        exact xw_zreturn (pc := 25) (v := xbi false) C dX6_hasRoomFor_25 rfl (xbi_nar _) hX
      · replace hm := xif_f q hm
        refine xw_iconst (pc := 20) (v := 1) C dX6_hasRoomFor_20 xk_i_1 ?_
        refine xw_goto (pc := 21) (tgt := 25) C dX6_hasRoomFor_21 (by decide) ?_
        obtain rfl := Option.some.inj hm
        exact xw_zreturn (pc := 25) (v := xbi true) C dX6_hasRoomFor_25 rfl (xbi_nar _) hX
def fX6_insertChange_P11 (X : XCtx) (x0 : Nat) (x1 : Int32) (x2 : Int32) (n sl : Nat) (s : (XH × Int32)) : Prop := XW X 11 [some (.ref x0), some (.int x1), some (.int x2), some (.int s.2)] [] s.1 n sl
def fX6_insertChange_E11 (X : XCtx) (x0 : Nat) (x1 : Int32) (x2 : Int32) (n sl : Nat) (e : XH) : Prop := XW X 58 [some (.ref x0), some (.int x1), some (.int x2), none] [] e n sl
set_option maxHeartbeats 4000000 in
set_option maxRecDepth 100000 in
theorem fX6_insertChange_B11_w {X : XCtx} (C : XOK X RX6 cX6_insertChange 4 "insertChange" none 2 43) {n sl : Nat} (hN : XN X n sl) {x0 : Nat} {x1 : Int32} {x2 : Int32} (s : (XH × Int32)) (o : (XH × Int32) ⊕ XH) (hm : fX6_insertChange_B11 x0 x1 x2 s = some o) (hc : ∀ s', o = .inl s' → fX6_insertChange_P11 X x0 x1 x2 n sl s') (he : ∀ e', o = .inr e' → fX6_insertChange_E11 X x0 x1 x2 n sl e') : fX6_insertChange_P11 X x0 x1 x2 n sl s := by
  obtain ⟨h, x3⟩ := s
  show XW X 11 [some (.ref x0), some (.int x1), some (.int x2), some (.int x3)] [] h n sl
  replace hm : fX6_insertChange_b11 x0 x1 x2 h x3 = some o := hm
  unfold fX6_insertChange_b11 at hm
  refine xw_iload_n (pc := 11) (i := 3) (x := x3) C dX6_insertChange_11 rfl rfl ?_
  refine xw_iload_n (pc := 12) (i := 2) (x := x2) C dX6_insertChange_12 rfl rfl ?_
  refine xw_icmp_le (pc := 13) (tgt := 58) C dX6_insertChange_13 (by decide) (fun q => ?_) (fun q => ?_)
  · replace hm := xif_t q hm
    obtain rfl := Option.some.inj hm
    refine xw_sub (pc := 58) _ ?_ (he _ rfl)
    exact ⟨Or.inr rfl, Or.inr rfl, Or.inr rfl, Or.inl rfl, trivial⟩
  · replace hm := xif_f q hm
    refine xw_aload_n (pc := 16) (i := 0) (x := x0) C dX6_insertChange_16 rfl rfl ?_
    obtain ⟨v6, q7, hm⟩ := xbind hm
    refine xw_getR (pc := 17) C dX6_insertChange_17 fl_X6_15 q7 ?_
    refine xw_iload_n (pc := 20) (i := 3) (x := x3) C dX6_insertChange_20 rfl rfl ?_
    refine xw_aload_n (pc := 21) (i := 0) (x := x0) C dX6_insertChange_21 rfl rfl ?_
    obtain ⟨v8, q9, hm⟩ := xbind hm
    refine xw_getR (pc := 22) C dX6_insertChange_22 fl_X6_15 q9 ?_
    refine xw_iload_n (pc := 25) (i := 3) (x := x3) C dX6_insertChange_25 rfl rfl ?_
    refine xw_iconst (pc := 26) (v := 1) C dX6_insertChange_26 xk_i_1 ?_
    refine xw_isub (pc := 27) C dX6_insertChange_27 ?_
    obtain ⟨v10, q11, hm⟩ := xbind hm
    refine xw_callSN1 (pc := 28) (As := [.ref v8, .int (x3 - (1 : Int32))]) (st := [.int x3, .ref v6]) C dX6_insertChange_28 (wX8_at q11) dd_X8_at lk_X6_42 ds_X8_at rfl (Nat.le_of_ble_eq_true rfl) (Nat.le_of_ble_eq_true rfl) (Nat.le_of_ble_eq_true rfl) ⟨Nat.le_refl _, Nat.le_refl _⟩ hN ?_
    obtain ⟨h12, q13, hm⟩ := xbind hm
    refine xw_callSN0 (pc := 31) (As := [.ref v6, .int x3, .int v10]) (st := []) C dX6_insertChange_31 (wX8_put q13) dd_X8_put lk_X6_25 ds_X8_put rfl (Nat.le_of_ble_eq_true rfl) (Nat.le_of_ble_eq_true rfl) (Nat.le_of_ble_eq_true rfl) ⟨Nat.le_refl _, Nat.le_refl _⟩ hN ?_
    refine xw_aload_n (pc := 34) (i := 0) (x := x0) C dX6_insertChange_34 rfl rfl ?_
    obtain ⟨v14, q15, hm⟩ := xbind hm
    refine xw_getR (pc := 35) C dX6_insertChange_35 fl_X6_18 q15 ?_
    refine xw_iload_n (pc := 38) (i := 3) (x := x3) C dX6_insertChange_38 rfl rfl ?_
    refine xw_aload_n (pc := 39) (i := 0) (x := x0) C dX6_insertChange_39 rfl rfl ?_
    obtain ⟨v16, q17, hm⟩ := xbind hm
    refine xw_getR (pc := 40) C dX6_insertChange_40 fl_X6_18 q17 ?_
    refine xw_iload_n (pc := 43) (i := 3) (x := x3) C dX6_insertChange_43 rfl rfl ?_
    refine xw_iconst (pc := 44) (v := 1) C dX6_insertChange_44 xk_i_1 ?_
    refine xw_isub (pc := 45) C dX6_insertChange_45 ?_
    obtain ⟨v18, q19, hm⟩ := xbind hm
    refine xw_callSN1 (pc := 46) (As := [.ref v16, .int (x3 - (1 : Int32))]) (st := [.int x3, .ref v14]) C dX6_insertChange_46 (wX8_at q19) dd_X8_at lk_X6_42 ds_X8_at rfl (Nat.le_of_ble_eq_true rfl) (Nat.le_of_ble_eq_true rfl) (Nat.le_of_ble_eq_true rfl) ⟨Nat.le_refl _, Nat.le_refl _⟩ hN ?_
    obtain ⟨h20, q21, hm⟩ := xbind hm
    refine xw_callSN0 (pc := 49) (As := [.ref v14, .int x3, .int v18]) (st := []) C dX6_insertChange_49 (wX8_put q21) dd_X8_put lk_X6_25 ds_X8_put rfl (Nat.le_of_ble_eq_true rfl) (Nat.le_of_ble_eq_true rfl) (Nat.le_of_ble_eq_true rfl) ⟨Nat.le_refl _, Nat.le_refl _⟩ hN ?_
    refine xw_iinc (pc := 52) (i := 3) (x := x3) (v := (x3 + (-1 : Int32))) (L' := [some (.ref x0), some (.int x1), some (.int x2), some (.int (x3 + (-1 : Int32)))]) C dX6_insertChange_52 rfl (congrArg (HAdd.hAdd _) xk_i_m1) (Nat.le_of_ble_eq_true rfl) rfl ?_
    refine xw_goto (pc := 55) (tgt := 11) C dX6_insertChange_55 (by decide) ?_
    obtain rfl := Option.some.inj hm
    refine xw_sub (pc := 11) _ ?_ (hc _ rfl)
    exact ⟨Or.inr rfl, Or.inr rfl, Or.inr rfl, Or.inr rfl, trivial⟩
set_option maxHeartbeats 4000000 in
set_option maxRecDepth 100000 in
theorem wX6_insertChange {l : Launch} {n sl : Nat} {h : XH} {x0 : Nat} {x1 : Int32} {o : XH} (hm : fX6_insertChange h x0 x1 = some o) : XM l yX6_insertChange cX6_insertChange 4 none 2 43 [.ref x0, .int x1] h n sl none o n sl := by
  refine xm_of pnX6 [some (.ref x0), some (.int x1), none, none] 2 rfl (Nat.le_of_ble_eq_true rfl) ?_
  intro X hT C
  replace C : XOK X RX6 cX6_insertChange 4 "insertChange" none 2 43 := C
  obtain ⟨-, hN, hX⟩ := hT
  unfold fX6_insertChange at hm
  refine xw_aload_n (pc := 0) (i := 0) (x := x0) C dX6_insertChange_0 rfl rfl ?_
  refine xw_iload_n (pc := 1) (i := 1) (x := x1) C dX6_insertChange_1 rfl rfl ?_
  obtain ⟨_, q1, hm⟩ := xbind hm
  obtain ⟨v2, q3, hm⟩ := xbind hm
  refine xw_callV1 (pc := 2) (As := [.int x1]) (st := []) C dX6_insertChange_2 (wX6_placeOfChange q3) dd_X6_placeOfChange lk_X6_58 dv_X6_placeOfChange (xco_spec q1) rfl (Nat.le_of_ble_eq_true rfl) (Nat.le_of_ble_eq_true rfl) (Nat.le_of_ble_eq_true rfl) ⟨Nat.le_refl _, Nat.le_refl _⟩ hN ?_
  refine xw_istore_n (pc := 5) (i := 2) (x := v2) (L' := [some (.ref x0), some (.int x1), some (.int v2), none]) C dX6_insertChange_5 rfl (Nat.le_of_ble_eq_true rfl) rfl ?_
  refine xw_aload_n (pc := 6) (i := 0) (x := x0) C dX6_insertChange_6 rfl rfl ?_
  obtain ⟨v4, q5, hm⟩ := xbind hm
  refine xw_getI (pc := 7) C dX6_insertChange_7 fl_X6_39 q5 ?_
  refine xw_istore_n (pc := 10) (i := 3) (x := v4) (L' := [some (.ref x0), some (.int x1), some (.int v2), some (.int v4)]) C dX6_insertChange_10 rfl (Nat.le_of_ble_eq_true rfl) rfl ?_
  obtain ⟨e22, q23, hm⟩ := xbind hm
  refine xw_sub (pc := 11) [some (.ref x0), some (.int x1), some (.int v2), some (.int v4)] ⟨Or.inr rfl, Or.inr rfl, Or.inr rfl, Or.inr rfl, trivial⟩ ?_
  refine xloop_walk (fX6_insertChange_B11 x0 x1 v2) (fX6_insertChange_P11 X x0 x1 v2 n sl) (fX6_insertChange_E11 X x0 x1 v2 n sl) (fun s' o' => fX6_insertChange_B11_w C hN s' o') 5000 (h, v4) e22 q23 ?_
  show XW X 58 [some (.ref x0), some (.int x1), some (.int v2), none] [] e22 n sl
  refine xw_aload_n (pc := 58) (i := 0) (x := x0) C dX6_insertChange_58 rfl rfl ?_
  obtain ⟨v24, q25, hm⟩ := xbind hm
  refine xw_getR (pc := 59) C dX6_insertChange_59 fl_X6_15 q25 ?_
  refine xw_iload_n (pc := 62) (i := 2) (x := v2) C dX6_insertChange_62 rfl rfl ?_
  refine xw_iload_n (pc := 63) (i := 1) (x := x1) C dX6_insertChange_63 rfl rfl ?_
  obtain ⟨h26, q27, hm⟩ := xbind hm
  refine xw_callSN0 (pc := 64) (As := [.ref v24, .int v2, .int x1]) (st := []) C dX6_insertChange_64 (wX8_put q27) dd_X8_put lk_X6_25 ds_X8_put rfl (Nat.le_of_ble_eq_true rfl) (Nat.le_of_ble_eq_true rfl) (Nat.le_of_ble_eq_true rfl) ⟨Nat.le_refl _, Nat.le_refl _⟩ hN ?_
  refine xw_aload_n (pc := 67) (i := 0) (x := x0) C dX6_insertChange_67 rfl rfl ?_
  refine xw_dup (pc := 68) C dX6_insertChange_68 rfl ?_
  obtain ⟨v28, q29, hm⟩ := xbind hm
  refine xw_getI (pc := 69) C dX6_insertChange_69 fl_X6_39 q29 ?_
  refine xw_iconst (pc := 72) (v := 1) C dX6_insertChange_72 xk_i_1 ?_
  refine xw_iadd (pc := 73) C dX6_insertChange_73 ?_
  obtain ⟨h30, q31, hm⟩ := xbind hm
  refine xw_put (pc := 74) C dX6_insertChange_74 fl_X6_39 q31 (fun _ => rfl) (fun _ => rfl) ?_
  obtain rfl := Option.some.inj hm
  exact xw_return (pc := 77) C dX6_insertChange_77 rfl hX
set_option maxHeartbeats 4000000 in
set_option maxRecDepth 100000 in
theorem wX6_looksTheSame {l : Launch} {n sl : Nat} {h : XH} {x0 : Nat} {x1 : Int32} {x2 : Int32} {o : Bool} (hm : fX6_looksTheSame h x0 x1 x2 = some o) : XM l yX6_looksTheSame cX6_looksTheSame 3 (some .boolean) 3 73 [.ref x0, .int x1, .int x2] h n sl (some (.int (xbi o))) h n sl := by
  refine xm_of pnX6 [some (.ref x0), some (.int x1), some (.int x2)] 0 rfl (Nat.le_of_ble_eq_true rfl) ?_
  intro X hT C
  replace C : XOK X RX6 cX6_looksTheSame 3 "looksTheSame" (some .boolean) 3 73 := C
  obtain ⟨-, hN, hX⟩ := hT
  unfold fX6_looksTheSame at hm
  refine xw_aload_n (pc := 0) (i := 0) (x := x0) C dX6_looksTheSame_0 rfl rfl ?_
  refine xw_aload_n (pc := 1) (i := 0) (x := x0) C dX6_looksTheSame_1 rfl rfl ?_
  obtain ⟨_, q1, hm⟩ := xbind hm
  obtain ⟨v2, q3, hm⟩ := xbind hm
  refine xw_callV1 (pc := 2) (As := []) (st := [.ref x0]) C dX6_looksTheSame_2 (wX6_measure q3) dd_X6_measure lk_X6_71 dv_X6_measure (xco_spec q1) rfl (Nat.le_of_ble_eq_true rfl) (Nat.le_of_ble_eq_true rfl) (Nat.le_of_ble_eq_true rfl) ⟨Nat.le_refl _, Nat.le_refl _⟩ hN ?_
  refine xw_iload_n (pc := 5) (i := 1) (x := x1) C dX6_looksTheSame_5 rfl rfl ?_
  refine xw_iload_n (pc := 6) (i := 2) (x := x2) C dX6_looksTheSame_6 rfl rfl ?_
  refine xw_iconst (pc := 7) (v := 1) C dX6_looksTheSame_7 xk_i_1 ?_
  obtain ⟨_, q4, hm⟩ := xbind hm
  obtain ⟨v5, q6, hm⟩ := xbind hm
  refine xw_callV1 (pc := 8) (As := [.int v2, .int x1, .int x2, .int (1 : Int32)]) (st := []) C dX6_looksTheSame_8 (wX6_turnsModulo q6) dd_X6_turnsModulo lk_X6_75 dv_X6_turnsModulo (xco_spec q4) rfl (Nat.le_of_ble_eq_true rfl) (Nat.le_of_ble_eq_true rfl) (Nat.le_of_ble_eq_true rfl) ⟨Nat.le_refl _, Nat.le_refl _⟩ hN ?_
  obtain ⟨v7, q8, hm⟩ := xbind hm
  refine xw_callS1 (pc := 11) (As := [.long v5]) (st := []) C dX6_looksTheSame_11 (wJ13_bitCount_95d88 q8) dd_J13_bitCount_95d88 lk_X6_79 ds_J13_bitCount_95d88 rfl (Nat.le_of_ble_eq_true rfl) (Nat.le_of_ble_eq_true rfl) (Nat.le_of_ble_eq_true rfl) ⟨Nat.le_refl _, Nat.le_refl _⟩ hN ?_
  refine xw_iconst (pc := 14) (v := 1) C dX6_looksTheSame_14 xk_i_1 ?_
  refine xw_icmp_ne (pc := 15) (tgt := 22) C dX6_looksTheSame_15 (by decide) (fun q => ?_) (fun q => ?_)
  · replace hm := xif_f q hm
    refine xw_iconst (pc := 22) (v := 0) C dX6_looksTheSame_22 xk_i_0 ?_
    obtain rfl := Option.some.inj hm
    exact xw_zreturn (pc := 23) (v := xbi false) C dX6_looksTheSame_23 rfl (xbi_nar _) hX
  · replace hm := xif_t q hm
    refine xw_iconst (pc := 18) (v := 1) C dX6_looksTheSame_18 xk_i_1 ?_
    refine xw_goto (pc := 19) (tgt := 23) C dX6_looksTheSame_19 (by decide) ?_
    obtain rfl := Option.some.inj hm
    exact xw_zreturn (pc := 23) (v := xbi true) C dX6_looksTheSame_23 rfl (xbi_nar _) hX
set_option maxHeartbeats 4000000 in
set_option maxRecDepth 100000 in
theorem wX6_markOf {l : Launch} {n sl : Nat} {h : XH} {x0 : Nat} {x1 : Int32} {o : Int32} (hm : fX6_markOf h x0 x1 = some o) : XM l yX6_markOf cX6_markOf 2 (some .int) 1 21 [.ref x0, .int x1] h n sl (some (.int o)) h n sl := by
  refine xm_of pnX6 [some (.ref x0), some (.int x1)] 0 rfl (Nat.le_of_ble_eq_true rfl) ?_
  intro X hT C
  replace C : XOK X RX6 cX6_markOf 2 "markOf" (some .int) 1 21 := C
  obtain ⟨-, hN, hX⟩ := hT
  unfold fX6_markOf at hm
  refine xw_aload_n (pc := 0) (i := 0) (x := x0) C dX6_markOf_0 rfl rfl ?_
  obtain ⟨v1, q2, hm⟩ := xbind hm
  refine xw_getR (pc := 1) C dX6_markOf_1 fl_X6_9 q2 ?_
  refine xw_iload_n (pc := 4) (i := 1) (x := x1) C dX6_markOf_4 rfl rfl ?_
  obtain ⟨v3, q4, hm⟩ := xbind hm
  refine xw_callSN1 (pc := 5) (As := [.ref v1, .int x1]) (st := []) C dX6_markOf_5 (wX8_at q4) dd_X8_at lk_X6_42 ds_X8_at rfl (Nat.le_of_ble_eq_true rfl) (Nat.le_of_ble_eq_true rfl) (Nat.le_of_ble_eq_true rfl) ⟨Nat.le_refl _, Nat.le_refl _⟩ hN ?_
  obtain rfl := Option.some.inj hm
  exact xw_ireturn (pc := 8) C dX6_markOf_8 rfl hX
def fX6_markedCells_P4 (X : XCtx) (h : XH) (x0 : Nat) (n sl : Nat) (s : (Int32 × Int32)) : Prop := XW X 4 [some (.ref x0), some (.int s.1), some (.int s.2)] [] h n sl
def fX6_markedCells_E4 (X : XCtx) (h : XH) (x0 : Nat) (n sl : Nat) (e : Int32) : Prop := XW X 29 [none, some (.int e), none] [] h n sl
set_option maxHeartbeats 4000000 in
set_option maxRecDepth 100000 in
theorem fX6_markedCells_B4_w {X : XCtx} (C : XOK X RX6 cX6_markedCells 3 "markedCells" (some .int) 2 42) {n sl : Nat} (hN : XN X n sl) {h : XH} {x0 : Nat} (s : (Int32 × Int32)) (o : (Int32 × Int32) ⊕ Int32) (hm : fX6_markedCells_B4 h x0 s = some o) (hc : ∀ s', o = .inl s' → fX6_markedCells_P4 X h x0 n sl s') (he : ∀ e', o = .inr e' → fX6_markedCells_E4 X h x0 n sl e') : fX6_markedCells_P4 X h x0 n sl s := by
  obtain ⟨x1, x2⟩ := s
  show XW X 4 [some (.ref x0), some (.int x1), some (.int x2)] [] h n sl
  replace hm : fX6_markedCells_b4 h x0 x1 x2 = some o := hm
  unfold fX6_markedCells_b4 at hm
  refine xw_iload_n (pc := 4) (i := 2) (x := x2) C dX6_markedCells_4 rfl rfl ?_
  refine xw_aload_n (pc := 5) (i := 0) (x := x0) C dX6_markedCells_5 rfl rfl ?_
  obtain ⟨v1, q2, hm⟩ := xbind hm
  refine xw_getI (pc := 6) C dX6_markedCells_6 fl_X6_21 q2 ?_
  refine xw_icmp_ge (pc := 9) (tgt := 29) C dX6_markedCells_9 (by decide) (fun q => ?_) (fun q => ?_)
  · replace hm := xif_t q hm
    obtain rfl := Option.some.inj hm
    refine xw_sub (pc := 29) _ ?_ (he _ rfl)
    exact ⟨Or.inl rfl, Or.inr rfl, Or.inl rfl, trivial⟩
  · replace hm := xif_f q hm
    refine xw_aload_n (pc := 12) (i := 0) (x := x0) C dX6_markedCells_12 rfl rfl ?_
    refine xw_iload_n (pc := 13) (i := 2) (x := x2) C dX6_markedCells_13 rfl rfl ?_
    obtain ⟨_, q3, hm⟩ := xbind hm
    obtain ⟨v4, q5, hm⟩ := xbind hm
    refine xw_callV1 (pc := 14) (As := [.int x2]) (st := []) C dX6_markedCells_14 (wX6_markOf q5) dd_X6_markOf lk_X6_46 dv_X6_markOf (xco_spec q3) rfl (Nat.le_of_ble_eq_true rfl) (Nat.le_of_ble_eq_true rfl) (Nat.le_of_ble_eq_true rfl) ⟨Nat.le_refl _, Nat.le_refl _⟩ hN ?_
    refine xw_if_eq (pc := 17) (tgt := 23) C dX6_markedCells_17 (by decide) (fun q => ?_) (fun q => ?_)
    · replace hm := xif_t q hm
      refine xw_iinc (pc := 23) (i := 2) (x := x2) (v := (x2 + (1 : Int32))) (L' := [some (.ref x0), some (.int x1), some (.int (x2 + (1 : Int32)))]) C dX6_markedCells_23 rfl (congrArg (HAdd.hAdd _) xk_i_1) (Nat.le_of_ble_eq_true rfl) rfl ?_
      refine xw_goto (pc := 26) (tgt := 4) C dX6_markedCells_26 (by decide) ?_
      obtain rfl := Option.some.inj hm
      refine xw_sub (pc := 4) _ ?_ (hc _ rfl)
      exact ⟨Or.inr rfl, Or.inr rfl, Or.inr rfl, trivial⟩
    · replace hm := xif_f q hm
      refine xw_iinc (pc := 20) (i := 1) (x := x1) (v := (x1 + (1 : Int32))) (L' := [some (.ref x0), some (.int (x1 + (1 : Int32))), some (.int x2)]) C dX6_markedCells_20 rfl (congrArg (HAdd.hAdd _) xk_i_1) (Nat.le_of_ble_eq_true rfl) rfl ?_
      refine xw_iinc (pc := 23) (i := 2) (x := x2) (v := (x2 + (1 : Int32))) (L' := [some (.ref x0), some (.int (x1 + (1 : Int32))), some (.int (x2 + (1 : Int32)))]) C dX6_markedCells_23 rfl (congrArg (HAdd.hAdd _) xk_i_1) (Nat.le_of_ble_eq_true rfl) rfl ?_
      refine xw_goto (pc := 26) (tgt := 4) C dX6_markedCells_26 (by decide) ?_
      obtain rfl := Option.some.inj hm
      refine xw_sub (pc := 4) _ ?_ (hc _ rfl)
      exact ⟨Or.inr rfl, Or.inr rfl, Or.inr rfl, trivial⟩
set_option maxHeartbeats 4000000 in
set_option maxRecDepth 100000 in
theorem wX6_markedCells {l : Launch} {n sl : Nat} {h : XH} {x0 : Nat} {o : Int32} (hm : fX6_markedCells h x0 = some o) : XM l yX6_markedCells cX6_markedCells 3 (some .int) 2 42 [.ref x0] h n sl (some (.int o)) h n sl := by
  refine xm_of pnX6 [some (.ref x0), none, none] 2 rfl (Nat.le_of_ble_eq_true rfl) ?_
  intro X hT C
  replace C : XOK X RX6 cX6_markedCells 3 "markedCells" (some .int) 2 42 := C
  obtain ⟨-, hN, hX⟩ := hT
  unfold fX6_markedCells at hm
  refine xw_iconst (pc := 0) (v := 0) C dX6_markedCells_0 xk_i_0 ?_
  refine xw_istore_n (pc := 1) (i := 1) (x := (0 : Int32)) (L' := [some (.ref x0), some (.int (0 : Int32)), none]) C dX6_markedCells_1 rfl (Nat.le_of_ble_eq_true rfl) rfl ?_
  refine xw_iconst (pc := 2) (v := 0) C dX6_markedCells_2 xk_i_0 ?_
  refine xw_istore_n (pc := 3) (i := 2) (x := (0 : Int32)) (L' := [some (.ref x0), some (.int (0 : Int32)), some (.int (0 : Int32))]) C dX6_markedCells_3 rfl (Nat.le_of_ble_eq_true rfl) rfl ?_
  obtain ⟨e6, q7, hm⟩ := xbind hm
  refine xw_sub (pc := 4) [some (.ref x0), some (.int (0 : Int32)), some (.int (0 : Int32))] ⟨Or.inr rfl, Or.inr rfl, Or.inr rfl, trivial⟩ ?_
  refine xloop_walk (fX6_markedCells_B4 h x0) (fX6_markedCells_P4 X h x0 n sl) (fX6_markedCells_E4 X h x0 n sl) (fun s' o' => fX6_markedCells_B4_w C hN s' o') 5000 ((0 : Int32), (0 : Int32)) e6 q7 ?_
  show XW X 29 [none, some (.int e6), none] [] h n sl
  refine xw_iload_n (pc := 29) (i := 1) (x := e6) C dX6_markedCells_29 rfl rfl ?_
  obtain rfl := Option.some.inj hm
  exact xw_ireturn (pc := 30) C dX6_markedCells_30 rfl hX
def fX6_marksPassing_P6 (X : XCtx) (h : XH) (x0 : Nat) (x1 : Int32) (x2 : Int64) (n sl : Nat) (s : (Int32 × Int32)) : Prop := XW X 6 [some (.ref x0), some (.int x1), some (.long x2), none, some (.int s.1), some (.int s.2)] [] h n sl
def fX6_marksPassing_E6 (X : XCtx) (h : XH) (x0 : Nat) (x1 : Int32) (x2 : Int64) (n sl : Nat) (e : Int32) : Prop := XW X 52 [none, none, none, none, some (.int e), none] [] h n sl
set_option maxHeartbeats 4000000 in
set_option maxRecDepth 100000 in
theorem fX6_marksPassing_B6_w {X : XCtx} (C : XOK X RX6 cX6_marksPassing 6 "marksPassing" (some .int) 2 42) {n sl : Nat} (hN : XN X n sl) {h : XH} {x0 : Nat} {x1 : Int32} {x2 : Int64} (s : (Int32 × Int32)) (o : (Int32 × Int32) ⊕ Int32) (hm : fX6_marksPassing_B6 h x0 x1 x2 s = some o) (hc : ∀ s', o = .inl s' → fX6_marksPassing_P6 X h x0 x1 x2 n sl s') (he : ∀ e', o = .inr e' → fX6_marksPassing_E6 X h x0 x1 x2 n sl e') : fX6_marksPassing_P6 X h x0 x1 x2 n sl s := by
  obtain ⟨x4, x5⟩ := s
  show XW X 6 [some (.ref x0), some (.int x1), some (.long x2), none, some (.int x4), some (.int x5)] [] h n sl
  replace hm : fX6_marksPassing_b6 h x0 x1 x2 x4 x5 = some o := hm
  unfold fX6_marksPassing_b6 at hm
  refine xw_iload (pc := 6) (i := 5) (x := x5) C dX6_marksPassing_6 rfl ?_
  refine xw_aload_n (pc := 8) (i := 0) (x := x0) C dX6_marksPassing_8 rfl rfl ?_
  obtain ⟨v1, q2, hm⟩ := xbind hm
  refine xw_getI (pc := 9) C dX6_marksPassing_9 fl_X6_21 q2 ?_
  refine xw_icmp_ge (pc := 12) (tgt := 52) C dX6_marksPassing_12 (by decide) (fun q => ?_) (fun q => ?_)
  · replace hm := xif_t q hm
    obtain rfl := Option.some.inj hm
    refine xw_sub (pc := 52) _ ?_ (he _ rfl)
    exact ⟨Or.inl rfl, Or.inl rfl, Or.inl rfl, Or.inl rfl, Or.inr rfl, Or.inl rfl, trivial⟩
  · replace hm := xif_f q hm
    refine xw_lload_n (pc := 15) (i := 2) (x := x2) C dX6_marksPassing_15 rfl rfl ?_
    refine xw_iload (pc := 16) (i := 5) (x := x5) C dX6_marksPassing_16 rfl ?_
    obtain ⟨v3, q4, hm⟩ := xbind hm
    refine xw_callSN1 (pc := 18) (As := [.long x2, .int x5]) (st := []) C dX6_marksPassing_18 (wX8_hasBit q4) dd_X8_hasBit lk_X6_93 ds_X8_hasBit rfl (Nat.le_of_ble_eq_true rfl) (Nat.le_of_ble_eq_true rfl) (Nat.le_of_ble_eq_true rfl) ⟨Nat.le_refl _, Nat.le_refl _⟩ hN ?_
    refine xw_if_eqZ (pc := 21) (b := v3) (tgt := 46) C dX6_marksPassing_21 (by decide) (fun q => ?_) (fun q => ?_)
    · replace hm := xif_f q hm
      refine xw_iinc (pc := 46) (i := 5) (x := x5) (v := (x5 + (1 : Int32))) (L' := [some (.ref x0), some (.int x1), some (.long x2), none, some (.int x4), some (.int (x5 + (1 : Int32)))]) C dX6_marksPassing_46 rfl (congrArg (HAdd.hAdd _) xk_i_1) (Nat.le_of_ble_eq_true rfl) rfl ?_
      refine xw_goto (pc := 49) (tgt := 6) C dX6_marksPassing_49 (by decide) ?_
      obtain rfl := Option.some.inj hm
      refine xw_sub (pc := 6) _ ?_ (hc _ rfl)
      exact ⟨Or.inr rfl, Or.inr rfl, Or.inr rfl, Or.inl rfl, Or.inr rfl, Or.inr rfl, trivial⟩
    · replace hm := xif_t q hm
      refine xw_iload (pc := 24) (i := 4) (x := x4) C dX6_marksPassing_24 rfl ?_
      refine xw_iconst (pc := 26) (v := 1) C dX6_marksPassing_26 xk_i_1 ?_
      refine xw_aload_n (pc := 27) (i := 0) (x := x0) C dX6_marksPassing_27 rfl rfl ?_
      refine xw_iload_n (pc := 28) (i := 1) (x := x1) C dX6_marksPassing_28 rfl rfl ?_
      refine xw_iload (pc := 29) (i := 5) (x := x5) C dX6_marksPassing_29 rfl ?_
      refine xw_isub (pc := 31) C dX6_marksPassing_31 ?_
      refine xw_aload_n (pc := 32) (i := 0) (x := x0) C dX6_marksPassing_32 rfl rfl ?_
      obtain ⟨v5, q6, hm⟩ := xbind hm
      refine xw_getI (pc := 33) C dX6_marksPassing_33 fl_X6_21 q6 ?_
      obtain ⟨v7, q8, hm⟩ := xbind hm
      refine xw_callSN1 (pc := 36) (As := [.int (x1 - x5), .int v5]) (st := [.ref x0, .int (1 : Int32), .int x4]) C dX6_marksPassing_36 (wX8_mod q8) dd_X8_mod lk_X6_50 ds_X8_mod rfl (Nat.le_of_ble_eq_true rfl) (Nat.le_of_ble_eq_true rfl) (Nat.le_of_ble_eq_true rfl) ⟨Nat.le_refl _, Nat.le_refl _⟩ hN ?_
      obtain ⟨_, q9, hm⟩ := xbind hm
      obtain ⟨v10, q11, hm⟩ := xbind hm
      refine xw_callV1 (pc := 39) (As := [.int v7]) (st := [.int (1 : Int32), .int x4]) C dX6_marksPassing_39 (wX6_markOf q11) dd_X6_markOf lk_X6_46 dv_X6_markOf (xco_spec q9) rfl (Nat.le_of_ble_eq_true rfl) (Nat.le_of_ble_eq_true rfl) (Nat.le_of_ble_eq_true rfl) ⟨Nat.le_refl _, Nat.le_refl _⟩ hN ?_
      refine xw_ishl (pc := 42) C dX6_marksPassing_42 ?_
      refine xw_ior (pc := 43) C dX6_marksPassing_43 ?_
      obtain ⟨y12, ey12, hm⟩ := xlet_ex hm
      refine xw_topI ey12 ?_
      refine xw_istore (pc := 44) (i := 4) (x := y12) (L' := [some (.ref x0), some (.int x1), some (.long x2), none, some (.int y12), some (.int x5)]) C dX6_marksPassing_44 (Nat.le_of_ble_eq_true rfl) rfl ?_
      refine xw_iinc (pc := 46) (i := 5) (x := x5) (v := (x5 + (1 : Int32))) (L' := [some (.ref x0), some (.int x1), some (.long x2), none, some (.int y12), some (.int (x5 + (1 : Int32)))]) C dX6_marksPassing_46 rfl (congrArg (HAdd.hAdd _) xk_i_1) (Nat.le_of_ble_eq_true rfl) rfl ?_
      refine xw_goto (pc := 49) (tgt := 6) C dX6_marksPassing_49 (by decide) ?_
      obtain rfl := Option.some.inj hm
      refine xw_sub (pc := 6) _ ?_ (hc _ rfl)
      exact ⟨Or.inr rfl, Or.inr rfl, Or.inr rfl, Or.inl rfl, Or.inr rfl, Or.inr rfl, trivial⟩
set_option maxHeartbeats 4000000 in
set_option maxRecDepth 100000 in
theorem wX6_marksPassing {l : Launch} {n sl : Nat} {h : XH} {x0 : Nat} {x1 : Int32} {x2 : Int64} {o : Int32} (hm : fX6_marksPassing h x0 x1 x2 = some o) : XM l yX6_marksPassing cX6_marksPassing 6 (some .int) 2 42 [.ref x0, .int x1, .long x2] h n sl (some (.int o)) h n sl := by
  refine xm_of pnX6 [some (.ref x0), some (.int x1), some (.long x2), none, none, none] 2 rfl (Nat.le_of_ble_eq_true rfl) ?_
  intro X hT C
  replace C : XOK X RX6 cX6_marksPassing 6 "marksPassing" (some .int) 2 42 := C
  obtain ⟨-, hN, hX⟩ := hT
  unfold fX6_marksPassing at hm
  refine xw_iconst (pc := 0) (v := 0) C dX6_marksPassing_0 xk_i_0 ?_
  refine xw_istore (pc := 1) (i := 4) (x := (0 : Int32)) (L' := [some (.ref x0), some (.int x1), some (.long x2), none, some (.int (0 : Int32)), none]) C dX6_marksPassing_1 (Nat.le_of_ble_eq_true rfl) rfl ?_
  refine xw_iconst (pc := 3) (v := 0) C dX6_marksPassing_3 xk_i_0 ?_
  refine xw_istore (pc := 4) (i := 5) (x := (0 : Int32)) (L' := [some (.ref x0), some (.int x1), some (.long x2), none, some (.int (0 : Int32)), some (.int (0 : Int32))]) C dX6_marksPassing_4 (Nat.le_of_ble_eq_true rfl) rfl ?_
  obtain ⟨e13, q14, hm⟩ := xbind hm
  refine xw_sub (pc := 6) [some (.ref x0), some (.int x1), some (.long x2), none, some (.int (0 : Int32)), some (.int (0 : Int32))] ⟨Or.inr rfl, Or.inr rfl, Or.inr rfl, Or.inl rfl, Or.inr rfl, Or.inr rfl, trivial⟩ ?_
  refine xloop_walk (fX6_marksPassing_B6 h x0 x1 x2) (fX6_marksPassing_P6 X h x0 x1 x2 n sl) (fX6_marksPassing_E6 X h x0 x1 x2 n sl) (fun s' o' => fX6_marksPassing_B6_w C hN s' o') 5000 ((0 : Int32), (0 : Int32)) e13 q14 ?_
  show XW X 52 [none, none, none, none, some (.int e13), none] [] h n sl
  refine xw_iload (pc := 52) (i := 4) (x := e13) C dX6_marksPassing_52 rfl ?_
  refine xw_iconst (pc := 54) (v := 1) C dX6_marksPassing_54 xk_i_1 ?_
  refine xw_ishr (pc := 55) C dX6_marksPassing_55 ?_
  obtain rfl := Option.some.inj hm
  exact xw_ireturn (pc := 56) C dX6_marksPassing_56 rfl hX
set_option maxHeartbeats 4000000 in
set_option maxRecDepth 100000 in
theorem wX6_putSpeed {l : Launch} {n sl : Nat} {h : XH} {x0 : Nat} {x1 : Int32} {x2 : Int32} {o : XH} (hm : fX6_putSpeed h x0 x1 x2 = some o) : XM l yX6_putSpeed cX6_putSpeed 3 none 3 66 [.ref x0, .int x1, .int x2] h n sl none o n sl := by
  refine xm_of pnX6 [some (.ref x0), some (.int x1), some (.int x2)] 0 rfl (Nat.le_of_ble_eq_true rfl) ?_
  intro X hT C
  replace C : XOK X RX6 cX6_putSpeed 3 "putSpeed" none 3 66 := C
  obtain ⟨-, hN, hX⟩ := hT
  unfold fX6_putSpeed at hm
  refine xw_iload_n (pc := 0) (i := 1) (x := x1) C dX6_putSpeed_0 rfl rfl ?_
  refine xw_if_ne (pc := 1) (tgt := 10) C dX6_putSpeed_1 (by decide) (fun q => ?_) (fun q => ?_)
  · replace hm := xif_f q hm
    refine xw_aload_n (pc := 10) (i := 0) (x := x0) C dX6_putSpeed_10 rfl rfl ?_
    refine xw_iload_n (pc := 11) (i := 1) (x := x1) C dX6_putSpeed_11 rfl rfl ?_
    obtain ⟨_, q1, hm⟩ := xbind hm
    obtain ⟨v2, q3, hm⟩ := xbind hm
    refine xw_callV1 (pc := 12) (As := [.int x1]) (st := []) C dX6_putSpeed_12 (wX6_hasChange q3) dd_X6_hasChange lk_X6_61 dv_X6_hasChange (xco_spec q1) rfl (Nat.le_of_ble_eq_true rfl) (Nat.le_of_ble_eq_true rfl) (Nat.le_of_ble_eq_true rfl) ⟨Nat.le_refl _, Nat.le_refl _⟩ hN ?_
    refine xw_if_neZ (pc := 15) (b := v2) (tgt := 23) C dX6_putSpeed_15 (by decide) (fun q => ?_) (fun q => ?_)
    · replace hm := xif_t q hm
      refine xw_aload_n (pc := 23) (i := 0) (x := x0) C dX6_putSpeed_23 rfl rfl ?_
      obtain ⟨v4, q5, hm⟩ := xbind hm
      refine xw_getR (pc := 24) C dX6_putSpeed_24 fl_X6_18 q5 ?_
      refine xw_aload_n (pc := 27) (i := 0) (x := x0) C dX6_putSpeed_27 rfl rfl ?_
      refine xw_iload_n (pc := 28) (i := 1) (x := x1) C dX6_putSpeed_28 rfl rfl ?_
      obtain ⟨_, q6, hm⟩ := xbind hm
      obtain ⟨v7, q8, hm⟩ := xbind hm
      refine xw_callV1 (pc := 29) (As := [.int x1]) (st := [.ref v4]) C dX6_putSpeed_29 (wX6_placeOfChange q8) dd_X6_placeOfChange lk_X6_58 dv_X6_placeOfChange (xco_spec q6) rfl (Nat.le_of_ble_eq_true rfl) (Nat.le_of_ble_eq_true rfl) (Nat.le_of_ble_eq_true rfl) ⟨Nat.le_refl _, Nat.le_refl _⟩ hN ?_
      refine xw_iload_n (pc := 32) (i := 2) (x := x2) C dX6_putSpeed_32 rfl rfl ?_
      obtain ⟨h9, q10, hm⟩ := xbind hm
      refine xw_callSN0 (pc := 33) (As := [.ref v4, .int v7, .int x2]) (st := []) C dX6_putSpeed_33 (wX8_put q10) dd_X8_put lk_X6_25 ds_X8_put rfl (Nat.le_of_ble_eq_true rfl) (Nat.le_of_ble_eq_true rfl) (Nat.le_of_ble_eq_true rfl) ⟨Nat.le_refl _, Nat.le_refl _⟩ hN ?_
      obtain rfl := Option.some.inj hm
      exact xw_return (pc := 36) C dX6_putSpeed_36 rfl hX
    · replace hm := xif_f q hm
      refine xw_aload_n (pc := 18) (i := 0) (x := x0) C dX6_putSpeed_18 rfl rfl ?_
      refine xw_iload_n (pc := 19) (i := 1) (x := x1) C dX6_putSpeed_19 rfl rfl ?_
      obtain ⟨_, q11, hm⟩ := xbind hm
      obtain ⟨h12, q13, hm⟩ := xbind hm
      refine xw_callV0 (pc := 20) (As := [.int x1]) (st := []) C dX6_putSpeed_20 (wX6_insertChange q13) dd_X6_insertChange lk_X6_64 dv_X6_insertChange (xco_spec q11) rfl (Nat.le_of_ble_eq_true rfl) (Nat.le_of_ble_eq_true rfl) (Nat.le_of_ble_eq_true rfl) ⟨Nat.le_refl _, Nat.le_refl _⟩ hN ?_
      refine xw_aload_n (pc := 23) (i := 0) (x := x0) C dX6_putSpeed_23 rfl rfl ?_
      obtain ⟨v14, q15, hm⟩ := xbind hm
      refine xw_getR (pc := 24) C dX6_putSpeed_24 fl_X6_18 q15 ?_
      refine xw_aload_n (pc := 27) (i := 0) (x := x0) C dX6_putSpeed_27 rfl rfl ?_
      refine xw_iload_n (pc := 28) (i := 1) (x := x1) C dX6_putSpeed_28 rfl rfl ?_
      obtain ⟨_, q16, hm⟩ := xbind hm
      obtain ⟨v17, q18, hm⟩ := xbind hm
      refine xw_callV1 (pc := 29) (As := [.int x1]) (st := [.ref v14]) C dX6_putSpeed_29 (wX6_placeOfChange q18) dd_X6_placeOfChange lk_X6_58 dv_X6_placeOfChange (xco_spec q16) rfl (Nat.le_of_ble_eq_true rfl) (Nat.le_of_ble_eq_true rfl) (Nat.le_of_ble_eq_true rfl) ⟨Nat.le_refl _, Nat.le_refl _⟩ hN ?_
      refine xw_iload_n (pc := 32) (i := 2) (x := x2) C dX6_putSpeed_32 rfl rfl ?_
      obtain ⟨h19, q20, hm⟩ := xbind hm
      refine xw_callSN0 (pc := 33) (As := [.ref v14, .int v17, .int x2]) (st := []) C dX6_putSpeed_33 (wX8_put q20) dd_X8_put lk_X6_25 ds_X8_put rfl (Nat.le_of_ble_eq_true rfl) (Nat.le_of_ble_eq_true rfl) (Nat.le_of_ble_eq_true rfl) ⟨Nat.le_refl _, Nat.le_refl _⟩ hN ?_
      obtain rfl := Option.some.inj hm
      exact xw_return (pc := 36) C dX6_putSpeed_36 rfl hX
  · replace hm := xif_t q hm
    refine xw_aload_n (pc := 4) (i := 0) (x := x0) C dX6_putSpeed_4 rfl rfl ?_
    refine xw_iload_n (pc := 5) (i := 2) (x := x2) C dX6_putSpeed_5 rfl rfl ?_
    obtain ⟨h21, q22, hm⟩ := xbind hm
    refine xw_put (pc := 6) C dX6_putSpeed_6 fl_X6_36 q22 (fun _ => rfl) (fun _ => rfl) ?_
    obtain rfl := Option.some.inj hm
    exact xw_return (pc := 9) C dX6_putSpeed_9 rfl hX
def fX6_removeChange_P6 (X : XCtx) (x0 : Nat) (n sl : Nat) (s : (XH × Int32)) : Prop := XW X 6 [some (.ref x0), none, some (.int s.2)] [] s.1 n sl
def fX6_removeChange_E6 (X : XCtx) (x0 : Nat) (n sl : Nat) (e : XH) : Prop := XW X 58 [some (.ref x0), none, none] [] e n sl
set_option maxHeartbeats 4000000 in
set_option maxRecDepth 100000 in
theorem fX6_removeChange_B6_w {X : XCtx} (C : XOK X RX6 cX6_removeChange 3 "removeChange" none 2 43) {n sl : Nat} (hN : XN X n sl) {x0 : Nat} (s : (XH × Int32)) (o : (XH × Int32) ⊕ XH) (hm : fX6_removeChange_B6 x0 s = some o) (hc : ∀ s', o = .inl s' → fX6_removeChange_P6 X x0 n sl s') (he : ∀ e', o = .inr e' → fX6_removeChange_E6 X x0 n sl e') : fX6_removeChange_P6 X x0 n sl s := by
  obtain ⟨h, x2⟩ := s
  show XW X 6 [some (.ref x0), none, some (.int x2)] [] h n sl
  replace hm : fX6_removeChange_b6 x0 h x2 = some o := hm
  unfold fX6_removeChange_b6 at hm
  refine xw_iload_n (pc := 6) (i := 2) (x := x2) C dX6_removeChange_6 rfl rfl ?_
  refine xw_iconst (pc := 7) (v := 1) C dX6_removeChange_7 xk_i_1 ?_
  refine xw_iadd (pc := 8) C dX6_removeChange_8 ?_
  refine xw_aload_n (pc := 9) (i := 0) (x := x0) C dX6_removeChange_9 rfl rfl ?_
  obtain ⟨v4, q5, hm⟩ := xbind hm
  refine xw_getI (pc := 10) C dX6_removeChange_10 fl_X6_39 q5 ?_
  refine xw_icmp_ge (pc := 13) (tgt := 58) C dX6_removeChange_13 (by decide) (fun q => ?_) (fun q => ?_)
  · replace hm := xif_t q hm
    obtain rfl := Option.some.inj hm
    refine xw_sub (pc := 58) _ ?_ (he _ rfl)
    exact ⟨Or.inr rfl, Or.inl rfl, Or.inl rfl, trivial⟩
  · replace hm := xif_f q hm
    refine xw_aload_n (pc := 16) (i := 0) (x := x0) C dX6_removeChange_16 rfl rfl ?_
    obtain ⟨v6, q7, hm⟩ := xbind hm
    refine xw_getR (pc := 17) C dX6_removeChange_17 fl_X6_15 q7 ?_
    refine xw_iload_n (pc := 20) (i := 2) (x := x2) C dX6_removeChange_20 rfl rfl ?_
    refine xw_aload_n (pc := 21) (i := 0) (x := x0) C dX6_removeChange_21 rfl rfl ?_
    obtain ⟨v8, q9, hm⟩ := xbind hm
    refine xw_getR (pc := 22) C dX6_removeChange_22 fl_X6_15 q9 ?_
    refine xw_iload_n (pc := 25) (i := 2) (x := x2) C dX6_removeChange_25 rfl rfl ?_
    refine xw_iconst (pc := 26) (v := 1) C dX6_removeChange_26 xk_i_1 ?_
    refine xw_iadd (pc := 27) C dX6_removeChange_27 ?_
    obtain ⟨v10, q11, hm⟩ := xbind hm
    refine xw_callSN1 (pc := 28) (As := [.ref v8, .int (x2 + (1 : Int32))]) (st := [.int x2, .ref v6]) C dX6_removeChange_28 (wX8_at q11) dd_X8_at lk_X6_42 ds_X8_at rfl (Nat.le_of_ble_eq_true rfl) (Nat.le_of_ble_eq_true rfl) (Nat.le_of_ble_eq_true rfl) ⟨Nat.le_refl _, Nat.le_refl _⟩ hN ?_
    obtain ⟨h12, q13, hm⟩ := xbind hm
    refine xw_callSN0 (pc := 31) (As := [.ref v6, .int x2, .int v10]) (st := []) C dX6_removeChange_31 (wX8_put q13) dd_X8_put lk_X6_25 ds_X8_put rfl (Nat.le_of_ble_eq_true rfl) (Nat.le_of_ble_eq_true rfl) (Nat.le_of_ble_eq_true rfl) ⟨Nat.le_refl _, Nat.le_refl _⟩ hN ?_
    refine xw_aload_n (pc := 34) (i := 0) (x := x0) C dX6_removeChange_34 rfl rfl ?_
    obtain ⟨v14, q15, hm⟩ := xbind hm
    refine xw_getR (pc := 35) C dX6_removeChange_35 fl_X6_18 q15 ?_
    refine xw_iload_n (pc := 38) (i := 2) (x := x2) C dX6_removeChange_38 rfl rfl ?_
    refine xw_aload_n (pc := 39) (i := 0) (x := x0) C dX6_removeChange_39 rfl rfl ?_
    obtain ⟨v16, q17, hm⟩ := xbind hm
    refine xw_getR (pc := 40) C dX6_removeChange_40 fl_X6_18 q17 ?_
    refine xw_iload_n (pc := 43) (i := 2) (x := x2) C dX6_removeChange_43 rfl rfl ?_
    refine xw_iconst (pc := 44) (v := 1) C dX6_removeChange_44 xk_i_1 ?_
    refine xw_iadd (pc := 45) C dX6_removeChange_45 ?_
    obtain ⟨v18, q19, hm⟩ := xbind hm
    refine xw_callSN1 (pc := 46) (As := [.ref v16, .int (x2 + (1 : Int32))]) (st := [.int x2, .ref v14]) C dX6_removeChange_46 (wX8_at q19) dd_X8_at lk_X6_42 ds_X8_at rfl (Nat.le_of_ble_eq_true rfl) (Nat.le_of_ble_eq_true rfl) (Nat.le_of_ble_eq_true rfl) ⟨Nat.le_refl _, Nat.le_refl _⟩ hN ?_
    obtain ⟨h20, q21, hm⟩ := xbind hm
    refine xw_callSN0 (pc := 49) (As := [.ref v14, .int x2, .int v18]) (st := []) C dX6_removeChange_49 (wX8_put q21) dd_X8_put lk_X6_25 ds_X8_put rfl (Nat.le_of_ble_eq_true rfl) (Nat.le_of_ble_eq_true rfl) (Nat.le_of_ble_eq_true rfl) ⟨Nat.le_refl _, Nat.le_refl _⟩ hN ?_
    refine xw_iinc (pc := 52) (i := 2) (x := x2) (v := (x2 + (1 : Int32))) (L' := [some (.ref x0), none, some (.int (x2 + (1 : Int32)))]) C dX6_removeChange_52 rfl (congrArg (HAdd.hAdd _) xk_i_1) (Nat.le_of_ble_eq_true rfl) rfl ?_
    refine xw_goto (pc := 55) (tgt := 6) C dX6_removeChange_55 (by decide) ?_
    obtain rfl := Option.some.inj hm
    refine xw_sub (pc := 6) _ ?_ (hc _ rfl)
    exact ⟨Or.inr rfl, Or.inl rfl, Or.inr rfl, trivial⟩
set_option maxHeartbeats 4000000 in
set_option maxRecDepth 100000 in
theorem wX6_removeChange {l : Launch} {n sl : Nat} {h : XH} {x0 : Nat} {x1 : Int32} {o : XH} (hm : fX6_removeChange h x0 x1 = some o) : XM l yX6_removeChange cX6_removeChange 3 none 2 43 [.ref x0, .int x1] h n sl none o n sl := by
  refine xm_of pnX6 [some (.ref x0), some (.int x1), none] 1 rfl (Nat.le_of_ble_eq_true rfl) ?_
  intro X hT C
  replace C : XOK X RX6 cX6_removeChange 3 "removeChange" none 2 43 := C
  obtain ⟨-, hN, hX⟩ := hT
  unfold fX6_removeChange at hm
  refine xw_aload_n (pc := 0) (i := 0) (x := x0) C dX6_removeChange_0 rfl rfl ?_
  refine xw_iload_n (pc := 1) (i := 1) (x := x1) C dX6_removeChange_1 rfl rfl ?_
  obtain ⟨_, q1, hm⟩ := xbind hm
  obtain ⟨v2, q3, hm⟩ := xbind hm
  refine xw_callV1 (pc := 2) (As := [.int x1]) (st := []) C dX6_removeChange_2 (wX6_placeOfChange q3) dd_X6_placeOfChange lk_X6_58 dv_X6_placeOfChange (xco_spec q1) rfl (Nat.le_of_ble_eq_true rfl) (Nat.le_of_ble_eq_true rfl) (Nat.le_of_ble_eq_true rfl) ⟨Nat.le_refl _, Nat.le_refl _⟩ hN ?_
  refine xw_istore_n (pc := 5) (i := 2) (x := v2) (L' := [some (.ref x0), some (.int x1), some (.int v2)]) C dX6_removeChange_5 rfl (Nat.le_of_ble_eq_true rfl) rfl ?_
  obtain ⟨e22, q23, hm⟩ := xbind hm
  refine xw_sub (pc := 6) [some (.ref x0), none, some (.int v2)] ⟨Or.inr rfl, Or.inl rfl, Or.inr rfl, trivial⟩ ?_
  refine xloop_walk (fX6_removeChange_B6 x0) (fX6_removeChange_P6 X x0 n sl) (fX6_removeChange_E6 X x0 n sl) (fun s' o' => fX6_removeChange_B6_w C hN s' o') 5000 (h, v2) e22 q23 ?_
  show XW X 58 [some (.ref x0), none, none] [] e22 n sl
  refine xw_aload_n (pc := 58) (i := 0) (x := x0) C dX6_removeChange_58 rfl rfl ?_
  refine xw_dup (pc := 59) C dX6_removeChange_59 rfl ?_
  obtain ⟨v24, q25, hm⟩ := xbind hm
  refine xw_getI (pc := 60) C dX6_removeChange_60 fl_X6_39 q25 ?_
  refine xw_iconst (pc := 63) (v := 1) C dX6_removeChange_63 xk_i_1 ?_
  refine xw_isub (pc := 64) C dX6_removeChange_64 ?_
  obtain ⟨h26, q27, hm⟩ := xbind hm
  refine xw_put (pc := 65) C dX6_removeChange_65 fl_X6_39 q27 (fun _ => rfl) (fun _ => rfl) ?_
  obtain rfl := Option.some.inj hm
  exact xw_return (pc := 68) C dX6_removeChange_68 rfl hX
def fX6_smearedPlaces_P18 (X : XCtx) (h : XH) (x0 : Nat) (x3 : Int64) (n sl : Nat) (s : (Int32 × Int32)) : Prop := XW X 18 [some (.ref x0), none, none, some (.long x3), none, some (.int s.1), some (.int s.2)] [] h n sl
def fX6_smearedPlaces_E18 (X : XCtx) (h : XH) (x0 : Nat) (x3 : Int64) (n sl : Nat) (e : Int32) : Prop := XW X 50 [none, none, none, none, none, some (.int e), none] [] h n sl
set_option maxHeartbeats 4000000 in
set_option maxRecDepth 100000 in
theorem fX6_smearedPlaces_B18_w {X : XCtx} (C : XOK X RX6 cX6_smearedPlaces 7 "smearedPlaces" (some .int) 3 73) {n sl : Nat} (hN : XN X n sl) {h : XH} {x0 : Nat} {x3 : Int64} (s : (Int32 × Int32)) (o : (Int32 × Int32) ⊕ Int32) (hm : fX6_smearedPlaces_B18 h x0 x3 s = some o) (hc : ∀ s', o = .inl s' → fX6_smearedPlaces_P18 X h x0 x3 n sl s') (he : ∀ e', o = .inr e' → fX6_smearedPlaces_E18 X h x0 x3 n sl e') : fX6_smearedPlaces_P18 X h x0 x3 n sl s := by
  obtain ⟨x5, x6⟩ := s
  show XW X 18 [some (.ref x0), none, none, some (.long x3), none, some (.int x5), some (.int x6)] [] h n sl
  replace hm : fX6_smearedPlaces_b18 h x0 x3 x5 x6 = some o := hm
  unfold fX6_smearedPlaces_b18 at hm
  refine xw_iload (pc := 18) (i := 6) (x := x6) C dX6_smearedPlaces_18 rfl ?_
  refine xw_aload_n (pc := 20) (i := 0) (x := x0) C dX6_smearedPlaces_20 rfl rfl ?_
  obtain ⟨v6, q7, hm⟩ := xbind hm
  refine xw_getI (pc := 21) C dX6_smearedPlaces_21 fl_X6_21 q7 ?_
  refine xw_icmp_ge (pc := 24) (tgt := 50) C dX6_smearedPlaces_24 (by decide) (fun q => ?_) (fun q => ?_)
  · replace hm := xif_t q hm
    obtain rfl := Option.some.inj hm
    refine xw_sub (pc := 50) _ ?_ (he _ rfl)
    exact ⟨Or.inl rfl, Or.inl rfl, Or.inl rfl, Or.inl rfl, Or.inl rfl, Or.inr rfl, Or.inl rfl, trivial⟩
  · replace hm := xif_f q hm
    refine xw_aload_n (pc := 27) (i := 0) (x := x0) C dX6_smearedPlaces_27 rfl rfl ?_
    refine xw_iload (pc := 28) (i := 6) (x := x6) C dX6_smearedPlaces_28 rfl ?_
    refine xw_lload_n (pc := 30) (i := 3) (x := x3) C dX6_smearedPlaces_30 rfl rfl ?_
    obtain ⟨_, q8, hm⟩ := xbind hm
    obtain ⟨v9, q10, hm⟩ := xbind hm
    refine xw_callV1 (pc := 31) (As := [.int x6, .long x3]) (st := []) C dX6_smearedPlaces_31 (wX6_marksPassing q10) dd_X6_marksPassing lk_X6_85 dv_X6_marksPassing (xco_spec q8) rfl (Nat.le_of_ble_eq_true rfl) (Nat.le_of_ble_eq_true rfl) (Nat.le_of_ble_eq_true rfl) ⟨Nat.le_refl _, Nat.le_refl _⟩ hN ?_
    obtain ⟨v11, q12, hm⟩ := xbind hm
    refine xw_callS1 (pc := 34) (As := [.int v9]) (st := []) C dX6_smearedPlaces_34 (wJ6_bitCount_0f7a4 q12) dd_J6_bitCount_0f7a4 lk_X6_89 ds_J6_bitCount_0f7a4 rfl (Nat.le_of_ble_eq_true rfl) (Nat.le_of_ble_eq_true rfl) (Nat.le_of_ble_eq_true rfl) ⟨Nat.le_refl _, Nat.le_refl _⟩ hN ?_
    refine xw_iconst (pc := 37) (v := 1) C dX6_smearedPlaces_37 xk_i_1 ?_
    refine xw_icmp_le (pc := 38) (tgt := 44) C dX6_smearedPlaces_38 (by decide) (fun q => ?_) (fun q => ?_)
    · replace hm := xif_t q hm
      refine xw_iinc (pc := 44) (i := 6) (x := x6) (v := (x6 + (1 : Int32))) (L' := [some (.ref x0), none, none, some (.long x3), none, some (.int x5), some (.int (x6 + (1 : Int32)))]) C dX6_smearedPlaces_44 rfl (congrArg (HAdd.hAdd _) xk_i_1) (Nat.le_of_ble_eq_true rfl) rfl ?_
      refine xw_goto (pc := 47) (tgt := 18) C dX6_smearedPlaces_47 (by decide) ?_
      obtain rfl := Option.some.inj hm
      refine xw_sub (pc := 18) _ ?_ (hc _ rfl)
      exact ⟨Or.inr rfl, Or.inl rfl, Or.inl rfl, Or.inr rfl, Or.inl rfl, Or.inr rfl, Or.inr rfl, trivial⟩
    · replace hm := xif_f q hm
      refine xw_iinc (pc := 41) (i := 5) (x := x5) (v := (x5 + (1 : Int32))) (L' := [some (.ref x0), none, none, some (.long x3), none, some (.int (x5 + (1 : Int32))), some (.int x6)]) C dX6_smearedPlaces_41 rfl (congrArg (HAdd.hAdd _) xk_i_1) (Nat.le_of_ble_eq_true rfl) rfl ?_
      refine xw_iinc (pc := 44) (i := 6) (x := x6) (v := (x6 + (1 : Int32))) (L' := [some (.ref x0), none, none, some (.long x3), none, some (.int (x5 + (1 : Int32))), some (.int (x6 + (1 : Int32)))]) C dX6_smearedPlaces_44 rfl (congrArg (HAdd.hAdd _) xk_i_1) (Nat.le_of_ble_eq_true rfl) rfl ?_
      refine xw_goto (pc := 47) (tgt := 18) C dX6_smearedPlaces_47 (by decide) ?_
      obtain rfl := Option.some.inj hm
      refine xw_sub (pc := 18) _ ?_ (hc _ rfl)
      exact ⟨Or.inr rfl, Or.inl rfl, Or.inl rfl, Or.inr rfl, Or.inl rfl, Or.inr rfl, Or.inr rfl, trivial⟩
set_option maxHeartbeats 4000000 in
set_option maxRecDepth 100000 in
theorem wX6_smearedPlaces {l : Launch} {n sl : Nat} {h : XH} {x0 : Nat} {x1 : Int32} {x2 : Int32} {o : Int32} (hm : fX6_smearedPlaces h x0 x1 x2 = some o) : XM l yX6_smearedPlaces cX6_smearedPlaces 7 (some .int) 3 73 [.ref x0, .int x1, .int x2] h n sl (some (.int o)) h n sl := by
  refine xm_of pnX6 [some (.ref x0), some (.int x1), some (.int x2), none, none, none, none] 4 rfl (Nat.le_of_ble_eq_true rfl) ?_
  intro X hT C
  replace C : XOK X RX6 cX6_smearedPlaces 7 "smearedPlaces" (some .int) 3 73 := C
  obtain ⟨-, hN, hX⟩ := hT
  unfold fX6_smearedPlaces at hm
  refine xw_aload_n (pc := 0) (i := 0) (x := x0) C dX6_smearedPlaces_0 rfl rfl ?_
  refine xw_aload_n (pc := 1) (i := 0) (x := x0) C dX6_smearedPlaces_1 rfl rfl ?_
  obtain ⟨v1, q2, hm⟩ := xbind hm
  refine xw_getI (pc := 2) C dX6_smearedPlaces_2 fl_X6_21 q2 ?_
  refine xw_iload_n (pc := 5) (i := 1) (x := x1) C dX6_smearedPlaces_5 rfl rfl ?_
  refine xw_iload_n (pc := 6) (i := 2) (x := x2) C dX6_smearedPlaces_6 rfl rfl ?_
  refine xw_iconst (pc := 7) (v := 1) C dX6_smearedPlaces_7 xk_i_1 ?_
  obtain ⟨_, q3, hm⟩ := xbind hm
  obtain ⟨v4, q5, hm⟩ := xbind hm
  refine xw_callV1 (pc := 8) (As := [.int v1, .int x1, .int x2, .int (1 : Int32)]) (st := []) C dX6_smearedPlaces_8 (wX6_turnsModulo q5) dd_X6_turnsModulo lk_X6_75 dv_X6_turnsModulo (xco_spec q3) rfl (Nat.le_of_ble_eq_true rfl) (Nat.le_of_ble_eq_true rfl) (Nat.le_of_ble_eq_true rfl) ⟨Nat.le_refl _, Nat.le_refl _⟩ hN ?_
  refine xw_lstore_n (pc := 11) (i := 3) (x := v4) (L' := [some (.ref x0), some (.int x1), some (.int x2), some (.long v4), none, none, none]) C dX6_smearedPlaces_11 rfl (Nat.le_of_ble_eq_true rfl) rfl ?_
  refine xw_iconst (pc := 12) (v := 0) C dX6_smearedPlaces_12 xk_i_0 ?_
  refine xw_istore (pc := 13) (i := 5) (x := (0 : Int32)) (L' := [some (.ref x0), some (.int x1), some (.int x2), some (.long v4), none, some (.int (0 : Int32)), none]) C dX6_smearedPlaces_13 (Nat.le_of_ble_eq_true rfl) rfl ?_
  refine xw_iconst (pc := 15) (v := 0) C dX6_smearedPlaces_15 xk_i_0 ?_
  refine xw_istore (pc := 16) (i := 6) (x := (0 : Int32)) (L' := [some (.ref x0), some (.int x1), some (.int x2), some (.long v4), none, some (.int (0 : Int32)), some (.int (0 : Int32))]) C dX6_smearedPlaces_16 (Nat.le_of_ble_eq_true rfl) rfl ?_
  obtain ⟨e13, q14, hm⟩ := xbind hm
  refine xw_sub (pc := 18) [some (.ref x0), none, none, some (.long v4), none, some (.int (0 : Int32)), some (.int (0 : Int32))] ⟨Or.inr rfl, Or.inl rfl, Or.inl rfl, Or.inr rfl, Or.inl rfl, Or.inr rfl, Or.inr rfl, trivial⟩ ?_
  refine xloop_walk (fX6_smearedPlaces_B18 h x0 v4) (fX6_smearedPlaces_P18 X h x0 v4 n sl) (fX6_smearedPlaces_E18 X h x0 v4 n sl) (fun s' o' => fX6_smearedPlaces_B18_w C hN s' o') 5000 ((0 : Int32), (0 : Int32)) e13 q14 ?_
  show XW X 50 [none, none, none, none, none, some (.int e13), none] [] h n sl
  refine xw_iload (pc := 50) (i := 5) (x := e13) C dX6_smearedPlaces_50 rfl ?_
  obtain rfl := Option.some.inj hm
  exact xw_ireturn (pc := 52) C dX6_smearedPlaces_52 rfl hX
set_option maxHeartbeats 4000000 in
set_option maxRecDepth 100000 in
theorem wX7_append {l : Launch} {n sl : Nat} {h : XH} {x0 : Nat} {x1 : Int32} {o : XH} (hm : fX7_append h x0 x1 = some o) : XM l yX7_append cX7_append 2 none 1 22 [.ref x0, .int x1] h n sl none o n sl := by
  refine xm_of pnX7 [some (.ref x0), some (.int x1)] 0 rfl (Nat.le_of_ble_eq_true rfl) ?_
  intro X hT C
  replace C : XOK X RX7 cX7_append 2 "append" none 1 22 := C
  obtain ⟨-, hN, hX⟩ := hT
  unfold fX7_append at hm
  refine xw_aload_n (pc := 0) (i := 0) (x := x0) C dX7_append_0 rfl rfl ?_
  obtain ⟨v1, q2, hm⟩ := xbind hm
  refine xw_getR (pc := 1) C dX7_append_1 fl_X7_9 q2 ?_
  refine xw_aload_n (pc := 4) (i := 0) (x := x0) C dX7_append_4 rfl rfl ?_
  obtain ⟨v3, q4, hm⟩ := xbind hm
  refine xw_getI (pc := 5) C dX7_append_5 fl_X7_19 q4 ?_
  refine xw_iload_n (pc := 8) (i := 1) (x := x1) C dX7_append_8 rfl rfl ?_
  obtain ⟨h5, q6, hm⟩ := xbind hm
  refine xw_callSN0 (pc := 9) (As := [.ref v1, .int v3, .int x1]) (st := []) C dX7_append_9 (wX8_put q6) dd_X8_put lk_X7_22 ds_X8_put rfl (Nat.le_of_ble_eq_true rfl) (Nat.le_of_ble_eq_true rfl) (Nat.le_of_ble_eq_true rfl) ⟨Nat.le_refl _, Nat.le_refl _⟩ hN ?_
  refine xw_aload_n (pc := 12) (i := 0) (x := x0) C dX7_append_12 rfl rfl ?_
  refine xw_dup (pc := 13) C dX7_append_13 rfl ?_
  obtain ⟨v7, q8, hm⟩ := xbind hm
  refine xw_getI (pc := 14) C dX7_append_14 fl_X7_19 q8 ?_
  refine xw_iconst (pc := 17) (v := 1) C dX7_append_17 xk_i_1 ?_
  refine xw_iadd (pc := 18) C dX7_append_18 ?_
  obtain ⟨h9, q10, hm⟩ := xbind hm
  refine xw_put (pc := 19) C dX7_append_19 fl_X7_19 q10 (fun _ => rfl) (fun _ => rfl) ?_
  obtain rfl := Option.some.inj hm
  exact xw_return (pc := 22) C dX7_append_22 rfl hX
set_option maxHeartbeats 4000000 in
set_option maxRecDepth 100000 in
theorem wX7_code {l : Launch} {n sl : Nat} {h : XH} {x0 : Nat} {o : Int32} (hm : fX7_code h x0 = some o) : XM l yX7_code cX7_code 1 (some .int) 1 21 [.ref x0] h n sl (some (.int o)) h n sl := by
  refine xm_of pnX7 [some (.ref x0)] 0 rfl (Nat.le_of_ble_eq_true rfl) ?_
  intro X hT C
  replace C : XOK X RX7 cX7_code 1 "code" (some .int) 1 21 := C
  obtain ⟨-, hN, hX⟩ := hT
  unfold fX7_code at hm
  refine xw_aload_n (pc := 0) (i := 0) (x := x0) C dX7_code_0 rfl rfl ?_
  obtain ⟨v1, q2, hm⟩ := xbind hm
  refine xw_getI (pc := 1) C dX7_code_1 fl_X7_26 q2 ?_
  refine xw_aload_n (pc := 4) (i := 0) (x := x0) C dX7_code_4 rfl rfl ?_
  obtain ⟨v3, q4, hm⟩ := xbind hm
  refine xw_getI (pc := 5) C dX7_code_5 fl_X7_19 q4 ?_
  refine xw_icmp_ge (pc := 8) (tgt := 25) C dX7_code_8 (by decide) (fun q => ?_) (fun q => ?_)
  · replace hm := xif_t q hm
    refine xw_iconst (pc := 25) (v := 0) C dX7_code_25 xk_i_0 ?_
    obtain rfl := Option.some.inj hm
    exact xw_ireturn (pc := 26) C dX7_code_26 rfl hX
  · replace hm := xif_f q hm
    refine xw_aload_n (pc := 11) (i := 0) (x := x0) C dX7_code_11 rfl rfl ?_
    obtain ⟨v5, q6, hm⟩ := xbind hm
    refine xw_getR (pc := 12) C dX7_code_12 fl_X7_9 q6 ?_
    refine xw_aload_n (pc := 15) (i := 0) (x := x0) C dX7_code_15 rfl rfl ?_
    obtain ⟨v7, q8, hm⟩ := xbind hm
    refine xw_getI (pc := 16) C dX7_code_16 fl_X7_26 q8 ?_
    obtain ⟨v9, q10, hm⟩ := xbind hm
    refine xw_callSN1 (pc := 19) (As := [.ref v5, .int v7]) (st := []) C dX7_code_19 (wX8_at q10) dd_X8_at lk_X7_76 ds_X8_at rfl (Nat.le_of_ble_eq_true rfl) (Nat.le_of_ble_eq_true rfl) (Nat.le_of_ble_eq_true rfl) ⟨Nat.le_refl _, Nat.le_refl _⟩ hN ?_
    refine xw_goto (pc := 22) (tgt := 26) C dX7_code_22 (by decide) ?_
    obtain rfl := Option.some.inj hm
    exact xw_ireturn (pc := 26) C dX7_code_26 rfl hX
set_option maxHeartbeats 4000000 in
set_option maxRecDepth 100000 in
theorem wX7_init {l : Launch} {n sl : Nat} {h : XH} {x0 : Nat} {o : XH} (hm : fX7_init h n x0 = some o) : XM l yX7_init cX7_init 1 none 1 20 [.ref x0] h n sl none o (n + 1) (sl + 80) := by
  refine xm_of pnX7 [some (.ref x0)] 0 rfl (Nat.le_of_ble_eq_true rfl) ?_
  intro X hT C
  replace C : XOK X RX7 cX7_init 1 "<init>" none 1 20 := C
  obtain ⟨-, hN, hX⟩ := hT
  unfold fX7_init at hm
  refine xw_aload_n (pc := 0) (i := 0) (x := x0) C dX7_init_0 rfl rfl ?_
  refine xw_objInit (pc := 1) C dX7_init_1 lk_X7_3 oi_inst oi_code (Nat.le_of_ble_eq_true rfl) (Nat.le_of_ble_eq_true rfl) ?_
  refine xw_aload_n (pc := 4) (i := 0) (x := x0) C dX7_init_4 rfl rfl ?_
  refine xw_bipush (pc := 5) (v := 80) C dX7_init_5 xk_b_80 ?_
  obtain ⟨h1, q2, hm⟩ := xbind hm
  refine xw_newIB (pc := 7) (N := 80) C dX7_init_7 ar_int (by decide) (by decide) (Nat.le_of_ble_eq_true rfl) ⟨by have := hN.1; omega, by have := hN.2; omega⟩ q2 ?_
  obtain ⟨h3, q4, hm⟩ := xbind hm
  refine xw_putF (pc := 9) C dX7_init_9 fl_X7_9 q4 rfl rfl (fun _ => rfl) (fun _ => rfl) ?_
  refine xw_aload_n (pc := 12) (i := 0) (x := x0) C dX7_init_12 rfl rfl ?_
  refine xw_iconst (pc := 13) (v := 0) C dX7_init_13 xk_i_0 ?_
  obtain ⟨h5, q6, hm⟩ := xbind hm
  refine xw_put (pc := 14) C dX7_init_14 fl_X7_15 q6 (fun _ => rfl) (fun _ => rfl) ?_
  obtain rfl := Option.some.inj hm
  exact xw_return (pc := 17) C dX7_init_17 rfl hX
set_option maxHeartbeats 4000000 in
set_option maxRecDepth 100000 in
theorem wX8_within {l : Launch} {n sl : Nat} {h : XH} {x0 : Int32} {x1 : Int32} {x2 : Int32} {o : Bool} (hm : fX8_within x0 x1 x2 = some o) : XM l yX8_within cX8_within 3 (some .boolean) 0 0 [.int x0, .int x1, .int x2] h n sl (some (.int (xbi o))) h n sl := by
  refine xm_of pnX8 [some (.int x0), some (.int x1), some (.int x2)] 0 rfl (Nat.le_of_ble_eq_true rfl) ?_
  intro X hT C
  replace C : XOK X RX8 cX8_within 3 "within" (some .boolean) 0 0 := C
  obtain ⟨-, hN, hX⟩ := hT
  unfold fX8_within at hm
  refine xw_iload_n (pc := 0) (i := 0) (x := x0) C dX8_within_0 rfl rfl ?_
  refine xw_iload_n (pc := 1) (i := 1) (x := x1) C dX8_within_1 rfl rfl ?_
  refine xw_icmp_lt (pc := 2) (tgt := 14) C dX8_within_2 (by decide) (fun q => ?_) (fun q => ?_)
  · replace hm := xif_t q hm
    refine xw_iconst (pc := 14) (v := 0) C dX8_within_14 xk_i_0 ?_
    obtain rfl := Option.some.inj hm
    exact xw_zreturn (pc := 15) (v := xbi false) C dX8_within_15 rfl (xbi_nar _) hX
  · replace hm := xif_f q hm
    refine xw_iload_n (pc := 5) (i := 0) (x := x0) C dX8_within_5 rfl rfl ?_
    refine xw_iload_n (pc := 6) (i := 2) (x := x2) C dX8_within_6 rfl rfl ?_
    refine xw_icmp_gt (pc := 7) (tgt := 14) C dX8_within_7 (by decide) (fun q => ?_) (fun q => ?_)
    · replace hm := xif_t q hm
      refine xw_iconst (pc := 14) (v := 0) C dX8_within_14 xk_i_0 ?_
      obtain rfl := Option.some.inj hm
      exact xw_zreturn (pc := 15) (v := xbi false) C dX8_within_15 rfl (xbi_nar _) hX
    · replace hm := xif_f q hm
      refine xw_iconst (pc := 10) (v := 1) C dX8_within_10 xk_i_1 ?_
      refine xw_goto (pc := 11) (tgt := 15) C dX8_within_11 (by decide) ?_
      obtain rfl := Option.some.inj hm
      exact xw_zreturn (pc := 15) (v := xbi true) C dX8_within_15 rfl (xbi_nar _) hX
set_option maxHeartbeats 4000000 in
set_option maxRecDepth 100000 in
theorem wX7_isCell {l : Launch} {n sl : Nat} {h : XH} {x0 : Int32} {o : Bool} (hm : fX7_isCell x0 = some o) : XM l yX7_isCell cX7_isCell 1 (some .boolean) 1 22 [.int x0] h n sl (some (.int (xbi o))) h n sl := by
  refine xm_of pnX7 [some (.int x0)] 0 rfl (Nat.le_of_ble_eq_true rfl) ?_
  intro X hT C
  replace C : XOK X RX7 cX7_isCell 1 "isCell" (some .boolean) 1 22 := C
  obtain ⟨-, hN, hX⟩ := hT
  unfold fX7_isCell at hm
  refine xw_iload_n (pc := 0) (i := 0) (x := x0) C dX7_isCell_0 rfl rfl ?_
  refine xw_bipush (pc := 1) (v := 46) C dX7_isCell_1 xk_b_46 ?_
  refine xw_icmp_eq (pc := 3) (tgt := 17) C dX7_isCell_3 (by decide) (fun q => ?_) (fun q => ?_)
  · replace hm := xif_t q hm
    refine xw_iconst (pc := 17) (v := 1) C dX7_isCell_17 xk_i_1 ?_
    refine xw_goto (pc := 18) (tgt := 22) C dX7_isCell_18 (by decide) ?_
    obtain rfl := Option.some.inj hm
    exact xw_zreturn (pc := 22) (v := xbi true) C dX7_isCell_22 rfl (xbi_nar _) hX
  · replace hm := xif_f q hm
    refine xw_iload_n (pc := 6) (i := 0) (x := x0) C dX7_isCell_6 rfl rfl ?_
    refine xw_bipush (pc := 7) (v := 97) C dX7_isCell_7 xk_b_97 ?_
    refine xw_bipush (pc := 9) (v := 99) C dX7_isCell_9 xk_b_99 ?_
    obtain ⟨v1, q2, hm⟩ := xbind hm
    refine xw_callSN1 (pc := 11) (As := [.int x0, .int (97 : Int32), .int (99 : Int32)]) (st := []) C dX7_isCell_11 (wX8_within q2) dd_X8_within lk_X7_83 ds_X8_within rfl (Nat.le_of_ble_eq_true rfl) (Nat.le_of_ble_eq_true rfl) (Nat.le_of_ble_eq_true rfl) ⟨Nat.le_refl _, Nat.le_refl _⟩ hN ?_
    refine xw_if_eqZ (pc := 14) (b := v1) (tgt := 21) C dX7_isCell_14 (by decide) (fun q => ?_) (fun q => ?_)
    · replace hm := xif_f q hm
      refine xw_iconst (pc := 21) (v := 0) C dX7_isCell_21 xk_i_0 ?_
      obtain rfl := Option.some.inj hm
      exact xw_zreturn (pc := 22) (v := xbi false) C dX7_isCell_22 rfl (xbi_nar _) hX
    · replace hm := xif_t q hm
      refine xw_iconst (pc := 17) (v := 1) C dX7_isCell_17 xk_i_1 ?_
      refine xw_goto (pc := 18) (tgt := 22) C dX7_isCell_18 (by decide) ?_
      obtain rfl := Option.some.inj hm
      exact xw_zreturn (pc := 22) (v := xbi true) C dX7_isCell_22 rfl (xbi_nar _) hX
set_option maxHeartbeats 4000000 in
set_option maxRecDepth 100000 in
theorem wX7_isDigit {l : Launch} {n sl : Nat} {h : XH} {x0 : Int32} {o : Bool} (hm : fX7_isDigit x0 = some o) : XM l yX7_isDigit cX7_isDigit 1 (some .boolean) 1 22 [.int x0] h n sl (some (.int (xbi o))) h n sl := by
  refine xm_of pnX7 [some (.int x0)] 0 rfl (Nat.le_of_ble_eq_true rfl) ?_
  intro X hT C
  replace C : XOK X RX7 cX7_isDigit 1 "isDigit" (some .boolean) 1 22 := C
  obtain ⟨-, hN, hX⟩ := hT
  unfold fX7_isDigit at hm
  refine xw_iload_n (pc := 0) (i := 0) (x := x0) C dX7_isDigit_0 rfl rfl ?_
  refine xw_bipush (pc := 1) (v := 48) C dX7_isDigit_1 xk_b_48 ?_
  refine xw_bipush (pc := 3) (v := 57) C dX7_isDigit_3 xk_b_57 ?_
  obtain ⟨v1, q2, hm⟩ := xbind hm
  refine xw_callSN1 (pc := 5) (As := [.int x0, .int (48 : Int32), .int (57 : Int32)]) (st := []) C dX7_isDigit_5 (wX8_within q2) dd_X8_within lk_X7_83 ds_X8_within rfl (Nat.le_of_ble_eq_true rfl) (Nat.le_of_ble_eq_true rfl) (Nat.le_of_ble_eq_true rfl) ⟨Nat.le_refl _, Nat.le_refl _⟩ hN ?_
  obtain rfl := Option.some.inj hm
  exact xw_zreturn (pc := 8) (v := xbi v1) C dX7_isDigit_8 rfl (xbi_nar _) hX
set_option maxHeartbeats 4000000 in
set_option maxRecDepth 100000 in
theorem wX7_tellFault {l : Launch} {n sl : Nat} {h : XH} {x0 : Nat} {x1 : Int32} {x2 : Int32} {o : XH} (hm : fX7_tellFault h x0 x1 x2 = some o) : XM l yX7_tellFault cX7_tellFault 3 none 0 0 [.ref x0, .int x1, .int x2] h n sl none o n sl := by
  refine xm_of pnX7 [some (.ref x0), some (.int x1), some (.int x2)] 0 rfl (Nat.le_of_ble_eq_true rfl) ?_
  intro X hT C
  replace C : XOK X RX7 cX7_tellFault 3 "tellFault" none 0 0 := C
  obtain ⟨-, hN, hX⟩ := hT
  unfold fX7_tellFault at hm
  refine xw_aload_n (pc := 0) (i := 0) (x := x0) C dX7_tellFault_0 rfl rfl ?_
  refine xw_iload_n (pc := 1) (i := 1) (x := x1) C dX7_tellFault_1 rfl rfl ?_
  obtain ⟨h1, q2, hm⟩ := xbind hm
  refine xw_put (pc := 2) C dX7_tellFault_2 fl_X7_15 q2 (fun _ => rfl) (fun _ => rfl) ?_
  refine xw_aload_n (pc := 5) (i := 0) (x := x0) C dX7_tellFault_5 rfl rfl ?_
  refine xw_iload_n (pc := 6) (i := 2) (x := x2) C dX7_tellFault_6 rfl rfl ?_
  obtain ⟨h3, q4, hm⟩ := xbind hm
  refine xw_put (pc := 7) C dX7_tellFault_7 fl_X7_80 q4 (fun _ => rfl) (fun _ => rfl) ?_
  obtain rfl := Option.some.inj hm
  exact xw_return (pc := 10) C dX7_tellFault_10 rfl hX
def fX7_readCells_P0 (X : XCtx) (x0 : Nat) (x1 : Nat) (n sl : Nat) (s : XH) : Prop := XW X 0 [some (.ref x0), some (.ref x1)] [] s n sl
def fX7_readCells_E0 (X : XCtx) (x0 : Nat) (x1 : Nat) (n sl : Nat) (e : XH) : Prop := XW X 69 [some (.ref x0), some (.ref x1)] [] e n sl
set_option maxHeartbeats 4000000 in
set_option maxRecDepth 100000 in
theorem fX7_readCells_B0_w {X : XCtx} (C : XOK X RX7 cX7_readCells 2 "readCells" none 2 43) {n sl : Nat} (hN : XN X n sl) {x0 : Nat} {x1 : Nat} (s : XH) (o : XH ⊕ XH) (hm : fX7_readCells_B0 x0 x1 s = some o) (hc : ∀ s', o = .inl s' → fX7_readCells_P0 X x0 x1 n sl s') (he : ∀ e', o = .inr e' → fX7_readCells_E0 X x0 x1 n sl e') : fX7_readCells_P0 X x0 x1 n sl s := by
  revert s; intro h hm
  show XW X 0 [some (.ref x0), some (.ref x1)] [] h n sl
  replace hm : fX7_readCells_b0 x0 x1 h = some o := hm
  unfold fX7_readCells_b0 at hm
  refine xw_aload_n (pc := 0) (i := 0) (x := x0) C dX7_readCells_0 rfl rfl ?_
  obtain ⟨v46, q47, hm⟩ := xbind hm
  refine xw_getI (pc := 1) C dX7_readCells_1 fl_X7_26 q47 ?_
  refine xw_aload_n (pc := 4) (i := 0) (x := x0) C dX7_readCells_4 rfl rfl ?_
  obtain ⟨v48, q49, hm⟩ := xbind hm
  refine xw_getI (pc := 5) C dX7_readCells_5 fl_X7_19 q49 ?_
  refine xw_icmp_ge (pc := 8) (tgt := 69) C dX7_readCells_8 (by decide) (fun q => ?_) (fun q => ?_)
  · replace hm := xif_t q hm
    obtain rfl := Option.some.inj hm
    refine xw_sub (pc := 69) _ ?_ (he _ rfl)
    exact ⟨Or.inr rfl, Or.inr rfl, trivial⟩
  · replace hm := xif_f q hm
    refine xw_aload_n (pc := 11) (i := 1) (x := x1) C dX7_readCells_11 rfl rfl ?_
    obtain ⟨v50, q51, hm⟩ := xbind hm
    refine xw_getI (pc := 12) C dX7_readCells_12 fl_X7_60 q51 ?_
    refine xw_bipush (pc := 15) (v := 60) C dX7_readCells_15 xk_b_60 ?_
    refine xw_icmp_ge (pc := 17) (tgt := 69) C dX7_readCells_17 (by decide) (fun q => ?_) (fun q => ?_)
    · replace hm := xif_t q hm
      obtain rfl := Option.some.inj hm
      refine xw_sub (pc := 69) _ ?_ (he _ rfl)
      exact ⟨Or.inr rfl, Or.inr rfl, trivial⟩
    · replace hm := xif_f q hm
      refine xw_aload_n (pc := 20) (i := 0) (x := x0) C dX7_readCells_20 rfl rfl ?_
      obtain ⟨_, q52, hm⟩ := xbind hm
      obtain ⟨v53, q54, hm⟩ := xbind hm
      refine xw_callV1 (pc := 21) (As := []) (st := []) C dX7_readCells_21 (wX7_code q54) dd_X7_code lk_X7_63 dv_X7_code (xco_spec q52) rfl (Nat.le_of_ble_eq_true rfl) (Nat.le_of_ble_eq_true rfl) (Nat.le_of_ble_eq_true rfl) ⟨Nat.le_refl _, Nat.le_refl _⟩ hN ?_
      obtain ⟨v55, q56, hm⟩ := xbind hm
      refine xw_callS1 (pc := 24) (As := [.int v53]) (st := []) C dX7_readCells_24 (wX7_isCell q56) dd_X7_isCell lk_X7_66 ds_X7_isCell rfl (Nat.le_of_ble_eq_true rfl) (Nat.le_of_ble_eq_true rfl) (Nat.le_of_ble_eq_true rfl) ⟨Nat.le_refl _, Nat.le_refl _⟩ hN ?_
      refine xw_if_eqZ (pc := 27) (b := v55) (tgt := 69) C dX7_readCells_27 (by decide) (fun q => ?_) (fun q => ?_)
      · replace hm := xif_f q hm
        obtain rfl := Option.some.inj hm
        refine xw_sub (pc := 69) _ ?_ (he _ rfl)
        exact ⟨Or.inr rfl, Or.inr rfl, trivial⟩
      · replace hm := xif_t q hm
        refine xw_aload_n (pc := 30) (i := 1) (x := x1) C dX7_readCells_30 rfl rfl ?_
        refine xw_aload_n (pc := 31) (i := 0) (x := x0) C dX7_readCells_31 rfl rfl ?_
        obtain ⟨_, q57, hm⟩ := xbind hm
        obtain ⟨v58, q59, hm⟩ := xbind hm
        refine xw_callV1 (pc := 32) (As := []) (st := [.ref x1]) C dX7_readCells_32 (wX7_code q59) dd_X7_code lk_X7_63 dv_X7_code (xco_spec q57) rfl (Nat.le_of_ble_eq_true rfl) (Nat.le_of_ble_eq_true rfl) (Nat.le_of_ble_eq_true rfl) ⟨Nat.le_refl _, Nat.le_refl _⟩ hN ?_
        refine xw_bipush (pc := 35) (v := 46) C dX7_readCells_35 xk_b_46 ?_
        refine xw_icmp_ne (pc := 37) (tgt := 44) C dX7_readCells_37 (by decide) (fun q => ?_) (fun q => ?_)
        · replace hm := xif_f q hm
          refine xw_aload_n (pc := 44) (i := 0) (x := x0) C dX7_readCells_44 rfl rfl ?_
          obtain ⟨_, q60, hm⟩ := xbind hm
          obtain ⟨v61, q62, hm⟩ := xbind hm
          refine xw_callV1 (pc := 45) (As := []) (st := [.ref x1]) C dX7_readCells_45 (wX7_code q62) dd_X7_code lk_X7_63 dv_X7_code (xco_spec q60) rfl (Nat.le_of_ble_eq_true rfl) (Nat.le_of_ble_eq_true rfl) (Nat.le_of_ble_eq_true rfl) ⟨Nat.le_refl _, Nat.le_refl _⟩ hN ?_
          refine xw_bipush (pc := 48) (v := 97) C dX7_readCells_48 xk_b_97 ?_
          refine xw_isub (pc := 50) C dX7_readCells_50 ?_
          refine xw_iconst (pc := 51) (v := 1) C dX7_readCells_51 xk_i_1 ?_
          refine xw_iadd (pc := 52) C dX7_readCells_52 ?_
          obtain ⟨_, q63, hm⟩ := xbind hm
          obtain ⟨h64, q65, hm⟩ := xbind hm
          refine xw_callV0 (pc := 53) (As := [.int ((v61 - (97 : Int32)) + (1 : Int32))]) (st := []) C dX7_readCells_53 (wX6_addCell q65) dd_X6_addCell lk_X7_69 dv_X6_addCell (xco_spec q63) rfl (Nat.le_of_ble_eq_true rfl) (Nat.le_of_ble_eq_true rfl) (Nat.le_of_ble_eq_true rfl) ⟨Nat.le_refl _, Nat.le_refl _⟩ hN ?_
          refine xw_aload_n (pc := 56) (i := 0) (x := x0) C dX7_readCells_56 rfl rfl ?_
          refine xw_dup (pc := 57) C dX7_readCells_57 rfl ?_
          obtain ⟨v66, q67, hm⟩ := xbind hm
          refine xw_getI (pc := 58) C dX7_readCells_58 fl_X7_26 q67 ?_
          refine xw_iconst (pc := 61) (v := 1) C dX7_readCells_61 xk_i_1 ?_
          refine xw_iadd (pc := 62) C dX7_readCells_62 ?_
          obtain ⟨h68, q69, hm⟩ := xbind hm
          refine xw_put (pc := 63) C dX7_readCells_63 fl_X7_26 q69 (fun _ => rfl) (fun _ => rfl) ?_
          refine xw_goto (pc := 66) (tgt := 0) C dX7_readCells_66 (by decide) ?_
          obtain rfl := Option.some.inj hm
          refine xw_sub (pc := 0) _ ?_ (hc _ rfl)
          exact ⟨Or.inr rfl, Or.inr rfl, trivial⟩
        · replace hm := xif_t q hm
          refine xw_iconst (pc := 40) (v := 0) C dX7_readCells_40 xk_i_0 ?_
          refine xw_goto (pc := 41) (tgt := 53) C dX7_readCells_41 (by decide) ?_
          obtain ⟨_, q70, hm⟩ := xbind hm
          obtain ⟨h71, q72, hm⟩ := xbind hm
          refine xw_callV0 (pc := 53) (As := [.int (0 : Int32)]) (st := []) C dX7_readCells_53 (wX6_addCell q72) dd_X6_addCell lk_X7_69 dv_X6_addCell (xco_spec q70) rfl (Nat.le_of_ble_eq_true rfl) (Nat.le_of_ble_eq_true rfl) (Nat.le_of_ble_eq_true rfl) ⟨Nat.le_refl _, Nat.le_refl _⟩ hN ?_
          refine xw_aload_n (pc := 56) (i := 0) (x := x0) C dX7_readCells_56 rfl rfl ?_
          refine xw_dup (pc := 57) C dX7_readCells_57 rfl ?_
          obtain ⟨v73, q74, hm⟩ := xbind hm
          refine xw_getI (pc := 58) C dX7_readCells_58 fl_X7_26 q74 ?_
          refine xw_iconst (pc := 61) (v := 1) C dX7_readCells_61 xk_i_1 ?_
          refine xw_iadd (pc := 62) C dX7_readCells_62 ?_
          obtain ⟨h75, q76, hm⟩ := xbind hm
          refine xw_put (pc := 63) C dX7_readCells_63 fl_X7_26 q76 (fun _ => rfl) (fun _ => rfl) ?_
          refine xw_goto (pc := 66) (tgt := 0) C dX7_readCells_66 (by decide) ?_
          obtain rfl := Option.some.inj hm
          refine xw_sub (pc := 0) _ ?_ (hc _ rfl)
          exact ⟨Or.inr rfl, Or.inr rfl, trivial⟩
set_option maxHeartbeats 4000000 in
set_option maxRecDepth 100000 in
theorem fX7_readCells_J53_w {X : XCtx} (C : XOK X RX7 cX7_readCells 2 "readCells" none 2 43) {n sl : Nat} (hN : XN X n sl)  {h : XH} {x0 : Nat} {x1 : Nat} {s0 : Nat} {s1 : Int32} {o : XH} (hm : fX7_readCells_J53 h x0 x1 s0 s1 = some o) (hX : XR X none o n sl) : XW X 53 [some (.ref x0), some (.ref x1)] [.int s1, .ref s0] h n sl := by
  unfold fX7_readCells_J53 at hm
  obtain ⟨_, q39, hm⟩ := xbind hm
  obtain ⟨h40, q41, hm⟩ := xbind hm
  refine xw_callV0 (pc := 53) (As := [.int s1]) (st := []) C dX7_readCells_53 (wX6_addCell q41) dd_X6_addCell lk_X7_69 dv_X6_addCell (xco_spec q39) rfl (Nat.le_of_ble_eq_true rfl) (Nat.le_of_ble_eq_true rfl) (Nat.le_of_ble_eq_true rfl) ⟨Nat.le_refl _, Nat.le_refl _⟩ hN ?_
  refine xw_aload_n (pc := 56) (i := 0) (x := x0) C dX7_readCells_56 rfl rfl ?_
  refine xw_dup (pc := 57) C dX7_readCells_57 rfl ?_
  obtain ⟨v42, q43, hm⟩ := xbind hm
  refine xw_getI (pc := 58) C dX7_readCells_58 fl_X7_26 q43 ?_
  refine xw_iconst (pc := 61) (v := 1) C dX7_readCells_61 xk_i_1 ?_
  refine xw_iadd (pc := 62) C dX7_readCells_62 ?_
  obtain ⟨h44, q45, hm⟩ := xbind hm
  refine xw_put (pc := 63) C dX7_readCells_63 fl_X7_26 q45 (fun _ => rfl) (fun _ => rfl) ?_
  refine xw_goto (pc := 66) (tgt := 0) C dX7_readCells_66 (by decide) ?_
  obtain ⟨e77, q78, hm⟩ := xbind hm
  refine xw_sub (pc := 0) [some (.ref x0), some (.ref x1)] ⟨Or.inr rfl, Or.inr rfl, trivial⟩ ?_
  refine xloop_walk (fX7_readCells_B0 x0 x1) (fX7_readCells_P0 X x0 x1 n sl) (fX7_readCells_E0 X x0 x1 n sl) (fun s' o' => fX7_readCells_B0_w C hN s' o') 5000 h44 e77 q78 ?_
  show XW X 69 [some (.ref x0), some (.ref x1)] [] e77 n sl
  refine xw_aload_n (pc := 69) (i := 1) (x := x1) C dX7_readCells_69 rfl rfl ?_
  obtain ⟨v79, q80, hm⟩ := xbind hm
  refine xw_getI (pc := 70) C dX7_readCells_70 fl_X7_60 q80 ?_
  refine xw_if_ne (pc := 73) (tgt := 85) C dX7_readCells_73 (by decide) (fun q => ?_) (fun q => ?_)
  · replace hm := xif_f q hm
    obtain rfl := Option.some.inj hm
    exact xw_return (pc := 85) C dX7_readCells_85 rfl hX
  · replace hm := xif_t q hm
    refine xw_aload_n (pc := 76) (i := 0) (x := x0) C dX7_readCells_76 rfl rfl ?_
    refine xw_iconst (pc := 77) (v := 1) C dX7_readCells_77 xk_i_1 ?_
    refine xw_aload_n (pc := 78) (i := 0) (x := x0) C dX7_readCells_78 rfl rfl ?_
    obtain ⟨v81, q82, hm⟩ := xbind hm
    refine xw_getI (pc := 79) C dX7_readCells_79 fl_X7_26 q82 ?_
    obtain ⟨_, q83, hm⟩ := xbind hm
    obtain ⟨h84, q85, hm⟩ := xbind hm
    refine xw_callV0 (pc := 82) (As := [.int (1 : Int32), .int v81]) (st := []) C dX7_readCells_82 (wX7_tellFault q85) dd_X7_tellFault lk_X7_56 dv_X7_tellFault (xco_spec q83) rfl (Nat.le_of_ble_eq_true rfl) (Nat.le_of_ble_eq_true rfl) (Nat.le_of_ble_eq_true rfl) ⟨Nat.le_refl _, Nat.le_refl _⟩ hN ?_
    obtain rfl := Option.some.inj hm
    exact xw_return (pc := 85) C dX7_readCells_85 rfl hX
set_option maxHeartbeats 4000000 in
set_option maxRecDepth 100000 in
theorem wX7_readCells {l : Launch} {n sl : Nat} {h : XH} {x0 : Nat} {x1 : Nat} {o : XH} (hm : fX7_readCells h x0 x1 = some o) : XM l yX7_readCells cX7_readCells 2 none 2 43 [.ref x0, .ref x1] h n sl none o n sl := by
  refine xm_of pnX7 [some (.ref x0), some (.ref x1)] 0 rfl (Nat.le_of_ble_eq_true rfl) ?_
  intro X hT C
  replace C : XOK X RX7 cX7_readCells 2 "readCells" none 2 43 := C
  obtain ⟨-, hN, hX⟩ := hT
  unfold fX7_readCells at hm
  refine xw_aload_n (pc := 0) (i := 0) (x := x0) C dX7_readCells_0 rfl rfl ?_
  obtain ⟨v1, q2, hm⟩ := xbind hm
  refine xw_getI (pc := 1) C dX7_readCells_1 fl_X7_26 q2 ?_
  refine xw_aload_n (pc := 4) (i := 0) (x := x0) C dX7_readCells_4 rfl rfl ?_
  obtain ⟨v3, q4, hm⟩ := xbind hm
  refine xw_getI (pc := 5) C dX7_readCells_5 fl_X7_19 q4 ?_
  refine xw_icmp_ge (pc := 8) (tgt := 69) C dX7_readCells_8 (by decide) (fun q => ?_) (fun q => ?_)
  · replace hm := xif_t q hm
    refine xw_aload_n (pc := 69) (i := 1) (x := x1) C dX7_readCells_69 rfl rfl ?_
    obtain ⟨v5, q6, hm⟩ := xbind hm
    refine xw_getI (pc := 70) C dX7_readCells_70 fl_X7_60 q6 ?_
    refine xw_if_ne (pc := 73) (tgt := 85) C dX7_readCells_73 (by decide) (fun q => ?_) (fun q => ?_)
    · replace hm := xif_f q hm
      obtain rfl := Option.some.inj hm
      exact xw_return (pc := 85) C dX7_readCells_85 rfl hX
    · replace hm := xif_t q hm
      refine xw_aload_n (pc := 76) (i := 0) (x := x0) C dX7_readCells_76 rfl rfl ?_
      refine xw_iconst (pc := 77) (v := 1) C dX7_readCells_77 xk_i_1 ?_
      refine xw_aload_n (pc := 78) (i := 0) (x := x0) C dX7_readCells_78 rfl rfl ?_
      obtain ⟨v7, q8, hm⟩ := xbind hm
      refine xw_getI (pc := 79) C dX7_readCells_79 fl_X7_26 q8 ?_
      obtain ⟨_, q9, hm⟩ := xbind hm
      obtain ⟨h10, q11, hm⟩ := xbind hm
      refine xw_callV0 (pc := 82) (As := [.int (1 : Int32), .int v7]) (st := []) C dX7_readCells_82 (wX7_tellFault q11) dd_X7_tellFault lk_X7_56 dv_X7_tellFault (xco_spec q9) rfl (Nat.le_of_ble_eq_true rfl) (Nat.le_of_ble_eq_true rfl) (Nat.le_of_ble_eq_true rfl) ⟨Nat.le_refl _, Nat.le_refl _⟩ hN ?_
      obtain rfl := Option.some.inj hm
      exact xw_return (pc := 85) C dX7_readCells_85 rfl hX
  · replace hm := xif_f q hm
    refine xw_aload_n (pc := 11) (i := 1) (x := x1) C dX7_readCells_11 rfl rfl ?_
    obtain ⟨v12, q13, hm⟩ := xbind hm
    refine xw_getI (pc := 12) C dX7_readCells_12 fl_X7_60 q13 ?_
    refine xw_bipush (pc := 15) (v := 60) C dX7_readCells_15 xk_b_60 ?_
    refine xw_icmp_ge (pc := 17) (tgt := 69) C dX7_readCells_17 (by decide) (fun q => ?_) (fun q => ?_)
    · replace hm := xif_t q hm
      refine xw_aload_n (pc := 69) (i := 1) (x := x1) C dX7_readCells_69 rfl rfl ?_
      obtain ⟨v14, q15, hm⟩ := xbind hm
      refine xw_getI (pc := 70) C dX7_readCells_70 fl_X7_60 q15 ?_
      refine xw_if_ne (pc := 73) (tgt := 85) C dX7_readCells_73 (by decide) (fun q => ?_) (fun q => ?_)
      · replace hm := xif_f q hm
        obtain rfl := Option.some.inj hm
        exact xw_return (pc := 85) C dX7_readCells_85 rfl hX
      · replace hm := xif_t q hm
        refine xw_aload_n (pc := 76) (i := 0) (x := x0) C dX7_readCells_76 rfl rfl ?_
        refine xw_iconst (pc := 77) (v := 1) C dX7_readCells_77 xk_i_1 ?_
        refine xw_aload_n (pc := 78) (i := 0) (x := x0) C dX7_readCells_78 rfl rfl ?_
        obtain ⟨v16, q17, hm⟩ := xbind hm
        refine xw_getI (pc := 79) C dX7_readCells_79 fl_X7_26 q17 ?_
        obtain ⟨_, q18, hm⟩ := xbind hm
        obtain ⟨h19, q20, hm⟩ := xbind hm
        refine xw_callV0 (pc := 82) (As := [.int (1 : Int32), .int v16]) (st := []) C dX7_readCells_82 (wX7_tellFault q20) dd_X7_tellFault lk_X7_56 dv_X7_tellFault (xco_spec q18) rfl (Nat.le_of_ble_eq_true rfl) (Nat.le_of_ble_eq_true rfl) (Nat.le_of_ble_eq_true rfl) ⟨Nat.le_refl _, Nat.le_refl _⟩ hN ?_
        obtain rfl := Option.some.inj hm
        exact xw_return (pc := 85) C dX7_readCells_85 rfl hX
    · replace hm := xif_f q hm
      refine xw_aload_n (pc := 20) (i := 0) (x := x0) C dX7_readCells_20 rfl rfl ?_
      obtain ⟨_, q21, hm⟩ := xbind hm
      obtain ⟨v22, q23, hm⟩ := xbind hm
      refine xw_callV1 (pc := 21) (As := []) (st := []) C dX7_readCells_21 (wX7_code q23) dd_X7_code lk_X7_63 dv_X7_code (xco_spec q21) rfl (Nat.le_of_ble_eq_true rfl) (Nat.le_of_ble_eq_true rfl) (Nat.le_of_ble_eq_true rfl) ⟨Nat.le_refl _, Nat.le_refl _⟩ hN ?_
      obtain ⟨v24, q25, hm⟩ := xbind hm
      refine xw_callS1 (pc := 24) (As := [.int v22]) (st := []) C dX7_readCells_24 (wX7_isCell q25) dd_X7_isCell lk_X7_66 ds_X7_isCell rfl (Nat.le_of_ble_eq_true rfl) (Nat.le_of_ble_eq_true rfl) (Nat.le_of_ble_eq_true rfl) ⟨Nat.le_refl _, Nat.le_refl _⟩ hN ?_
      refine xw_if_eqZ (pc := 27) (b := v24) (tgt := 69) C dX7_readCells_27 (by decide) (fun q => ?_) (fun q => ?_)
      · replace hm := xif_f q hm
        refine xw_aload_n (pc := 69) (i := 1) (x := x1) C dX7_readCells_69 rfl rfl ?_
        obtain ⟨v26, q27, hm⟩ := xbind hm
        refine xw_getI (pc := 70) C dX7_readCells_70 fl_X7_60 q27 ?_
        refine xw_if_ne (pc := 73) (tgt := 85) C dX7_readCells_73 (by decide) (fun q => ?_) (fun q => ?_)
        · replace hm := xif_f q hm
          obtain rfl := Option.some.inj hm
          exact xw_return (pc := 85) C dX7_readCells_85 rfl hX
        · replace hm := xif_t q hm
          refine xw_aload_n (pc := 76) (i := 0) (x := x0) C dX7_readCells_76 rfl rfl ?_
          refine xw_iconst (pc := 77) (v := 1) C dX7_readCells_77 xk_i_1 ?_
          refine xw_aload_n (pc := 78) (i := 0) (x := x0) C dX7_readCells_78 rfl rfl ?_
          obtain ⟨v28, q29, hm⟩ := xbind hm
          refine xw_getI (pc := 79) C dX7_readCells_79 fl_X7_26 q29 ?_
          obtain ⟨_, q30, hm⟩ := xbind hm
          obtain ⟨h31, q32, hm⟩ := xbind hm
          refine xw_callV0 (pc := 82) (As := [.int (1 : Int32), .int v28]) (st := []) C dX7_readCells_82 (wX7_tellFault q32) dd_X7_tellFault lk_X7_56 dv_X7_tellFault (xco_spec q30) rfl (Nat.le_of_ble_eq_true rfl) (Nat.le_of_ble_eq_true rfl) (Nat.le_of_ble_eq_true rfl) ⟨Nat.le_refl _, Nat.le_refl _⟩ hN ?_
          obtain rfl := Option.some.inj hm
          exact xw_return (pc := 85) C dX7_readCells_85 rfl hX
      · replace hm := xif_t q hm
        refine xw_aload_n (pc := 30) (i := 1) (x := x1) C dX7_readCells_30 rfl rfl ?_
        refine xw_aload_n (pc := 31) (i := 0) (x := x0) C dX7_readCells_31 rfl rfl ?_
        obtain ⟨_, q33, hm⟩ := xbind hm
        obtain ⟨v34, q35, hm⟩ := xbind hm
        refine xw_callV1 (pc := 32) (As := []) (st := [.ref x1]) C dX7_readCells_32 (wX7_code q35) dd_X7_code lk_X7_63 dv_X7_code (xco_spec q33) rfl (Nat.le_of_ble_eq_true rfl) (Nat.le_of_ble_eq_true rfl) (Nat.le_of_ble_eq_true rfl) ⟨Nat.le_refl _, Nat.le_refl _⟩ hN ?_
        refine xw_bipush (pc := 35) (v := 46) C dX7_readCells_35 xk_b_46 ?_
        refine xw_icmp_ne (pc := 37) (tgt := 44) C dX7_readCells_37 (by decide) (fun q => ?_) (fun q => ?_)
        · replace hm := xif_f q hm
          refine xw_aload_n (pc := 44) (i := 0) (x := x0) C dX7_readCells_44 rfl rfl ?_
          obtain ⟨_, q36, hm⟩ := xbind hm
          obtain ⟨v37, q38, hm⟩ := xbind hm
          refine xw_callV1 (pc := 45) (As := []) (st := [.ref x1]) C dX7_readCells_45 (wX7_code q38) dd_X7_code lk_X7_63 dv_X7_code (xco_spec q36) rfl (Nat.le_of_ble_eq_true rfl) (Nat.le_of_ble_eq_true rfl) (Nat.le_of_ble_eq_true rfl) ⟨Nat.le_refl _, Nat.le_refl _⟩ hN ?_
          refine xw_bipush (pc := 48) (v := 97) C dX7_readCells_48 xk_b_97 ?_
          refine xw_isub (pc := 50) C dX7_readCells_50 ?_
          refine xw_iconst (pc := 51) (v := 1) C dX7_readCells_51 xk_i_1 ?_
          refine xw_iadd (pc := 52) C dX7_readCells_52 ?_
          exact xw_sub (pc := 53) [some (.ref x0), some (.ref x1)] ⟨Or.inr rfl, Or.inr rfl, trivial⟩ (fX7_readCells_J53_w C hN hm hX)
        · replace hm := xif_t q hm
          refine xw_iconst (pc := 40) (v := 0) C dX7_readCells_40 xk_i_0 ?_
          refine xw_goto (pc := 41) (tgt := 53) C dX7_readCells_41 (by decide) ?_
          exact xw_sub (pc := 53) [some (.ref x0), some (.ref x1)] ⟨Or.inr rfl, Or.inr rfl, trivial⟩ (fX7_readCells_J53_w C hN hm hX)
def fX7_readNumber_P8 (X : XCtx) (x0 : Nat) (x1 : Int32) (x2 : Int32) (x3 : Int32) (n sl : Nat) (s : (XH × Int32)) : Prop := XW X 8 [some (.ref x0), some (.int x1), some (.int x2), some (.int x3), some (.int s.2)] [] s.1 n sl
def fX7_readNumber_E8 (X : XCtx) (x0 : Nat) (x1 : Int32) (x2 : Int32) (x3 : Int32) (n sl : Nat) (e : (XH × Int32)) : Prop := XW X 56 [some (.ref x0), none, some (.int x2), some (.int x3), some (.int e.2)] [] e.1 n sl
set_option maxHeartbeats 4000000 in
set_option maxRecDepth 100000 in
theorem fX7_readNumber_B8_w {X : XCtx} (C : XOK X RX7 cX7_readNumber 5 "readNumber" (some .int) 2 42) {n sl : Nat} (hN : XN X n sl) {x0 : Nat} {x1 : Int32} {x2 : Int32} {x3 : Int32} (s : (XH × Int32)) (o : (XH × Int32) ⊕ (XH × Int32)) (hm : fX7_readNumber_B8 x0 x1 x2 x3 s = some o) (hc : ∀ s', o = .inl s' → fX7_readNumber_P8 X x0 x1 x2 x3 n sl s') (he : ∀ e', o = .inr e' → fX7_readNumber_E8 X x0 x1 x2 x3 n sl e') : fX7_readNumber_P8 X x0 x1 x2 x3 n sl s := by
  obtain ⟨h, x4⟩ := s
  show XW X 8 [some (.ref x0), some (.int x1), some (.int x2), some (.int x3), some (.int x4)] [] h n sl
  replace hm : fX7_readNumber_b8 x0 x1 x2 x3 h x4 = some o := hm
  unfold fX7_readNumber_b8 at hm
  refine xw_aload_n (pc := 8) (i := 0) (x := x0) C dX7_readNumber_8 rfl rfl ?_
  obtain ⟨_, q3, hm⟩ := xbind hm
  obtain ⟨v4, q5, hm⟩ := xbind hm
  refine xw_callV1 (pc := 9) (As := []) (st := []) C dX7_readNumber_9 (wX7_code q5) dd_X7_code lk_X7_63 dv_X7_code (xco_spec q3) rfl (Nat.le_of_ble_eq_true rfl) (Nat.le_of_ble_eq_true rfl) (Nat.le_of_ble_eq_true rfl) ⟨Nat.le_refl _, Nat.le_refl _⟩ hN ?_
  obtain ⟨v6, q7, hm⟩ := xbind hm
  refine xw_callS1 (pc := 12) (As := [.int v4]) (st := []) C dX7_readNumber_12 (wX7_isDigit q7) dd_X7_isDigit lk_X7_73 ds_X7_isDigit rfl (Nat.le_of_ble_eq_true rfl) (Nat.le_of_ble_eq_true rfl) (Nat.le_of_ble_eq_true rfl) ⟨Nat.le_refl _, Nat.le_refl _⟩ hN ?_
  refine xw_if_eqZ (pc := 15) (b := v6) (tgt := 56) C dX7_readNumber_15 (by decide) (fun q => ?_) (fun q => ?_)
  · replace hm := xif_f q hm
    obtain rfl := Option.some.inj hm
    refine xw_sub (pc := 56) _ ?_ (he _ rfl)
    exact ⟨Or.inr rfl, Or.inl rfl, Or.inr rfl, Or.inr rfl, Or.inr rfl, trivial⟩
  · replace hm := xif_t q hm
    refine xw_aload_n (pc := 18) (i := 0) (x := x0) C dX7_readNumber_18 rfl rfl ?_
    obtain ⟨v8, q9, hm⟩ := xbind hm
    refine xw_getI (pc := 19) C dX7_readNumber_19 fl_X7_26 q9 ?_
    refine xw_iload_n (pc := 22) (i := 3) (x := x3) C dX7_readNumber_22 rfl rfl ?_
    refine xw_isub (pc := 23) C dX7_readNumber_23 ?_
    refine xw_iload_n (pc := 24) (i := 1) (x := x1) C dX7_readNumber_24 rfl rfl ?_
    refine xw_icmp_ge (pc := 25) (tgt := 56) C dX7_readNumber_25 (by decide) (fun q => ?_) (fun q => ?_)
    · replace hm := xif_t q hm
      obtain rfl := Option.some.inj hm
      refine xw_sub (pc := 56) _ ?_ (he _ rfl)
      exact ⟨Or.inr rfl, Or.inl rfl, Or.inr rfl, Or.inr rfl, Or.inr rfl, trivial⟩
    · replace hm := xif_f q hm
      refine xw_bipush (pc := 28) (v := 10) C dX7_readNumber_28 xk_b_10 ?_
      refine xw_iload (pc := 30) (i := 4) (x := x4) C dX7_readNumber_30 rfl ?_
      refine xw_imul (pc := 32) C dX7_readNumber_32 ?_
      refine xw_aload_n (pc := 33) (i := 0) (x := x0) C dX7_readNumber_33 rfl rfl ?_
      obtain ⟨_, q10, hm⟩ := xbind hm
      obtain ⟨v11, q12, hm⟩ := xbind hm
      refine xw_callV1 (pc := 34) (As := []) (st := [.int ((10 : Int32) * x4)]) C dX7_readNumber_34 (wX7_code q12) dd_X7_code lk_X7_63 dv_X7_code (xco_spec q10) rfl (Nat.le_of_ble_eq_true rfl) (Nat.le_of_ble_eq_true rfl) (Nat.le_of_ble_eq_true rfl) ⟨Nat.le_refl _, Nat.le_refl _⟩ hN ?_
      refine xw_iadd (pc := 37) C dX7_readNumber_37 ?_
      refine xw_bipush (pc := 38) (v := 48) C dX7_readNumber_38 xk_b_48 ?_
      refine xw_isub (pc := 40) C dX7_readNumber_40 ?_
      obtain ⟨y13, ey13, hm⟩ := xlet_ex hm
      refine xw_topI ey13 ?_
      refine xw_istore (pc := 41) (i := 4) (x := y13) (L' := [some (.ref x0), some (.int x1), some (.int x2), some (.int x3), some (.int y13)]) C dX7_readNumber_41 (Nat.le_of_ble_eq_true rfl) rfl ?_
      refine xw_aload_n (pc := 43) (i := 0) (x := x0) C dX7_readNumber_43 rfl rfl ?_
      refine xw_dup (pc := 44) C dX7_readNumber_44 rfl ?_
      obtain ⟨v14, q15, hm⟩ := xbind hm
      refine xw_getI (pc := 45) C dX7_readNumber_45 fl_X7_26 q15 ?_
      refine xw_iconst (pc := 48) (v := 1) C dX7_readNumber_48 xk_i_1 ?_
      refine xw_iadd (pc := 49) C dX7_readNumber_49 ?_
      obtain ⟨h16, q17, hm⟩ := xbind hm
      refine xw_put (pc := 50) C dX7_readNumber_50 fl_X7_26 q17 (fun _ => rfl) (fun _ => rfl) ?_
      refine xw_goto (pc := 53) (tgt := 8) C dX7_readNumber_53 (by decide) ?_
      obtain rfl := Option.some.inj hm
      refine xw_sub (pc := 8) _ ?_ (hc _ rfl)
      exact ⟨Or.inr rfl, Or.inr rfl, Or.inr rfl, Or.inr rfl, Or.inr rfl, trivial⟩
set_option maxHeartbeats 4000000 in
set_option maxRecDepth 100000 in
theorem wX7_readNumber {l : Launch} {n sl : Nat} {h : XH} {x0 : Nat} {x1 : Int32} {x2 : Int32} {o : Int32 × XH} (hm : fX7_readNumber h x0 x1 x2 = some o) : XM l yX7_readNumber cX7_readNumber 5 (some .int) 2 42 [.ref x0, .int x1, .int x2] h n sl (some (.int o.1)) o.2 n sl := by
  refine xm_of pnX7 [some (.ref x0), some (.int x1), some (.int x2), none, none] 2 rfl (Nat.le_of_ble_eq_true rfl) ?_
  intro X hT C
  replace C : XOK X RX7 cX7_readNumber 5 "readNumber" (some .int) 2 42 := C
  obtain ⟨-, hN, hX⟩ := hT
  unfold fX7_readNumber at hm
  refine xw_aload_n (pc := 0) (i := 0) (x := x0) C dX7_readNumber_0 rfl rfl ?_
  obtain ⟨v1, q2, hm⟩ := xbind hm
  refine xw_getI (pc := 1) C dX7_readNumber_1 fl_X7_26 q2 ?_
  refine xw_istore_n (pc := 4) (i := 3) (x := v1) (L' := [some (.ref x0), some (.int x1), some (.int x2), some (.int v1), none]) C dX7_readNumber_4 rfl (Nat.le_of_ble_eq_true rfl) rfl ?_
  refine xw_iconst (pc := 5) (v := 0) C dX7_readNumber_5 xk_i_0 ?_
  refine xw_istore (pc := 6) (i := 4) (x := (0 : Int32)) (L' := [some (.ref x0), some (.int x1), some (.int x2), some (.int v1), some (.int (0 : Int32))]) C dX7_readNumber_6 (Nat.le_of_ble_eq_true rfl) rfl ?_
  obtain ⟨e18, q19, hm⟩ := xbind hm
  refine xw_sub (pc := 8) [some (.ref x0), some (.int x1), some (.int x2), some (.int v1), some (.int (0 : Int32))] ⟨Or.inr rfl, Or.inr rfl, Or.inr rfl, Or.inr rfl, Or.inr rfl, trivial⟩ ?_
  refine xloop_walk (fX7_readNumber_B8 x0 x1 x2 v1) (fX7_readNumber_P8 X x0 x1 x2 v1 n sl) (fX7_readNumber_E8 X x0 x1 x2 v1 n sl) (fun s' o' => fX7_readNumber_B8_w C hN s' o') 5000 (h, (0 : Int32)) e18 q19 ?_
  show XW X 56 [some (.ref x0), none, some (.int x2), some (.int v1), some (.int e18.2)] [] e18.1 n sl
  refine xw_aload_n (pc := 56) (i := 0) (x := x0) C dX7_readNumber_56 rfl rfl ?_
  obtain ⟨v20, q21, hm⟩ := xbind hm
  refine xw_getI (pc := 57) C dX7_readNumber_57 fl_X7_26 q21 ?_
  refine xw_iload_n (pc := 60) (i := 3) (x := v1) C dX7_readNumber_60 rfl rfl ?_
  refine xw_icmp_eq (pc := 61) (tgt := 74) C dX7_readNumber_61 (by decide) (fun q => ?_) (fun q => ?_)
  · replace hm := xif_t q hm
    refine xw_aload_n (pc := 74) (i := 0) (x := x0) C dX7_readNumber_74 rfl rfl ?_
    refine xw_iconst (pc := 75) (v := 1) C dX7_readNumber_75 xk_i_1 ?_
    refine xw_aload_n (pc := 76) (i := 0) (x := x0) C dX7_readNumber_76 rfl rfl ?_
    obtain ⟨v22, q23, hm⟩ := xbind hm
    refine xw_getI (pc := 77) C dX7_readNumber_77 fl_X7_26 q23 ?_
    obtain ⟨_, q24, hm⟩ := xbind hm
    obtain ⟨h25, q26, hm⟩ := xbind hm
    refine xw_callV0 (pc := 80) (As := [.int (1 : Int32), .int v22]) (st := []) C dX7_readNumber_80 (wX7_tellFault q26) dd_X7_tellFault lk_X7_56 dv_X7_tellFault (xco_spec q24) rfl (Nat.le_of_ble_eq_true rfl) (Nat.le_of_ble_eq_true rfl) (Nat.le_of_ble_eq_true rfl) ⟨Nat.le_refl _, Nat.le_refl _⟩ hN ?_
    refine xw_goto (pc := 83) (tgt := 98) C dX7_readNumber_83 (by decide) ?_
    refine xw_iload (pc := 98) (i := 4) (x := e18.2) C dX7_readNumber_98 rfl ?_
    obtain rfl := Option.some.inj hm
    exact xw_ireturn (pc := 100) C dX7_readNumber_100 rfl hX
  · replace hm := xif_f q hm
    refine xw_aload_n (pc := 64) (i := 0) (x := x0) C dX7_readNumber_64 rfl rfl ?_
    obtain ⟨_, q27, hm⟩ := xbind hm
    obtain ⟨v28, q29, hm⟩ := xbind hm
    refine xw_callV1 (pc := 65) (As := []) (st := []) C dX7_readNumber_65 (wX7_code q29) dd_X7_code lk_X7_63 dv_X7_code (xco_spec q27) rfl (Nat.le_of_ble_eq_true rfl) (Nat.le_of_ble_eq_true rfl) (Nat.le_of_ble_eq_true rfl) ⟨Nat.le_refl _, Nat.le_refl _⟩ hN ?_
    obtain ⟨v30, q31, hm⟩ := xbind hm
    refine xw_callS1 (pc := 68) (As := [.int v28]) (st := []) C dX7_readNumber_68 (wX7_isDigit q31) dd_X7_isDigit lk_X7_73 ds_X7_isDigit rfl (Nat.le_of_ble_eq_true rfl) (Nat.le_of_ble_eq_true rfl) (Nat.le_of_ble_eq_true rfl) ⟨Nat.le_refl _, Nat.le_refl _⟩ hN ?_
    refine xw_if_eqZ (pc := 71) (b := v30) (tgt := 86) C dX7_readNumber_71 (by decide) (fun q => ?_) (fun q => ?_)
    · replace hm := xif_f q hm
      refine xw_iload (pc := 86) (i := 4) (x := e18.2) C dX7_readNumber_86 rfl ?_
      refine xw_iload_n (pc := 88) (i := 2) (x := x2) C dX7_readNumber_88 rfl rfl ?_
      refine xw_icmp_le (pc := 89) (tgt := 98) C dX7_readNumber_89 (by decide) (fun q => ?_) (fun q => ?_)
      · replace hm := xif_t q hm
        refine xw_iload (pc := 98) (i := 4) (x := e18.2) C dX7_readNumber_98 rfl ?_
        obtain rfl := Option.some.inj hm
        exact xw_ireturn (pc := 100) C dX7_readNumber_100 rfl hX
      · replace hm := xif_f q hm
        refine xw_aload_n (pc := 92) (i := 0) (x := x0) C dX7_readNumber_92 rfl rfl ?_
        refine xw_iconst (pc := 93) (v := 2) C dX7_readNumber_93 xk_i_2 ?_
        refine xw_iload_n (pc := 94) (i := 3) (x := v1) C dX7_readNumber_94 rfl rfl ?_
        obtain ⟨_, q32, hm⟩ := xbind hm
        obtain ⟨h33, q34, hm⟩ := xbind hm
        refine xw_callV0 (pc := 95) (As := [.int (2 : Int32), .int v1]) (st := []) C dX7_readNumber_95 (wX7_tellFault q34) dd_X7_tellFault lk_X7_56 dv_X7_tellFault (xco_spec q32) rfl (Nat.le_of_ble_eq_true rfl) (Nat.le_of_ble_eq_true rfl) (Nat.le_of_ble_eq_true rfl) ⟨Nat.le_refl _, Nat.le_refl _⟩ hN ?_
        refine xw_iload (pc := 98) (i := 4) (x := e18.2) C dX7_readNumber_98 rfl ?_
        obtain rfl := Option.some.inj hm
        exact xw_ireturn (pc := 100) C dX7_readNumber_100 rfl hX
    · replace hm := xif_t q hm
      refine xw_aload_n (pc := 74) (i := 0) (x := x0) C dX7_readNumber_74 rfl rfl ?_
      refine xw_iconst (pc := 75) (v := 1) C dX7_readNumber_75 xk_i_1 ?_
      refine xw_aload_n (pc := 76) (i := 0) (x := x0) C dX7_readNumber_76 rfl rfl ?_
      obtain ⟨v35, q36, hm⟩ := xbind hm
      refine xw_getI (pc := 77) C dX7_readNumber_77 fl_X7_26 q36 ?_
      obtain ⟨_, q37, hm⟩ := xbind hm
      obtain ⟨h38, q39, hm⟩ := xbind hm
      refine xw_callV0 (pc := 80) (As := [.int (1 : Int32), .int v35]) (st := []) C dX7_readNumber_80 (wX7_tellFault q39) dd_X7_tellFault lk_X7_56 dv_X7_tellFault (xco_spec q37) rfl (Nat.le_of_ble_eq_true rfl) (Nat.le_of_ble_eq_true rfl) (Nat.le_of_ble_eq_true rfl) ⟨Nat.le_refl _, Nat.le_refl _⟩ hN ?_
      refine xw_goto (pc := 83) (tgt := 98) C dX7_readNumber_83 (by decide) ?_
      refine xw_iload (pc := 98) (i := 4) (x := e18.2) C dX7_readNumber_98 rfl ?_
      obtain rfl := Option.some.inj hm
      exact xw_ireturn (pc := 100) C dX7_readNumber_100 rfl hX
set_option maxHeartbeats 4000000 in
set_option maxRecDepth 100000 in
theorem wX7_takes {l : Launch} {n sl : Nat} {h : XH} {x0 : Nat} {x1 : Int32} {o : Bool × XH} (hm : fX7_takes h x0 x1 = some o) : XM l yX7_takes cX7_takes 2 (some .boolean) 2 41 [.ref x0, .int x1] h n sl (some (.int (xbi o.1))) o.2 n sl := by
  refine xm_of pnX7 [some (.ref x0), some (.int x1)] 0 rfl (Nat.le_of_ble_eq_true rfl) ?_
  intro X hT C
  replace C : XOK X RX7 cX7_takes 2 "takes" (some .boolean) 2 41 := C
  obtain ⟨-, hN, hX⟩ := hT
  unfold fX7_takes at hm
  refine xw_aload_n (pc := 0) (i := 0) (x := x0) C dX7_takes_0 rfl rfl ?_
  obtain ⟨_, q1, hm⟩ := xbind hm
  obtain ⟨v2, q3, hm⟩ := xbind hm
  refine xw_callV1 (pc := 1) (As := []) (st := []) C dX7_takes_1 (wX7_code q3) dd_X7_code lk_X7_63 dv_X7_code (xco_spec q1) rfl (Nat.le_of_ble_eq_true rfl) (Nat.le_of_ble_eq_true rfl) (Nat.le_of_ble_eq_true rfl) ⟨Nat.le_refl _, Nat.le_refl _⟩ hN ?_
  refine xw_iload_n (pc := 4) (i := 1) (x := x1) C dX7_takes_4 rfl rfl ?_
  refine xw_icmp_eq (pc := 5) (tgt := 10) C dX7_takes_5 (by decide) (fun q => ?_) (fun q => ?_)
  · replace hm := xif_t q hm
    refine xw_aload_n (pc := 10) (i := 0) (x := x0) C dX7_takes_10 rfl rfl ?_
    refine xw_dup (pc := 11) C dX7_takes_11 rfl ?_
    obtain ⟨v4, q5, hm⟩ := xbind hm
    refine xw_getI (pc := 12) C dX7_takes_12 fl_X7_26 q5 ?_
    refine xw_iconst (pc := 15) (v := 1) C dX7_takes_15 xk_i_1 ?_
    refine xw_iadd (pc := 16) C dX7_takes_16 ?_
    obtain ⟨h6, q7, hm⟩ := xbind hm
    refine xw_put (pc := 17) C dX7_takes_17 fl_X7_26 q7 (fun _ => rfl) (fun _ => rfl) ?_
    refine xw_iconst (pc := 20) (v := 1) C dX7_takes_20 xk_i_1 ?_
    obtain rfl := Option.some.inj hm
    exact xw_zreturn (pc := 21) (v := xbi true) C dX7_takes_21 rfl (xbi_nar _) hX
  · replace hm := xif_f q hm
    refine xw_iconst (pc := 8) (v := 0) C dX7_takes_8 xk_i_0 ?_
    obtain rfl := Option.some.inj hm
    exact xw_zreturn (pc := 9) (v := xbi false) C dX7_takes_9 rfl (xbi_nar _) hX
set_option maxHeartbeats 4000000 in
set_option maxRecDepth 100000 in
theorem wX7_readSpeed {l : Launch} {n sl : Nat} {h : XH} {x0 : Nat} {o : Int32 × XH} (hm : fX7_readSpeed h x0 = some o) : XM l yX7_readSpeed cX7_readSpeed 1 (some .int) 3 66 [.ref x0] h n sl (some (.int o.1)) o.2 n sl := by
  refine xm_of pnX7 [some (.ref x0)] 0 rfl (Nat.le_of_ble_eq_true rfl) ?_
  intro X hT C
  replace C : XOK X RX7 cX7_readSpeed 1 "readSpeed" (some .int) 3 66 := C
  obtain ⟨-, hN, hX⟩ := hT
  unfold fX7_readSpeed at hm
  refine xw_aload_n (pc := 0) (i := 0) (x := x0) C dX7_readSpeed_0 rfl rfl ?_
  refine xw_bipush (pc := 1) (v := 45) C dX7_readSpeed_1 xk_b_45 ?_
  obtain ⟨_, q1, hm⟩ := xbind hm
  obtain ⟨v2, q3, hm⟩ := xbind hm
  refine xw_callV1 (pc := 3) (As := [.int (45 : Int32)]) (st := []) C dX7_readSpeed_3 (wX7_takes q3) dd_X7_takes lk_X7_38 dv_X7_takes (xco_spec q1) rfl (Nat.le_of_ble_eq_true rfl) (Nat.le_of_ble_eq_true rfl) (Nat.le_of_ble_eq_true rfl) ⟨Nat.le_refl _, Nat.le_refl _⟩ hN ?_
  refine xw_if_eqZ (pc := 6) (b := v2.1) (tgt := 21) C dX7_readSpeed_6 (by decide) (fun q => ?_) (fun q => ?_)
  · replace hm := xif_f q hm
    refine xw_aload_n (pc := 21) (i := 0) (x := x0) C dX7_readSpeed_21 rfl rfl ?_
    refine xw_iconst (pc := 22) (v := 4) C dX7_readSpeed_22 xk_i_4 ?_
    refine xw_sipush (pc := 23) (v := 1000) C dX7_readSpeed_23 xk_s_1000 ?_
    obtain ⟨_, q4, hm⟩ := xbind hm
    obtain ⟨v5, q6, hm⟩ := xbind hm
    refine xw_callV1 (pc := 26) (As := [.int (4 : Int32), .int (1000 : Int32)]) (st := []) C dX7_readSpeed_26 (wX7_readNumber q6) dd_X7_readNumber lk_X7_42 dv_X7_readNumber (xco_spec q4) rfl (Nat.le_of_ble_eq_true rfl) (Nat.le_of_ble_eq_true rfl) (Nat.le_of_ble_eq_true rfl) ⟨Nat.le_refl _, Nat.le_refl _⟩ hN ?_
    obtain rfl := Option.some.inj hm
    exact xw_ireturn (pc := 29) C dX7_readSpeed_29 rfl hX
  · replace hm := xif_t q hm
    refine xw_aload_n (pc := 9) (i := 0) (x := x0) C dX7_readSpeed_9 rfl rfl ?_
    refine xw_iconst (pc := 10) (v := 4) C dX7_readSpeed_10 xk_i_4 ?_
    refine xw_sipush (pc := 11) (v := 1000) C dX7_readSpeed_11 xk_s_1000 ?_
    obtain ⟨_, q7, hm⟩ := xbind hm
    obtain ⟨v8, q9, hm⟩ := xbind hm
    refine xw_callV1 (pc := 14) (As := [.int (4 : Int32), .int (1000 : Int32)]) (st := []) C dX7_readSpeed_14 (wX7_readNumber q9) dd_X7_readNumber lk_X7_42 dv_X7_readNumber (xco_spec q7) rfl (Nat.le_of_ble_eq_true rfl) (Nat.le_of_ble_eq_true rfl) (Nat.le_of_ble_eq_true rfl) ⟨Nat.le_refl _, Nat.le_refl _⟩ hN ?_
    refine xw_ineg (pc := 17) C dX7_readSpeed_17 ?_
    refine xw_goto (pc := 18) (tgt := 29) C dX7_readSpeed_18 (by decide) ?_
    obtain rfl := Option.some.inj hm
    exact xw_ireturn (pc := 29) C dX7_readSpeed_29 rfl hX
set_option maxHeartbeats 4000000 in
set_option maxRecDepth 100000 in
theorem fX7_readInto_J97_w {X : XCtx} (C : XOK X RX7 cX7_readInto 2 "readInto" (some .boolean) 4 86) {n sl : Nat} (hN : XN X n sl)  {h : XH} {x0 : Nat} {o : Bool × XH} (hm : fX7_readInto_J97 h x0 = some o) (hX : XR X (some (.int (xbi o.1))) o.2 n sl) : XW X 97 [some (.ref x0), none] [] h n sl := by
  unfold fX7_readInto_J97 at hm
  refine xw_aload_n (pc := 97) (i := 0) (x := x0) C dX7_readInto_97 rfl rfl ?_
  obtain ⟨v17, q18, hm⟩ := xbind hm
  refine xw_getI (pc := 98) C dX7_readInto_98 fl_X7_15 q18 ?_
  refine xw_if_ne (pc := 101) (tgt := 108) C dX7_readInto_101 (by decide) (fun q => ?_) (fun q => ?_)
  · replace hm := xif_f q hm
    refine xw_iconst (pc := 108) (v := 0) C dX7_readInto_108 xk_i_0 ?_
    obtain rfl := Option.some.inj hm
    exact xw_zreturn (pc := 109) (v := xbi false) C dX7_readInto_109 rfl (xbi_nar _) hX
  · replace hm := xif_t q hm
    refine xw_iconst (pc := 104) (v := 1) C dX7_readInto_104 xk_i_1 ?_
    refine xw_goto (pc := 105) (tgt := 109) C dX7_readInto_105 (by decide) ?_
    obtain rfl := Option.some.inj hm
    exact xw_zreturn (pc := 109) (v := xbi true) C dX7_readInto_109 rfl (xbi_nar _) hX
set_option maxHeartbeats 4000000 in
set_option maxRecDepth 100000 in
theorem fX7_readInto_J70_w {X : XCtx} (C : XOK X RX7 cX7_readInto 2 "readInto" (some .boolean) 4 86) {n sl : Nat} (hN : XN X n sl)  {h : XH} {x0 : Nat} {o : Bool × XH} (hm : fX7_readInto_J70 h x0 = some o) (hX : XR X (some (.int (xbi o.1))) o.2 n sl) : XW X 70 [some (.ref x0), none] [] h n sl := by
  unfold fX7_readInto_J70 at hm
  refine xw_aload_n (pc := 70) (i := 0) (x := x0) C dX7_readInto_70 rfl rfl ?_
  obtain ⟨v15, q16, hm⟩ := xbind hm
  refine xw_getI (pc := 71) C dX7_readInto_71 fl_X7_15 q16 ?_
  refine xw_if_ne (pc := 74) (tgt := 97) C dX7_readInto_74 (by decide) (fun q => ?_) (fun q => ?_)
  · replace hm := xif_f q hm
    exact xw_sub (pc := 97) [some (.ref x0), none] ⟨Or.inr rfl, Or.inl rfl, trivial⟩ (fX7_readInto_J97_w C hN hm hX)
  · replace hm := xif_t q hm
    refine xw_aload_n (pc := 77) (i := 0) (x := x0) C dX7_readInto_77 rfl rfl ?_
    obtain ⟨v19, q20, hm⟩ := xbind hm
    refine xw_getI (pc := 78) C dX7_readInto_78 fl_X7_26 q20 ?_
    refine xw_aload_n (pc := 81) (i := 0) (x := x0) C dX7_readInto_81 rfl rfl ?_
    obtain ⟨v21, q22, hm⟩ := xbind hm
    refine xw_getI (pc := 82) C dX7_readInto_82 fl_X7_19 q22 ?_
    refine xw_icmp_ge (pc := 85) (tgt := 97) C dX7_readInto_85 (by decide) (fun q => ?_) (fun q => ?_)
    · replace hm := xif_t q hm
      exact xw_sub (pc := 97) [some (.ref x0), none] ⟨Or.inr rfl, Or.inl rfl, trivial⟩ (fX7_readInto_J97_w C hN hm hX)
    · replace hm := xif_f q hm
      refine xw_aload_n (pc := 88) (i := 0) (x := x0) C dX7_readInto_88 rfl rfl ?_
      refine xw_iconst (pc := 89) (v := 1) C dX7_readInto_89 xk_i_1 ?_
      refine xw_aload_n (pc := 90) (i := 0) (x := x0) C dX7_readInto_90 rfl rfl ?_
      obtain ⟨v23, q24, hm⟩ := xbind hm
      refine xw_getI (pc := 91) C dX7_readInto_91 fl_X7_26 q24 ?_
      obtain ⟨_, q25, hm⟩ := xbind hm
      obtain ⟨h26, q27, hm⟩ := xbind hm
      refine xw_callV0 (pc := 94) (As := [.int (1 : Int32), .int v23]) (st := []) C dX7_readInto_94 (wX7_tellFault q27) dd_X7_tellFault lk_X7_56 dv_X7_tellFault (xco_spec q25) rfl (Nat.le_of_ble_eq_true rfl) (Nat.le_of_ble_eq_true rfl) (Nat.le_of_ble_eq_true rfl) ⟨Nat.le_refl _, Nat.le_refl _⟩ hN ?_
      exact xw_sub (pc := 97) [some (.ref x0), none] ⟨Or.inr rfl, Or.inl rfl, trivial⟩ (fX7_readInto_J97_w C hN hm hX)
set_option maxHeartbeats 4000000 in
set_option maxRecDepth 100000 in
theorem fX7_readInto_J46_w {X : XCtx} (C : XOK X RX7 cX7_readInto 2 "readInto" (some .boolean) 4 86) {n sl : Nat} (hN : XN X n sl)  {h : XH} {x0 : Nat} {x1 : Nat} {o : Bool × XH} (hm : fX7_readInto_J46 h x0 x1 = some o) (hX : XR X (some (.int (xbi o.1))) o.2 n sl) : XW X 46 [some (.ref x0), some (.ref x1)] [] h n sl := by
  unfold fX7_readInto_J46 at hm
  refine xw_aload_n (pc := 46) (i := 0) (x := x0) C dX7_readInto_46 rfl rfl ?_
  obtain ⟨v13, q14, hm⟩ := xbind hm
  refine xw_getI (pc := 47) C dX7_readInto_47 fl_X7_15 q14 ?_
  refine xw_if_ne (pc := 50) (tgt := 70) C dX7_readInto_50 (by decide) (fun q => ?_) (fun q => ?_)
  · replace hm := xif_f q hm
    exact xw_sub (pc := 70) [some (.ref x0), none] ⟨Or.inr rfl, Or.inl rfl, trivial⟩ (fX7_readInto_J70_w C hN hm hX)
  · replace hm := xif_t q hm
    refine xw_aload_n (pc := 53) (i := 0) (x := x0) C dX7_readInto_53 rfl rfl ?_
    refine xw_bipush (pc := 54) (v := 42) C dX7_readInto_54 xk_b_42 ?_
    obtain ⟨_, q28, hm⟩ := xbind hm
    obtain ⟨v29, q30, hm⟩ := xbind hm
    refine xw_callV1 (pc := 56) (As := [.int (42 : Int32)]) (st := []) C dX7_readInto_56 (wX7_takes q30) dd_X7_takes lk_X7_38 dv_X7_takes (xco_spec q28) rfl (Nat.le_of_ble_eq_true rfl) (Nat.le_of_ble_eq_true rfl) (Nat.le_of_ble_eq_true rfl) ⟨Nat.le_refl _, Nat.le_refl _⟩ hN ?_
    refine xw_if_eqZ (pc := 59) (b := v29.1) (tgt := 70) C dX7_readInto_59 (by decide) (fun q => ?_) (fun q => ?_)
    · replace hm := xif_f q hm
      exact xw_sub (pc := 70) [some (.ref x0), none] ⟨Or.inr rfl, Or.inl rfl, trivial⟩ (fX7_readInto_J70_w C hN hm hX)
    · replace hm := xif_t q hm
      refine xw_aload_n (pc := 62) (i := 1) (x := x1) C dX7_readInto_62 rfl rfl ?_
      refine xw_aload_n (pc := 63) (i := 0) (x := x0) C dX7_readInto_63 rfl rfl ?_
      obtain ⟨_, q31, hm⟩ := xbind hm
      obtain ⟨v32, q33, hm⟩ := xbind hm
      refine xw_callV1 (pc := 64) (As := []) (st := [.ref x1]) C dX7_readInto_64 (wX7_readSpeed q33) dd_X7_readSpeed lk_X7_49 dv_X7_readSpeed (xco_spec q31) rfl (Nat.le_of_ble_eq_true rfl) (Nat.le_of_ble_eq_true rfl) (Nat.le_of_ble_eq_true rfl) ⟨Nat.le_refl _, Nat.le_refl _⟩ hN ?_
      obtain ⟨h34, q35, hm⟩ := xbind hm
      refine xw_put (pc := 67) C dX7_readInto_67 fl_X7_53 q35 (fun _ => rfl) (fun _ => rfl) ?_
      exact xw_sub (pc := 70) [some (.ref x0), none] ⟨Or.inr rfl, Or.inl rfl, trivial⟩ (fX7_readInto_J70_w C hN hm hX)
set_option maxHeartbeats 4000000 in
set_option maxRecDepth 100000 in
theorem wX7_readInto {l : Launch} {n sl : Nat} {h : XH} {x0 : Nat} {x1 : Nat} {o : Bool × XH} (hm : fX7_readInto h x0 x1 = some o) : XM l yX7_readInto cX7_readInto 2 (some .boolean) 4 86 [.ref x0, .ref x1] h n sl (some (.int (xbi o.1))) o.2 n sl := by
  refine xm_of pnX7 [some (.ref x0), some (.ref x1)] 0 rfl (Nat.le_of_ble_eq_true rfl) ?_
  intro X hT C
  replace C : XOK X RX7 cX7_readInto 2 "readInto" (some .boolean) 4 86 := C
  obtain ⟨-, hN, hX⟩ := hT
  unfold fX7_readInto at hm
  refine xw_aload_n (pc := 0) (i := 0) (x := x0) C dX7_readInto_0 rfl rfl ?_
  refine xw_iconst (pc := 1) (v := 0) C dX7_readInto_1 xk_i_0 ?_
  obtain ⟨h1, q2, hm⟩ := xbind hm
  refine xw_put (pc := 2) C dX7_readInto_2 fl_X7_26 q2 (fun _ => rfl) (fun _ => rfl) ?_
  refine xw_aload_n (pc := 5) (i := 0) (x := x0) C dX7_readInto_5 rfl rfl ?_
  refine xw_iconst (pc := 6) (v := 0) C dX7_readInto_6 xk_i_0 ?_
  obtain ⟨h3, q4, hm⟩ := xbind hm
  refine xw_put (pc := 7) C dX7_readInto_7 fl_X7_15 q4 (fun _ => rfl) (fun _ => rfl) ?_
  refine xw_aload_n (pc := 10) (i := 1) (x := x1) C dX7_readInto_10 rfl rfl ?_
  obtain ⟨_, q5, hm⟩ := xbind hm
  obtain ⟨h6, q7, hm⟩ := xbind hm
  refine xw_callV0 (pc := 11) (As := []) (st := []) C dX7_readInto_11 (wX6_empty q7) dd_X6_empty lk_X7_29 dv_X6_empty (xco_spec q5) rfl (Nat.le_of_ble_eq_true rfl) (Nat.le_of_ble_eq_true rfl) (Nat.le_of_ble_eq_true rfl) ⟨Nat.le_refl _, Nat.le_refl _⟩ hN ?_
  refine xw_aload_n (pc := 14) (i := 0) (x := x0) C dX7_readInto_14 rfl rfl ?_
  refine xw_aload_n (pc := 15) (i := 1) (x := x1) C dX7_readInto_15 rfl rfl ?_
  obtain ⟨_, q8, hm⟩ := xbind hm
  obtain ⟨h9, q10, hm⟩ := xbind hm
  refine xw_callV0 (pc := 16) (As := [.ref x1]) (st := []) C dX7_readInto_16 (wX7_readCells q10) dd_X7_readCells lk_X7_34 dv_X7_readCells (xco_spec q8) rfl (Nat.le_of_ble_eq_true rfl) (Nat.le_of_ble_eq_true rfl) (Nat.le_of_ble_eq_true rfl) ⟨Nat.le_refl _, Nat.le_refl _⟩ hN ?_
  refine xw_aload_n (pc := 19) (i := 0) (x := x0) C dX7_readInto_19 rfl rfl ?_
  obtain ⟨v11, q12, hm⟩ := xbind hm
  refine xw_getI (pc := 20) C dX7_readInto_20 fl_X7_15 q12 ?_
  refine xw_if_ne (pc := 23) (tgt := 46) C dX7_readInto_23 (by decide) (fun q => ?_) (fun q => ?_)
  · replace hm := xif_f q hm
    exact xw_sub (pc := 46) [some (.ref x0), some (.ref x1)] ⟨Or.inr rfl, Or.inr rfl, trivial⟩ (fX7_readInto_J46_w C hN hm hX)
  · replace hm := xif_t q hm
    refine xw_aload_n (pc := 26) (i := 0) (x := x0) C dX7_readInto_26 rfl rfl ?_
    refine xw_bipush (pc := 27) (v := 64) C dX7_readInto_27 xk_b_64 ?_
    obtain ⟨_, q36, hm⟩ := xbind hm
    obtain ⟨v37, q38, hm⟩ := xbind hm
    refine xw_callV1 (pc := 29) (As := [.int (64 : Int32)]) (st := []) C dX7_readInto_29 (wX7_takes q38) dd_X7_takes lk_X7_38 dv_X7_takes (xco_spec q36) rfl (Nat.le_of_ble_eq_true rfl) (Nat.le_of_ble_eq_true rfl) (Nat.le_of_ble_eq_true rfl) ⟨Nat.le_refl _, Nat.le_refl _⟩ hN ?_
    refine xw_if_eqZ (pc := 32) (b := v37.1) (tgt := 46) C dX7_readInto_32 (by decide) (fun q => ?_) (fun q => ?_)
    · replace hm := xif_f q hm
      exact xw_sub (pc := 46) [some (.ref x0), some (.ref x1)] ⟨Or.inr rfl, Or.inr rfl, trivial⟩ (fX7_readInto_J46_w C hN hm hX)
    · replace hm := xif_t q hm
      refine xw_aload_n (pc := 35) (i := 1) (x := x1) C dX7_readInto_35 rfl rfl ?_
      refine xw_aload_n (pc := 36) (i := 0) (x := x0) C dX7_readInto_36 rfl rfl ?_
      refine xw_iconst (pc := 37) (v := 2) C dX7_readInto_37 xk_i_2 ?_
      refine xw_bipush (pc := 38) (v := 59) C dX7_readInto_38 xk_b_59 ?_
      obtain ⟨_, q39, hm⟩ := xbind hm
      obtain ⟨v40, q41, hm⟩ := xbind hm
      refine xw_callV1 (pc := 40) (As := [.int (2 : Int32), .int (59 : Int32)]) (st := [.ref x1]) C dX7_readInto_40 (wX7_readNumber q41) dd_X7_readNumber lk_X7_42 dv_X7_readNumber (xco_spec q39) rfl (Nat.le_of_ble_eq_true rfl) (Nat.le_of_ble_eq_true rfl) (Nat.le_of_ble_eq_true rfl) ⟨Nat.le_refl _, Nat.le_refl _⟩ hN ?_
      obtain ⟨h42, q43, hm⟩ := xbind hm
      refine xw_put (pc := 43) C dX7_readInto_43 fl_X7_46 q43 (fun _ => rfl) (fun _ => rfl) ?_
      exact xw_sub (pc := 46) [some (.ref x0), some (.ref x1)] ⟨Or.inr rfl, Or.inr rfl, trivial⟩ (fX7_readInto_J46_w C hN hm hX)
set_option maxHeartbeats 4000000 in
set_option maxRecDepth 100000 in
theorem wX8_addReading {l : Launch} {n sl : Nat} {h : XH} {x0 : Nat} {x1 : Int32} {x2 : Int32} {o : Int32 × XH} (hm : fX8_addReading h x0 x1 x2 = some o) : XM l yX8_addReading cX8_addReading 3 (some .int) 4 86 [.ref x0, .int x1, .int x2] h n sl (some (.int o.1)) o.2 n sl := by
  refine xm_of pnX8 [some (.ref x0), some (.int x1), some (.int x2)] 0 rfl (Nat.le_of_ble_eq_true rfl) ?_
  intro X hT C
  replace C : XOK X RX8 cX8_addReading 3 "addReading" (some .int) 4 86 := C
  obtain ⟨-, hN, hX⟩ := hT
  unfold fX8_addReading at hm
  refine xw_aload_n (pc := 0) (i := 0) (x := x0) C dX8_addReading_0 rfl rfl ?_
  obtain ⟨v1, q2, hm⟩ := xbind hm
  refine xw_getR (pc := 1) C dX8_addReading_1 fl_X8_10 q2 ?_
  obtain ⟨v3, q4, hm⟩ := xbind hm
  refine xw_getR (pc := 4) C dX8_addReading_4 fl_X8_181 q4 ?_
  obtain ⟨v5, q6, hm⟩ := xbind hm
  refine xw_getI (pc := 7) C dX8_addReading_7 fl_X8_190 q6 ?_
  refine xw_bipush (pc := 10) (v := 8) C dX8_addReading_10 xk_b_8 ?_
  refine xw_icmp_lt (pc := 12) (tgt := 19) C dX8_addReading_12 (by decide) (fun q => ?_) (fun q => ?_)
  · replace hm := xif_t q hm
    refine xw_aload_n (pc := 19) (i := 0) (x := x0) C dX8_addReading_19 rfl rfl ?_
    obtain ⟨v7, q8, hm⟩ := xbind hm
    refine xw_getR (pc := 20) C dX8_addReading_20 fl_X8_19 q8 ?_
    refine xw_aload_n (pc := 23) (i := 0) (x := x0) C dX8_addReading_23 rfl rfl ?_
    obtain ⟨v9, q10, hm⟩ := xbind hm
    refine xw_getR (pc := 24) C dX8_addReading_24 fl_X8_10 q10 ?_
    obtain ⟨_, q11, hm⟩ := xbind hm
    obtain ⟨h12, q13, hm⟩ := xbind hm
    refine xw_callV0 (pc := 27) (As := [.ref v9]) (st := []) C dX8_addReading_27 (wX3_remember q13) dd_X3_remember lk_X8_63 dv_X3_remember (xco_spec q11) rfl (Nat.le_of_ble_eq_true rfl) (Nat.le_of_ble_eq_true rfl) (Nat.le_of_ble_eq_true rfl) ⟨Nat.le_refl _, Nat.le_refl _⟩ hN ?_
    refine xw_aload_n (pc := 30) (i := 0) (x := x0) C dX8_addReading_30 rfl rfl ?_
    obtain ⟨v14, q15, hm⟩ := xbind hm
    refine xw_getR (pc := 31) C dX8_addReading_31 fl_X8_10 q15 ?_
    obtain ⟨v16, q17, hm⟩ := xbind hm
    refine xw_getR (pc := 34) C dX8_addReading_34 fl_X8_181 q17 ?_
    refine xw_iload_n (pc := 37) (i := 1) (x := x1) C dX8_addReading_37 rfl rfl ?_
    refine xw_iload_n (pc := 38) (i := 2) (x := x2) C dX8_addReading_38 rfl rfl ?_
    obtain ⟨_, q18, hm⟩ := xbind hm
    obtain ⟨h19, q20, hm⟩ := xbind hm
    refine xw_callV0 (pc := 39) (As := [.int x1, .int x2]) (st := []) C dX8_addReading_39 (wX4_add q20) dd_X4_add lk_X8_319 dv_X4_add (xco_spec q18) rfl (Nat.le_of_ble_eq_true rfl) (Nat.le_of_ble_eq_true rfl) (Nat.le_of_ble_eq_true rfl) ⟨Nat.le_refl _, Nat.le_refl _⟩ hN ?_
    refine xw_aload_n (pc := 42) (i := 0) (x := x0) C dX8_addReading_42 rfl rfl ?_
    obtain ⟨v21, q22, hm⟩ := xbind hm
    refine xw_getR (pc := 43) C dX8_addReading_43 fl_X8_10 q22 ?_
    obtain ⟨v23, q24, hm⟩ := xbind hm
    refine xw_getR (pc := 46) C dX8_addReading_46 fl_X8_181 q24 ?_
    obtain ⟨v25, q26, hm⟩ := xbind hm
    refine xw_getI (pc := 49) C dX8_addReading_49 fl_X8_190 q26 ?_
    refine xw_iconst (pc := 52) (v := 1) C dX8_addReading_52 xk_i_1 ?_
    refine xw_isub (pc := 53) C dX8_addReading_53 ?_
    obtain rfl := Option.some.inj hm
    exact xw_ireturn (pc := 54) C dX8_addReading_54 rfl hX
  · replace hm := xif_f q hm
    refine xw_sipush (pc := 15) (v := -1003) C dX8_addReading_15 xk_s_m1003 ?_
    obtain rfl := Option.some.inj hm
    exact xw_ireturn (pc := 18) C dX8_addReading_18 rfl hX
set_option maxHeartbeats 4000000 in
set_option maxRecDepth 100000 in
theorem wX8_findWithout {l : Launch} {n sl : Nat} {h : XH} {x0 : Nat} {x1 : Int32} {o : Nat × XH} (hm : fX8_findWithout h x0 x1 = some o) : XM l yX8_findWithout cX8_findWithout 2 (some (.object "FlashWheelReader$Candidates")) 3 70 [.ref x0, .int x1] h n sl (some (.ref o.1)) o.2 n sl := by
  refine xm_of pnX8 [some (.ref x0), some (.int x1)] 0 rfl (Nat.le_of_ble_eq_true rfl) ?_
  intro X hT C
  replace C : XOK X RX8 cX8_findWithout 2 "findWithout" (some (.object "FlashWheelReader$Candidates")) 3 70 := C
  obtain ⟨-, hN, hX⟩ := hT
  unfold fX8_findWithout at hm
  refine xw_aload_n (pc := 0) (i := 0) (x := x0) C dX8_findWithout_0 rfl rfl ?_
  obtain ⟨v1, q2, hm⟩ := xbind hm
  refine xw_getR (pc := 1) C dX8_findWithout_1 fl_X8_40 q2 ?_
  refine xw_aload_n (pc := 4) (i := 0) (x := x0) C dX8_findWithout_4 rfl rfl ?_
  obtain ⟨v3, q4, hm⟩ := xbind hm
  refine xw_getR (pc := 5) C dX8_findWithout_5 fl_X8_10 q4 ?_
  obtain ⟨v5, q6, hm⟩ := xbind hm
  refine xw_getR (pc := 8) C dX8_findWithout_8 fl_X8_67 q6 ?_
  obtain ⟨_, q7, hm⟩ := xbind hm
  obtain ⟨v8, q9, hm⟩ := xbind hm
  refine xw_callV1 (pc := 11) (As := []) (st := [.ref v1]) C dX8_findWithout_11 (wX6_measure q9) dd_X6_measure lk_X8_156 dv_X6_measure (xco_spec q7) rfl (Nat.le_of_ble_eq_true rfl) (Nat.le_of_ble_eq_true rfl) (Nat.le_of_ble_eq_true rfl) ⟨Nat.le_refl _, Nat.le_refl _⟩ hN ?_
  refine xw_aload_n (pc := 14) (i := 0) (x := x0) C dX8_findWithout_14 rfl rfl ?_
  obtain ⟨v10, q11, hm⟩ := xbind hm
  refine xw_getR (pc := 15) C dX8_findWithout_15 fl_X8_10 q11 ?_
  obtain ⟨v12, q13, hm⟩ := xbind hm
  refine xw_getR (pc := 18) C dX8_findWithout_18 fl_X8_181 q13 ?_
  refine xw_iload_n (pc := 21) (i := 1) (x := x1) C dX8_findWithout_21 rfl rfl ?_
  obtain ⟨_, q14, hm⟩ := xbind hm
  obtain ⟨h15, q16, hm⟩ := xbind hm
  refine xw_callV0 (pc := 22) (As := [.int v8, .ref v12, .int x1]) (st := []) C dX8_findWithout_22 (wX0_find q16) dd_X0_find lk_X8_322 dv_X0_find (xco_spec q14) rfl (Nat.le_of_ble_eq_true rfl) (Nat.le_of_ble_eq_true rfl) (Nat.le_of_ble_eq_true rfl) ⟨Nat.le_refl _, Nat.le_refl _⟩ hN ?_
  refine xw_aload_n (pc := 25) (i := 0) (x := x0) C dX8_findWithout_25 rfl rfl ?_
  obtain ⟨v17, q18, hm⟩ := xbind hm
  refine xw_getR (pc := 26) C dX8_findWithout_26 fl_X8_40 q18 ?_
  obtain rfl := Option.some.inj hm
  exact xw_areturn (pc := 29) (v := some v17) C dX8_findWithout_29 rfl (Or.inl ⟨_, rfl⟩) hX
