def fX0_inOrder_P8 (X : XCtx) (h : XH) (x0 : Nat) (x1 : Int32) (n sl : Nat) (s : (Int32 × Int32)) : Prop := XW X 8 [some (.ref x0), some (.int x1), some (.int s.1), some (.int s.2)] [] h n sl
def fX0_inOrder_E8 (X : XCtx) (h : XH) (x0 : Nat) (x1 : Int32) (n sl : Nat) (e : (Int32 ⊕ Unit)) : Prop := match e with
  | .inl e => XW X 29 [none, none, none, some (.int e)] [] h n sl
  | .inr e => XW X 40 [none, none, none, none] [] h n sl
set_option maxHeartbeats 4000000 in
set_option maxRecDepth 100000 in
theorem fX0_inOrder_B8_w {X : XCtx} (C : XOK X RX0 cX0_inOrder 4 "inOrder" (some .int) 2 43) {n sl : Nat} (hN : XN X n sl) {h : XH} {x0 : Nat} {x1 : Int32} (s : (Int32 × Int32)) (o : (Int32 × Int32) ⊕ (Int32 ⊕ Unit)) (hm : fX0_inOrder_B8 h x0 x1 s = some o) (hc : ∀ s', o = .inl s' → fX0_inOrder_P8 X h x0 x1 n sl s') (he : ∀ e', o = .inr e' → fX0_inOrder_E8 X h x0 x1 n sl e') : fX0_inOrder_P8 X h x0 x1 n sl s := by
  obtain ⟨x2, x3⟩ := s
  show XW X 8 [some (.ref x0), some (.int x1), some (.int x2), some (.int x3)] [] h n sl
  replace hm : fX0_inOrder_b8 h x0 x1 x2 x3 = some o := hm
  unfold fX0_inOrder_b8 at hm
  refine xw_iload_n (pc := 8) (i := 3) (x := x3) C dX0_inOrder_8 rfl rfl ?_
  refine xw_aload_n (pc := 9) (i := 0) (x := x0) C dX0_inOrder_9 rfl rfl ?_
  obtain ⟨v3, q4, hm⟩ := xbind hm
  refine xw_getI (pc := 10) C dX0_inOrder_10 fl_X0_27 q4 ?_
  refine xw_icmp_gt (pc := 13) (tgt := 40) C dX0_inOrder_13 (by decide) (fun q => ?_) (fun q => ?_)
  · replace hm := xif_t q hm
    obtain rfl := Option.some.inj hm
    refine xw_sub (pc := 40) _ ?_ (he _ rfl)
    exact ⟨Or.inl rfl, Or.inl rfl, Or.inl rfl, Or.inl rfl, trivial⟩
  · replace hm := xif_f q hm
    refine xw_aload_n (pc := 16) (i := 0) (x := x0) C dX0_inOrder_16 rfl rfl ?_
    refine xw_iload_n (pc := 17) (i := 3) (x := x3) C dX0_inOrder_17 rfl rfl ?_
    obtain ⟨_, q5, hm⟩ := xbind hm
    obtain ⟨v6, q7, hm⟩ := xbind hm
    refine xw_callV1 (pc := 18) (As := [.int x3]) (st := []) C dX0_inOrder_18 (wX0_has q7) dd_X0_has lk_X0_44 dv_X0_has (xco_spec q5) rfl (Nat.le_of_ble_eq_true rfl) (Nat.le_of_ble_eq_true rfl) (Nat.le_of_ble_eq_true rfl) ⟨Nat.le_refl _, Nat.le_refl _⟩ hN ?_
    refine xw_if_eqZ (pc := 21) (b := v6) (tgt := 34) C dX0_inOrder_21 (by decide) (fun q => ?_) (fun q => ?_)
    · replace hm := xif_f q hm
      refine xw_iinc (pc := 34) (i := 3) (x := x3) (v := (x3 + (1 : Int32))) (L' := [some (.ref x0), some (.int x1), some (.int x2), some (.int (x3 + (1 : Int32)))]) C dX0_inOrder_34 rfl (congrArg (HAdd.hAdd _) xk_i_1) (Nat.le_of_ble_eq_true rfl) rfl ?_
      refine xw_goto (pc := 37) (tgt := 8) C dX0_inOrder_37 (by decide) ?_
      obtain rfl := Option.some.inj hm
      refine xw_sub (pc := 8) _ ?_ (hc _ rfl)
      exact ⟨Or.inr rfl, Or.inr rfl, Or.inr rfl, Or.inr rfl, trivial⟩
    · replace hm := xif_t q hm
      refine xw_iload_n (pc := 24) (i := 2) (x := x2) C dX0_inOrder_24 rfl rfl ?_
      refine xw_iload_n (pc := 25) (i := 1) (x := x1) C dX0_inOrder_25 rfl rfl ?_
      refine xw_icmp_ne (pc := 26) (tgt := 31) C dX0_inOrder_26 (by decide) (fun q => ?_) (fun q => ?_)
      · replace hm := xif_f q hm
        refine xw_iinc (pc := 31) (i := 2) (x := x2) (v := (x2 + (1 : Int32))) (L' := [some (.ref x0), some (.int x1), some (.int (x2 + (1 : Int32))), some (.int x3)]) C dX0_inOrder_31 rfl (congrArg (HAdd.hAdd _) xk_i_1) (Nat.le_of_ble_eq_true rfl) rfl ?_
        refine xw_iinc (pc := 34) (i := 3) (x := x3) (v := (x3 + (1 : Int32))) (L' := [some (.ref x0), some (.int x1), some (.int (x2 + (1 : Int32))), some (.int (x3 + (1 : Int32)))]) C dX0_inOrder_34 rfl (congrArg (HAdd.hAdd _) xk_i_1) (Nat.le_of_ble_eq_true rfl) rfl ?_
        refine xw_goto (pc := 37) (tgt := 8) C dX0_inOrder_37 (by decide) ?_
        obtain rfl := Option.some.inj hm
        refine xw_sub (pc := 8) _ ?_ (hc _ rfl)
        exact ⟨Or.inr rfl, Or.inr rfl, Or.inr rfl, Or.inr rfl, trivial⟩
      · replace hm := xif_t q hm
        obtain rfl := Option.some.inj hm
        refine xw_sub (pc := 29) _ ?_ (he _ rfl)
        exact ⟨Or.inl rfl, Or.inl rfl, Or.inl rfl, Or.inr rfl, trivial⟩
set_option maxHeartbeats 4000000 in
set_option maxRecDepth 100000 in
theorem wX0_inOrder {l : Launch} {n sl : Nat} {h : XH} {x0 : Nat} {x1 : Int32} {o : Int32} (hm : fX0_inOrder h x0 x1 = some o) : XM l yX0_inOrder cX0_inOrder 4 (some .int) 2 43 [.ref x0, .int x1] h n sl (some (.int o)) h n sl := by
  refine xm_of pnX0 [some (.ref x0), some (.int x1), none, none] 2 rfl (Nat.le_of_ble_eq_true rfl) ?_
  intro X hT C
  replace C : XOK X RX0 cX0_inOrder 4 "inOrder" (some .int) 2 43 := C
  obtain ⟨-, hN, hX⟩ := hT
  unfold fX0_inOrder at hm
  refine xw_iconst (pc := 0) (v := 0) C dX0_inOrder_0 xk_i_0 ?_
  refine xw_istore_n (pc := 1) (i := 2) (x := (0 : Int32)) (L' := [some (.ref x0), some (.int x1), some (.int (0 : Int32)), none]) C dX0_inOrder_1 rfl (Nat.le_of_ble_eq_true rfl) rfl ?_
  refine xw_aload_n (pc := 2) (i := 0) (x := x0) C dX0_inOrder_2 rfl rfl ?_
  obtain ⟨v1, q2, hm⟩ := xbind hm
  refine xw_getI (pc := 3) C dX0_inOrder_3 fl_X0_27 q2 ?_
  refine xw_ineg (pc := 6) C dX0_inOrder_6 ?_
  refine xw_istore_n (pc := 7) (i := 3) (x := (-v1)) (L' := [some (.ref x0), some (.int x1), some (.int (0 : Int32)), some (.int (-v1))]) C dX0_inOrder_7 rfl (Nat.le_of_ble_eq_true rfl) rfl ?_
  obtain ⟨e8, q9, hm⟩ := xbind hm
  refine xw_sub (pc := 8) [some (.ref x0), some (.int x1), some (.int (0 : Int32)), some (.int (-v1))] ⟨Or.inr rfl, Or.inr rfl, Or.inr rfl, Or.inr rfl, trivial⟩ ?_
  refine xloop_walk (fX0_inOrder_B8 h x0 x1) (fX0_inOrder_P8 X h x0 x1 n sl) (fX0_inOrder_E8 X h x0 x1 n sl) (fun s' o' => fX0_inOrder_B8_w C hN s' o') 5000 ((0 : Int32), (-v1)) e8 q9 ?_
  rcases e8 with e8 | e8
  · dsimp only at hm
    show XW X 29 [none, none, none, some (.int e8)] [] h n sl
    refine xw_iload_n (pc := 29) (i := 3) (x := e8) C dX0_inOrder_29 rfl rfl ?_
    obtain rfl := Option.some.inj hm
    exact xw_ireturn (pc := 30) C dX0_inOrder_30 rfl hX
  · dsimp only at hm
    show XW X 40 [none, none, none, none] [] h n sl
    refine xw_sipush (pc := 40) (v := -1004) C dX0_inOrder_40 xk_s_m1004 ?_
    obtain rfl := Option.some.inj hm
    exact xw_ireturn (pc := 43) C dX0_inOrder_43 rfl hX
set_option maxHeartbeats 4000000 in
set_option maxRecDepth 100000 in
theorem wX8_candidate {l : Launch} {n sl : Nat} {h : XH} {x0 : Nat} {x1 : Int32} {o : Int32 × XH} (hm : fX8_candidate h x0 x1 = some o) : XM l yX8_candidate cX8_candidate 2 (some .int) 4 91 [.ref x0, .int x1] h n sl (some (.int o.1)) o.2 n sl := by
  refine xm_of pnX8 [some (.ref x0), some (.int x1)] 0 rfl (Nat.le_of_ble_eq_true rfl) ?_
  intro X hT C
  replace C : XOK X RX8 cX8_candidate 2 "candidate" (some .int) 4 91 := C
  obtain ⟨-, hN, hX⟩ := hT
  unfold fX8_candidate at hm
  refine xw_iload_n (pc := 0) (i := 1) (x := x1) C dX8_candidate_0 rfl rfl ?_
  refine xw_if_ge (pc := 1) (tgt := 8) C dX8_candidate_1 (by decide) (fun q => ?_) (fun q => ?_)
  · replace hm := xif_t q hm
    refine xw_aload_n (pc := 8) (i := 0) (x := x0) C dX8_candidate_8 rfl rfl ?_
    refine xw_iconst (pc := 9) (v := -1) C dX8_candidate_9 xk_i_m1 ?_
    obtain ⟨_, q1, hm⟩ := xbind hm
    obtain ⟨v2, q3, hm⟩ := xbind hm
    refine xw_callV1 (pc := 10) (As := [.int (-1 : Int32)]) (st := []) C dX8_candidate_10 (wX8_findWithout q3) dd_X8_findWithout lk_X8_203 dv_X8_findWithout (xco_spec q1) rfl (Nat.le_of_ble_eq_true rfl) (Nat.le_of_ble_eq_true rfl) (Nat.le_of_ble_eq_true rfl) ⟨Nat.le_refl _, Nat.le_refl _⟩ hN ?_
    refine xw_iload_n (pc := 13) (i := 1) (x := x1) C dX8_candidate_13 rfl rfl ?_
    obtain ⟨_, q4, hm⟩ := xbind hm
    obtain ⟨v5, q6, hm⟩ := xbind hm
    refine xw_callV1 (pc := 14) (As := [.int x1]) (st := []) C dX8_candidate_14 (wX0_inOrder q6) dd_X0_inOrder lk_X8_211 dv_X0_inOrder (xco_spec q4) rfl (Nat.le_of_ble_eq_true rfl) (Nat.le_of_ble_eq_true rfl) (Nat.le_of_ble_eq_true rfl) ⟨Nat.le_refl _, Nat.le_refl _⟩ hN ?_
    obtain rfl := Option.some.inj hm
    exact xw_ireturn (pc := 17) C dX8_candidate_17 rfl hX
  · replace hm := xif_f q hm
    refine xw_sipush (pc := 4) (v := -1001) C dX8_candidate_4 xk_s_m1001 ?_
    obtain rfl := Option.some.inj hm
    exact xw_ireturn (pc := 7) C dX8_candidate_7 rfl hX
set_option maxHeartbeats 4000000 in
set_option maxRecDepth 100000 in
theorem wX8_candidates {l : Launch} {n sl : Nat} {h : XH} {x0 : Nat} {o : Int32 × XH} (hm : fX8_candidates h x0 = some o) : XM l yX8_candidates cX8_candidates 1 (some .int) 4 91 [.ref x0] h n sl (some (.int o.1)) o.2 n sl := by
  refine xm_of pnX8 [some (.ref x0)] 0 rfl (Nat.le_of_ble_eq_true rfl) ?_
  intro X hT C
  replace C : XOK X RX8 cX8_candidates 1 "candidates" (some .int) 4 91 := C
  obtain ⟨-, hN, hX⟩ := hT
  unfold fX8_candidates at hm
  refine xw_aload_n (pc := 0) (i := 0) (x := x0) C dX8_candidates_0 rfl rfl ?_
  refine xw_iconst (pc := 1) (v := -1) C dX8_candidates_1 xk_i_m1 ?_
  obtain ⟨_, q1, hm⟩ := xbind hm
  obtain ⟨v2, q3, hm⟩ := xbind hm
  refine xw_callV1 (pc := 2) (As := [.int (-1 : Int32)]) (st := []) C dX8_candidates_2 (wX8_findWithout q3) dd_X8_findWithout lk_X8_203 dv_X8_findWithout (xco_spec q1) rfl (Nat.le_of_ble_eq_true rfl) (Nat.le_of_ble_eq_true rfl) (Nat.le_of_ble_eq_true rfl) ⟨Nat.le_refl _, Nat.le_refl _⟩ hN ?_
  obtain ⟨_, q4, hm⟩ := xbind hm
  obtain ⟨v5, q6, hm⟩ := xbind hm
  refine xw_callV1 (pc := 5) (As := []) (st := []) C dX8_candidates_5 (wX0_number q6) dd_X0_number lk_X8_207 dv_X0_number (xco_spec q4) rfl (Nat.le_of_ble_eq_true rfl) (Nat.le_of_ble_eq_true rfl) (Nat.le_of_ble_eq_true rfl) ⟨Nat.le_refl _, Nat.le_refl _⟩ hN ?_
  obtain rfl := Option.some.inj hm
  exact xw_ireturn (pc := 8) C dX8_candidates_8 rfl hX
def fX0_nearestTo_P13 (X : XCtx) (h : XH) (x0 : Nat) (x1 : Int32) (n sl : Nat) (s : (Int32 × Int32 × Int32)) : Prop := XW X 13 [some (.ref x0), some (.int x1), some (.int s.1), some (.int s.2.1), some (.int s.2.2), none] [] h n sl
def fX0_nearestTo_E13 (X : XCtx) (h : XH) (x0 : Nat) (x1 : Int32) (n sl : Nat) (e : Int32) : Prop := XW X 65 [none, none, some (.int e), none, none, none] [] h n sl
set_option maxHeartbeats 4000000 in
set_option maxRecDepth 100000 in
theorem fX0_nearestTo_J44_w {X : XCtx} (C : XOK X RX0 cX0_nearestTo 6 "nearestTo" (some .int) 2 43) {n sl : Nat} (hN : XN X n sl)  {h : XH} {x0 : Nat} {x1 : Int32} {x2 : Int32} {x3 : Int32} {x4 : Int32} {x5 : Int32} {o : (Int32 × Int32 × Int32) ⊕ Int32} (hm : fX0_nearestTo_J44 h x0 x1 x2 x3 x4 x5 = some o) (hc : ∀ s', o = .inl s' → fX0_nearestTo_P13 X h x0 x1 n sl s') (he : ∀ e', o = .inr e' → fX0_nearestTo_E13 X h x0 x1 n sl e') : XW X 44 [some (.ref x0), some (.int x1), some (.int x2), some (.int x3), some (.int x4), some (.int x5)] [] h n sl := by
  unfold fX0_nearestTo_J44 at hm
  refine xw_aload_n (pc := 44) (i := 0) (x := x0) C dX0_nearestTo_44 rfl rfl ?_
  refine xw_iload (pc := 45) (i := 4) (x := x4) C dX0_nearestTo_45 rfl ?_
  obtain ⟨_, q5, hm⟩ := xbind hm
  obtain ⟨v6, q7, hm⟩ := xbind hm
  refine xw_callV1 (pc := 47) (As := [.int x4]) (st := []) C dX0_nearestTo_47 (wX0_has q7) dd_X0_has lk_X0_44 dv_X0_has (xco_spec q5) rfl (Nat.le_of_ble_eq_true rfl) (Nat.le_of_ble_eq_true rfl) (Nat.le_of_ble_eq_true rfl) ⟨Nat.le_refl _, Nat.le_refl _⟩ hN ?_
  refine xw_if_eqZ (pc := 50) (b := v6) (tgt := 59) C dX0_nearestTo_50 (by decide) (fun q => ?_) (fun q => ?_)
  · replace hm := xif_f q hm
    refine xw_iinc (pc := 59) (i := 4) (x := x4) (v := (x4 + (1 : Int32))) (L' := [some (.ref x0), some (.int x1), some (.int x2), some (.int x3), some (.int (x4 + (1 : Int32))), some (.int x5)]) C dX0_nearestTo_59 rfl (congrArg (HAdd.hAdd _) xk_i_1) (Nat.le_of_ble_eq_true rfl) rfl ?_
    refine xw_goto (pc := 62) (tgt := 13) C dX0_nearestTo_62 (by decide) ?_
    obtain rfl := Option.some.inj hm
    refine xw_sub (pc := 13) _ ?_ (hc _ rfl)
    exact ⟨Or.inr rfl, Or.inr rfl, Or.inr rfl, Or.inr rfl, Or.inr rfl, Or.inl rfl, trivial⟩
  · replace hm := xif_t q hm
    refine xw_iload (pc := 53) (i := 5) (x := x5) C dX0_nearestTo_53 rfl ?_
    refine xw_istore_n (pc := 55) (i := 3) (x := x5) (L' := [some (.ref x0), some (.int x1), some (.int x2), some (.int x5), some (.int x4), some (.int x5)]) C dX0_nearestTo_55 rfl (Nat.le_of_ble_eq_true rfl) rfl ?_
    refine xw_iload (pc := 56) (i := 4) (x := x4) C dX0_nearestTo_56 rfl ?_
    refine xw_istore_n (pc := 58) (i := 2) (x := x4) (L' := [some (.ref x0), some (.int x1), some (.int x4), some (.int x5), some (.int x4), some (.int x5)]) C dX0_nearestTo_58 rfl (Nat.le_of_ble_eq_true rfl) rfl ?_
    refine xw_iinc (pc := 59) (i := 4) (x := x4) (v := (x4 + (1 : Int32))) (L' := [some (.ref x0), some (.int x1), some (.int x4), some (.int x5), some (.int (x4 + (1 : Int32))), some (.int x5)]) C dX0_nearestTo_59 rfl (congrArg (HAdd.hAdd _) xk_i_1) (Nat.le_of_ble_eq_true rfl) rfl ?_
    refine xw_goto (pc := 62) (tgt := 13) C dX0_nearestTo_62 (by decide) ?_
    obtain rfl := Option.some.inj hm
    refine xw_sub (pc := 13) _ ?_ (hc _ rfl)
    exact ⟨Or.inr rfl, Or.inr rfl, Or.inr rfl, Or.inr rfl, Or.inr rfl, Or.inl rfl, trivial⟩
set_option maxHeartbeats 4000000 in
set_option maxRecDepth 100000 in
theorem fX0_nearestTo_B13_w {X : XCtx} (C : XOK X RX0 cX0_nearestTo 6 "nearestTo" (some .int) 2 43) {n sl : Nat} (hN : XN X n sl) {h : XH} {x0 : Nat} {x1 : Int32} (s : (Int32 × Int32 × Int32)) (o : (Int32 × Int32 × Int32) ⊕ Int32) (hm : fX0_nearestTo_B13 h x0 x1 s = some o) (hc : ∀ s', o = .inl s' → fX0_nearestTo_P13 X h x0 x1 n sl s') (he : ∀ e', o = .inr e' → fX0_nearestTo_E13 X h x0 x1 n sl e') : fX0_nearestTo_P13 X h x0 x1 n sl s := by
  obtain ⟨x2, x3, x4⟩ := s
  show XW X 13 [some (.ref x0), some (.int x1), some (.int x2), some (.int x3), some (.int x4), none] [] h n sl
  replace hm : fX0_nearestTo_b13 h x0 x1 x2 x3 x4 = some o := hm
  unfold fX0_nearestTo_b13 at hm
  refine xw_iload (pc := 13) (i := 4) (x := x4) C dX0_nearestTo_13 rfl ?_
  refine xw_aload_n (pc := 15) (i := 0) (x := x0) C dX0_nearestTo_15 rfl rfl ?_
  obtain ⟨v3, q4, hm⟩ := xbind hm
  refine xw_getI (pc := 16) C dX0_nearestTo_16 fl_X0_27 q4 ?_
  refine xw_icmp_gt (pc := 19) (tgt := 65) C dX0_nearestTo_19 (by decide) (fun q => ?_) (fun q => ?_)
  · replace hm := xif_t q hm
    obtain rfl := Option.some.inj hm
    refine xw_sub (pc := 65) _ ?_ (he _ rfl)
    exact ⟨Or.inl rfl, Or.inl rfl, Or.inr rfl, Or.inl rfl, Or.inl rfl, Or.inl rfl, trivial⟩
  · replace hm := xif_f q hm
    refine xw_iload (pc := 22) (i := 4) (x := x4) C dX0_nearestTo_22 rfl ?_
    refine xw_iload_n (pc := 24) (i := 1) (x := x1) C dX0_nearestTo_24 rfl rfl ?_
    refine xw_isub (pc := 25) C dX0_nearestTo_25 ?_
    refine xw_mabs (pc := 26) C dX0_nearestTo_26 lk_X0_48 ds_J9_abs_0f7a4 dd_J9_abs_0f7a4 (Nat.le_of_ble_eq_true rfl) (Nat.le_of_ble_eq_true rfl) hN ?_
    refine xw_istore (pc := 29) (i := 5) (x := (xmabs (x4 - x1))) (L' := [some (.ref x0), some (.int x1), some (.int x2), some (.int x3), some (.int x4), some (.int (xmabs (x4 - x1)))]) C dX0_nearestTo_29 (Nat.le_of_ble_eq_true rfl) rfl ?_
    refine xw_iload_n (pc := 31) (i := 2) (x := x2) C dX0_nearestTo_31 rfl rfl ?_
    refine xw_sipush (pc := 32) (v := -1004) C dX0_nearestTo_32 xk_s_m1004 ?_
    refine xw_icmp_eq (pc := 35) (tgt := 44) C dX0_nearestTo_35 (by decide) (fun q => ?_) (fun q => ?_)
    · replace hm := xif_t q hm
      exact xw_sub (pc := 44) [some (.ref x0), some (.int x1), some (.int x2), some (.int x3), some (.int x4), some (.int (xmabs (x4 - x1)))] ⟨Or.inr rfl, Or.inr rfl, Or.inr rfl, Or.inr rfl, Or.inr rfl, Or.inr rfl, trivial⟩ (fX0_nearestTo_J44_w C hN hm hc he)
    · replace hm := xif_f q hm
      refine xw_iload (pc := 38) (i := 5) (x := (xmabs (x4 - x1))) C dX0_nearestTo_38 rfl ?_
      refine xw_iload_n (pc := 40) (i := 3) (x := x3) C dX0_nearestTo_40 rfl rfl ?_
      refine xw_icmp_ge (pc := 41) (tgt := 59) C dX0_nearestTo_41 (by decide) (fun q => ?_) (fun q => ?_)
      · replace hm := xif_t q hm
        refine xw_iinc (pc := 59) (i := 4) (x := x4) (v := (x4 + (1 : Int32))) (L' := [some (.ref x0), some (.int x1), some (.int x2), some (.int x3), some (.int (x4 + (1 : Int32))), some (.int (xmabs (x4 - x1)))]) C dX0_nearestTo_59 rfl (congrArg (HAdd.hAdd _) xk_i_1) (Nat.le_of_ble_eq_true rfl) rfl ?_
        refine xw_goto (pc := 62) (tgt := 13) C dX0_nearestTo_62 (by decide) ?_
        obtain rfl := Option.some.inj hm
        refine xw_sub (pc := 13) _ ?_ (hc _ rfl)
        exact ⟨Or.inr rfl, Or.inr rfl, Or.inr rfl, Or.inr rfl, Or.inr rfl, Or.inl rfl, trivial⟩
      · replace hm := xif_f q hm
        exact xw_sub (pc := 44) [some (.ref x0), some (.int x1), some (.int x2), some (.int x3), some (.int x4), some (.int (xmabs (x4 - x1)))] ⟨Or.inr rfl, Or.inr rfl, Or.inr rfl, Or.inr rfl, Or.inr rfl, Or.inr rfl, trivial⟩ (fX0_nearestTo_J44_w C hN hm hc he)
set_option maxHeartbeats 4000000 in
set_option maxRecDepth 100000 in
theorem wX0_nearestTo {l : Launch} {n sl : Nat} {h : XH} {x0 : Nat} {x1 : Int32} {o : Int32} (hm : fX0_nearestTo h x0 x1 = some o) : XM l yX0_nearestTo cX0_nearestTo 6 (some .int) 2 43 [.ref x0, .int x1] h n sl (some (.int o)) h n sl := by
  refine xm_of pnX0 [some (.ref x0), some (.int x1), none, none, none, none] 4 rfl (Nat.le_of_ble_eq_true rfl) ?_
  intro X hT C
  replace C : XOK X RX0 cX0_nearestTo 6 "nearestTo" (some .int) 2 43 := C
  obtain ⟨-, hN, hX⟩ := hT
  unfold fX0_nearestTo at hm
  refine xw_sipush (pc := 0) (v := -1004) C dX0_nearestTo_0 xk_s_m1004 ?_
  refine xw_istore_n (pc := 3) (i := 2) (x := (-1004 : Int32)) (L' := [some (.ref x0), some (.int x1), some (.int (-1004 : Int32)), none, none, none]) C dX0_nearestTo_3 rfl (Nat.le_of_ble_eq_true rfl) rfl ?_
  refine xw_iconst (pc := 4) (v := 0) C dX0_nearestTo_4 xk_i_0 ?_
  refine xw_istore_n (pc := 5) (i := 3) (x := (0 : Int32)) (L' := [some (.ref x0), some (.int x1), some (.int (-1004 : Int32)), some (.int (0 : Int32)), none, none]) C dX0_nearestTo_5 rfl (Nat.le_of_ble_eq_true rfl) rfl ?_
  refine xw_aload_n (pc := 6) (i := 0) (x := x0) C dX0_nearestTo_6 rfl rfl ?_
  obtain ⟨v1, q2, hm⟩ := xbind hm
  refine xw_getI (pc := 7) C dX0_nearestTo_7 fl_X0_27 q2 ?_
  refine xw_ineg (pc := 10) C dX0_nearestTo_10 ?_
  refine xw_istore (pc := 11) (i := 4) (x := (-v1)) (L' := [some (.ref x0), some (.int x1), some (.int (-1004 : Int32)), some (.int (0 : Int32)), some (.int (-v1)), none]) C dX0_nearestTo_11 (Nat.le_of_ble_eq_true rfl) rfl ?_
  obtain ⟨e8, q9, hm⟩ := xbind hm
  refine xw_sub (pc := 13) [some (.ref x0), some (.int x1), some (.int (-1004 : Int32)), some (.int (0 : Int32)), some (.int (-v1)), none] ⟨Or.inr rfl, Or.inr rfl, Or.inr rfl, Or.inr rfl, Or.inr rfl, Or.inl rfl, trivial⟩ ?_
  refine xloop_walk (fX0_nearestTo_B13 h x0 x1) (fX0_nearestTo_P13 X h x0 x1 n sl) (fX0_nearestTo_E13 X h x0 x1 n sl) (fun s' o' => fX0_nearestTo_B13_w C hN s' o') 5000 ((-1004 : Int32), (0 : Int32), (-v1)) e8 q9 ?_
  show XW X 65 [none, none, some (.int e8), none, none, none] [] h n sl
  refine xw_iload_n (pc := 65) (i := 2) (x := e8) C dX0_nearestTo_65 rfl rfl ?_
  obtain rfl := Option.some.inj hm
  exact xw_ireturn (pc := 66) C dX0_nearestTo_66 rfl hX
set_option maxHeartbeats 4000000 in
set_option maxRecDepth 100000 in
theorem wX8_nearest {l : Launch} {n sl : Nat} {h : XH} {x0 : Nat} {x1 : Int32} {o : Int32 × XH} (hm : fX8_nearest h x0 x1 = some o) : XM l yX8_nearest cX8_nearest 2 (some .int) 4 91 [.ref x0, .int x1] h n sl (some (.int o.1)) o.2 n sl := by
  refine xm_of pnX8 [some (.ref x0), some (.int x1)] 0 rfl (Nat.le_of_ble_eq_true rfl) ?_
  intro X hT C
  replace C : XOK X RX8 cX8_nearest 2 "nearest" (some .int) 4 91 := C
  obtain ⟨-, hN, hX⟩ := hT
  unfold fX8_nearest at hm
  refine xw_iload_n (pc := 0) (i := 1) (x := x1) C dX8_nearest_0 rfl rfl ?_
  refine xw_sipush (pc := 1) (v := -1000) C dX8_nearest_1 xk_s_m1000 ?_
  refine xw_sipush (pc := 4) (v := 1000) C dX8_nearest_4 xk_s_1000 ?_
  obtain ⟨v1, q2, hm⟩ := xbind hm
  refine xw_callS1 (pc := 7) (As := [.int x1, .int (-1000 : Int32), .int (1000 : Int32)]) (st := []) C dX8_nearest_7 (wX8_within q2) dd_X8_within lk_X8_44 ds_X8_within rfl (Nat.le_of_ble_eq_true rfl) (Nat.le_of_ble_eq_true rfl) (Nat.le_of_ble_eq_true rfl) ⟨Nat.le_refl _, Nat.le_refl _⟩ hN ?_
  refine xw_if_neZ (pc := 10) (b := v1) (tgt := 17) C dX8_nearest_10 (by decide) (fun q => ?_) (fun q => ?_)
  · replace hm := xif_t q hm
    refine xw_aload_n (pc := 17) (i := 0) (x := x0) C dX8_nearest_17 rfl rfl ?_
    refine xw_iconst (pc := 18) (v := -1) C dX8_nearest_18 xk_i_m1 ?_
    obtain ⟨_, q3, hm⟩ := xbind hm
    obtain ⟨v4, q5, hm⟩ := xbind hm
    refine xw_callV1 (pc := 19) (As := [.int (-1 : Int32)]) (st := []) C dX8_nearest_19 (wX8_findWithout q5) dd_X8_findWithout lk_X8_203 dv_X8_findWithout (xco_spec q3) rfl (Nat.le_of_ble_eq_true rfl) (Nat.le_of_ble_eq_true rfl) (Nat.le_of_ble_eq_true rfl) ⟨Nat.le_refl _, Nat.le_refl _⟩ hN ?_
    refine xw_iload_n (pc := 22) (i := 1) (x := x1) C dX8_nearest_22 rfl rfl ?_
    obtain ⟨_, q6, hm⟩ := xbind hm
    obtain ⟨v7, q8, hm⟩ := xbind hm
    refine xw_callV1 (pc := 23) (As := [.int x1]) (st := []) C dX8_nearest_23 (wX0_nearestTo q8) dd_X0_nearestTo lk_X8_214 dv_X0_nearestTo (xco_spec q6) rfl (Nat.le_of_ble_eq_true rfl) (Nat.le_of_ble_eq_true rfl) (Nat.le_of_ble_eq_true rfl) ⟨Nat.le_refl _, Nat.le_refl _⟩ hN ?_
    obtain rfl := Option.some.inj hm
    exact xw_ireturn (pc := 26) C dX8_nearest_26 rfl hX
  · replace hm := xif_f q hm
    refine xw_sipush (pc := 13) (v := -1001) C dX8_nearest_13 xk_s_m1001 ?_
    obtain rfl := Option.some.inj hm
    exact xw_ireturn (pc := 16) C dX8_nearest_16 rfl hX
def fX8_odd_P13 (X : XCtx) (x0 : Nat) (n sl : Nat) (s : (XH × Int32)) : Prop := XW X 13 [some (.ref x0), some (.int s.2)] [] s.1 n sl
def fX8_odd_E13 (X : XCtx) (x0 : Nat) (n sl : Nat) (e : ((XH × Int32) ⊕ XH)) : Prop := match e with
  | .inl e => XW X 38 [none, some (.int e.2)] [] e.1 n sl
  | .inr e => XW X 46 [none, none] [] e n sl
set_option maxHeartbeats 4000000 in
set_option maxRecDepth 100000 in
theorem fX8_odd_B13_w {X : XCtx} (C : XOK X RX8 cX8_odd 2 "odd" (some .int) 5 111) {n sl : Nat} (hN : XN X n sl) {x0 : Nat} (s : (XH × Int32)) (o : (XH × Int32) ⊕ ((XH × Int32) ⊕ XH)) (hm : fX8_odd_B13 x0 s = some o) (hc : ∀ s', o = .inl s' → fX8_odd_P13 X x0 n sl s') (he : ∀ e', o = .inr e' → fX8_odd_E13 X x0 n sl e') : fX8_odd_P13 X x0 n sl s := by
  obtain ⟨h, x1⟩ := s
  show XW X 13 [some (.ref x0), some (.int x1)] [] h n sl
  replace hm : fX8_odd_b13 x0 h x1 = some o := hm
  unfold fX8_odd_b13 at hm
  refine xw_iload_n (pc := 13) (i := 1) (x := x1) C dX8_odd_13 rfl rfl ?_
  refine xw_aload_n (pc := 14) (i := 0) (x := x0) C dX8_odd_14 rfl rfl ?_
  obtain ⟨v4, q5, hm⟩ := xbind hm
  refine xw_getR (pc := 15) C dX8_odd_15 fl_X8_10 q5 ?_
  obtain ⟨v6, q7, hm⟩ := xbind hm
  refine xw_getR (pc := 18) C dX8_odd_18 fl_X8_181 q7 ?_
  obtain ⟨v8, q9, hm⟩ := xbind hm
  refine xw_getI (pc := 21) C dX8_odd_21 fl_X8_190 q9 ?_
  refine xw_icmp_ge (pc := 24) (tgt := 46) C dX8_odd_24 (by decide) (fun q => ?_) (fun q => ?_)
  · replace hm := xif_t q hm
    obtain rfl := Option.some.inj hm
    refine xw_sub (pc := 46) _ ?_ (he _ rfl)
    exact ⟨Or.inl rfl, Or.inl rfl, trivial⟩
  · replace hm := xif_f q hm
    refine xw_aload_n (pc := 27) (i := 0) (x := x0) C dX8_odd_27 rfl rfl ?_
    refine xw_iload_n (pc := 28) (i := 1) (x := x1) C dX8_odd_28 rfl rfl ?_
    obtain ⟨_, q10, hm⟩ := xbind hm
    obtain ⟨v11, q12, hm⟩ := xbind hm
    refine xw_callV1 (pc := 29) (As := [.int x1]) (st := []) C dX8_odd_29 (wX8_findWithout q12) dd_X8_findWithout lk_X8_203 dv_X8_findWithout (xco_spec q10) rfl (Nat.le_of_ble_eq_true rfl) (Nat.le_of_ble_eq_true rfl) (Nat.le_of_ble_eq_true rfl) ⟨Nat.le_refl _, Nat.le_refl _⟩ hN ?_
    obtain ⟨_, q13, hm⟩ := xbind hm
    obtain ⟨v14, q15, hm⟩ := xbind hm
    refine xw_callV1 (pc := 32) (As := []) (st := []) C dX8_odd_32 (wX0_number q15) dd_X0_number lk_X8_207 dv_X0_number (xco_spec q13) rfl (Nat.le_of_ble_eq_true rfl) (Nat.le_of_ble_eq_true rfl) (Nat.le_of_ble_eq_true rfl) ⟨Nat.le_refl _, Nat.le_refl _⟩ hN ?_
    refine xw_if_le (pc := 35) (tgt := 40) C dX8_odd_35 (by decide) (fun q => ?_) (fun q => ?_)
    · replace hm := xif_t q hm
      refine xw_iinc (pc := 40) (i := 1) (x := x1) (v := (x1 + (1 : Int32))) (L' := [some (.ref x0), some (.int (x1 + (1 : Int32)))]) C dX8_odd_40 rfl (congrArg (HAdd.hAdd _) xk_i_1) (Nat.le_of_ble_eq_true rfl) rfl ?_
      refine xw_goto (pc := 43) (tgt := 13) C dX8_odd_43 (by decide) ?_
      obtain rfl := Option.some.inj hm
      refine xw_sub (pc := 13) _ ?_ (hc _ rfl)
      exact ⟨Or.inr rfl, Or.inr rfl, trivial⟩
    · replace hm := xif_f q hm
      obtain rfl := Option.some.inj hm
      refine xw_sub (pc := 38) _ ?_ (he _ rfl)
      exact ⟨Or.inl rfl, Or.inr rfl, trivial⟩
set_option maxHeartbeats 4000000 in
set_option maxRecDepth 100000 in
theorem wX8_odd {l : Launch} {n sl : Nat} {h : XH} {x0 : Nat} {o : Int32 × XH} (hm : fX8_odd h x0 = some o) : XM l yX8_odd cX8_odd 2 (some .int) 5 111 [.ref x0] h n sl (some (.int o.1)) o.2 n sl := by
  refine xm_of pnX8 [some (.ref x0), none] 1 rfl (Nat.le_of_ble_eq_true rfl) ?_
  intro X hT C
  replace C : XOK X RX8 cX8_odd 2 "odd" (some .int) 5 111 := C
  obtain ⟨-, hN, hX⟩ := hT
  unfold fX8_odd at hm
  refine xw_aload_n (pc := 0) (i := 0) (x := x0) C dX8_odd_0 rfl rfl ?_
  obtain ⟨_, q1, hm⟩ := xbind hm
  obtain ⟨v2, q3, hm⟩ := xbind hm
  refine xw_callV1 (pc := 1) (As := []) (st := []) C dX8_odd_1 (wX8_candidates q3) dd_X8_candidates lk_X8_217 dv_X8_candidates (xco_spec q1) rfl (Nat.le_of_ble_eq_true rfl) (Nat.le_of_ble_eq_true rfl) (Nat.le_of_ble_eq_true rfl) ⟨Nat.le_refl _, Nat.le_refl _⟩ hN ?_
  refine xw_if_le (pc := 4) (tgt := 11) C dX8_odd_4 (by decide) (fun q => ?_) (fun q => ?_)
  · replace hm := xif_t q hm
    refine xw_iconst (pc := 11) (v := 0) C dX8_odd_11 xk_i_0 ?_
    refine xw_istore_n (pc := 12) (i := 1) (x := (0 : Int32)) (L' := [some (.ref x0), some (.int (0 : Int32))]) C dX8_odd_12 rfl (Nat.le_of_ble_eq_true rfl) rfl ?_
    obtain ⟨e16, q17, hm⟩ := xbind hm
    refine xw_sub (pc := 13) [some (.ref x0), some (.int (0 : Int32))] ⟨Or.inr rfl, Or.inr rfl, trivial⟩ ?_
    refine xloop_walk (fX8_odd_B13 x0) (fX8_odd_P13 X x0 n sl) (fX8_odd_E13 X x0 n sl) (fun s' o' => fX8_odd_B13_w C hN s' o') 5000 (v2.2, (0 : Int32)) e16 q17 ?_
    rcases e16 with e16 | e16
    · dsimp only at hm
      show XW X 38 [none, some (.int e16.2)] [] e16.1 n sl
      refine xw_iload_n (pc := 38) (i := 1) (x := e16.2) C dX8_odd_38 rfl rfl ?_
      obtain rfl := Option.some.inj hm
      exact xw_ireturn (pc := 39) C dX8_odd_39 rfl hX
    · dsimp only at hm
      show XW X 46 [none, none] [] e16 n sl
      refine xw_sipush (pc := 46) (v := -1004) C dX8_odd_46 xk_s_m1004 ?_
      obtain rfl := Option.some.inj hm
      exact xw_ireturn (pc := 49) C dX8_odd_49 rfl hX
  · replace hm := xif_f q hm
    refine xw_sipush (pc := 7) (v := -1002) C dX8_odd_7 xk_s_m1002 ?_
    obtain rfl := Option.some.inj hm
    exact xw_ireturn (pc := 10) C dX8_odd_10 rfl hX
set_option maxHeartbeats 4000000 in
set_option maxRecDepth 100000 in
theorem wX8_setLimit {l : Launch} {n sl : Nat} {h : XH} {x0 : Nat} {x1 : Int32} {o : Int32 × XH} (hm : fX8_setLimit h x0 x1 = some o) : XM l yX8_setLimit cX8_setLimit 3 (some .int) 4 86 [.ref x0, .int x1] h n sl (some (.int o.1)) o.2 n sl := by
  refine xm_of pnX8 [some (.ref x0), some (.int x1), none] 1 rfl (Nat.le_of_ble_eq_true rfl) ?_
  intro X hT C
  replace C : XOK X RX8 cX8_setLimit 3 "setLimit" (some .int) 4 86 := C
  obtain ⟨-, hN, hX⟩ := hT
  unfold fX8_setLimit at hm
  refine xw_iload_n (pc := 0) (i := 1) (x := x1) C dX8_setLimit_0 rfl rfl ?_
  refine xw_iconst (pc := 1) (v := 1) C dX8_setLimit_1 xk_i_1 ?_
  refine xw_sipush (pc := 2) (v := 1000) C dX8_setLimit_2 xk_s_1000 ?_
  obtain ⟨v1, q2, hm⟩ := xbind hm
  refine xw_callS1 (pc := 5) (As := [.int x1, .int (1 : Int32), .int (1000 : Int32)]) (st := []) C dX8_setLimit_5 (wX8_within q2) dd_X8_within lk_X8_44 ds_X8_within rfl (Nat.le_of_ble_eq_true rfl) (Nat.le_of_ble_eq_true rfl) (Nat.le_of_ble_eq_true rfl) ⟨Nat.le_refl _, Nat.le_refl _⟩ hN ?_
  refine xw_if_neZ (pc := 8) (b := v1) (tgt := 15) C dX8_setLimit_8 (by decide) (fun q => ?_) (fun q => ?_)
  · replace hm := xif_t q hm
    refine xw_aload_n (pc := 15) (i := 0) (x := x0) C dX8_setLimit_15 rfl rfl ?_
    obtain ⟨v3, q4, hm⟩ := xbind hm
    refine xw_getR (pc := 16) C dX8_setLimit_16 fl_X8_19 q4 ?_
    refine xw_aload_n (pc := 19) (i := 0) (x := x0) C dX8_setLimit_19 rfl rfl ?_
    obtain ⟨v5, q6, hm⟩ := xbind hm
    refine xw_getR (pc := 20) C dX8_setLimit_20 fl_X8_10 q6 ?_
    obtain ⟨_, q7, hm⟩ := xbind hm
    obtain ⟨h8, q9, hm⟩ := xbind hm
    refine xw_callV0 (pc := 23) (As := [.ref v5]) (st := []) C dX8_setLimit_23 (wX3_remember q9) dd_X3_remember lk_X8_63 dv_X3_remember (xco_spec q7) rfl (Nat.le_of_ble_eq_true rfl) (Nat.le_of_ble_eq_true rfl) (Nat.le_of_ble_eq_true rfl) ⟨Nat.le_refl _, Nat.le_refl _⟩ hN ?_
    refine xw_aload_n (pc := 26) (i := 0) (x := x0) C dX8_setLimit_26 rfl rfl ?_
    obtain ⟨v10, q11, hm⟩ := xbind hm
    refine xw_getR (pc := 27) C dX8_setLimit_27 fl_X8_10 q11 ?_
    obtain ⟨v12, q13, hm⟩ := xbind hm
    refine xw_getR (pc := 30) C dX8_setLimit_30 fl_X8_181 q13 ?_
    obtain ⟨v14, q15, hm⟩ := xbind hm
    refine xw_getI (pc := 33) C dX8_setLimit_33 fl_X8_208 q15 ?_
    refine xw_istore_n (pc := 36) (i := 2) (x := v14) (L' := [some (.ref x0), some (.int x1), some (.int v14)]) C dX8_setLimit_36 rfl (Nat.le_of_ble_eq_true rfl) rfl ?_
    refine xw_aload_n (pc := 37) (i := 0) (x := x0) C dX8_setLimit_37 rfl rfl ?_
    obtain ⟨v16, q17, hm⟩ := xbind hm
    refine xw_getR (pc := 38) C dX8_setLimit_38 fl_X8_10 q17 ?_
    obtain ⟨v18, q19, hm⟩ := xbind hm
    refine xw_getR (pc := 41) C dX8_setLimit_41 fl_X8_181 q19 ?_
    refine xw_iload_n (pc := 44) (i := 1) (x := x1) C dX8_setLimit_44 rfl rfl ?_
    obtain ⟨h20, q21, hm⟩ := xbind hm
    refine xw_put (pc := 45) C dX8_setLimit_45 fl_X8_208 q21 (fun _ => rfl) (fun _ => rfl) ?_
    refine xw_iload_n (pc := 48) (i := 2) (x := v14) C dX8_setLimit_48 rfl rfl ?_
    obtain rfl := Option.some.inj hm
    exact xw_ireturn (pc := 49) C dX8_setLimit_49 rfl hX
  · replace hm := xif_f q hm
    refine xw_sipush (pc := 11) (v := -1001) C dX8_setLimit_11 xk_s_m1001 ?_
    obtain rfl := Option.some.inj hm
    exact xw_ireturn (pc := 14) C dX8_setLimit_14 rfl hX
def fX6_placeOfChange_P2 (X : XCtx) (h : XH) (x0 : Nat) (x1 : Int32) (n sl : Nat) (s : Int32) : Prop := XW X 2 [some (.ref x0), some (.int x1), some (.int s)] [] h n sl
def fX6_placeOfChange_E2 (X : XCtx) (h : XH) (x0 : Nat) (x1 : Int32) (n sl : Nat) (e : Int32) : Prop := XW X 28 [none, none, some (.int e)] [] h n sl
set_option maxHeartbeats 4000000 in
set_option maxRecDepth 100000 in
theorem fX6_placeOfChange_B2_w {X : XCtx} (C : XOK X RX6 cX6_placeOfChange 3 "placeOfChange" (some .int) 1 21) {n sl : Nat} (hN : XN X n sl) {h : XH} {x0 : Nat} {x1 : Int32} (s : Int32) (o : Int32 ⊕ Int32) (hm : fX6_placeOfChange_B2 h x0 x1 s = some o) (hc : ∀ s', o = .inl s' → fX6_placeOfChange_P2 X h x0 x1 n sl s') (he : ∀ e', o = .inr e' → fX6_placeOfChange_E2 X h x0 x1 n sl e') : fX6_placeOfChange_P2 X h x0 x1 n sl s := by
  revert s; intro x2 hm
  show XW X 2 [some (.ref x0), some (.int x1), some (.int x2)] [] h n sl
  replace hm : fX6_placeOfChange_b2 h x0 x1 x2 = some o := hm
  unfold fX6_placeOfChange_b2 at hm
  refine xw_iload_n (pc := 2) (i := 2) (x := x2) C dX6_placeOfChange_2 rfl rfl ?_
  refine xw_aload_n (pc := 3) (i := 0) (x := x0) C dX6_placeOfChange_3 rfl rfl ?_
  obtain ⟨v1, q2, hm⟩ := xbind hm
  refine xw_getI (pc := 4) C dX6_placeOfChange_4 fl_X6_39 q2 ?_
  refine xw_icmp_ge (pc := 7) (tgt := 28) C dX6_placeOfChange_7 (by decide) (fun q => ?_) (fun q => ?_)
  · replace hm := xif_t q hm
    obtain rfl := Option.some.inj hm
    refine xw_sub (pc := 28) _ ?_ (he _ rfl)
    exact ⟨Or.inl rfl, Or.inl rfl, Or.inr rfl, trivial⟩
  · replace hm := xif_f q hm
    refine xw_aload_n (pc := 10) (i := 0) (x := x0) C dX6_placeOfChange_10 rfl rfl ?_
    obtain ⟨v3, q4, hm⟩ := xbind hm
    refine xw_getR (pc := 11) C dX6_placeOfChange_11 fl_X6_15 q4 ?_
    refine xw_iload_n (pc := 14) (i := 2) (x := x2) C dX6_placeOfChange_14 rfl rfl ?_
    obtain ⟨v5, q6, hm⟩ := xbind hm
    refine xw_callSN1 (pc := 15) (As := [.ref v3, .int x2]) (st := []) C dX6_placeOfChange_15 (wX8_at q6) dd_X8_at lk_X6_42 ds_X8_at rfl (Nat.le_of_ble_eq_true rfl) (Nat.le_of_ble_eq_true rfl) (Nat.le_of_ble_eq_true rfl) ⟨Nat.le_refl _, Nat.le_refl _⟩ hN ?_
    refine xw_iload_n (pc := 18) (i := 1) (x := x1) C dX6_placeOfChange_18 rfl rfl ?_
    refine xw_icmp_ge (pc := 19) (tgt := 28) C dX6_placeOfChange_19 (by decide) (fun q => ?_) (fun q => ?_)
    · replace hm := xif_t q hm
      obtain rfl := Option.some.inj hm
      refine xw_sub (pc := 28) _ ?_ (he _ rfl)
      exact ⟨Or.inl rfl, Or.inl rfl, Or.inr rfl, trivial⟩
    · replace hm := xif_f q hm
      refine xw_iinc (pc := 22) (i := 2) (x := x2) (v := (x2 + (1 : Int32))) (L' := [some (.ref x0), some (.int x1), some (.int (x2 + (1 : Int32)))]) C dX6_placeOfChange_22 rfl (congrArg (HAdd.hAdd _) xk_i_1) (Nat.le_of_ble_eq_true rfl) rfl ?_
      refine xw_goto (pc := 25) (tgt := 2) C dX6_placeOfChange_25 (by decide) ?_
      obtain rfl := Option.some.inj hm
      refine xw_sub (pc := 2) _ ?_ (hc _ rfl)
      exact ⟨Or.inr rfl, Or.inr rfl, Or.inr rfl, trivial⟩
set_option maxHeartbeats 4000000 in
set_option maxRecDepth 100000 in
theorem wX6_placeOfChange {l : Launch} {n sl : Nat} {h : XH} {x0 : Nat} {x1 : Int32} {o : Int32} (hm : fX6_placeOfChange h x0 x1 = some o) : XM l yX6_placeOfChange cX6_placeOfChange 3 (some .int) 1 21 [.ref x0, .int x1] h n sl (some (.int o)) h n sl := by
  refine xm_of pnX6 [some (.ref x0), some (.int x1), none] 1 rfl (Nat.le_of_ble_eq_true rfl) ?_
  intro X hT C
  replace C : XOK X RX6 cX6_placeOfChange 3 "placeOfChange" (some .int) 1 21 := C
  obtain ⟨-, hN, hX⟩ := hT
  unfold fX6_placeOfChange at hm
  refine xw_iconst (pc := 0) (v := 0) C dX6_placeOfChange_0 xk_i_0 ?_
  refine xw_istore_n (pc := 1) (i := 2) (x := (0 : Int32)) (L' := [some (.ref x0), some (.int x1), some (.int (0 : Int32))]) C dX6_placeOfChange_1 rfl (Nat.le_of_ble_eq_true rfl) rfl ?_
  obtain ⟨e7, q8, hm⟩ := xbind hm
  refine xw_sub (pc := 2) [some (.ref x0), some (.int x1), some (.int (0 : Int32))] ⟨Or.inr rfl, Or.inr rfl, Or.inr rfl, trivial⟩ ?_
  refine xloop_walk (fX6_placeOfChange_B2 h x0 x1) (fX6_placeOfChange_P2 X h x0 x1 n sl) (fX6_placeOfChange_E2 X h x0 x1 n sl) (fun s' o' => fX6_placeOfChange_B2_w C hN s' o') 5000 (0 : Int32) e7 q8 ?_
  show XW X 28 [none, none, some (.int e7)] [] h n sl
  refine xw_iload_n (pc := 28) (i := 2) (x := e7) C dX6_placeOfChange_28 rfl rfl ?_
  obtain rfl := Option.some.inj hm
  exact xw_ireturn (pc := 29) C dX6_placeOfChange_29 rfl hX
set_option maxHeartbeats 4000000 in
set_option maxRecDepth 100000 in
theorem wX6_hasChange {l : Launch} {n sl : Nat} {h : XH} {x0 : Nat} {x1 : Int32} {o : Bool} (hm : fX6_hasChange h x0 x1 = some o) : XM l yX6_hasChange cX6_hasChange 3 (some .boolean) 2 43 [.ref x0, .int x1] h n sl (some (.int (xbi o))) h n sl := by
  refine xm_of pnX6 [some (.ref x0), some (.int x1), none] 1 rfl (Nat.le_of_ble_eq_true rfl) ?_
  intro X hT C
  replace C : XOK X RX6 cX6_hasChange 3 "hasChange" (some .boolean) 2 43 := C
  obtain ⟨-, hN, hX⟩ := hT
  unfold fX6_hasChange at hm
  refine xw_aload_n (pc := 0) (i := 0) (x := x0) C dX6_hasChange_0 rfl rfl ?_
  refine xw_iload_n (pc := 1) (i := 1) (x := x1) C dX6_hasChange_1 rfl rfl ?_
  obtain ⟨_, q1, hm⟩ := xbind hm
  obtain ⟨v2, q3, hm⟩ := xbind hm
  refine xw_callV1 (pc := 2) (As := [.int x1]) (st := []) C dX6_hasChange_2 (wX6_placeOfChange q3) dd_X6_placeOfChange lk_X6_58 dv_X6_placeOfChange (xco_spec q1) rfl (Nat.le_of_ble_eq_true rfl) (Nat.le_of_ble_eq_true rfl) (Nat.le_of_ble_eq_true rfl) ⟨Nat.le_refl _, Nat.le_refl _⟩ hN ?_
  refine xw_istore_n (pc := 5) (i := 2) (x := v2) (L' := [some (.ref x0), some (.int x1), some (.int v2)]) C dX6_hasChange_5 rfl (Nat.le_of_ble_eq_true rfl) rfl ?_
  refine xw_iload_n (pc := 6) (i := 2) (x := v2) C dX6_hasChange_6 rfl rfl ?_
  refine xw_aload_n (pc := 7) (i := 0) (x := x0) C dX6_hasChange_7 rfl rfl ?_
  obtain ⟨v4, q5, hm⟩ := xbind hm
  refine xw_getI (pc := 8) C dX6_hasChange_8 fl_X6_39 q5 ?_
  refine xw_icmp_ge (pc := 11) (tgt := 30) C dX6_hasChange_11 (by decide) (fun q => ?_) (fun q => ?_)
  · replace hm := xif_t q hm
    refine xw_iconst (pc := 30) (v := 0) C dX6_hasChange_30 xk_i_0 ?_
    obtain rfl := Option.some.inj hm
    exact xw_zreturn (pc := 31) (v := xbi false) C dX6_hasChange_31 rfl (xbi_nar _) hX
  · replace hm := xif_f q hm
    refine xw_aload_n (pc := 14) (i := 0) (x := x0) C dX6_hasChange_14 rfl rfl ?_
    obtain ⟨v6, q7, hm⟩ := xbind hm
    refine xw_getR (pc := 15) C dX6_hasChange_15 fl_X6_15 q7 ?_
    refine xw_iload_n (pc := 18) (i := 2) (x := v2) C dX6_hasChange_18 rfl rfl ?_
    obtain ⟨v8, q9, hm⟩ := xbind hm
    refine xw_callSN1 (pc := 19) (As := [.ref v6, .int v2]) (st := []) C dX6_hasChange_19 (wX8_at q9) dd_X8_at lk_X6_42 ds_X8_at rfl (Nat.le_of_ble_eq_true rfl) (Nat.le_of_ble_eq_true rfl) (Nat.le_of_ble_eq_true rfl) ⟨Nat.le_refl _, Nat.le_refl _⟩ hN ?_
    refine xw_iload_n (pc := 22) (i := 1) (x := x1) C dX6_hasChange_22 rfl rfl ?_
    refine xw_icmp_ne (pc := 23) (tgt := 30) C dX6_hasChange_23 (by decide) (fun q => ?_) (fun q => ?_)
    · replace hm := xif_f q hm
      refine xw_iconst (pc := 30) (v := 0) C dX6_hasChange_30 xk_i_0 ?_
      obtain rfl := Option.some.inj hm
      exact xw_zreturn (pc := 31) (v := xbi false) C dX6_hasChange_31 rfl (xbi_nar _) hX
    · replace hm := xif_t q hm
      refine xw_iconst (pc := 26) (v := 1) C dX6_hasChange_26 xk_i_1 ?_
      refine xw_goto (pc := 27) (tgt := 31) C dX6_hasChange_27 (by decide) ?_
      obtain rfl := Option.some.inj hm
      exact xw_zreturn (pc := 31) (v := xbi true) C dX6_hasChange_31 rfl (xbi_nar _) hX
set_option maxHeartbeats 4000000 in
set_option maxRecDepth 100000 in
theorem wX6_hasRoomFor {l : Launch} {n sl : Nat} {h : XH} {x0 : Nat} {x1 : Int32} {o : Bool} (hm : fX6_hasRoomFor h x0 x1 = some o) : XM l yX6_hasRoomFor cX6_hasRoomFor 2 (some .boolean) 3 65 [.ref x0, .int x1] h n sl (some (.int (xbi o))) h n sl := by
  refine xm_of pnX6 [some (.ref x0), some (.int x1)] 0 rfl (Nat.le_of_ble_eq_true rfl) ?_
  intro X hT C
  replace C : XOK X RX6 cX6_hasRoomFor 2 "hasRoomFor" (some .boolean) 3 65 := C
  obtain ⟨-, hN, hX⟩ := hT
  unfold fX6_hasRoomFor at hm
  refine xw_iload_n (pc := 0) (i := 1) (x := x1) C dX6_hasRoomFor_0 rfl rfl ?_
  refine xw_if_eq (pc := 1) (tgt := 20) C dX6_hasRoomFor_1 (by decide) (fun q => ?_) (fun q => ?_)
  · replace hm := xif_t q hm
    refine xw_iconst (pc := 20) (v := 1) C dX6_hasRoomFor_20 xk_i_1 ?_
    refine xw_goto (pc := 21) (tgt := 25) C dX6_hasRoomFor_21 (by decide) ?_
    obtain rfl := Option.some.inj hm
    exact xw_zreturn (pc := 25) (v := xbi true) C dX6_hasRoomFor_25 rfl (xbi_nar _) hX
  · replace hm := xif_f q hm
    refine xw_aload_n (pc := 4) (i := 0) (x := x0) C dX6_hasRoomFor_4 rfl rfl ?_
    refine xw_iload_n (pc := 5) (i := 1) (x := x1) C dX6_hasRoomFor_5 rfl rfl ?_
    obtain ⟨_, q1, hm⟩ := xbind hm
    obtain ⟨v2, q3, hm⟩ := xbind hm
    refine xw_callV1 (pc := 6) (As := [.int x1]) (st := []) C dX6_hasRoomFor_6 (wX6_hasChange q3) dd_X6_hasChange lk_X6_61 dv_X6_hasChange (xco_spec q1) rfl (Nat.le_of_ble_eq_true rfl) (Nat.le_of_ble_eq_true rfl) (Nat.le_of_ble_eq_true rfl) ⟨Nat.le_refl _, Nat.le_refl _⟩ hN ?_
    refine xw_if_neZ (pc := 9) (b := v2) (tgt := 20) C dX6_hasRoomFor_9 (by decide) (fun q => ?_) (fun q => ?_)
    · replace hm := xif_t q hm
      refine xw_iconst (pc := 20) (v := 1) C dX6_hasRoomFor_20 xk_i_1 ?_
      refine xw_goto (pc := 21) (tgt := 25) C dX6_hasRoomFor_21 (by decide) ?_
      obtain rfl := Option.some.inj hm
      exact xw_zreturn (pc := 25) (v := xbi true) C dX6_hasRoomFor_25 rfl (xbi_nar _) hX
    · replace hm := xif_f q hm
      refine xw_aload_n (pc := 12) (i := 0) (x := x0) C dX6_hasRoomFor_12 rfl rfl ?_
      obtain ⟨v4, q5, hm⟩ := xbind hm
      refine xw_getI (pc := 13) C dX6_hasRoomFor_13 fl_X6_39 q5 ?_
      refine xw_iconst (pc := 16) (v := 5) C dX6_hasRoomFor_16 xk_i_5 ?_
      refine xw_icmp_ge (pc := 17) (tgt := 24) C dX6_hasRoomFor_17 (by decide) (fun q => ?_) (fun q => ?_)
      · replace hm := xif_t q hm
        refine xw_iconst (pc := 24) (v := 0) C dX6_hasRoomFor_24 xk_i_0 ?_
        obtain rfl := Option.some.inj hm
        exact xw_zreturn (pc := 25) (v := xbi false) C dX6_hasRoomFor_25 rfl (xbi_nar _) hX
      · replace hm := xif_f q hm
        refine xw_iconst (pc := 20) (v := 1) C dX6_hasRoomFor_20 xk_i_1 ?_
        refine xw_goto (pc := 21) (tgt := 25) C dX6_hasRoomFor_21 (by decide) ?_
        obtain rfl := Option.some.inj hm
        exact xw_zreturn (pc := 25) (v := xbi true) C dX6_hasRoomFor_25 rfl (xbi_nar _) hX
def fX6_insertChange_P11 (X : XCtx) (x0 : Nat) (x1 : Int32) (x2 : Int32) (n sl : Nat) (s : (XH × Int32)) : Prop := XW X 11 [some (.ref x0), some (.int x1), some (.int x2), some (.int s.2)] [] s.1 n sl
def fX6_insertChange_E11 (X : XCtx) (x0 : Nat) (x1 : Int32) (x2 : Int32) (n sl : Nat) (e : XH) : Prop := XW X 58 [some (.ref x0), some (.int x1), some (.int x2), none] [] e n sl
set_option maxHeartbeats 4000000 in
set_option maxRecDepth 100000 in
theorem fX6_insertChange_B11_w {X : XCtx} (C : XOK X RX6 cX6_insertChange 4 "insertChange" none 2 43) {n sl : Nat} (hN : XN X n sl) {x0 : Nat} {x1 : Int32} {x2 : Int32} (s : (XH × Int32)) (o : (XH × Int32) ⊕ XH) (hm : fX6_insertChange_B11 x0 x1 x2 s = some o) (hc : ∀ s', o = .inl s' → fX6_insertChange_P11 X x0 x1 x2 n sl s') (he : ∀ e', o = .inr e' → fX6_insertChange_E11 X x0 x1 x2 n sl e') : fX6_insertChange_P11 X x0 x1 x2 n sl s := by
  obtain ⟨h, x3⟩ := s
  show XW X 11 [some (.ref x0), some (.int x1), some (.int x2), some (.int x3)] [] h n sl
  replace hm : fX6_insertChange_b11 x0 x1 x2 h x3 = some o := hm
  unfold fX6_insertChange_b11 at hm
  refine xw_iload_n (pc := 11) (i := 3) (x := x3) C dX6_insertChange_11 rfl rfl ?_
  refine xw_iload_n (pc := 12) (i := 2) (x := x2) C dX6_insertChange_12 rfl rfl ?_
  refine xw_icmp_le (pc := 13) (tgt := 58) C dX6_insertChange_13 (by decide) (fun q => ?_) (fun q => ?_)
  · replace hm := xif_t q hm
    obtain rfl := Option.some.inj hm
    refine xw_sub (pc := 58) _ ?_ (he _ rfl)
    exact ⟨Or.inr rfl, Or.inr rfl, Or.inr rfl, Or.inl rfl, trivial⟩
  · replace hm := xif_f q hm
    refine xw_aload_n (pc := 16) (i := 0) (x := x0) C dX6_insertChange_16 rfl rfl ?_
    obtain ⟨v6, q7, hm⟩ := xbind hm
    refine xw_getR (pc := 17) C dX6_insertChange_17 fl_X6_15 q7 ?_
    refine xw_iload_n (pc := 20) (i := 3) (x := x3) C dX6_insertChange_20 rfl rfl ?_
    refine xw_aload_n (pc := 21) (i := 0) (x := x0) C dX6_insertChange_21 rfl rfl ?_
    obtain ⟨v8, q9, hm⟩ := xbind hm
    refine xw_getR (pc := 22) C dX6_insertChange_22 fl_X6_15 q9 ?_
    refine xw_iload_n (pc := 25) (i := 3) (x := x3) C dX6_insertChange_25 rfl rfl ?_
    refine xw_iconst (pc := 26) (v := 1) C dX6_insertChange_26 xk_i_1 ?_
    refine xw_isub (pc := 27) C dX6_insertChange_27 ?_
    obtain ⟨v10, q11, hm⟩ := xbind hm
    refine xw_callSN1 (pc := 28) (As := [.ref v8, .int (x3 - (1 : Int32))]) (st := [.int x3, .ref v6]) C dX6_insertChange_28 (wX8_at q11) dd_X8_at lk_X6_42 ds_X8_at rfl (Nat.le_of_ble_eq_true rfl) (Nat.le_of_ble_eq_true rfl) (Nat.le_of_ble_eq_true rfl) ⟨Nat.le_refl _, Nat.le_refl _⟩ hN ?_
    obtain ⟨h12, q13, hm⟩ := xbind hm
    refine xw_callSN0 (pc := 31) (As := [.ref v6, .int x3, .int v10]) (st := []) C dX6_insertChange_31 (wX8_put q13) dd_X8_put lk_X6_25 ds_X8_put rfl (Nat.le_of_ble_eq_true rfl) (Nat.le_of_ble_eq_true rfl) (Nat.le_of_ble_eq_true rfl) ⟨Nat.le_refl _, Nat.le_refl _⟩ hN ?_
    refine xw_aload_n (pc := 34) (i := 0) (x := x0) C dX6_insertChange_34 rfl rfl ?_
    obtain ⟨v14, q15, hm⟩ := xbind hm
    refine xw_getR (pc := 35) C dX6_insertChange_35 fl_X6_18 q15 ?_
    refine xw_iload_n (pc := 38) (i := 3) (x := x3) C dX6_insertChange_38 rfl rfl ?_
    refine xw_aload_n (pc := 39) (i := 0) (x := x0) C dX6_insertChange_39 rfl rfl ?_
    obtain ⟨v16, q17, hm⟩ := xbind hm
    refine xw_getR (pc := 40) C dX6_insertChange_40 fl_X6_18 q17 ?_
    refine xw_iload_n (pc := 43) (i := 3) (x := x3) C dX6_insertChange_43 rfl rfl ?_
    refine xw_iconst (pc := 44) (v := 1) C dX6_insertChange_44 xk_i_1 ?_
    refine xw_isub (pc := 45) C dX6_insertChange_45 ?_
    obtain ⟨v18, q19, hm⟩ := xbind hm
    refine xw_callSN1 (pc := 46) (As := [.ref v16, .int (x3 - (1 : Int32))]) (st := [.int x3, .ref v14]) C dX6_insertChange_46 (wX8_at q19) dd_X8_at lk_X6_42 ds_X8_at rfl (Nat.le_of_ble_eq_true rfl) (Nat.le_of_ble_eq_true rfl) (Nat.le_of_ble_eq_true rfl) ⟨Nat.le_refl _, Nat.le_refl _⟩ hN ?_
    obtain ⟨h20, q21, hm⟩ := xbind hm
    refine xw_callSN0 (pc := 49) (As := [.ref v14, .int x3, .int v18]) (st := []) C dX6_insertChange_49 (wX8_put q21) dd_X8_put lk_X6_25 ds_X8_put rfl (Nat.le_of_ble_eq_true rfl) (Nat.le_of_ble_eq_true rfl) (Nat.le_of_ble_eq_true rfl) ⟨Nat.le_refl _, Nat.le_refl _⟩ hN ?_
    refine xw_iinc (pc := 52) (i := 3) (x := x3) (v := (x3 + (-1 : Int32))) (L' := [some (.ref x0), some (.int x1), some (.int x2), some (.int (x3 + (-1 : Int32)))]) C dX6_insertChange_52 rfl (congrArg (HAdd.hAdd _) xk_i_m1) (Nat.le_of_ble_eq_true rfl) rfl ?_
    refine xw_goto (pc := 55) (tgt := 11) C dX6_insertChange_55 (by decide) ?_
    obtain rfl := Option.some.inj hm
    refine xw_sub (pc := 11) _ ?_ (hc _ rfl)
    exact ⟨Or.inr rfl, Or.inr rfl, Or.inr rfl, Or.inr rfl, trivial⟩
set_option maxHeartbeats 4000000 in
set_option maxRecDepth 100000 in
theorem wX6_insertChange {l : Launch} {n sl : Nat} {h : XH} {x0 : Nat} {x1 : Int32} {o : XH} (hm : fX6_insertChange h x0 x1 = some o) : XM l yX6_insertChange cX6_insertChange 4 none 2 43 [.ref x0, .int x1] h n sl none o n sl := by
  refine xm_of pnX6 [some (.ref x0), some (.int x1), none, none] 2 rfl (Nat.le_of_ble_eq_true rfl) ?_
  intro X hT C
  replace C : XOK X RX6 cX6_insertChange 4 "insertChange" none 2 43 := C
  obtain ⟨-, hN, hX⟩ := hT
  unfold fX6_insertChange at hm
  refine xw_aload_n (pc := 0) (i := 0) (x := x0) C dX6_insertChange_0 rfl rfl ?_
  refine xw_iload_n (pc := 1) (i := 1) (x := x1) C dX6_insertChange_1 rfl rfl ?_
  obtain ⟨_, q1, hm⟩ := xbind hm
  obtain ⟨v2, q3, hm⟩ := xbind hm
  refine xw_callV1 (pc := 2) (As := [.int x1]) (st := []) C dX6_insertChange_2 (wX6_placeOfChange q3) dd_X6_placeOfChange lk_X6_58 dv_X6_placeOfChange (xco_spec q1) rfl (Nat.le_of_ble_eq_true rfl) (Nat.le_of_ble_eq_true rfl) (Nat.le_of_ble_eq_true rfl) ⟨Nat.le_refl _, Nat.le_refl _⟩ hN ?_
  refine xw_istore_n (pc := 5) (i := 2) (x := v2) (L' := [some (.ref x0), some (.int x1), some (.int v2), none]) C dX6_insertChange_5 rfl (Nat.le_of_ble_eq_true rfl) rfl ?_
  refine xw_aload_n (pc := 6) (i := 0) (x := x0) C dX6_insertChange_6 rfl rfl ?_
  obtain ⟨v4, q5, hm⟩ := xbind hm
  refine xw_getI (pc := 7) C dX6_insertChange_7 fl_X6_39 q5 ?_
  refine xw_istore_n (pc := 10) (i := 3) (x := v4) (L' := [some (.ref x0), some (.int x1), some (.int v2), some (.int v4)]) C dX6_insertChange_10 rfl (Nat.le_of_ble_eq_true rfl) rfl ?_
  obtain ⟨e22, q23, hm⟩ := xbind hm
  refine xw_sub (pc := 11) [some (.ref x0), some (.int x1), some (.int v2), some (.int v4)] ⟨Or.inr rfl, Or.inr rfl, Or.inr rfl, Or.inr rfl, trivial⟩ ?_
  refine xloop_walk (fX6_insertChange_B11 x0 x1 v2) (fX6_insertChange_P11 X x0 x1 v2 n sl) (fX6_insertChange_E11 X x0 x1 v2 n sl) (fun s' o' => fX6_insertChange_B11_w C hN s' o') 5000 (h, v4) e22 q23 ?_
  show XW X 58 [some (.ref x0), some (.int x1), some (.int v2), none] [] e22 n sl
  refine xw_aload_n (pc := 58) (i := 0) (x := x0) C dX6_insertChange_58 rfl rfl ?_
  obtain ⟨v24, q25, hm⟩ := xbind hm
  refine xw_getR (pc := 59) C dX6_insertChange_59 fl_X6_15 q25 ?_
  refine xw_iload_n (pc := 62) (i := 2) (x := v2) C dX6_insertChange_62 rfl rfl ?_
  refine xw_iload_n (pc := 63) (i := 1) (x := x1) C dX6_insertChange_63 rfl rfl ?_
  obtain ⟨h26, q27, hm⟩ := xbind hm
  refine xw_callSN0 (pc := 64) (As := [.ref v24, .int v2, .int x1]) (st := []) C dX6_insertChange_64 (wX8_put q27) dd_X8_put lk_X6_25 ds_X8_put rfl (Nat.le_of_ble_eq_true rfl) (Nat.le_of_ble_eq_true rfl) (Nat.le_of_ble_eq_true rfl) ⟨Nat.le_refl _, Nat.le_refl _⟩ hN ?_
  refine xw_aload_n (pc := 67) (i := 0) (x := x0) C dX6_insertChange_67 rfl rfl ?_
  refine xw_dup (pc := 68) C dX6_insertChange_68 rfl ?_
  obtain ⟨v28, q29, hm⟩ := xbind hm
  refine xw_getI (pc := 69) C dX6_insertChange_69 fl_X6_39 q29 ?_
  refine xw_iconst (pc := 72) (v := 1) C dX6_insertChange_72 xk_i_1 ?_
  refine xw_iadd (pc := 73) C dX6_insertChange_73 ?_
  obtain ⟨h30, q31, hm⟩ := xbind hm
  refine xw_put (pc := 74) C dX6_insertChange_74 fl_X6_39 q31 (fun _ => rfl) (fun _ => rfl) ?_
  obtain rfl := Option.some.inj hm
  exact xw_return (pc := 77) C dX6_insertChange_77 rfl hX
set_option maxHeartbeats 4000000 in
set_option maxRecDepth 100000 in
theorem wX6_putSpeed {l : Launch} {n sl : Nat} {h : XH} {x0 : Nat} {x1 : Int32} {x2 : Int32} {o : XH} (hm : fX6_putSpeed h x0 x1 x2 = some o) : XM l yX6_putSpeed cX6_putSpeed 3 none 3 66 [.ref x0, .int x1, .int x2] h n sl none o n sl := by
  refine xm_of pnX6 [some (.ref x0), some (.int x1), some (.int x2)] 0 rfl (Nat.le_of_ble_eq_true rfl) ?_
  intro X hT C
  replace C : XOK X RX6 cX6_putSpeed 3 "putSpeed" none 3 66 := C
  obtain ⟨-, hN, hX⟩ := hT
  unfold fX6_putSpeed at hm
  refine xw_iload_n (pc := 0) (i := 1) (x := x1) C dX6_putSpeed_0 rfl rfl ?_
  refine xw_if_ne (pc := 1) (tgt := 10) C dX6_putSpeed_1 (by decide) (fun q => ?_) (fun q => ?_)
  · replace hm := xif_f q hm
    refine xw_aload_n (pc := 10) (i := 0) (x := x0) C dX6_putSpeed_10 rfl rfl ?_
    refine xw_iload_n (pc := 11) (i := 1) (x := x1) C dX6_putSpeed_11 rfl rfl ?_
    obtain ⟨_, q1, hm⟩ := xbind hm
    obtain ⟨v2, q3, hm⟩ := xbind hm
    refine xw_callV1 (pc := 12) (As := [.int x1]) (st := []) C dX6_putSpeed_12 (wX6_hasChange q3) dd_X6_hasChange lk_X6_61 dv_X6_hasChange (xco_spec q1) rfl (Nat.le_of_ble_eq_true rfl) (Nat.le_of_ble_eq_true rfl) (Nat.le_of_ble_eq_true rfl) ⟨Nat.le_refl _, Nat.le_refl _⟩ hN ?_
    refine xw_if_neZ (pc := 15) (b := v2) (tgt := 23) C dX6_putSpeed_15 (by decide) (fun q => ?_) (fun q => ?_)
    · replace hm := xif_t q hm
      refine xw_aload_n (pc := 23) (i := 0) (x := x0) C dX6_putSpeed_23 rfl rfl ?_
      obtain ⟨v4, q5, hm⟩ := xbind hm
      refine xw_getR (pc := 24) C dX6_putSpeed_24 fl_X6_18 q5 ?_
      refine xw_aload_n (pc := 27) (i := 0) (x := x0) C dX6_putSpeed_27 rfl rfl ?_
      refine xw_iload_n (pc := 28) (i := 1) (x := x1) C dX6_putSpeed_28 rfl rfl ?_
      obtain ⟨_, q6, hm⟩ := xbind hm
      obtain ⟨v7, q8, hm⟩ := xbind hm
      refine xw_callV1 (pc := 29) (As := [.int x1]) (st := [.ref v4]) C dX6_putSpeed_29 (wX6_placeOfChange q8) dd_X6_placeOfChange lk_X6_58 dv_X6_placeOfChange (xco_spec q6) rfl (Nat.le_of_ble_eq_true rfl) (Nat.le_of_ble_eq_true rfl) (Nat.le_of_ble_eq_true rfl) ⟨Nat.le_refl _, Nat.le_refl _⟩ hN ?_
      refine xw_iload_n (pc := 32) (i := 2) (x := x2) C dX6_putSpeed_32 rfl rfl ?_
      obtain ⟨h9, q10, hm⟩ := xbind hm
      refine xw_callSN0 (pc := 33) (As := [.ref v4, .int v7, .int x2]) (st := []) C dX6_putSpeed_33 (wX8_put q10) dd_X8_put lk_X6_25 ds_X8_put rfl (Nat.le_of_ble_eq_true rfl) (Nat.le_of_ble_eq_true rfl) (Nat.le_of_ble_eq_true rfl) ⟨Nat.le_refl _, Nat.le_refl _⟩ hN ?_
      obtain rfl := Option.some.inj hm
      exact xw_return (pc := 36) C dX6_putSpeed_36 rfl hX
    · replace hm := xif_f q hm
      refine xw_aload_n (pc := 18) (i := 0) (x := x0) C dX6_putSpeed_18 rfl rfl ?_
      refine xw_iload_n (pc := 19) (i := 1) (x := x1) C dX6_putSpeed_19 rfl rfl ?_
      obtain ⟨_, q11, hm⟩ := xbind hm
      obtain ⟨h12, q13, hm⟩ := xbind hm
      refine xw_callV0 (pc := 20) (As := [.int x1]) (st := []) C dX6_putSpeed_20 (wX6_insertChange q13) dd_X6_insertChange lk_X6_64 dv_X6_insertChange (xco_spec q11) rfl (Nat.le_of_ble_eq_true rfl) (Nat.le_of_ble_eq_true rfl) (Nat.le_of_ble_eq_true rfl) ⟨Nat.le_refl _, Nat.le_refl _⟩ hN ?_
      refine xw_aload_n (pc := 23) (i := 0) (x := x0) C dX6_putSpeed_23 rfl rfl ?_
      obtain ⟨v14, q15, hm⟩ := xbind hm
      refine xw_getR (pc := 24) C dX6_putSpeed_24 fl_X6_18 q15 ?_
      refine xw_aload_n (pc := 27) (i := 0) (x := x0) C dX6_putSpeed_27 rfl rfl ?_
      refine xw_iload_n (pc := 28) (i := 1) (x := x1) C dX6_putSpeed_28 rfl rfl ?_
      obtain ⟨_, q16, hm⟩ := xbind hm
      obtain ⟨v17, q18, hm⟩ := xbind hm
      refine xw_callV1 (pc := 29) (As := [.int x1]) (st := [.ref v14]) C dX6_putSpeed_29 (wX6_placeOfChange q18) dd_X6_placeOfChange lk_X6_58 dv_X6_placeOfChange (xco_spec q16) rfl (Nat.le_of_ble_eq_true rfl) (Nat.le_of_ble_eq_true rfl) (Nat.le_of_ble_eq_true rfl) ⟨Nat.le_refl _, Nat.le_refl _⟩ hN ?_
      refine xw_iload_n (pc := 32) (i := 2) (x := x2) C dX6_putSpeed_32 rfl rfl ?_
      obtain ⟨h19, q20, hm⟩ := xbind hm
      refine xw_callSN0 (pc := 33) (As := [.ref v14, .int v17, .int x2]) (st := []) C dX6_putSpeed_33 (wX8_put q20) dd_X8_put lk_X6_25 ds_X8_put rfl (Nat.le_of_ble_eq_true rfl) (Nat.le_of_ble_eq_true rfl) (Nat.le_of_ble_eq_true rfl) ⟨Nat.le_refl _, Nat.le_refl _⟩ hN ?_
      obtain rfl := Option.some.inj hm
      exact xw_return (pc := 36) C dX6_putSpeed_36 rfl hX
  · replace hm := xif_t q hm
    refine xw_aload_n (pc := 4) (i := 0) (x := x0) C dX6_putSpeed_4 rfl rfl ?_
    refine xw_iload_n (pc := 5) (i := 2) (x := x2) C dX6_putSpeed_5 rfl rfl ?_
    obtain ⟨h21, q22, hm⟩ := xbind hm
    refine xw_put (pc := 6) C dX6_putSpeed_6 fl_X6_36 q22 (fun _ => rfl) (fun _ => rfl) ?_
    obtain rfl := Option.some.inj hm
    exact xw_return (pc := 9) C dX6_putSpeed_9 rfl hX
set_option maxHeartbeats 4000000 in
set_option maxRecDepth 100000 in
theorem wX8_setSpeed {l : Launch} {n sl : Nat} {h : XH} {x0 : Nat} {x1 : Int32} {x2 : Int32} {o : Int32 × XH} (hm : fX8_setSpeed h x0 x1 x2 = some o) : XM l yX8_setSpeed cX8_setSpeed 3 (some .int) 4 88 [.ref x0, .int x1, .int x2] h n sl (some (.int o.1)) o.2 n sl := by
  refine xm_of pnX8 [some (.ref x0), some (.int x1), some (.int x2)] 0 rfl (Nat.le_of_ble_eq_true rfl) ?_
  intro X hT C
  replace C : XOK X RX8 cX8_setSpeed 3 "setSpeed" (some .int) 4 88 := C
  obtain ⟨-, hN, hX⟩ := hT
  unfold fX8_setSpeed at hm
  refine xw_iload_n (pc := 0) (i := 1) (x := x1) C dX8_setSpeed_0 rfl rfl ?_
  obtain ⟨v1, q2, hm⟩ := xbind hm
  refine xw_callS1 (pc := 1) (As := [.int x1]) (st := []) C dX8_setSpeed_1 (wX8_isTick q2) dd_X8_isTick lk_X8_99 ds_X8_isTick rfl (Nat.le_of_ble_eq_true rfl) (Nat.le_of_ble_eq_true rfl) (Nat.le_of_ble_eq_true rfl) ⟨Nat.le_refl _, Nat.le_refl _⟩ hN ?_
  refine xw_if_eqZ (pc := 4) (b := v1) (tgt := 20) C dX8_setSpeed_4 (by decide) (fun q => ?_) (fun q => ?_)
  · replace hm := xif_f q hm
    refine xw_sipush (pc := 20) (v := -1001) C dX8_setSpeed_20 xk_s_m1001 ?_
    obtain rfl := Option.some.inj hm
    exact xw_ireturn (pc := 23) C dX8_setSpeed_23 rfl hX
  · replace hm := xif_t q hm
    refine xw_iload_n (pc := 7) (i := 2) (x := x2) C dX8_setSpeed_7 rfl rfl ?_
    refine xw_sipush (pc := 8) (v := -1000) C dX8_setSpeed_8 xk_s_m1000 ?_
    refine xw_sipush (pc := 11) (v := 1000) C dX8_setSpeed_11 xk_s_1000 ?_
    obtain ⟨v3, q4, hm⟩ := xbind hm
    refine xw_callS1 (pc := 14) (As := [.int x2, .int (-1000 : Int32), .int (1000 : Int32)]) (st := []) C dX8_setSpeed_14 (wX8_within q4) dd_X8_within lk_X8_44 ds_X8_within rfl (Nat.le_of_ble_eq_true rfl) (Nat.le_of_ble_eq_true rfl) (Nat.le_of_ble_eq_true rfl) ⟨Nat.le_refl _, Nat.le_refl _⟩ hN ?_
    refine xw_if_neZ (pc := 17) (b := v3) (tgt := 24) C dX8_setSpeed_17 (by decide) (fun q => ?_) (fun q => ?_)
    · replace hm := xif_t q hm
      refine xw_aload_n (pc := 24) (i := 0) (x := x0) C dX8_setSpeed_24 rfl rfl ?_
      obtain ⟨v5, q6, hm⟩ := xbind hm
      refine xw_getR (pc := 25) C dX8_setSpeed_25 fl_X8_10 q6 ?_
      obtain ⟨v7, q8, hm⟩ := xbind hm
      refine xw_getR (pc := 28) C dX8_setSpeed_28 fl_X8_67 q8 ?_
      refine xw_iload_n (pc := 31) (i := 1) (x := x1) C dX8_setSpeed_31 rfl rfl ?_
      obtain ⟨_, q9, hm⟩ := xbind hm
      obtain ⟨v10, q11, hm⟩ := xbind hm
      refine xw_callV1 (pc := 32) (As := [.int x1]) (st := []) C dX8_setSpeed_32 (wX6_hasRoomFor q11) dd_X6_hasRoomFor lk_X8_102 dv_X6_hasRoomFor (xco_spec q9) rfl (Nat.le_of_ble_eq_true rfl) (Nat.le_of_ble_eq_true rfl) (Nat.le_of_ble_eq_true rfl) ⟨Nat.le_refl _, Nat.le_refl _⟩ hN ?_
      refine xw_if_neZ (pc := 35) (b := v10) (tgt := 42) C dX8_setSpeed_35 (by decide) (fun q => ?_) (fun q => ?_)
      · replace hm := xif_t q hm
        refine xw_aload_n (pc := 42) (i := 0) (x := x0) C dX8_setSpeed_42 rfl rfl ?_
        obtain ⟨v12, q13, hm⟩ := xbind hm
        refine xw_getR (pc := 43) C dX8_setSpeed_43 fl_X8_19 q13 ?_
        refine xw_aload_n (pc := 46) (i := 0) (x := x0) C dX8_setSpeed_46 rfl rfl ?_
        obtain ⟨v14, q15, hm⟩ := xbind hm
        refine xw_getR (pc := 47) C dX8_setSpeed_47 fl_X8_10 q15 ?_
        obtain ⟨_, q16, hm⟩ := xbind hm
        obtain ⟨h17, q18, hm⟩ := xbind hm
        refine xw_callV0 (pc := 50) (As := [.ref v14]) (st := []) C dX8_setSpeed_50 (wX3_remember q18) dd_X3_remember lk_X8_63 dv_X3_remember (xco_spec q16) rfl (Nat.le_of_ble_eq_true rfl) (Nat.le_of_ble_eq_true rfl) (Nat.le_of_ble_eq_true rfl) ⟨Nat.le_refl _, Nat.le_refl _⟩ hN ?_
        refine xw_aload_n (pc := 53) (i := 0) (x := x0) C dX8_setSpeed_53 rfl rfl ?_
        obtain ⟨v19, q20, hm⟩ := xbind hm
        refine xw_getR (pc := 54) C dX8_setSpeed_54 fl_X8_10 q20 ?_
        obtain ⟨v21, q22, hm⟩ := xbind hm
        refine xw_getR (pc := 57) C dX8_setSpeed_57 fl_X8_67 q22 ?_
        refine xw_iload_n (pc := 60) (i := 1) (x := x1) C dX8_setSpeed_60 rfl rfl ?_
        refine xw_iload_n (pc := 61) (i := 2) (x := x2) C dX8_setSpeed_61 rfl rfl ?_
        obtain ⟨_, q23, hm⟩ := xbind hm
        obtain ⟨h24, q25, hm⟩ := xbind hm
        refine xw_callV0 (pc := 62) (As := [.int x1, .int x2]) (st := []) C dX8_setSpeed_62 (wX6_putSpeed q25) dd_X6_putSpeed lk_X8_105 dv_X6_putSpeed (xco_spec q23) rfl (Nat.le_of_ble_eq_true rfl) (Nat.le_of_ble_eq_true rfl) (Nat.le_of_ble_eq_true rfl) ⟨Nat.le_refl _, Nat.le_refl _⟩ hN ?_
        refine xw_aload_n (pc := 65) (i := 0) (x := x0) C dX8_setSpeed_65 rfl rfl ?_
        obtain ⟨v26, q27, hm⟩ := xbind hm
        refine xw_getR (pc := 66) C dX8_setSpeed_66 fl_X8_10 q27 ?_
        obtain ⟨v28, q29, hm⟩ := xbind hm
        refine xw_getR (pc := 69) C dX8_setSpeed_69 fl_X8_67 q29 ?_
        obtain ⟨v30, q31, hm⟩ := xbind hm
        refine xw_getI (pc := 72) C dX8_setSpeed_72 fl_X8_109 q31 ?_
        obtain rfl := Option.some.inj hm
        exact xw_ireturn (pc := 75) C dX8_setSpeed_75 rfl hX
      · replace hm := xif_f q hm
        refine xw_sipush (pc := 38) (v := -1003) C dX8_setSpeed_38 xk_s_m1003 ?_
        obtain rfl := Option.some.inj hm
        exact xw_ireturn (pc := 41) C dX8_setSpeed_41 rfl hX
    · replace hm := xif_f q hm
      refine xw_sipush (pc := 20) (v := -1001) C dX8_setSpeed_20 xk_s_m1001 ?_
      obtain rfl := Option.some.inj hm
      exact xw_ireturn (pc := 23) C dX8_setSpeed_23 rfl hX
set_option maxHeartbeats 4000000 in
set_option maxRecDepth 100000 in
theorem wX8_clearText {l : Launch} {n sl : Nat} {h : XH} {x0 : Nat} {o : Int32 × XH} (hm : fX8_clearText h x0 = some o) : XM l yX8_clearText cX8_clearText 2 (some .int) 0 0 [.ref x0] h n sl (some (.int o.1)) o.2 n sl := by
  refine xm_of pnX8 [some (.ref x0), none] 1 rfl (Nat.le_of_ble_eq_true rfl) ?_
  intro X hT C
  replace C : XOK X RX8 cX8_clearText 2 "clearText" (some .int) 0 0 := C
  obtain ⟨-, hN, hX⟩ := hT
  unfold fX8_clearText at hm
  refine xw_aload_n (pc := 0) (i := 0) (x := x0) C dX8_clearText_0 rfl rfl ?_
  obtain ⟨v1, q2, hm⟩ := xbind hm
  refine xw_getR (pc := 1) C dX8_clearText_1 fl_X8_26 q2 ?_
  obtain ⟨v3, q4, hm⟩ := xbind hm
  refine xw_getI (pc := 4) C dX8_clearText_4 fl_X8_48 q4 ?_
  refine xw_istore_n (pc := 7) (i := 1) (x := v3) (L' := [some (.ref x0), some (.int v3)]) C dX8_clearText_7 rfl (Nat.le_of_ble_eq_true rfl) rfl ?_
  refine xw_aload_n (pc := 8) (i := 0) (x := x0) C dX8_clearText_8 rfl rfl ?_
  obtain ⟨v5, q6, hm⟩ := xbind hm
  refine xw_getR (pc := 9) C dX8_clearText_9 fl_X8_26 q6 ?_
  refine xw_iconst (pc := 12) (v := 0) C dX8_clearText_12 xk_i_0 ?_
  obtain ⟨h7, q8, hm⟩ := xbind hm
  refine xw_put (pc := 13) C dX8_clearText_13 fl_X8_48 q8 (fun _ => rfl) (fun _ => rfl) ?_
  refine xw_iload_n (pc := 16) (i := 1) (x := v3) C dX8_clearText_16 rfl rfl ?_
  obtain rfl := Option.some.inj hm
  exact xw_ireturn (pc := 17) C dX8_clearText_17 rfl hX
set_option maxHeartbeats 4000000 in
set_option maxRecDepth 100000 in
theorem wX6_empty {l : Launch} {n sl : Nat} {h : XH} {x0 : Nat} {o : XH} (hm : fX6_empty h x0 = some o) : XM l yX6_empty cX6_empty 1 none 0 0 [.ref x0] h n sl none o n sl := by
  refine xm_of pnX6 [some (.ref x0)] 0 rfl (Nat.le_of_ble_eq_true rfl) ?_
  intro X hT C
  replace C : XOK X RX6 cX6_empty 1 "empty" none 0 0 := C
  obtain ⟨-, hN, hX⟩ := hT
  unfold fX6_empty at hm
  refine xw_aload_n (pc := 0) (i := 0) (x := x0) C dX6_empty_0 rfl rfl ?_
  refine xw_iconst (pc := 1) (v := 0) C dX6_empty_1 xk_i_0 ?_
  obtain ⟨h1, q2, hm⟩ := xbind hm
  refine xw_put (pc := 2) C dX6_empty_2 fl_X6_21 q2 (fun _ => rfl) (fun _ => rfl) ?_
  refine xw_aload_n (pc := 5) (i := 0) (x := x0) C dX6_empty_5 rfl rfl ?_
  refine xw_iconst (pc := 6) (v := 0) C dX6_empty_6 xk_i_0 ?_
  obtain ⟨h3, q4, hm⟩ := xbind hm
  refine xw_put (pc := 7) C dX6_empty_7 fl_X6_33 q4 (fun _ => rfl) (fun _ => rfl) ?_
  refine xw_aload_n (pc := 10) (i := 0) (x := x0) C dX6_empty_10 rfl rfl ?_
  refine xw_iconst (pc := 11) (v := 0) C dX6_empty_11 xk_i_0 ?_
  obtain ⟨h5, q6, hm⟩ := xbind hm
  refine xw_put (pc := 12) C dX6_empty_12 fl_X6_36 q6 (fun _ => rfl) (fun _ => rfl) ?_
  refine xw_aload_n (pc := 15) (i := 0) (x := x0) C dX6_empty_15 rfl rfl ?_
  refine xw_iconst (pc := 16) (v := 0) C dX6_empty_16 xk_i_0 ?_
  obtain ⟨h7, q8, hm⟩ := xbind hm
  refine xw_put (pc := 17) C dX6_empty_17 fl_X6_39 q8 (fun _ => rfl) (fun _ => rfl) ?_
  obtain rfl := Option.some.inj hm
  exact xw_return (pc := 20) C dX6_empty_20 rfl hX
set_option maxHeartbeats 4000000 in
set_option maxRecDepth 100000 in
theorem wX6_addCell {l : Launch} {n sl : Nat} {h : XH} {x0 : Nat} {x1 : Int32} {o : XH} (hm : fX6_addCell h x0 x1 = some o) : XM l yX6_addCell cX6_addCell 2 none 1 22 [.ref x0, .int x1] h n sl none o n sl := by
  refine xm_of pnX6 [some (.ref x0), some (.int x1)] 0 rfl (Nat.le_of_ble_eq_true rfl) ?_
  intro X hT C
  replace C : XOK X RX6 cX6_addCell 2 "addCell" none 1 22 := C
  obtain ⟨-, hN, hX⟩ := hT
  unfold fX6_addCell at hm
  refine xw_aload_n (pc := 0) (i := 0) (x := x0) C dX6_addCell_0 rfl rfl ?_
  obtain ⟨v1, q2, hm⟩ := xbind hm
  refine xw_getR (pc := 1) C dX6_addCell_1 fl_X6_9 q2 ?_
  refine xw_aload_n (pc := 4) (i := 0) (x := x0) C dX6_addCell_4 rfl rfl ?_
  obtain ⟨v3, q4, hm⟩ := xbind hm
  refine xw_getI (pc := 5) C dX6_addCell_5 fl_X6_21 q4 ?_
  refine xw_iload_n (pc := 8) (i := 1) (x := x1) C dX6_addCell_8 rfl rfl ?_
  obtain ⟨h5, q6, hm⟩ := xbind hm
  refine xw_callSN0 (pc := 9) (As := [.ref v1, .int v3, .int x1]) (st := []) C dX6_addCell_9 (wX8_put q6) dd_X8_put lk_X6_25 ds_X8_put rfl (Nat.le_of_ble_eq_true rfl) (Nat.le_of_ble_eq_true rfl) (Nat.le_of_ble_eq_true rfl) ⟨Nat.le_refl _, Nat.le_refl _⟩ hN ?_
  refine xw_aload_n (pc := 12) (i := 0) (x := x0) C dX6_addCell_12 rfl rfl ?_
  refine xw_dup (pc := 13) C dX6_addCell_13 rfl ?_
  obtain ⟨v7, q8, hm⟩ := xbind hm
  refine xw_getI (pc := 14) C dX6_addCell_14 fl_X6_21 q8 ?_
  refine xw_iconst (pc := 17) (v := 1) C dX6_addCell_17 xk_i_1 ?_
  refine xw_iadd (pc := 18) C dX6_addCell_18 ?_
  obtain ⟨h9, q10, hm⟩ := xbind hm
  refine xw_put (pc := 19) C dX6_addCell_19 fl_X6_21 q10 (fun _ => rfl) (fun _ => rfl) ?_
  obtain rfl := Option.some.inj hm
  exact xw_return (pc := 22) C dX6_addCell_22 rfl hX
set_option maxHeartbeats 4000000 in
set_option maxRecDepth 100000 in
theorem wX7_code {l : Launch} {n sl : Nat} {h : XH} {x0 : Nat} {o : Int32} (hm : fX7_code h x0 = some o) : XM l yX7_code cX7_code 1 (some .int) 1 21 [.ref x0] h n sl (some (.int o)) h n sl := by
  refine xm_of pnX7 [some (.ref x0)] 0 rfl (Nat.le_of_ble_eq_true rfl) ?_
  intro X hT C
  replace C : XOK X RX7 cX7_code 1 "code" (some .int) 1 21 := C
  obtain ⟨-, hN, hX⟩ := hT
  unfold fX7_code at hm
  refine xw_aload_n (pc := 0) (i := 0) (x := x0) C dX7_code_0 rfl rfl ?_
  obtain ⟨v1, q2, hm⟩ := xbind hm
  refine xw_getI (pc := 1) C dX7_code_1 fl_X7_26 q2 ?_
  refine xw_aload_n (pc := 4) (i := 0) (x := x0) C dX7_code_4 rfl rfl ?_
  obtain ⟨v3, q4, hm⟩ := xbind hm
  refine xw_getI (pc := 5) C dX7_code_5 fl_X7_19 q4 ?_
  refine xw_icmp_ge (pc := 8) (tgt := 25) C dX7_code_8 (by decide) (fun q => ?_) (fun q => ?_)
  · replace hm := xif_t q hm
    refine xw_iconst (pc := 25) (v := 0) C dX7_code_25 xk_i_0 ?_
    obtain rfl := Option.some.inj hm
    exact xw_ireturn (pc := 26) C dX7_code_26 rfl hX
  · replace hm := xif_f q hm
    refine xw_aload_n (pc := 11) (i := 0) (x := x0) C dX7_code_11 rfl rfl ?_
    obtain ⟨v5, q6, hm⟩ := xbind hm
    refine xw_getR (pc := 12) C dX7_code_12 fl_X7_9 q6 ?_
    refine xw_aload_n (pc := 15) (i := 0) (x := x0) C dX7_code_15 rfl rfl ?_
    obtain ⟨v7, q8, hm⟩ := xbind hm
    refine xw_getI (pc := 16) C dX7_code_16 fl_X7_26 q8 ?_
    obtain ⟨v9, q10, hm⟩ := xbind hm
    refine xw_callSN1 (pc := 19) (As := [.ref v5, .int v7]) (st := []) C dX7_code_19 (wX8_at q10) dd_X8_at lk_X7_76 ds_X8_at rfl (Nat.le_of_ble_eq_true rfl) (Nat.le_of_ble_eq_true rfl) (Nat.le_of_ble_eq_true rfl) ⟨Nat.le_refl _, Nat.le_refl _⟩ hN ?_
    refine xw_goto (pc := 22) (tgt := 26) C dX7_code_22 (by decide) ?_
    obtain rfl := Option.some.inj hm
    exact xw_ireturn (pc := 26) C dX7_code_26 rfl hX
set_option maxHeartbeats 4000000 in
set_option maxRecDepth 100000 in
theorem wX7_isCell {l : Launch} {n sl : Nat} {h : XH} {x0 : Int32} {o : Bool} (hm : fX7_isCell x0 = some o) : XM l yX7_isCell cX7_isCell 1 (some .boolean) 1 22 [.int x0] h n sl (some (.int (xbi o))) h n sl := by
  refine xm_of pnX7 [some (.int x0)] 0 rfl (Nat.le_of_ble_eq_true rfl) ?_
  intro X hT C
  replace C : XOK X RX7 cX7_isCell 1 "isCell" (some .boolean) 1 22 := C
  obtain ⟨-, hN, hX⟩ := hT
  unfold fX7_isCell at hm
  refine xw_iload_n (pc := 0) (i := 0) (x := x0) C dX7_isCell_0 rfl rfl ?_
  refine xw_bipush (pc := 1) (v := 46) C dX7_isCell_1 xk_b_46 ?_
  refine xw_icmp_eq (pc := 3) (tgt := 17) C dX7_isCell_3 (by decide) (fun q => ?_) (fun q => ?_)
  · replace hm := xif_t q hm
    refine xw_iconst (pc := 17) (v := 1) C dX7_isCell_17 xk_i_1 ?_
    refine xw_goto (pc := 18) (tgt := 22) C dX7_isCell_18 (by decide) ?_
    obtain rfl := Option.some.inj hm
    exact xw_zreturn (pc := 22) (v := xbi true) C dX7_isCell_22 rfl (xbi_nar _) hX
  · replace hm := xif_f q hm
    refine xw_iload_n (pc := 6) (i := 0) (x := x0) C dX7_isCell_6 rfl rfl ?_
    refine xw_bipush (pc := 7) (v := 97) C dX7_isCell_7 xk_b_97 ?_
    refine xw_bipush (pc := 9) (v := 99) C dX7_isCell_9 xk_b_99 ?_
    obtain ⟨v1, q2, hm⟩ := xbind hm
    refine xw_callSN1 (pc := 11) (As := [.int x0, .int (97 : Int32), .int (99 : Int32)]) (st := []) C dX7_isCell_11 (wX8_within q2) dd_X8_within lk_X7_83 ds_X8_within rfl (Nat.le_of_ble_eq_true rfl) (Nat.le_of_ble_eq_true rfl) (Nat.le_of_ble_eq_true rfl) ⟨Nat.le_refl _, Nat.le_refl _⟩ hN ?_
    refine xw_if_eqZ (pc := 14) (b := v1) (tgt := 21) C dX7_isCell_14 (by decide) (fun q => ?_) (fun q => ?_)
    · replace hm := xif_f q hm
      refine xw_iconst (pc := 21) (v := 0) C dX7_isCell_21 xk_i_0 ?_
      obtain rfl := Option.some.inj hm
      exact xw_zreturn (pc := 22) (v := xbi false) C dX7_isCell_22 rfl (xbi_nar _) hX
    · replace hm := xif_t q hm
      refine xw_iconst (pc := 17) (v := 1) C dX7_isCell_17 xk_i_1 ?_
      refine xw_goto (pc := 18) (tgt := 22) C dX7_isCell_18 (by decide) ?_
      obtain rfl := Option.some.inj hm
      exact xw_zreturn (pc := 22) (v := xbi true) C dX7_isCell_22 rfl (xbi_nar _) hX
