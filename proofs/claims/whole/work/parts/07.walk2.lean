def fX8_bestPeriod_P49 (X : XCtx) (x1 : Int32) (x2 : Bool) (x3 : Nat) (n sl : Nat) (s : (XH × Int32 × Int32 × Int32)) : Prop := XW X 49 [none, some (.int x1), some (.int (xbi x2)), some (.ref x3), some (.int s.2.1), some (.int s.2.2.1), some (.int s.2.2.2), none] [] s.1 n sl
def fX8_bestPeriod_E49 (X : XCtx) (x1 : Int32) (x2 : Bool) (x3 : Nat) (n sl : Nat) (e : (XH × Int32 × Int32)) : Prop := XW X 84 [none, none, some (.int (xbi x2)), none, some (.int e.2.1), some (.int e.2.2), none, none] [] e.1 n sl
set_option maxHeartbeats 4000000 in
set_option maxRecDepth 100000 in
theorem fX8_bestPeriod_B49_w {X : XCtx} (C : XOK X RX8 cX8_bestPeriod 8 "bestPeriod" (some .int) 4 91) {n sl : Nat} (hN : XN X n sl) {x1 : Int32} {x2 : Bool} {x3 : Nat} (s : (XH × Int32 × Int32 × Int32)) (o : (XH × Int32 × Int32 × Int32) ⊕ (XH × Int32 × Int32)) (hm : fX8_bestPeriod_B49 x1 x2 x3 s = some o) (hc : ∀ s', o = .inl s' → fX8_bestPeriod_P49 X x1 x2 x3 n sl s') (he : ∀ e', o = .inr e' → fX8_bestPeriod_E49 X x1 x2 x3 n sl e') : fX8_bestPeriod_P49 X x1 x2 x3 n sl s := by
  obtain ⟨h, x4, x5, x6⟩ := s
  show XW X 49 [none, some (.int x1), some (.int (xbi x2)), some (.ref x3), some (.int x4), some (.int x5), some (.int x6), none] [] h n sl
  replace hm : fX8_bestPeriod_b49 x1 x2 x3 h x4 x5 x6 = some o := hm
  unfold fX8_bestPeriod_b49 at hm
  refine xw_iload (pc := 49) (i := 6) (x := x6) C dX8_bestPeriod_49 rfl ?_
  refine xw_iload_n (pc := 51) (i := 1) (x := x1) C dX8_bestPeriod_51 rfl rfl ?_
  refine xw_icmp_gt (pc := 52) (tgt := 84) C dX8_bestPeriod_52 (by decide) (fun q => ?_) (fun q => ?_)
  · replace hm := xif_t q hm
    obtain rfl := Option.some.inj hm
    refine xw_sub (pc := 84) _ ?_ (he _ rfl)
    exact ⟨Or.inl rfl, Or.inl rfl, Or.inr rfl, Or.inl rfl, Or.inr rfl, Or.inr rfl, Or.inl rfl, Or.inl rfl, trivial⟩
  · replace hm := xif_f q hm
    refine xw_aload_n (pc := 55) (i := 3) (x := x3) C dX8_bestPeriod_55 rfl rfl ?_
    refine xw_iload (pc := 56) (i := 6) (x := x6) C dX8_bestPeriod_56 rfl ?_
    obtain ⟨_, q15, hm⟩ := xbind hm
    obtain ⟨v16, q17, hm⟩ := xbind hm
    refine xw_callV1 (pc := 58) (As := [.int x6]) (st := []) C dX8_bestPeriod_58 (wX0_restOf q17) dd_X0_restOf lk_X8_223 dv_X0_restOf (xco_spec q15) rfl (Nat.le_of_ble_eq_true rfl) (Nat.le_of_ble_eq_true rfl) (Nat.le_of_ble_eq_true rfl) ⟨Nat.le_refl _, Nat.le_refl _⟩ hN ?_
    refine xw_istore (pc := 61) (i := 7) (x := v16.1) (L' := [none, some (.int x1), some (.int (xbi x2)), some (.ref x3), some (.int x4), some (.int x5), some (.int x6), some (.int v16.1)]) C dX8_bestPeriod_61 (Nat.le_of_ble_eq_true rfl) rfl ?_
    refine xw_iload (pc := 63) (i := 7) (x := v16.1) C dX8_bestPeriod_63 rfl ?_
    refine xw_iload (pc := 65) (i := 5) (x := x5) C dX8_bestPeriod_65 rfl ?_
    refine xw_icmp_ge (pc := 67) (tgt := 78) C dX8_bestPeriod_67 (by decide) (fun q => ?_) (fun q => ?_)
    · replace hm := xif_t q hm
      refine xw_iinc (pc := 78) (i := 6) (x := x6) (v := (x6 + (1 : Int32))) (L' := [none, some (.int x1), some (.int (xbi x2)), some (.ref x3), some (.int x4), some (.int x5), some (.int (x6 + (1 : Int32))), some (.int v16.1)]) C dX8_bestPeriod_78 rfl (congrArg (HAdd.hAdd _) xk_i_1) (Nat.le_of_ble_eq_true rfl) rfl ?_
      refine xw_goto (pc := 81) (tgt := 49) C dX8_bestPeriod_81 (by decide) ?_
      obtain rfl := Option.some.inj hm
      refine xw_sub (pc := 49) _ ?_ (hc _ rfl)
      exact ⟨Or.inl rfl, Or.inr rfl, Or.inr rfl, Or.inr rfl, Or.inr rfl, Or.inr rfl, Or.inr rfl, Or.inl rfl, trivial⟩
    · replace hm := xif_f q hm
      refine xw_iload (pc := 70) (i := 7) (x := v16.1) C dX8_bestPeriod_70 rfl ?_
      refine xw_istore (pc := 72) (i := 5) (x := v16.1) (L' := [none, some (.int x1), some (.int (xbi x2)), some (.ref x3), some (.int x4), some (.int v16.1), some (.int x6), some (.int v16.1)]) C dX8_bestPeriod_72 (Nat.le_of_ble_eq_true rfl) rfl ?_
      refine xw_iload (pc := 74) (i := 6) (x := x6) C dX8_bestPeriod_74 rfl ?_
      refine xw_istore (pc := 76) (i := 4) (x := x6) (L' := [none, some (.int x1), some (.int (xbi x2)), some (.ref x3), some (.int x6), some (.int v16.1), some (.int x6), some (.int v16.1)]) C dX8_bestPeriod_76 (Nat.le_of_ble_eq_true rfl) rfl ?_
      refine xw_iinc (pc := 78) (i := 6) (x := x6) (v := (x6 + (1 : Int32))) (L' := [none, some (.int x1), some (.int (xbi x2)), some (.ref x3), some (.int x6), some (.int v16.1), some (.int (x6 + (1 : Int32))), some (.int v16.1)]) C dX8_bestPeriod_78 rfl (congrArg (HAdd.hAdd _) xk_i_1) (Nat.le_of_ble_eq_true rfl) rfl ?_
      refine xw_goto (pc := 81) (tgt := 49) C dX8_bestPeriod_81 (by decide) ?_
      obtain rfl := Option.some.inj hm
      refine xw_sub (pc := 49) _ ?_ (hc _ rfl)
      exact ⟨Or.inl rfl, Or.inr rfl, Or.inr rfl, Or.inr rfl, Or.inr rfl, Or.inr rfl, Or.inr rfl, Or.inl rfl, trivial⟩
set_option maxHeartbeats 4000000 in
set_option maxRecDepth 100000 in
theorem wX8_bestPeriod {l : Launch} {n sl : Nat} {h : XH} {x0 : Nat} {x1 : Int32} {x2 : Bool} {o : Int32 × XH} (hm : fX8_bestPeriod h x0 x1 x2 = some o) : XM l yX8_bestPeriod cX8_bestPeriod 8 (some .int) 4 91 [.ref x0, .int x1, .int (xbi x2)] h n sl (some (.int o.1)) o.2 n sl := by
  refine xm_of pnX8 [some (.ref x0), some (.int x1), some (.int (xbi x2)), none, none, none, none, none] 5 rfl (Nat.le_of_ble_eq_true rfl) ?_
  intro X hT C
  replace C : XOK X RX8 cX8_bestPeriod 8 "bestPeriod" (some .int) 4 91 := C
  obtain ⟨-, hN, hX⟩ := hT
  unfold fX8_bestPeriod at hm
  refine xw_iload_n (pc := 0) (i := 1) (x := x1) C dX8_bestPeriod_0 rfl rfl ?_
  refine xw_iconst (pc := 1) (v := 1) C dX8_bestPeriod_1 xk_i_1 ?_
  refine xw_sipush (pc := 2) (v := 500) C dX8_bestPeriod_2 xk_s_500 ?_
  obtain ⟨v1, q2, hm⟩ := xbind hm
  refine xw_callS1 (pc := 5) (As := [.int x1, .int (1 : Int32), .int (500 : Int32)]) (st := []) C dX8_bestPeriod_5 (wX8_within q2) dd_X8_within lk_X8_44 ds_X8_within rfl (Nat.le_of_ble_eq_true rfl) (Nat.le_of_ble_eq_true rfl) (Nat.le_of_ble_eq_true rfl) ⟨Nat.le_refl _, Nat.le_refl _⟩ hN ?_
  refine xw_if_neZ (pc := 8) (b := v1) (tgt := 15) C dX8_bestPeriod_8 (by decide) (fun q => ?_) (fun q => ?_)
  · replace hm := xif_t q hm
    refine xw_aload_n (pc := 15) (i := 0) (x := x0) C dX8_bestPeriod_15 rfl rfl ?_
    refine xw_iconst (pc := 16) (v := -1) C dX8_bestPeriod_16 xk_i_m1 ?_
    obtain ⟨_, q3, hm⟩ := xbind hm
    obtain ⟨v4, q5, hm⟩ := xbind hm
    refine xw_callV1 (pc := 17) (As := [.int (-1 : Int32)]) (st := []) C dX8_bestPeriod_17 (wX8_findWithout q5) dd_X8_findWithout lk_X8_203 dv_X8_findWithout (xco_spec q3) rfl (Nat.le_of_ble_eq_true rfl) (Nat.le_of_ble_eq_true rfl) (Nat.le_of_ble_eq_true rfl) ⟨Nat.le_refl _, Nat.le_refl _⟩ hN ?_
    refine xw_astore_n (pc := 20) (i := 3) (x := v4.1) (L' := [some (.ref x0), some (.int x1), some (.int (xbi x2)), some (.ref v4.1), none, none, none, none]) C dX8_bestPeriod_20 rfl (Nat.le_of_ble_eq_true rfl) rfl ?_
    refine xw_aload_n (pc := 21) (i := 3) (x := v4.1) C dX8_bestPeriod_21 rfl rfl ?_
    obtain ⟨_, q6, hm⟩ := xbind hm
    obtain ⟨v7, q8, hm⟩ := xbind hm
    refine xw_callV1 (pc := 22) (As := []) (st := []) C dX8_bestPeriod_22 (wX0_number q8) dd_X0_number lk_X8_207 dv_X0_number (xco_spec q6) rfl (Nat.le_of_ble_eq_true rfl) (Nat.le_of_ble_eq_true rfl) (Nat.le_of_ble_eq_true rfl) ⟨Nat.le_refl _, Nat.le_refl _⟩ hN ?_
    refine xw_if_ne (pc := 25) (tgt := 32) C dX8_bestPeriod_25 (by decide) (fun q => ?_) (fun q => ?_)
    · replace hm := xif_f q hm
      refine xw_aload_n (pc := 32) (i := 3) (x := v4.1) C dX8_bestPeriod_32 rfl rfl ?_
      obtain ⟨_, q9, hm⟩ := xbind hm
      obtain ⟨h10, q11, hm⟩ := xbind hm
      refine xw_callV0 (pc := 33) (As := []) (st := []) C dX8_bestPeriod_33 (wX0_countByRemainder q11) dd_X0_countByRemainder lk_X8_220 dv_X0_countByRemainder (xco_spec q9) rfl (Nat.le_of_ble_eq_true rfl) (Nat.le_of_ble_eq_true rfl) (Nat.le_of_ble_eq_true rfl) ⟨Nat.le_refl _, Nat.le_refl _⟩ hN ?_
      refine xw_iconst (pc := 36) (v := 1) C dX8_bestPeriod_36 xk_i_1 ?_
      refine xw_istore (pc := 37) (i := 4) (x := (1 : Int32)) (L' := [some (.ref x0), some (.int x1), some (.int (xbi x2)), some (.ref v4.1), some (.int (1 : Int32)), none, none, none]) C dX8_bestPeriod_37 (Nat.le_of_ble_eq_true rfl) rfl ?_
      refine xw_aload_n (pc := 39) (i := 3) (x := v4.1) C dX8_bestPeriod_39 rfl rfl ?_
      refine xw_iconst (pc := 40) (v := 1) C dX8_bestPeriod_40 xk_i_1 ?_
      obtain ⟨_, q12, hm⟩ := xbind hm
      obtain ⟨v13, q14, hm⟩ := xbind hm
      refine xw_callV1 (pc := 41) (As := [.int (1 : Int32)]) (st := []) C dX8_bestPeriod_41 (wX0_restOf q14) dd_X0_restOf lk_X8_223 dv_X0_restOf (xco_spec q12) rfl (Nat.le_of_ble_eq_true rfl) (Nat.le_of_ble_eq_true rfl) (Nat.le_of_ble_eq_true rfl) ⟨Nat.le_refl _, Nat.le_refl _⟩ hN ?_
      refine xw_istore (pc := 44) (i := 5) (x := v13.1) (L' := [some (.ref x0), some (.int x1), some (.int (xbi x2)), some (.ref v4.1), some (.int (1 : Int32)), some (.int v13.1), none, none]) C dX8_bestPeriod_44 (Nat.le_of_ble_eq_true rfl) rfl ?_
      refine xw_iconst (pc := 46) (v := 2) C dX8_bestPeriod_46 xk_i_2 ?_
      refine xw_istore (pc := 47) (i := 6) (x := (2 : Int32)) (L' := [some (.ref x0), some (.int x1), some (.int (xbi x2)), some (.ref v4.1), some (.int (1 : Int32)), some (.int v13.1), some (.int (2 : Int32)), none]) C dX8_bestPeriod_47 (Nat.le_of_ble_eq_true rfl) rfl ?_
      obtain ⟨e18, q19, hm⟩ := xbind hm
      refine xw_sub (pc := 49) [none, some (.int x1), some (.int (xbi x2)), some (.ref v4.1), some (.int (1 : Int32)), some (.int v13.1), some (.int (2 : Int32)), none] ⟨Or.inl rfl, Or.inr rfl, Or.inr rfl, Or.inr rfl, Or.inr rfl, Or.inr rfl, Or.inr rfl, Or.inl rfl, trivial⟩ ?_
      refine xloop_walk (fX8_bestPeriod_B49 x1 x2 v4.1) (fX8_bestPeriod_P49 X x1 x2 v4.1 n sl) (fX8_bestPeriod_E49 X x1 x2 v4.1 n sl) (fun s' o' => fX8_bestPeriod_B49_w C hN s' o') 5000 (v13.2, (1 : Int32), v13.1, (2 : Int32)) e18 q19 ?_
      show XW X 84 [none, none, some (.int (xbi x2)), none, some (.int e18.2.1), some (.int e18.2.2), none, none] [] e18.1 n sl
      refine xw_iload_n (pc := 84) (i := 2) (x := (xbi x2)) C dX8_bestPeriod_84 rfl rfl ?_
      refine xw_if_eqZ (pc := 85) (b := x2) (tgt := 93) C dX8_bestPeriod_85 (by decide) (fun q => ?_) (fun q => ?_)
      · replace hm := xif_f q hm
        refine xw_iload (pc := 93) (i := 4) (x := e18.2.1) C dX8_bestPeriod_93 rfl ?_
        obtain rfl := Option.some.inj hm
        exact xw_ireturn (pc := 95) C dX8_bestPeriod_95 rfl hX
      · replace hm := xif_t q hm
        refine xw_iload (pc := 88) (i := 5) (x := e18.2.2) C dX8_bestPeriod_88 rfl ?_
        refine xw_goto (pc := 90) (tgt := 95) C dX8_bestPeriod_90 (by decide) ?_
        obtain rfl := Option.some.inj hm
        exact xw_ireturn (pc := 95) C dX8_bestPeriod_95 rfl hX
    · replace hm := xif_t q hm
      refine xw_sipush (pc := 28) (v := -1004) C dX8_bestPeriod_28 xk_s_m1004 ?_
      obtain rfl := Option.some.inj hm
      exact xw_ireturn (pc := 31) C dX8_bestPeriod_31 rfl hX
  · replace hm := xif_f q hm
    refine xw_sipush (pc := 11) (v := -1001) C dX8_bestPeriod_11 xk_s_m1001 ?_
    obtain rfl := Option.some.inj hm
    exact xw_ireturn (pc := 14) C dX8_bestPeriod_14 rfl hX
set_option maxHeartbeats 4000000 in
set_option maxRecDepth 100000 in
theorem wX8_candidate {l : Launch} {n sl : Nat} {h : XH} {x0 : Nat} {x1 : Int32} {o : Int32 × XH} (hm : fX8_candidate h x0 x1 = some o) : XM l yX8_candidate cX8_candidate 2 (some .int) 4 91 [.ref x0, .int x1] h n sl (some (.int o.1)) o.2 n sl := by
  refine xm_of pnX8 [some (.ref x0), some (.int x1)] 0 rfl (Nat.le_of_ble_eq_true rfl) ?_
  intro X hT C
  replace C : XOK X RX8 cX8_candidate 2 "candidate" (some .int) 4 91 := C
  obtain ⟨-, hN, hX⟩ := hT
  unfold fX8_candidate at hm
  refine xw_iload_n (pc := 0) (i := 1) (x := x1) C dX8_candidate_0 rfl rfl ?_
  refine xw_if_ge (pc := 1) (tgt := 8) C dX8_candidate_1 (by decide) (fun q => ?_) (fun q => ?_)
  · replace hm := xif_t q hm
    refine xw_aload_n (pc := 8) (i := 0) (x := x0) C dX8_candidate_8 rfl rfl ?_
    refine xw_iconst (pc := 9) (v := -1) C dX8_candidate_9 xk_i_m1 ?_
    obtain ⟨_, q1, hm⟩ := xbind hm
    obtain ⟨v2, q3, hm⟩ := xbind hm
    refine xw_callV1 (pc := 10) (As := [.int (-1 : Int32)]) (st := []) C dX8_candidate_10 (wX8_findWithout q3) dd_X8_findWithout lk_X8_203 dv_X8_findWithout (xco_spec q1) rfl (Nat.le_of_ble_eq_true rfl) (Nat.le_of_ble_eq_true rfl) (Nat.le_of_ble_eq_true rfl) ⟨Nat.le_refl _, Nat.le_refl _⟩ hN ?_
    refine xw_iload_n (pc := 13) (i := 1) (x := x1) C dX8_candidate_13 rfl rfl ?_
    obtain ⟨_, q4, hm⟩ := xbind hm
    obtain ⟨v5, q6, hm⟩ := xbind hm
    refine xw_callV1 (pc := 14) (As := [.int x1]) (st := []) C dX8_candidate_14 (wX0_inOrder q6) dd_X0_inOrder lk_X8_211 dv_X0_inOrder (xco_spec q4) rfl (Nat.le_of_ble_eq_true rfl) (Nat.le_of_ble_eq_true rfl) (Nat.le_of_ble_eq_true rfl) ⟨Nat.le_refl _, Nat.le_refl _⟩ hN ?_
    obtain rfl := Option.some.inj hm
    exact xw_ireturn (pc := 17) C dX8_candidate_17 rfl hX
  · replace hm := xif_f q hm
    refine xw_sipush (pc := 4) (v := -1001) C dX8_candidate_4 xk_s_m1001 ?_
    obtain rfl := Option.some.inj hm
    exact xw_ireturn (pc := 7) C dX8_candidate_7 rfl hX
set_option maxHeartbeats 4000000 in
set_option maxRecDepth 100000 in
theorem wX8_candidates {l : Launch} {n sl : Nat} {h : XH} {x0 : Nat} {o : Int32 × XH} (hm : fX8_candidates h x0 = some o) : XM l yX8_candidates cX8_candidates 1 (some .int) 4 91 [.ref x0] h n sl (some (.int o.1)) o.2 n sl := by
  refine xm_of pnX8 [some (.ref x0)] 0 rfl (Nat.le_of_ble_eq_true rfl) ?_
  intro X hT C
  replace C : XOK X RX8 cX8_candidates 1 "candidates" (some .int) 4 91 := C
  obtain ⟨-, hN, hX⟩ := hT
  unfold fX8_candidates at hm
  refine xw_aload_n (pc := 0) (i := 0) (x := x0) C dX8_candidates_0 rfl rfl ?_
  refine xw_iconst (pc := 1) (v := -1) C dX8_candidates_1 xk_i_m1 ?_
  obtain ⟨_, q1, hm⟩ := xbind hm
  obtain ⟨v2, q3, hm⟩ := xbind hm
  refine xw_callV1 (pc := 2) (As := [.int (-1 : Int32)]) (st := []) C dX8_candidates_2 (wX8_findWithout q3) dd_X8_findWithout lk_X8_203 dv_X8_findWithout (xco_spec q1) rfl (Nat.le_of_ble_eq_true rfl) (Nat.le_of_ble_eq_true rfl) (Nat.le_of_ble_eq_true rfl) ⟨Nat.le_refl _, Nat.le_refl _⟩ hN ?_
  obtain ⟨_, q4, hm⟩ := xbind hm
  obtain ⟨v5, q6, hm⟩ := xbind hm
  refine xw_callV1 (pc := 5) (As := []) (st := []) C dX8_candidates_5 (wX0_number q6) dd_X0_number lk_X8_207 dv_X0_number (xco_spec q4) rfl (Nat.le_of_ble_eq_true rfl) (Nat.le_of_ble_eq_true rfl) (Nat.le_of_ble_eq_true rfl) ⟨Nat.le_refl _, Nat.le_refl _⟩ hN ?_
  obtain rfl := Option.some.inj hm
  exact xw_ireturn (pc := 8) C dX8_candidates_8 rfl hX
set_option maxHeartbeats 4000000 in
set_option maxRecDepth 100000 in
theorem wX8_clearText {l : Launch} {n sl : Nat} {h : XH} {x0 : Nat} {o : Int32 × XH} (hm : fX8_clearText h x0 = some o) : XM l yX8_clearText cX8_clearText 2 (some .int) 0 0 [.ref x0] h n sl (some (.int o.1)) o.2 n sl := by
  refine xm_of pnX8 [some (.ref x0), none] 1 rfl (Nat.le_of_ble_eq_true rfl) ?_
  intro X hT C
  replace C : XOK X RX8 cX8_clearText 2 "clearText" (some .int) 0 0 := C
  obtain ⟨-, hN, hX⟩ := hT
  unfold fX8_clearText at hm
  refine xw_aload_n (pc := 0) (i := 0) (x := x0) C dX8_clearText_0 rfl rfl ?_
  obtain ⟨v1, q2, hm⟩ := xbind hm
  refine xw_getR (pc := 1) C dX8_clearText_1 fl_X8_26 q2 ?_
  obtain ⟨v3, q4, hm⟩ := xbind hm
  refine xw_getI (pc := 4) C dX8_clearText_4 fl_X8_48 q4 ?_
  refine xw_istore_n (pc := 7) (i := 1) (x := v3) (L' := [some (.ref x0), some (.int v3)]) C dX8_clearText_7 rfl (Nat.le_of_ble_eq_true rfl) rfl ?_
  refine xw_aload_n (pc := 8) (i := 0) (x := x0) C dX8_clearText_8 rfl rfl ?_
  obtain ⟨v5, q6, hm⟩ := xbind hm
  refine xw_getR (pc := 9) C dX8_clearText_9 fl_X8_26 q6 ?_
  refine xw_iconst (pc := 12) (v := 0) C dX8_clearText_12 xk_i_0 ?_
  obtain ⟨h7, q8, hm⟩ := xbind hm
  refine xw_put (pc := 13) C dX8_clearText_13 fl_X8_48 q8 (fun _ => rfl) (fun _ => rfl) ?_
  refine xw_iload_n (pc := 16) (i := 1) (x := v3) C dX8_clearText_16 rfl rfl ?_
  obtain rfl := Option.some.inj hm
  exact xw_ireturn (pc := 17) C dX8_clearText_17 rfl hX
set_option maxHeartbeats 4000000 in
set_option maxRecDepth 100000 in
theorem wX8_count {l : Launch} {n sl : Nat} {h : XH} {x0 : Nat} {x1 : Int32} {o : Int32} (hm : fX8_count h x0 x1 = some o) : XM l yX8_count cX8_count 2 (some .int) 4 86 [.ref x0, .int x1] h n sl (some (.int o)) h n sl := by
  refine xm_of pnX8 [some (.ref x0), some (.int x1)] 0 rfl (Nat.le_of_ble_eq_true rfl) ?_
  intro X hT C
  replace C : XOK X RX8 cX8_count 2 "count" (some .int) 4 86 := C
  obtain ⟨-, hN, hX⟩ := hT
  unfold fX8_count at hm
  refine xw_iload_n (pc := 0) (i := 1) (x := x1) C dX8_count_0 rfl rfl ?_
  by_cases q1 : x1 = 0
  · replace hm := xif_t q1 hm
    refine xw_tabIn (pc := 1) (v := 0) (off := 87) (tgt := 88) C dX8_count_1 q1 (by decide) (by decide) (by decide) (by decide) ?_
    refine xw_aload_n (pc := 88) (i := 0) (x := x0) C dX8_count_88 rfl rfl ?_
    obtain ⟨v19, q20, hm⟩ := xbind hm
    refine xw_getR (pc := 89) C dX8_count_89 fl_X8_10 q20 ?_
    obtain ⟨v21, q22, hm⟩ := xbind hm
    refine xw_getR (pc := 92) C dX8_count_92 fl_X8_67 q22 ?_
    obtain ⟨v23, q24, hm⟩ := xbind hm
    refine xw_getI (pc := 95) C dX8_count_95 fl_X8_74 q24 ?_
    obtain rfl := Option.some.inj hm
    exact xw_ireturn (pc := 98) C dX8_count_98 rfl hX
  · replace hm := xif_f q1 hm
    by_cases q2 : x1 = 1
    · replace hm := xif_t q2 hm
      refine xw_tabIn (pc := 1) (v := 1) (off := 98) (tgt := 99) C dX8_count_1 q2 (by decide) (by decide) (by decide) (by decide) ?_
      refine xw_aload_n (pc := 99) (i := 0) (x := x0) C dX8_count_99 rfl rfl ?_
      obtain ⟨v25, q26, hm⟩ := xbind hm
      refine xw_getR (pc := 100) C dX8_count_100 fl_X8_10 q26 ?_
      obtain ⟨v27, q28, hm⟩ := xbind hm
      refine xw_getR (pc := 103) C dX8_count_103 fl_X8_67 q28 ?_
      obtain ⟨_, q29, hm⟩ := xbind hm
      obtain ⟨v30, q31, hm⟩ := xbind hm
      refine xw_callV1 (pc := 106) (As := []) (st := []) C dX8_count_106 (wX6_markedCells q31) dd_X6_markedCells lk_X8_271 dv_X6_markedCells (xco_spec q29) rfl (Nat.le_of_ble_eq_true rfl) (Nat.le_of_ble_eq_true rfl) (Nat.le_of_ble_eq_true rfl) ⟨Nat.le_refl _, Nat.le_refl _⟩ hN ?_
      obtain rfl := Option.some.inj hm
      exact xw_ireturn (pc := 109) C dX8_count_109 rfl hX
    · replace hm := xif_f q2 hm
      by_cases q3 : x1 = 2
      · replace hm := xif_t q3 hm
        refine xw_tabIn (pc := 1) (v := 2) (off := 109) (tgt := 110) C dX8_count_1 q3 (by decide) (by decide) (by decide) (by decide) ?_
        refine xw_aload_n (pc := 110) (i := 0) (x := x0) C dX8_count_110 rfl rfl ?_
        obtain ⟨v32, q33, hm⟩ := xbind hm
        refine xw_getR (pc := 111) C dX8_count_111 fl_X8_10 q33 ?_
        obtain ⟨v34, q35, hm⟩ := xbind hm
        refine xw_getR (pc := 114) C dX8_count_114 fl_X8_67 q35 ?_
        obtain ⟨_, q36, hm⟩ := xbind hm
        obtain ⟨v37, q38, hm⟩ := xbind hm
        refine xw_callV1 (pc := 117) (As := []) (st := []) C dX8_count_117 (wX6_measure q38) dd_X6_measure lk_X8_156 dv_X6_measure (xco_spec q36) rfl (Nat.le_of_ble_eq_true rfl) (Nat.le_of_ble_eq_true rfl) (Nat.le_of_ble_eq_true rfl) ⟨Nat.le_refl _, Nat.le_refl _⟩ hN ?_
        obtain rfl := Option.some.inj hm
        exact xw_ireturn (pc := 120) C dX8_count_120 rfl hX
      · replace hm := xif_f q3 hm
        by_cases q4 : x1 = 3
        · replace hm := xif_t q4 hm
          refine xw_tabIn (pc := 1) (v := 3) (off := 120) (tgt := 121) C dX8_count_1 q4 (by decide) (by decide) (by decide) (by decide) ?_
          refine xw_aload_n (pc := 121) (i := 0) (x := x0) C dX8_count_121 rfl rfl ?_
          obtain ⟨v39, q40, hm⟩ := xbind hm
          refine xw_getR (pc := 122) C dX8_count_122 fl_X8_10 q40 ?_
          obtain ⟨v41, q42, hm⟩ := xbind hm
          refine xw_getR (pc := 125) C dX8_count_125 fl_X8_67 q42 ?_
          obtain ⟨v43, q44, hm⟩ := xbind hm
          refine xw_getI (pc := 128) C dX8_count_128 fl_X8_96 q44 ?_
          obtain rfl := Option.some.inj hm
          exact xw_ireturn (pc := 131) C dX8_count_131 rfl hX
        · replace hm := xif_f q4 hm
          by_cases q5 : x1 = 4
          · replace hm := xif_t q5 hm
            refine xw_tabIn (pc := 1) (v := 4) (off := 131) (tgt := 132) C dX8_count_1 q5 (by decide) (by decide) (by decide) (by decide) ?_
            refine xw_aload_n (pc := 132) (i := 0) (x := x0) C dX8_count_132 rfl rfl ?_
            obtain ⟨v45, q46, hm⟩ := xbind hm
            refine xw_getR (pc := 133) C dX8_count_133 fl_X8_10 q46 ?_
            obtain ⟨v47, q48, hm⟩ := xbind hm
            refine xw_getR (pc := 136) C dX8_count_136 fl_X8_67 q48 ?_
            obtain ⟨v49, q50, hm⟩ := xbind hm
            refine xw_getI (pc := 139) C dX8_count_139 fl_X8_169 q50 ?_
            obtain rfl := Option.some.inj hm
            exact xw_ireturn (pc := 142) C dX8_count_142 rfl hX
          · replace hm := xif_f q5 hm
            by_cases q6 : x1 = 5
            · replace hm := xif_t q6 hm
              refine xw_tabIn (pc := 1) (v := 5) (off := 142) (tgt := 143) C dX8_count_1 q6 (by decide) (by decide) (by decide) (by decide) ?_
              refine xw_aload_n (pc := 143) (i := 0) (x := x0) C dX8_count_143 rfl rfl ?_
              obtain ⟨v51, q52, hm⟩ := xbind hm
              refine xw_getR (pc := 144) C dX8_count_144 fl_X8_10 q52 ?_
              obtain ⟨v53, q54, hm⟩ := xbind hm
              refine xw_getR (pc := 147) C dX8_count_147 fl_X8_67 q54 ?_
              obtain ⟨v55, q56, hm⟩ := xbind hm
              refine xw_getI (pc := 150) C dX8_count_150 fl_X8_109 q56 ?_
              obtain rfl := Option.some.inj hm
              exact xw_ireturn (pc := 153) C dX8_count_153 rfl hX
            · replace hm := xif_f q6 hm
              by_cases q7 : x1 = 6
              · replace hm := xif_t q7 hm
                refine xw_tabIn (pc := 1) (v := 6) (off := 153) (tgt := 154) C dX8_count_1 q7 (by decide) (by decide) (by decide) (by decide) ?_
                refine xw_aload_n (pc := 154) (i := 0) (x := x0) C dX8_count_154 rfl rfl ?_
                obtain ⟨v57, q58, hm⟩ := xbind hm
                refine xw_getR (pc := 155) C dX8_count_155 fl_X8_10 q58 ?_
                obtain ⟨v59, q60, hm⟩ := xbind hm
                refine xw_getR (pc := 158) C dX8_count_158 fl_X8_125 q60 ?_
                obtain ⟨v61, q62, hm⟩ := xbind hm
                refine xw_getI (pc := 161) C dX8_count_161 fl_X8_129 q62 ?_
                obtain rfl := Option.some.inj hm
                exact xw_ireturn (pc := 164) C dX8_count_164 rfl hX
              · replace hm := xif_f q7 hm
                by_cases q8 : x1 = 7
                · replace hm := xif_t q8 hm
                  refine xw_tabIn (pc := 1) (v := 7) (off := 164) (tgt := 165) C dX8_count_1 q8 (by decide) (by decide) (by decide) (by decide) ?_
                  refine xw_aload_n (pc := 165) (i := 0) (x := x0) C dX8_count_165 rfl rfl ?_
                  obtain ⟨v63, q64, hm⟩ := xbind hm
                  refine xw_getR (pc := 166) C dX8_count_166 fl_X8_10 q64 ?_
                  obtain ⟨v65, q66, hm⟩ := xbind hm
                  refine xw_getR (pc := 169) C dX8_count_169 fl_X8_125 q66 ?_
                  obtain ⟨v67, q68, hm⟩ := xbind hm
                  refine xw_getI (pc := 172) C dX8_count_172 fl_X8_134 q68 ?_
                  obtain rfl := Option.some.inj hm
                  exact xw_ireturn (pc := 175) C dX8_count_175 rfl hX
                · replace hm := xif_f q8 hm
                  by_cases q9 : x1 = 8
                  · replace hm := xif_t q9 hm
                    refine xw_tabIn (pc := 1) (v := 8) (off := 175) (tgt := 176) C dX8_count_1 q9 (by decide) (by decide) (by decide) (by decide) ?_
                    refine xw_aload_n (pc := 176) (i := 0) (x := x0) C dX8_count_176 rfl rfl ?_
                    obtain ⟨v69, q70, hm⟩ := xbind hm
                    refine xw_getR (pc := 177) C dX8_count_177 fl_X8_10 q70 ?_
                    obtain ⟨v71, q72, hm⟩ := xbind hm
                    refine xw_getR (pc := 180) C dX8_count_180 fl_X8_125 q72 ?_
                    obtain ⟨_, q73, hm⟩ := xbind hm
                    obtain ⟨v74, q75, hm⟩ := xbind hm
                    refine xw_callV1 (pc := 183) (As := []) (st := []) C dX8_count_183 (wX2_number q75) dd_X2_number lk_X8_137 dv_X2_number (xco_spec q73) rfl (Nat.le_of_ble_eq_true rfl) (Nat.le_of_ble_eq_true rfl) (Nat.le_of_ble_eq_true rfl) ⟨Nat.le_refl _, Nat.le_refl _⟩ hN ?_
                    obtain rfl := Option.some.inj hm
                    exact xw_ireturn (pc := 186) C dX8_count_186 rfl hX
                  · replace hm := xif_f q9 hm
                    by_cases q10 : x1 = 9
                    · replace hm := xif_t q10 hm
                      refine xw_tabIn (pc := 1) (v := 9) (off := 186) (tgt := 187) C dX8_count_1 q10 (by decide) (by decide) (by decide) (by decide) ?_
                      refine xw_aload_n (pc := 187) (i := 0) (x := x0) C dX8_count_187 rfl rfl ?_
                      obtain ⟨v76, q77, hm⟩ := xbind hm
                      refine xw_getR (pc := 188) C dX8_count_188 fl_X8_10 q77 ?_
                      obtain ⟨v78, q79, hm⟩ := xbind hm
                      refine xw_getR (pc := 191) C dX8_count_191 fl_X8_181 q79 ?_
                      obtain ⟨v80, q81, hm⟩ := xbind hm
                      refine xw_getI (pc := 194) C dX8_count_194 fl_X8_190 q81 ?_
                      obtain rfl := Option.some.inj hm
                      exact xw_ireturn (pc := 197) C dX8_count_197 rfl hX
                    · replace hm := xif_f q10 hm
                      by_cases q11 : x1 = 10
                      · replace hm := xif_t q11 hm
                        refine xw_tabIn (pc := 1) (v := 10) (off := 197) (tgt := 198) C dX8_count_1 q11 (by decide) (by decide) (by decide) (by decide) ?_
                        refine xw_aload_n (pc := 198) (i := 0) (x := x0) C dX8_count_198 rfl rfl ?_
                        obtain ⟨v82, q83, hm⟩ := xbind hm
                        refine xw_getR (pc := 199) C dX8_count_199 fl_X8_10 q83 ?_
                        obtain ⟨v84, q85, hm⟩ := xbind hm
                        refine xw_getR (pc := 202) C dX8_count_202 fl_X8_181 q85 ?_
                        obtain ⟨v86, q87, hm⟩ := xbind hm
                        refine xw_getI (pc := 205) C dX8_count_205 fl_X8_208 q87 ?_
                        obtain rfl := Option.some.inj hm
                        exact xw_ireturn (pc := 208) C dX8_count_208 rfl hX
                      · replace hm := xif_f q11 hm
                        by_cases q12 : x1 = 11
                        · replace hm := xif_t q12 hm
                          refine xw_tabIn (pc := 1) (v := 11) (off := 208) (tgt := 209) C dX8_count_1 q12 (by decide) (by decide) (by decide) (by decide) ?_
                          refine xw_aload_n (pc := 209) (i := 0) (x := x0) C dX8_count_209 rfl rfl ?_
                          obtain ⟨v88, q89, hm⟩ := xbind hm
                          refine xw_getR (pc := 210) C dX8_count_210 fl_X8_10 q89 ?_
                          obtain ⟨v90, q91, hm⟩ := xbind hm
                          refine xw_getR (pc := 213) C dX8_count_213 fl_X8_226 q91 ?_
                          obtain ⟨v92, q93, hm⟩ := xbind hm
                          refine xw_getI (pc := 216) C dX8_count_216 fl_X8_230 q93 ?_
                          obtain rfl := Option.some.inj hm
                          exact xw_ireturn (pc := 219) C dX8_count_219 rfl hX
                        · replace hm := xif_f q12 hm
                          by_cases q13 : x1 = 12
                          · replace hm := xif_t q13 hm
                            refine xw_tabIn (pc := 1) (v := 12) (off := 219) (tgt := 220) C dX8_count_1 q13 (by decide) (by decide) (by decide) (by decide) ?_
                            refine xw_aload_n (pc := 220) (i := 0) (x := x0) C dX8_count_220 rfl rfl ?_
                            obtain ⟨v94, q95, hm⟩ := xbind hm
                            refine xw_getR (pc := 221) C dX8_count_221 fl_X8_10 q95 ?_
                            obtain ⟨v96, q97, hm⟩ := xbind hm
                            refine xw_getR (pc := 224) C dX8_count_224 fl_X8_226 q97 ?_
                            obtain ⟨v98, q99, hm⟩ := xbind hm
                            refine xw_getI (pc := 227) C dX8_count_227 fl_X8_233 q99 ?_
                            obtain rfl := Option.some.inj hm
                            exact xw_ireturn (pc := 230) C dX8_count_230 rfl hX
                          · replace hm := xif_f q13 hm
                            by_cases q14 : x1 = 13
                            · replace hm := xif_t q14 hm
                              refine xw_tabIn (pc := 1) (v := 13) (off := 230) (tgt := 231) C dX8_count_1 q14 (by decide) (by decide) (by decide) (by decide) ?_
                              refine xw_aload_n (pc := 231) (i := 0) (x := x0) C dX8_count_231 rfl rfl ?_
                              obtain ⟨v100, q101, hm⟩ := xbind hm
                              refine xw_getR (pc := 232) C dX8_count_232 fl_X8_10 q101 ?_
                              obtain ⟨v102, q103, hm⟩ := xbind hm
                              refine xw_getR (pc := 235) C dX8_count_235 fl_X8_226 q103 ?_
                              obtain ⟨v104, q105, hm⟩ := xbind hm
                              refine xw_getI (pc := 238) C dX8_count_238 fl_X8_242 q105 ?_
                              obtain rfl := Option.some.inj hm
                              exact xw_ireturn (pc := 241) C dX8_count_241 rfl hX
                            · replace hm := xif_f q14 hm
                              by_cases q15 : x1 = 14
                              · replace hm := xif_t q15 hm
                                refine xw_tabIn (pc := 1) (v := 14) (off := 241) (tgt := 242) C dX8_count_1 q15 (by decide) (by decide) (by decide) (by decide) ?_
                                refine xw_aload_n (pc := 242) (i := 0) (x := x0) C dX8_count_242 rfl rfl ?_
                                obtain ⟨v106, q107, hm⟩ := xbind hm
                                refine xw_getR (pc := 243) C dX8_count_243 fl_X8_10 q107 ?_
                                obtain ⟨v108, q109, hm⟩ := xbind hm
                                refine xw_getR (pc := 246) C dX8_count_246 fl_X8_226 q109 ?_
                                obtain ⟨v110, q111, hm⟩ := xbind hm
                                refine xw_getI (pc := 249) C dX8_count_249 fl_X8_241 q111 ?_
                                obtain rfl := Option.some.inj hm
                                exact xw_ireturn (pc := 252) C dX8_count_252 rfl hX
                              · replace hm := xif_f q15 hm
                                by_cases q16 : x1 = 15
                                · replace hm := xif_t q16 hm
                                  refine xw_tabIn (pc := 1) (v := 15) (off := 252) (tgt := 253) C dX8_count_1 q16 (by decide) (by decide) (by decide) (by decide) ?_
                                  refine xw_aload_n (pc := 253) (i := 0) (x := x0) C dX8_count_253 rfl rfl ?_
                                  obtain ⟨v112, q113, hm⟩ := xbind hm
                                  refine xw_getR (pc := 254) C dX8_count_254 fl_X8_10 q113 ?_
                                  obtain ⟨v114, q115, hm⟩ := xbind hm
                                  refine xw_getR (pc := 257) C dX8_count_257 fl_X8_226 q115 ?_
                                  obtain ⟨_, q116, hm⟩ := xbind hm
                                  obtain ⟨v117, q118, hm⟩ := xbind hm
                                  refine xw_callV1 (pc := 260) (As := []) (st := []) C dX8_count_260 (wX1_openings q118) dd_X1_openings lk_X8_274 dv_X1_openings (xco_spec q116) rfl (Nat.le_of_ble_eq_true rfl) (Nat.le_of_ble_eq_true rfl) (Nat.le_of_ble_eq_true rfl) ⟨Nat.le_refl _, Nat.le_refl _⟩ hN ?_
                                  obtain rfl := Option.some.inj hm
                                  exact xw_ireturn (pc := 263) C dX8_count_263 rfl hX
                                · replace hm := xif_f q16 hm
                                  by_cases q17 : x1 = 16
                                  · replace hm := xif_t q17 hm
                                    refine xw_tabIn (pc := 1) (v := 16) (off := 263) (tgt := 264) C dX8_count_1 q17 (by decide) (by decide) (by decide) (by decide) ?_
                                    refine xw_aload_n (pc := 264) (i := 0) (x := x0) C dX8_count_264 rfl rfl ?_
                                    obtain ⟨v119, q120, hm⟩ := xbind hm
                                    refine xw_getR (pc := 265) C dX8_count_265 fl_X8_26 q120 ?_
                                    obtain ⟨v121, q122, hm⟩ := xbind hm
                                    refine xw_getI (pc := 268) C dX8_count_268 fl_X8_48 q122 ?_
                                    obtain rfl := Option.some.inj hm
                                    exact xw_ireturn (pc := 271) C dX8_count_271 rfl hX
                                  · replace hm := xif_f q17 hm
                                    by_cases q18 : x1 = 17
                                    · replace hm := xif_t q18 hm
                                      refine xw_tabIn (pc := 1) (v := 17) (off := 271) (tgt := 272) C dX8_count_1 q18 (by decide) (by decide) (by decide) (by decide) ?_
                                      refine xw_aload_n (pc := 272) (i := 0) (x := x0) C dX8_count_272 rfl rfl ?_
                                      obtain ⟨v123, q124, hm⟩ := xbind hm
                                      refine xw_getR (pc := 273) C dX8_count_273 fl_X8_19 q124 ?_
                                      obtain ⟨v125, q126, hm⟩ := xbind hm
                                      refine xw_getI (pc := 276) C dX8_count_276 fl_X8_267 q126 ?_
                                      obtain rfl := Option.some.inj hm
                                      exact xw_ireturn (pc := 279) C dX8_count_279 rfl hX
                                    · replace hm := xif_f q18 hm
                                      refine xw_tabOut (pc := 1) (tgt := 280) C dX8_count_1 (by have := lv_neT q1 (a := 0) (by decide); have := lv_neT q2 (a := 1) (by decide); have := lv_neT q3 (a := 2) (by decide); have := lv_neT q4 (a := 3) (by decide); have := lv_neT q5 (a := 4) (by decide); have := lv_neT q6 (a := 5) (by decide); have := lv_neT q7 (a := 6) (by decide); have := lv_neT q8 (a := 7) (by decide); have := lv_neT q9 (a := 8) (by decide); have := lv_neT q10 (a := 9) (by decide); have := lv_neT q11 (a := 10) (by decide); have := lv_neT q12 (a := 11) (by decide); have := lv_neT q13 (a := 12) (by decide); have := lv_neT q14 (a := 13) (by decide); have := lv_neT q15 (a := 14) (by decide); have := lv_neT q16 (a := 15) (by decide); have := lv_neT q17 (a := 16) (by decide); have := lv_neT q18 (a := 17) (by decide); omega) (by decide) ?_
                                      refine xw_sipush (pc := 280) (v := -1001) C dX8_count_280 xk_s_m1001 ?_
                                      obtain rfl := Option.some.inj hm
                                      exact xw_ireturn (pc := 283) C dX8_count_283 rfl hX
set_option maxHeartbeats 4000000 in
set_option maxRecDepth 100000 in
theorem wX8_opening {l : Launch} {n sl : Nat} {h : XH} {x0 : Nat} {x1 : Int32} {x2 : Int32} {o : Int32} (hm : fX8_opening h x0 x1 x2 = some o) : XM l yX8_opening cX8_opening 5 (some .int) 4 99 [.ref x0, .int x1, .int x2] h n sl (some (.int o)) h n sl := by
  refine xm_of pnX8 [some (.ref x0), some (.int x1), some (.int x2), none, none] 2 rfl (Nat.le_of_ble_eq_true rfl) ?_
  intro X hT C
  replace C : XOK X RX8 cX8_opening 5 "opening" (some .int) 4 99 := C
  obtain ⟨-, hN, hX⟩ := hT
  unfold fX8_opening at hm
  refine xw_iload_n (pc := 0) (i := 1) (x := x1) C dX8_opening_0 rfl rfl ?_
  refine xw_if_lt (pc := 1) (tgt := 13) C dX8_opening_1 (by decide) (fun q => ?_) (fun q => ?_)
  · replace hm := xif_t q hm
    refine xw_sipush (pc := 13) (v := -1001) C dX8_opening_13 xk_s_m1001 ?_
    obtain rfl := Option.some.inj hm
    exact xw_ireturn (pc := 16) C dX8_opening_16 rfl hX
  · replace hm := xif_f q hm
    refine xw_iload_n (pc := 4) (i := 2) (x := x2) C dX8_opening_4 rfl rfl ?_
    refine xw_iconst (pc := 5) (v := 0) C dX8_opening_5 xk_i_0 ?_
    refine xw_iconst (pc := 6) (v := 3) C dX8_opening_6 xk_i_3 ?_
    obtain ⟨v1, q2, hm⟩ := xbind hm
    refine xw_callS1 (pc := 7) (As := [.int x2, .int (0 : Int32), .int (3 : Int32)]) (st := []) C dX8_opening_7 (wX8_within q2) dd_X8_within lk_X8_44 ds_X8_within rfl (Nat.le_of_ble_eq_true rfl) (Nat.le_of_ble_eq_true rfl) (Nat.le_of_ble_eq_true rfl) ⟨Nat.le_refl _, Nat.le_refl _⟩ hN ?_
    refine xw_if_neZ (pc := 10) (b := v1) (tgt := 17) C dX8_opening_10 (by decide) (fun q => ?_) (fun q => ?_)
    · replace hm := xif_t q hm
      refine xw_aload_n (pc := 17) (i := 0) (x := x0) C dX8_opening_17 rfl rfl ?_
      obtain ⟨v3, q4, hm⟩ := xbind hm
      refine xw_getR (pc := 18) C dX8_opening_18 fl_X8_10 q4 ?_
      obtain ⟨v5, q6, hm⟩ := xbind hm
      refine xw_getR (pc := 21) C dX8_opening_21 fl_X8_226 q6 ?_
      refine xw_iload_n (pc := 24) (i := 1) (x := x1) C dX8_opening_24 rfl rfl ?_
      obtain ⟨_, q7, hm⟩ := xbind hm
      obtain ⟨v8, q9, hm⟩ := xbind hm
      refine xw_callV1 (pc := 25) (As := [.int x1]) (st := []) C dX8_opening_25 (wX1_firstTickOf q9) dd_X1_firstTickOf lk_X8_246 dv_X1_firstTickOf (xco_spec q7) rfl (Nat.le_of_ble_eq_true rfl) (Nat.le_of_ble_eq_true rfl) (Nat.le_of_ble_eq_true rfl) ⟨Nat.le_refl _, Nat.le_refl _⟩ hN ?_
      refine xw_istore_n (pc := 28) (i := 3) (x := v8) (L' := [some (.ref x0), some (.int x1), some (.int x2), some (.int v8), none]) C dX8_opening_28 rfl (Nat.le_of_ble_eq_true rfl) rfl ?_
      refine xw_iload_n (pc := 29) (i := 3) (x := v8) C dX8_opening_29 rfl rfl ?_
      refine xw_if_ge (pc := 30) (tgt := 37) C dX8_opening_30 (by decide) (fun q => ?_) (fun q => ?_)
      · replace hm := xif_t q hm
        refine xw_aload_n (pc := 37) (i := 0) (x := x0) C dX8_opening_37 rfl rfl ?_
        obtain ⟨v10, q11, hm⟩ := xbind hm
        refine xw_getR (pc := 38) C dX8_opening_38 fl_X8_10 q11 ?_
        obtain ⟨v12, q13, hm⟩ := xbind hm
        refine xw_getR (pc := 41) C dX8_opening_41 fl_X8_226 q13 ?_
        refine xw_iload_n (pc := 44) (i := 3) (x := v8) C dX8_opening_44 rfl rfl ?_
        obtain ⟨_, q14, hm⟩ := xbind hm
        obtain ⟨v15, q16, hm⟩ := xbind hm
        refine xw_callV1 (pc := 45) (As := [.int v8]) (st := []) C dX8_opening_45 (wX1_ticksFrom q16) dd_X1_ticksFrom lk_X8_249 dv_X1_ticksFrom (xco_spec q14) rfl (Nat.le_of_ble_eq_true rfl) (Nat.le_of_ble_eq_true rfl) (Nat.le_of_ble_eq_true rfl) ⟨Nat.le_refl _, Nat.le_refl _⟩ hN ?_
        refine xw_istore (pc := 48) (i := 4) (x := v15) (L' := [some (.ref x0), some (.int x1), some (.int x2), some (.int v8), some (.int v15)]) C dX8_opening_48 (Nat.le_of_ble_eq_true rfl) rfl ?_
        refine xw_iload_n (pc := 50) (i := 2) (x := x2) C dX8_opening_50 rfl rfl ?_
        by_cases q17 : x2 = 0
        · replace hm := xif_t q17 hm
          refine xw_tabIn (pc := 51) (v := 0) (off := 25) (tgt := 76) C dX8_opening_51 q17 (by decide) (by decide) (by decide) (by decide) ?_
          refine xw_iload_n (pc := 76) (i := 3) (x := v8) C dX8_opening_76 rfl rfl ?_
          obtain rfl := Option.some.inj hm
          exact xw_ireturn (pc := 77) C dX8_opening_77 rfl hX
        · replace hm := xif_f q17 hm
          by_cases q18 : x2 = 1
          · replace hm := xif_t q18 hm
            refine xw_tabIn (pc := 51) (v := 1) (off := 27) (tgt := 78) C dX8_opening_51 q18 (by decide) (by decide) (by decide) (by decide) ?_
            refine xw_iload (pc := 78) (i := 4) (x := v15) C dX8_opening_78 rfl ?_
            obtain rfl := Option.some.inj hm
            exact xw_ireturn (pc := 80) C dX8_opening_80 rfl hX
          · replace hm := xif_f q18 hm
            by_cases q19 : x2 = 2
            · replace hm := xif_t q19 hm
              refine xw_tabIn (pc := 51) (v := 2) (off := 30) (tgt := 81) C dX8_opening_51 q19 (by decide) (by decide) (by decide) (by decide) ?_
              refine xw_aload_n (pc := 81) (i := 0) (x := x0) C dX8_opening_81 rfl rfl ?_
              obtain ⟨v20, q21, hm⟩ := xbind hm
              refine xw_getR (pc := 82) C dX8_opening_82 fl_X8_10 q21 ?_
              obtain ⟨v22, q23, hm⟩ := xbind hm
              refine xw_getR (pc := 85) C dX8_opening_85 fl_X8_67 q23 ?_
              refine xw_iload_n (pc := 88) (i := 3) (x := v8) C dX8_opening_88 rfl rfl ?_
              refine xw_iload (pc := 89) (i := 4) (x := v15) C dX8_opening_89 rfl ?_
              obtain ⟨_, q24, hm⟩ := xbind hm
              obtain ⟨v25, q26, hm⟩ := xbind hm
              refine xw_callV1 (pc := 91) (As := [.int v8, .int v15]) (st := []) C dX8_opening_91 (wX6_smearedPlaces q26) dd_X6_smearedPlaces lk_X8_252 dv_X6_smearedPlaces (xco_spec q24) rfl (Nat.le_of_ble_eq_true rfl) (Nat.le_of_ble_eq_true rfl) (Nat.le_of_ble_eq_true rfl) ⟨Nat.le_refl _, Nat.le_refl _⟩ hN ?_
              obtain rfl := Option.some.inj hm
              exact xw_ireturn (pc := 94) C dX8_opening_94 rfl hX
            · replace hm := xif_f q19 hm
              refine xw_tabOut (pc := 51) (tgt := 95) C dX8_opening_51 (by have := lv_neT q17 (a := 0) (by decide); have := lv_neT q18 (a := 1) (by decide); have := lv_neT q19 (a := 2) (by decide); omega) (by decide) ?_
              refine xw_aload_n (pc := 95) (i := 0) (x := x0) C dX8_opening_95 rfl rfl ?_
              obtain ⟨v27, q28, hm⟩ := xbind hm
              refine xw_getR (pc := 96) C dX8_opening_96 fl_X8_10 q28 ?_
              obtain ⟨v29, q30, hm⟩ := xbind hm
              refine xw_getR (pc := 99) C dX8_opening_99 fl_X8_67 q30 ?_
              refine xw_iload_n (pc := 102) (i := 3) (x := v8) C dX8_opening_102 rfl rfl ?_
              refine xw_iload (pc := 103) (i := 4) (x := v15) C dX8_opening_103 rfl ?_
              obtain ⟨_, q31, hm⟩ := xbind hm
              obtain ⟨v32, q33, hm⟩ := xbind hm
              refine xw_callV1 (pc := 105) (As := [.int v8, .int v15]) (st := []) C dX8_opening_105 (wX6_looksTheSame q33) dd_X6_looksTheSame lk_X8_255 dv_X6_looksTheSame (xco_spec q31) rfl (Nat.le_of_ble_eq_true rfl) (Nat.le_of_ble_eq_true rfl) (Nat.le_of_ble_eq_true rfl) ⟨Nat.le_refl _, Nat.le_refl _⟩ hN ?_
              refine xw_if_eqZ (pc := 108) (b := v32) (tgt := 115) C dX8_opening_108 (by decide) (fun q => ?_) (fun q => ?_)
              · replace hm := xif_f q hm
                refine xw_iconst (pc := 115) (v := 0) C dX8_opening_115 xk_i_0 ?_
                obtain rfl := Option.some.inj hm
                exact xw_ireturn (pc := 116) C dX8_opening_116 rfl hX
              · replace hm := xif_t q hm
                refine xw_iconst (pc := 111) (v := 1) C dX8_opening_111 xk_i_1 ?_
                refine xw_goto (pc := 112) (tgt := 116) C dX8_opening_112 (by decide) ?_
                obtain rfl := Option.some.inj hm
                exact xw_ireturn (pc := 116) C dX8_opening_116 rfl hX
      · replace hm := xif_f q hm
        refine xw_sipush (pc := 33) (v := -1004) C dX8_opening_33 xk_s_m1004 ?_
        obtain rfl := Option.some.inj hm
        exact xw_ireturn (pc := 36) C dX8_opening_36 rfl hX
    · replace hm := xif_f q hm
      refine xw_sipush (pc := 13) (v := -1001) C dX8_opening_13 xk_s_m1001 ?_
      obtain rfl := Option.some.inj hm
      exact xw_ireturn (pc := 16) C dX8_opening_16 rfl hX
set_option maxHeartbeats 4000000 in
set_option maxRecDepth 100000 in
theorem wX8_isPlace {l : Launch} {n sl : Nat} {h : XH} {x0 : Nat} {x1 : Int32} {o : Bool} (hm : fX8_isPlace h x0 x1 = some o) : XM l yX8_isPlace cX8_isPlace 2 (some .boolean) 1 22 [.ref x0, .int x1] h n sl (some (.int (xbi o))) h n sl := by
  refine xm_of pnX8 [some (.ref x0), some (.int x1)] 0 rfl (Nat.le_of_ble_eq_true rfl) ?_
  intro X hT C
  replace C : XOK X RX8 cX8_isPlace 2 "isPlace" (some .boolean) 1 22 := C
  obtain ⟨-, hN, hX⟩ := hT
  unfold fX8_isPlace at hm
  refine xw_iload_n (pc := 0) (i := 1) (x := x1) C dX8_isPlace_0 rfl rfl ?_
  refine xw_iconst (pc := 1) (v := 0) C dX8_isPlace_1 xk_i_0 ?_
  refine xw_aload_n (pc := 2) (i := 0) (x := x0) C dX8_isPlace_2 rfl rfl ?_
  obtain ⟨v1, q2, hm⟩ := xbind hm
  refine xw_getR (pc := 3) C dX8_isPlace_3 fl_X8_10 q2 ?_
  obtain ⟨v3, q4, hm⟩ := xbind hm
  refine xw_getR (pc := 6) C dX8_isPlace_6 fl_X8_67 q4 ?_
  obtain ⟨v5, q6, hm⟩ := xbind hm
  refine xw_getI (pc := 9) C dX8_isPlace_9 fl_X8_74 q6 ?_
  refine xw_iconst (pc := 12) (v := 1) C dX8_isPlace_12 xk_i_1 ?_
  refine xw_isub (pc := 13) C dX8_isPlace_13 ?_
  obtain ⟨v7, q8, hm⟩ := xbind hm
  refine xw_callS1 (pc := 14) (As := [.int x1, .int (0 : Int32), .int (v5 - (1 : Int32))]) (st := []) C dX8_isPlace_14 (wX8_within q8) dd_X8_within lk_X8_44 ds_X8_within rfl (Nat.le_of_ble_eq_true rfl) (Nat.le_of_ble_eq_true rfl) (Nat.le_of_ble_eq_true rfl) ⟨Nat.le_refl _, Nat.le_refl _⟩ hN ?_
  obtain rfl := Option.some.inj hm
  exact xw_zreturn (pc := 17) (v := xbi v7) C dX8_isPlace_17 rfl (xbi_nar _) hX
set_option maxHeartbeats 4000000 in
set_option maxRecDepth 100000 in
theorem wX8_smear {l : Launch} {n sl : Nat} {h : XH} {x0 : Nat} {x1 : Int32} {x2 : Int32} {o : Int32} (hm : fX8_smear h x0 x1 x2 = some o) : XM l yX8_smear cX8_smear 6 (some .int) 4 87 [.ref x0, .int x1, .int x2] h n sl (some (.int o)) h n sl := by
  refine xm_of pnX8 [some (.ref x0), some (.int x1), some (.int x2), none, none, none] 3 rfl (Nat.le_of_ble_eq_true rfl) ?_
  intro X hT C
  replace C : XOK X RX8 cX8_smear 6 "smear" (some .int) 4 87 := C
  obtain ⟨-, hN, hX⟩ := hT
  unfold fX8_smear at hm
  refine xw_iload_n (pc := 0) (i := 1) (x := x1) C dX8_smear_0 rfl rfl ?_
  refine xw_if_lt (pc := 1) (tgt := 12) C dX8_smear_1 (by decide) (fun q => ?_) (fun q => ?_)
  · replace hm := xif_t q hm
    refine xw_sipush (pc := 12) (v := -1001) C dX8_smear_12 xk_s_m1001 ?_
    obtain rfl := Option.some.inj hm
    exact xw_ireturn (pc := 15) C dX8_smear_15 rfl hX
  · replace hm := xif_f q hm
    refine xw_aload_n (pc := 4) (i := 0) (x := x0) C dX8_smear_4 rfl rfl ?_
    refine xw_iload_n (pc := 5) (i := 2) (x := x2) C dX8_smear_5 rfl rfl ?_
    obtain ⟨_, q1, hm⟩ := xbind hm
    obtain ⟨v2, q3, hm⟩ := xbind hm
    refine xw_callV1 (pc := 6) (As := [.int x2]) (st := []) C dX8_smear_6 (wX8_isPlace q3) dd_X8_isPlace lk_X8_80 dv_X8_isPlace (xco_spec q1) rfl (Nat.le_of_ble_eq_true rfl) (Nat.le_of_ble_eq_true rfl) (Nat.le_of_ble_eq_true rfl) ⟨Nat.le_refl _, Nat.le_refl _⟩ hN ?_
    refine xw_if_neZ (pc := 9) (b := v2) (tgt := 16) C dX8_smear_9 (by decide) (fun q => ?_) (fun q => ?_)
    · replace hm := xif_t q hm
      refine xw_aload_n (pc := 16) (i := 0) (x := x0) C dX8_smear_16 rfl rfl ?_
      obtain ⟨v4, q5, hm⟩ := xbind hm
      refine xw_getR (pc := 17) C dX8_smear_17 fl_X8_10 q5 ?_
      obtain ⟨v6, q7, hm⟩ := xbind hm
      refine xw_getR (pc := 20) C dX8_smear_20 fl_X8_226 q7 ?_
      refine xw_iload_n (pc := 23) (i := 1) (x := x1) C dX8_smear_23 rfl rfl ?_
      obtain ⟨_, q8, hm⟩ := xbind hm
      obtain ⟨v9, q10, hm⟩ := xbind hm
      refine xw_callV1 (pc := 24) (As := [.int x1]) (st := []) C dX8_smear_24 (wX1_firstTickOf q10) dd_X1_firstTickOf lk_X8_246 dv_X1_firstTickOf (xco_spec q8) rfl (Nat.le_of_ble_eq_true rfl) (Nat.le_of_ble_eq_true rfl) (Nat.le_of_ble_eq_true rfl) ⟨Nat.le_refl _, Nat.le_refl _⟩ hN ?_
      refine xw_istore_n (pc := 27) (i := 3) (x := v9) (L' := [some (.ref x0), some (.int x1), some (.int x2), some (.int v9), none, none]) C dX8_smear_27 rfl (Nat.le_of_ble_eq_true rfl) rfl ?_
      refine xw_iload_n (pc := 28) (i := 3) (x := v9) C dX8_smear_28 rfl rfl ?_
      refine xw_if_ge (pc := 29) (tgt := 36) C dX8_smear_29 (by decide) (fun q => ?_) (fun q => ?_)
      · replace hm := xif_t q hm
        refine xw_aload_n (pc := 36) (i := 0) (x := x0) C dX8_smear_36 rfl rfl ?_
        obtain ⟨v11, q12, hm⟩ := xbind hm
        refine xw_getR (pc := 37) C dX8_smear_37 fl_X8_10 q12 ?_
        obtain ⟨v13, q14, hm⟩ := xbind hm
        refine xw_getR (pc := 40) C dX8_smear_40 fl_X8_67 q14 ?_
        refine xw_aload_n (pc := 43) (i := 0) (x := x0) C dX8_smear_43 rfl rfl ?_
        obtain ⟨v15, q16, hm⟩ := xbind hm
        refine xw_getR (pc := 44) C dX8_smear_44 fl_X8_10 q16 ?_
        obtain ⟨v17, q18, hm⟩ := xbind hm
        refine xw_getR (pc := 47) C dX8_smear_47 fl_X8_67 q18 ?_
        obtain ⟨v19, q20, hm⟩ := xbind hm
        refine xw_getI (pc := 50) C dX8_smear_50 fl_X8_74 q20 ?_
        refine xw_iload_n (pc := 53) (i := 3) (x := v9) C dX8_smear_53 rfl rfl ?_
        refine xw_aload_n (pc := 54) (i := 0) (x := x0) C dX8_smear_54 rfl rfl ?_
        obtain ⟨v21, q22, hm⟩ := xbind hm
        refine xw_getR (pc := 55) C dX8_smear_55 fl_X8_10 q22 ?_
        obtain ⟨v23, q24, hm⟩ := xbind hm
        refine xw_getR (pc := 58) C dX8_smear_58 fl_X8_226 q24 ?_
        refine xw_iload_n (pc := 61) (i := 3) (x := v9) C dX8_smear_61 rfl rfl ?_
        obtain ⟨_, q25, hm⟩ := xbind hm
        obtain ⟨v26, q27, hm⟩ := xbind hm
        refine xw_callV1 (pc := 62) (As := [.int v9]) (st := [.int v9, .int v19, .ref v13]) C dX8_smear_62 (wX1_ticksFrom q27) dd_X1_ticksFrom lk_X8_249 dv_X1_ticksFrom (xco_spec q25) rfl (Nat.le_of_ble_eq_true rfl) (Nat.le_of_ble_eq_true rfl) (Nat.le_of_ble_eq_true rfl) ⟨Nat.le_refl _, Nat.le_refl _⟩ hN ?_
        refine xw_iconst (pc := 65) (v := 1) C dX8_smear_65 xk_i_1 ?_
        obtain ⟨_, q28, hm⟩ := xbind hm
        obtain ⟨v29, q30, hm⟩ := xbind hm
        refine xw_callV1 (pc := 66) (As := [.int v19, .int v9, .int v26, .int (1 : Int32)]) (st := []) C dX8_smear_66 (wX6_turnsModulo q30) dd_X6_turnsModulo lk_X8_259 dv_X6_turnsModulo (xco_spec q28) rfl (Nat.le_of_ble_eq_true rfl) (Nat.le_of_ble_eq_true rfl) (Nat.le_of_ble_eq_true rfl) ⟨Nat.le_refl _, Nat.le_refl _⟩ hN ?_
        refine xw_lstore (pc := 69) (i := 4) (x := v29) (L' := [some (.ref x0), some (.int x1), some (.int x2), some (.int v9), some (.long v29), none]) C dX8_smear_69 (Nat.le_of_ble_eq_true rfl) rfl ?_
        refine xw_aload_n (pc := 71) (i := 0) (x := x0) C dX8_smear_71 rfl rfl ?_
        obtain ⟨v31, q32, hm⟩ := xbind hm
        refine xw_getR (pc := 72) C dX8_smear_72 fl_X8_10 q32 ?_
        obtain ⟨v33, q34, hm⟩ := xbind hm
        refine xw_getR (pc := 75) C dX8_smear_75 fl_X8_67 q34 ?_
        refine xw_iload_n (pc := 78) (i := 2) (x := x2) C dX8_smear_78 rfl rfl ?_
        refine xw_lload (pc := 79) (i := 4) (x := v29) C dX8_smear_79 rfl ?_
        obtain ⟨_, q35, hm⟩ := xbind hm
        obtain ⟨v36, q37, hm⟩ := xbind hm
        refine xw_callV1 (pc := 81) (As := [.int x2, .long v29]) (st := []) C dX8_smear_81 (wX6_marksPassing q37) dd_X6_marksPassing lk_X8_263 dv_X6_marksPassing (xco_spec q35) rfl (Nat.le_of_ble_eq_true rfl) (Nat.le_of_ble_eq_true rfl) (Nat.le_of_ble_eq_true rfl) ⟨Nat.le_refl _, Nat.le_refl _⟩ hN ?_
        obtain rfl := Option.some.inj hm
        exact xw_ireturn (pc := 84) C dX8_smear_84 rfl hX
      · replace hm := xif_f q hm
        refine xw_sipush (pc := 32) (v := -1004) C dX8_smear_32 xk_s_m1004 ?_
        obtain rfl := Option.some.inj hm
        exact xw_ireturn (pc := 35) C dX8_smear_35 rfl hX
    · replace hm := xif_f q hm
      refine xw_sipush (pc := 12) (v := -1001) C dX8_smear_12 xk_s_m1001 ?_
      obtain rfl := Option.some.inj hm
      exact xw_ireturn (pc := 15) C dX8_smear_15 rfl hX
def fX8_digestOfOpenings_P5 (X : XCtx) (h : XH) (x0 : Nat) (n sl : Nat) (s : (Int64 × Int32)) : Prop := XW X 5 [some (.ref x0), none, none, some (.long s.1), none, some (.int s.2), none] [] h n sl
def fX8_digestOfOpenings_E5 (X : XCtx) (h : XH) (x0 : Nat) (n sl : Nat) (e : Int64) : Prop := XW X 63 [none, none, none, some (.long e), none, none, none] [] h n sl
def fX8_digestOfOpenings_P14 (X : XCtx) (h : XH) (x0 : Nat) (x5 : Int32) (n sl : Nat) (s : (Int64 × Int32)) : Prop := XW X 14 [some (.ref x0), none, none, some (.long s.1), none, some (.int x5), some (.int s.2)] [] h n sl
def fX8_digestOfOpenings_E14 (X : XCtx) (h : XH) (x0 : Nat) (x5 : Int32) (n sl : Nat) (e : Int64) : Prop := XW X 42 [some (.ref x0), none, none, some (.long e), none, some (.int x5), none] [] h n sl
set_option maxHeartbeats 4000000 in
set_option maxRecDepth 100000 in
theorem fX8_digestOfOpenings_B14_w {X : XCtx} (C : XOK X RX8 cX8_digestOfOpenings 7 "digestOfOpenings" (some .long) 5 123) {n sl : Nat} (hN : XN X n sl) {h : XH} {x0 : Nat} {x5 : Int32} (s : (Int64 × Int32)) (o : (Int64 × Int32) ⊕ Int64) (hm : fX8_digestOfOpenings_B14 h x0 x5 s = some o) (hc : ∀ s', o = .inl s' → fX8_digestOfOpenings_P14 X h x0 x5 n sl s') (he : ∀ e', o = .inr e' → fX8_digestOfOpenings_E14 X h x0 x5 n sl e') : fX8_digestOfOpenings_P14 X h x0 x5 n sl s := by
  obtain ⟨x3, x6⟩ := s
  show XW X 14 [some (.ref x0), none, none, some (.long x3), none, some (.int x5), some (.int x6)] [] h n sl
  replace hm : fX8_digestOfOpenings_b14 h x0 x5 x3 x6 = some o := hm
  unfold fX8_digestOfOpenings_b14 at hm
  refine xw_iload (pc := 14) (i := 6) (x := x6) C dX8_digestOfOpenings_14 rfl ?_
  refine xw_iconst (pc := 16) (v := 3) C dX8_digestOfOpenings_16 xk_i_3 ?_
  refine xw_icmp_gt (pc := 17) (tgt := 42) C dX8_digestOfOpenings_17 (by decide) (fun q => ?_) (fun q => ?_)
  · replace hm := xif_t q hm
    obtain rfl := Option.some.inj hm
    refine xw_sub (pc := 42) _ ?_ (he _ rfl)
    exact ⟨Or.inr rfl, Or.inl rfl, Or.inl rfl, Or.inr rfl, Or.inl rfl, Or.inr rfl, Or.inl rfl, trivial⟩
  · replace hm := xif_f q hm
    refine xw_ldc2 (pc := 20) (v := 31) C dX8_digestOfOpenings_20 cn_X8_279 ?_
    refine xw_lload_n (pc := 23) (i := 3) (x := x3) C dX8_digestOfOpenings_23 rfl rfl ?_
    refine xw_lmul (pc := 24) C dX8_digestOfOpenings_24 ?_
    refine xw_aload_n (pc := 25) (i := 0) (x := x0) C dX8_digestOfOpenings_25 rfl rfl ?_
    refine xw_iload (pc := 26) (i := 5) (x := x5) C dX8_digestOfOpenings_26 rfl ?_
    refine xw_iload (pc := 28) (i := 6) (x := x6) C dX8_digestOfOpenings_28 rfl ?_
    obtain ⟨_, q1, hm⟩ := xbind hm
    obtain ⟨v2, q3, hm⟩ := xbind hm
    refine xw_callV1 (pc := 30) (As := [.int x5, .int x6]) (st := [.long ((31 : Int64) * x3)]) C dX8_digestOfOpenings_30 (wX8_opening q3) dd_X8_opening lk_X8_313 dv_X8_opening (xco_spec q1) rfl (Nat.le_of_ble_eq_true rfl) (Nat.le_of_ble_eq_true rfl) (Nat.le_of_ble_eq_true rfl) ⟨Nat.le_refl _, Nat.le_refl _⟩ hN ?_
    refine xw_i2l (pc := 33) C dX8_digestOfOpenings_33 ?_
    refine xw_ladd (pc := 34) C dX8_digestOfOpenings_34 ?_
    obtain ⟨y4, ey4, hm⟩ := xlet_ex hm
    refine xw_topJ ey4 ?_
    refine xw_lstore_n (pc := 35) (i := 3) (x := y4) (L' := [some (.ref x0), none, none, some (.long y4), none, some (.int x5), some (.int x6)]) C dX8_digestOfOpenings_35 rfl (Nat.le_of_ble_eq_true rfl) rfl ?_
    refine xw_iinc (pc := 36) (i := 6) (x := x6) (v := (x6 + (1 : Int32))) (L' := [some (.ref x0), none, none, some (.long y4), none, some (.int x5), some (.int (x6 + (1 : Int32)))]) C dX8_digestOfOpenings_36 rfl (congrArg (HAdd.hAdd _) xk_i_1) (Nat.le_of_ble_eq_true rfl) rfl ?_
    refine xw_goto (pc := 39) (tgt := 14) C dX8_digestOfOpenings_39 (by decide) ?_
    obtain rfl := Option.some.inj hm
    refine xw_sub (pc := 14) _ ?_ (hc _ rfl)
    exact ⟨Or.inr rfl, Or.inl rfl, Or.inl rfl, Or.inr rfl, Or.inl rfl, Or.inr rfl, Or.inr rfl, trivial⟩
set_option maxHeartbeats 4000000 in
set_option maxRecDepth 100000 in
theorem fX8_digestOfOpenings_B5_w {X : XCtx} (C : XOK X RX8 cX8_digestOfOpenings 7 "digestOfOpenings" (some .long) 5 123) {n sl : Nat} (hN : XN X n sl) {h : XH} {x0 : Nat} (s : (Int64 × Int32)) (o : (Int64 × Int32) ⊕ Int64) (hm : fX8_digestOfOpenings_B5 h x0 s = some o) (hc : ∀ s', o = .inl s' → fX8_digestOfOpenings_P5 X h x0 n sl s') (he : ∀ e', o = .inr e' → fX8_digestOfOpenings_E5 X h x0 n sl e') : fX8_digestOfOpenings_P5 X h x0 n sl s := by
  obtain ⟨x3, x5⟩ := s
  show XW X 5 [some (.ref x0), none, none, some (.long x3), none, some (.int x5), none] [] h n sl
  replace hm : fX8_digestOfOpenings_b5 h x0 x3 x5 = some o := hm
  unfold fX8_digestOfOpenings_b5 at hm
  refine xw_iload (pc := 5) (i := 5) (x := x5) C dX8_digestOfOpenings_5 rfl ?_
  refine xw_iconst (pc := 7) (v := 4) C dX8_digestOfOpenings_7 xk_i_4 ?_
  refine xw_icmp_gt (pc := 8) (tgt := 63) C dX8_digestOfOpenings_8 (by decide) (fun q => ?_) (fun q => ?_)
  · replace hm := xif_t q hm
    obtain rfl := Option.some.inj hm
    refine xw_sub (pc := 63) _ ?_ (he _ rfl)
    exact ⟨Or.inl rfl, Or.inl rfl, Or.inl rfl, Or.inr rfl, Or.inl rfl, Or.inl rfl, Or.inl rfl, trivial⟩
  · replace hm := xif_f q hm
    refine xw_iconst (pc := 11) (v := 0) C dX8_digestOfOpenings_11 xk_i_0 ?_
    refine xw_istore (pc := 12) (i := 6) (x := (0 : Int32)) (L' := [some (.ref x0), none, none, some (.long x3), none, some (.int x5), some (.int (0 : Int32))]) C dX8_digestOfOpenings_12 (Nat.le_of_ble_eq_true rfl) rfl ?_
    obtain ⟨e5, q6, hm⟩ := xbind hm
    refine xw_sub (pc := 14) [some (.ref x0), none, none, some (.long x3), none, some (.int x5), some (.int (0 : Int32))] ⟨Or.inr rfl, Or.inl rfl, Or.inl rfl, Or.inr rfl, Or.inl rfl, Or.inr rfl, Or.inr rfl, trivial⟩ ?_
    refine xloop_walk (fX8_digestOfOpenings_B14 h x0 x5) (fX8_digestOfOpenings_P14 X h x0 x5 n sl) (fX8_digestOfOpenings_E14 X h x0 x5 n sl) (fun s' o' => fX8_digestOfOpenings_B14_w C hN s' o') 5000 (x3, (0 : Int32)) e5 q6 ?_
    show XW X 42 [some (.ref x0), none, none, some (.long e5), none, some (.int x5), none] [] h n sl
    refine xw_ldc2 (pc := 42) (v := 31) C dX8_digestOfOpenings_42 cn_X8_279 ?_
    refine xw_lload_n (pc := 45) (i := 3) (x := e5) C dX8_digestOfOpenings_45 rfl rfl ?_
    refine xw_lmul (pc := 46) C dX8_digestOfOpenings_46 ?_
    refine xw_aload_n (pc := 47) (i := 0) (x := x0) C dX8_digestOfOpenings_47 rfl rfl ?_
    refine xw_iload (pc := 48) (i := 5) (x := x5) C dX8_digestOfOpenings_48 rfl ?_
    refine xw_iconst (pc := 50) (v := 0) C dX8_digestOfOpenings_50 xk_i_0 ?_
    obtain ⟨_, q7, hm⟩ := xbind hm
    obtain ⟨v8, q9, hm⟩ := xbind hm
    refine xw_callV1 (pc := 51) (As := [.int x5, .int (0 : Int32)]) (st := [.long ((31 : Int64) * e5)]) C dX8_digestOfOpenings_51 (wX8_smear q9) dd_X8_smear lk_X8_316 dv_X8_smear (xco_spec q7) rfl (Nat.le_of_ble_eq_true rfl) (Nat.le_of_ble_eq_true rfl) (Nat.le_of_ble_eq_true rfl) ⟨Nat.le_refl _, Nat.le_refl _⟩ hN ?_
    refine xw_i2l (pc := 54) C dX8_digestOfOpenings_54 ?_
    refine xw_ladd (pc := 55) C dX8_digestOfOpenings_55 ?_
    obtain ⟨y10, ey10, hm⟩ := xlet_ex hm
    refine xw_topJ ey10 ?_
    refine xw_lstore_n (pc := 56) (i := 3) (x := y10) (L' := [some (.ref x0), none, none, some (.long y10), none, some (.int x5), none]) C dX8_digestOfOpenings_56 rfl (Nat.le_of_ble_eq_true rfl) rfl ?_
    refine xw_iinc (pc := 57) (i := 5) (x := x5) (v := (x5 + (1 : Int32))) (L' := [some (.ref x0), none, none, some (.long y10), none, some (.int (x5 + (1 : Int32))), none]) C dX8_digestOfOpenings_57 rfl (congrArg (HAdd.hAdd _) xk_i_1) (Nat.le_of_ble_eq_true rfl) rfl ?_
    refine xw_goto (pc := 60) (tgt := 5) C dX8_digestOfOpenings_60 (by decide) ?_
    obtain rfl := Option.some.inj hm
    refine xw_sub (pc := 5) _ ?_ (hc _ rfl)
    exact ⟨Or.inr rfl, Or.inl rfl, Or.inl rfl, Or.inr rfl, Or.inl rfl, Or.inr rfl, Or.inl rfl, trivial⟩
set_option maxHeartbeats 4000000 in
set_option maxRecDepth 100000 in
theorem wX8_digestOfOpenings {l : Launch} {n sl : Nat} {h : XH} {x0 : Nat} {x1 : Int64} {o : Int64} (hm : fX8_digestOfOpenings h x0 x1 = some o) : XM l yX8_digestOfOpenings cX8_digestOfOpenings 7 (some .long) 5 123 [.ref x0, .long x1] h n sl (some (.long o)) h n sl := by
  refine xm_of pnX8 [some (.ref x0), some (.long x1), none, none, none, none, none] 4 rfl (Nat.le_of_ble_eq_true rfl) ?_
  intro X hT C
  replace C : XOK X RX8 cX8_digestOfOpenings 7 "digestOfOpenings" (some .long) 5 123 := C
  obtain ⟨-, hN, hX⟩ := hT
  unfold fX8_digestOfOpenings at hm
  refine xw_lload_n (pc := 0) (i := 1) (x := x1) C dX8_digestOfOpenings_0 rfl rfl ?_
  refine xw_lstore_n (pc := 1) (i := 3) (x := x1) (L' := [some (.ref x0), some (.long x1), none, some (.long x1), none, none, none]) C dX8_digestOfOpenings_1 rfl (Nat.le_of_ble_eq_true rfl) rfl ?_
  refine xw_iconst (pc := 2) (v := 0) C dX8_digestOfOpenings_2 xk_i_0 ?_
  refine xw_istore (pc := 3) (i := 5) (x := (0 : Int32)) (L' := [some (.ref x0), some (.long x1), none, some (.long x1), none, some (.int (0 : Int32)), none]) C dX8_digestOfOpenings_3 (Nat.le_of_ble_eq_true rfl) rfl ?_
  obtain ⟨e11, q12, hm⟩ := xbind hm
  refine xw_sub (pc := 5) [some (.ref x0), none, none, some (.long x1), none, some (.int (0 : Int32)), none] ⟨Or.inr rfl, Or.inl rfl, Or.inl rfl, Or.inr rfl, Or.inl rfl, Or.inr rfl, Or.inl rfl, trivial⟩ ?_
  refine xloop_walk (fX8_digestOfOpenings_B5 h x0) (fX8_digestOfOpenings_P5 X h x0 n sl) (fX8_digestOfOpenings_E5 X h x0 n sl) (fun s' o' => fX8_digestOfOpenings_B5_w C hN s' o') 5000 (x1, (0 : Int32)) e11 q12 ?_
  show XW X 63 [none, none, none, some (.long e11), none, none, none] [] h n sl
  refine xw_lload_n (pc := 63) (i := 3) (x := e11) C dX8_digestOfOpenings_63 rfl rfl ?_
  obtain rfl := Option.some.inj hm
  exact xw_lreturn (pc := 64) C dX8_digestOfOpenings_64 rfl hX
set_option maxHeartbeats 4000000 in
set_option maxRecDepth 100000 in
theorem wX8_isFlash {l : Launch} {n sl : Nat} {h : XH} {x0 : Nat} {x1 : Int32} {o : Bool} (hm : fX8_isFlash h x0 x1 = some o) : XM l yX8_isFlash cX8_isFlash 2 (some .boolean) 1 22 [.ref x0, .int x1] h n sl (some (.int (xbi o))) h n sl := by
  refine xm_of pnX8 [some (.ref x0), some (.int x1)] 0 rfl (Nat.le_of_ble_eq_true rfl) ?_
  intro X hT C
  replace C : XOK X RX8 cX8_isFlash 2 "isFlash" (some .boolean) 1 22 := C
  obtain ⟨-, hN, hX⟩ := hT
  unfold fX8_isFlash at hm
  refine xw_iload_n (pc := 0) (i := 1) (x := x1) C dX8_isFlash_0 rfl rfl ?_
  refine xw_iconst (pc := 1) (v := 0) C dX8_isFlash_1 xk_i_0 ?_
  refine xw_aload_n (pc := 2) (i := 0) (x := x0) C dX8_isFlash_2 rfl rfl ?_
  obtain ⟨v1, q2, hm⟩ := xbind hm
  refine xw_getR (pc := 3) C dX8_isFlash_3 fl_X8_10 q2 ?_
  obtain ⟨v3, q4, hm⟩ := xbind hm
  refine xw_getR (pc := 6) C dX8_isFlash_6 fl_X8_125 q4 ?_
  obtain ⟨_, q5, hm⟩ := xbind hm
  obtain ⟨v6, q7, hm⟩ := xbind hm
  refine xw_callV1 (pc := 9) (As := []) (st := [.int (0 : Int32), .int x1]) C dX8_isFlash_9 (wX2_number q7) dd_X2_number lk_X8_137 dv_X2_number (xco_spec q5) rfl (Nat.le_of_ble_eq_true rfl) (Nat.le_of_ble_eq_true rfl) (Nat.le_of_ble_eq_true rfl) ⟨Nat.le_refl _, Nat.le_refl _⟩ hN ?_
  refine xw_iconst (pc := 12) (v := 1) C dX8_isFlash_12 xk_i_1 ?_
  refine xw_isub (pc := 13) C dX8_isFlash_13 ?_
  obtain ⟨v8, q9, hm⟩ := xbind hm
  refine xw_callS1 (pc := 14) (As := [.int x1, .int (0 : Int32), .int (v6 - (1 : Int32))]) (st := []) C dX8_isFlash_14 (wX8_within q9) dd_X8_within lk_X8_44 ds_X8_within rfl (Nat.le_of_ble_eq_true rfl) (Nat.le_of_ble_eq_true rfl) (Nat.le_of_ble_eq_true rfl) ⟨Nat.le_refl _, Nat.le_refl _⟩ hN ?_
  obtain rfl := Option.some.inj hm
  exact xw_zreturn (pc := 17) (v := xbi v8) C dX8_isFlash_17 rfl (xbi_nar _) hX
set_option maxHeartbeats 4000000 in
set_option maxRecDepth 100000 in
theorem wX8_isTick {l : Launch} {n sl : Nat} {h : XH} {x0 : Int32} {o : Bool} (hm : fX8_isTick x0 = some o) : XM l yX8_isTick cX8_isTick 1 (some .boolean) 1 22 [.int x0] h n sl (some (.int (xbi o))) h n sl := by
  refine xm_of pnX8 [some (.int x0)] 0 rfl (Nat.le_of_ble_eq_true rfl) ?_
  intro X hT C
  replace C : XOK X RX8 cX8_isTick 1 "isTick" (some .boolean) 1 22 := C
  obtain ⟨-, hN, hX⟩ := hT
  unfold fX8_isTick at hm
  refine xw_iload_n (pc := 0) (i := 0) (x := x0) C dX8_isTick_0 rfl rfl ?_
  refine xw_iconst (pc := 1) (v := 0) C dX8_isTick_1 xk_i_0 ?_
  refine xw_sipush (pc := 2) (v := 1000) C dX8_isTick_2 xk_s_1000 ?_
  obtain ⟨v1, q2, hm⟩ := xbind hm
  refine xw_callS1 (pc := 5) (As := [.int x0, .int (0 : Int32), .int (1000 : Int32)]) (st := []) C dX8_isTick_5 (wX8_within q2) dd_X8_within lk_X8_44 ds_X8_within rfl (Nat.le_of_ble_eq_true rfl) (Nat.le_of_ble_eq_true rfl) (Nat.le_of_ble_eq_true rfl) ⟨Nat.le_refl _, Nat.le_refl _⟩ hN ?_
  obtain rfl := Option.some.inj hm
  exact xw_zreturn (pc := 8) (v := xbi v1) C dX8_isTick_8 rfl (xbi_nar _) hX
set_option maxHeartbeats 4000000 in
set_option maxRecDepth 100000 in
theorem wX8_step {l : Launch} {n sl : Nat} {h : XH} {x0 : Nat} {x1 : Int32} {x2 : Int32} {o : Int32} (hm : fX8_step h x0 x1 x2 = some o) : XM l yX8_step cX8_step 3 (some .int) 3 70 [.ref x0, .int x1, .int x2] h n sl (some (.int o)) h n sl := by
  refine xm_of pnX8 [some (.ref x0), some (.int x1), some (.int x2)] 0 rfl (Nat.le_of_ble_eq_true rfl) ?_
  intro X hT C
  replace C : XOK X RX8 cX8_step 3 "step" (some .int) 3 70 := C
  obtain ⟨-, hN, hX⟩ := hT
  unfold fX8_step at hm
  refine xw_iload_n (pc := 0) (i := 1) (x := x1) C dX8_step_0 rfl rfl ?_
  obtain ⟨v1, q2, hm⟩ := xbind hm
  refine xw_callS1 (pc := 1) (As := [.int x1]) (st := []) C dX8_step_1 (wX8_isTick q2) dd_X8_isTick lk_X8_99 ds_X8_isTick rfl (Nat.le_of_ble_eq_true rfl) (Nat.le_of_ble_eq_true rfl) (Nat.le_of_ble_eq_true rfl) ⟨Nat.le_refl _, Nat.le_refl _⟩ hN ?_
  refine xw_if_eqZ (pc := 4) (b := v1) (tgt := 14) C dX8_step_4 (by decide) (fun q => ?_) (fun q => ?_)
  · replace hm := xif_f q hm
    refine xw_sipush (pc := 14) (v := -1001) C dX8_step_14 xk_s_m1001 ?_
    obtain rfl := Option.some.inj hm
    exact xw_ireturn (pc := 17) C dX8_step_17 rfl hX
  · replace hm := xif_t q hm
    refine xw_iload_n (pc := 7) (i := 2) (x := x2) C dX8_step_7 rfl rfl ?_
    obtain ⟨v3, q4, hm⟩ := xbind hm
    refine xw_callS1 (pc := 8) (As := [.int x2]) (st := []) C dX8_step_8 (wX8_isTick q4) dd_X8_isTick lk_X8_99 ds_X8_isTick rfl (Nat.le_of_ble_eq_true rfl) (Nat.le_of_ble_eq_true rfl) (Nat.le_of_ble_eq_true rfl) ⟨Nat.le_refl _, Nat.le_refl _⟩ hN ?_
    refine xw_if_neZ (pc := 11) (b := v3) (tgt := 18) C dX8_step_11 (by decide) (fun q => ?_) (fun q => ?_)
    · replace hm := xif_t q hm
      refine xw_aload_n (pc := 18) (i := 0) (x := x0) C dX8_step_18 rfl rfl ?_
      obtain ⟨v5, q6, hm⟩ := xbind hm
      refine xw_getR (pc := 19) C dX8_step_19 fl_X8_10 q6 ?_
      obtain ⟨v7, q8, hm⟩ := xbind hm
      refine xw_getR (pc := 22) C dX8_step_22 fl_X8_67 q8 ?_
      refine xw_iload_n (pc := 25) (i := 1) (x := x1) C dX8_step_25 rfl rfl ?_
      refine xw_iload_n (pc := 26) (i := 2) (x := x2) C dX8_step_26 rfl rfl ?_
      refine xw_aload_n (pc := 27) (i := 0) (x := x0) C dX8_step_27 rfl rfl ?_
      obtain ⟨v9, q10, hm⟩ := xbind hm
      refine xw_getR (pc := 28) C dX8_step_28 fl_X8_10 q10 ?_
      obtain ⟨v11, q12, hm⟩ := xbind hm
      refine xw_getR (pc := 31) C dX8_step_31 fl_X8_67 q12 ?_
      obtain ⟨_, q13, hm⟩ := xbind hm
      obtain ⟨v14, q15, hm⟩ := xbind hm
      refine xw_callV1 (pc := 34) (As := []) (st := [.int x2, .int x1, .ref v7]) C dX8_step_34 (wX6_measure q15) dd_X6_measure lk_X8_156 dv_X6_measure (xco_spec q13) rfl (Nat.le_of_ble_eq_true rfl) (Nat.le_of_ble_eq_true rfl) (Nat.le_of_ble_eq_true rfl) ⟨Nat.le_refl _, Nat.le_refl _⟩ hN ?_
      obtain ⟨_, q16, hm⟩ := xbind hm
      obtain ⟨v17, q18, hm⟩ := xbind hm
      refine xw_callV1 (pc := 37) (As := [.int x1, .int x2, .int v14]) (st := []) C dX8_step_37 (wX6_stepBetween q18) dd_X6_stepBetween lk_X8_159 dv_X6_stepBetween (xco_spec q16) rfl (Nat.le_of_ble_eq_true rfl) (Nat.le_of_ble_eq_true rfl) (Nat.le_of_ble_eq_true rfl) ⟨Nat.le_refl _, Nat.le_refl _⟩ hN ?_
      obtain rfl := Option.some.inj hm
      exact xw_ireturn (pc := 40) C dX8_step_40 rfl hX
    · replace hm := xif_f q hm
      refine xw_sipush (pc := 14) (v := -1001) C dX8_step_14 xk_s_m1001 ?_
      obtain rfl := Option.some.inj hm
      exact xw_ireturn (pc := 17) C dX8_step_17 rfl hX
set_option maxHeartbeats 4000000 in
set_option maxRecDepth 100000 in
theorem wX8_turn {l : Launch} {n sl : Nat} {h : XH} {x0 : Nat} {x1 : Int32} {o : Int32} (hm : fX8_turn h x0 x1 = some o) : XM l yX8_turn cX8_turn 2 (some .int) 2 46 [.ref x0, .int x1] h n sl (some (.int o)) h n sl := by
  refine xm_of pnX8 [some (.ref x0), some (.int x1)] 0 rfl (Nat.le_of_ble_eq_true rfl) ?_
  intro X hT C
  replace C : XOK X RX8 cX8_turn 2 "turn" (some .int) 2 46 := C
  obtain ⟨-, hN, hX⟩ := hT
  unfold fX8_turn at hm
  refine xw_iload_n (pc := 0) (i := 1) (x := x1) C dX8_turn_0 rfl rfl ?_
  obtain ⟨v1, q2, hm⟩ := xbind hm
  refine xw_callS1 (pc := 1) (As := [.int x1]) (st := []) C dX8_turn_1 (wX8_isTick q2) dd_X8_isTick lk_X8_99 ds_X8_isTick rfl (Nat.le_of_ble_eq_true rfl) (Nat.le_of_ble_eq_true rfl) (Nat.le_of_ble_eq_true rfl) ⟨Nat.le_refl _, Nat.le_refl _⟩ hN ?_
  refine xw_if_neZ (pc := 4) (b := v1) (tgt := 11) C dX8_turn_4 (by decide) (fun q => ?_) (fun q => ?_)
  · replace hm := xif_t q hm
    refine xw_aload_n (pc := 11) (i := 0) (x := x0) C dX8_turn_11 rfl rfl ?_
    obtain ⟨v3, q4, hm⟩ := xbind hm
    refine xw_getR (pc := 12) C dX8_turn_12 fl_X8_10 q4 ?_
    obtain ⟨v5, q6, hm⟩ := xbind hm
    refine xw_getR (pc := 15) C dX8_turn_15 fl_X8_67 q6 ?_
    refine xw_iload_n (pc := 18) (i := 1) (x := x1) C dX8_turn_18 rfl rfl ?_
    obtain ⟨_, q7, hm⟩ := xbind hm
    obtain ⟨v8, q9, hm⟩ := xbind hm
    refine xw_callV1 (pc := 19) (As := [.int x1]) (st := []) C dX8_turn_19 (wX6_turnAt q9) dd_X6_turnAt lk_X8_118 dv_X6_turnAt (xco_spec q7) rfl (Nat.le_of_ble_eq_true rfl) (Nat.le_of_ble_eq_true rfl) (Nat.le_of_ble_eq_true rfl) ⟨Nat.le_refl _, Nat.le_refl _⟩ hN ?_
    refine xw_aload_n (pc := 22) (i := 0) (x := x0) C dX8_turn_22 rfl rfl ?_
    obtain ⟨v10, q11, hm⟩ := xbind hm
    refine xw_getR (pc := 23) C dX8_turn_23 fl_X8_10 q11 ?_
    obtain ⟨v12, q13, hm⟩ := xbind hm
    refine xw_getR (pc := 26) C dX8_turn_26 fl_X8_67 q13 ?_
    obtain ⟨v14, q15, hm⟩ := xbind hm
    refine xw_getI (pc := 29) C dX8_turn_29 fl_X8_74 q15 ?_
    obtain ⟨v16, q17, hm⟩ := xbind hm
    refine xw_callS1 (pc := 32) (As := [.int v8, .int v14]) (st := []) C dX8_turn_32 (wX8_mod q17) dd_X8_mod lk_X8_121 ds_X8_mod rfl (Nat.le_of_ble_eq_true rfl) (Nat.le_of_ble_eq_true rfl) (Nat.le_of_ble_eq_true rfl) ⟨Nat.le_refl _, Nat.le_refl _⟩ hN ?_
    obtain rfl := Option.some.inj hm
    exact xw_ireturn (pc := 35) C dX8_turn_35 rfl hX
  · replace hm := xif_f q hm
    refine xw_sipush (pc := 7) (v := -1001) C dX8_turn_7 xk_s_m1001 ?_
    obtain rfl := Option.some.inj hm
    exact xw_ireturn (pc := 10) C dX8_turn_10 rfl hX
set_option maxHeartbeats 4000000 in
set_option maxRecDepth 100000 in
theorem wX8_flash {l : Launch} {n sl : Nat} {h : XH} {x0 : Nat} {x1 : Int32} {x2 : Int32} {o : Int32} (hm : fX8_flash h x0 x1 x2 = some o) : XM l yX8_flash cX8_flash 4 (some .int) 4 92 [.ref x0, .int x1, .int x2] h n sl (some (.int o)) h n sl := by
  refine xm_of pnX8 [some (.ref x0), some (.int x1), some (.int x2), none] 1 rfl (Nat.le_of_ble_eq_true rfl) ?_
  intro X hT C
  replace C : XOK X RX8 cX8_flash 4 "flash" (some .int) 4 92 := C
  obtain ⟨-, hN, hX⟩ := hT
  unfold fX8_flash at hm
  refine xw_aload_n (pc := 0) (i := 0) (x := x0) C dX8_flash_0 rfl rfl ?_
  refine xw_iload_n (pc := 1) (i := 1) (x := x1) C dX8_flash_1 rfl rfl ?_
  obtain ⟨_, q1, hm⟩ := xbind hm
  obtain ⟨v2, q3, hm⟩ := xbind hm
  refine xw_callV1 (pc := 2) (As := [.int x1]) (st := []) C dX8_flash_2 (wX8_isFlash q3) dd_X8_isFlash lk_X8_141 dv_X8_isFlash (xco_spec q1) rfl (Nat.le_of_ble_eq_true rfl) (Nat.le_of_ble_eq_true rfl) (Nat.le_of_ble_eq_true rfl) ⟨Nat.le_refl _, Nat.le_refl _⟩ hN ?_
  refine xw_if_eqZ (pc := 5) (b := v2) (tgt := 17) C dX8_flash_5 (by decide) (fun q => ?_) (fun q => ?_)
  · replace hm := xif_f q hm
    refine xw_sipush (pc := 17) (v := -1001) C dX8_flash_17 xk_s_m1001 ?_
    obtain rfl := Option.some.inj hm
    exact xw_ireturn (pc := 20) C dX8_flash_20 rfl hX
  · replace hm := xif_t q hm
    refine xw_iload_n (pc := 8) (i := 2) (x := x2) C dX8_flash_8 rfl rfl ?_
    refine xw_iconst (pc := 9) (v := 0) C dX8_flash_9 xk_i_0 ?_
    refine xw_iconst (pc := 10) (v := 3) C dX8_flash_10 xk_i_3 ?_
    obtain ⟨v4, q5, hm⟩ := xbind hm
    refine xw_callS1 (pc := 11) (As := [.int x2, .int (0 : Int32), .int (3 : Int32)]) (st := []) C dX8_flash_11 (wX8_within q5) dd_X8_within lk_X8_44 ds_X8_within rfl (Nat.le_of_ble_eq_true rfl) (Nat.le_of_ble_eq_true rfl) (Nat.le_of_ble_eq_true rfl) ⟨Nat.le_refl _, Nat.le_refl _⟩ hN ?_
    refine xw_if_neZ (pc := 14) (b := v4) (tgt := 21) C dX8_flash_14 (by decide) (fun q => ?_) (fun q => ?_)
    · replace hm := xif_t q hm
      refine xw_aload_n (pc := 21) (i := 0) (x := x0) C dX8_flash_21 rfl rfl ?_
      obtain ⟨v6, q7, hm⟩ := xbind hm
      refine xw_getR (pc := 22) C dX8_flash_22 fl_X8_10 q7 ?_
      obtain ⟨v8, q9, hm⟩ := xbind hm
      refine xw_getR (pc := 25) C dX8_flash_25 fl_X8_125 q9 ?_
      refine xw_iload_n (pc := 28) (i := 1) (x := x1) C dX8_flash_28 rfl rfl ?_
      obtain ⟨_, q10, hm⟩ := xbind hm
      obtain ⟨v11, q12, hm⟩ := xbind hm
      refine xw_callV1 (pc := 29) (As := [.int x1]) (st := []) C dX8_flash_29 (wX2_tickOf q12) dd_X2_tickOf lk_X8_144 dv_X2_tickOf (xco_spec q10) rfl (Nat.le_of_ble_eq_true rfl) (Nat.le_of_ble_eq_true rfl) (Nat.le_of_ble_eq_true rfl) ⟨Nat.le_refl _, Nat.le_refl _⟩ hN ?_
      refine xw_istore_n (pc := 32) (i := 3) (x := v11) (L' := [some (.ref x0), some (.int x1), some (.int x2), some (.int v11)]) C dX8_flash_32 rfl (Nat.le_of_ble_eq_true rfl) rfl ?_
      refine xw_iload_n (pc := 33) (i := 2) (x := x2) C dX8_flash_33 rfl rfl ?_
      by_cases q13 : x2 = 0
      · replace hm := xif_t q13 hm
        refine xw_tabIn (pc := 34) (v := 0) (off := 26) (tgt := 60) C dX8_flash_34 q13 (by decide) (by decide) (by decide) (by decide) ?_
        refine xw_iload_n (pc := 60) (i := 3) (x := v11) C dX8_flash_60 rfl rfl ?_
        obtain rfl := Option.some.inj hm
        exact xw_ireturn (pc := 61) C dX8_flash_61 rfl hX
      · replace hm := xif_f q13 hm
        by_cases q14 : x2 = 1
        · replace hm := xif_t q14 hm
          refine xw_tabIn (pc := 34) (v := 1) (off := 28) (tgt := 62) C dX8_flash_34 q14 (by decide) (by decide) (by decide) (by decide) ?_
          refine xw_aload_n (pc := 62) (i := 0) (x := x0) C dX8_flash_62 rfl rfl ?_
          refine xw_iload_n (pc := 63) (i := 3) (x := v11) C dX8_flash_63 rfl rfl ?_
          obtain ⟨_, q16, hm⟩ := xbind hm
          obtain ⟨v17, q18, hm⟩ := xbind hm
          refine xw_callV1 (pc := 64) (As := [.int v11]) (st := []) C dX8_flash_64 (wX8_turn q18) dd_X8_turn lk_X8_147 dv_X8_turn (xco_spec q16) rfl (Nat.le_of_ble_eq_true rfl) (Nat.le_of_ble_eq_true rfl) (Nat.le_of_ble_eq_true rfl) ⟨Nat.le_refl _, Nat.le_refl _⟩ hN ?_
          obtain rfl := Option.some.inj hm
          exact xw_ireturn (pc := 67) C dX8_flash_67 rfl hX
        · replace hm := xif_f q14 hm
          by_cases q15 : x2 = 2
          · replace hm := xif_t q15 hm
            refine xw_tabIn (pc := 34) (v := 2) (off := 34) (tgt := 68) C dX8_flash_34 q15 (by decide) (by decide) (by decide) (by decide) ?_
            refine xw_aload_n (pc := 68) (i := 0) (x := x0) C dX8_flash_68 rfl rfl ?_
            refine xw_iload_n (pc := 69) (i := 1) (x := x1) C dX8_flash_69 rfl rfl ?_
            refine xw_iconst (pc := 70) (v := 1) C dX8_flash_70 xk_i_1 ?_
            refine xw_iadd (pc := 71) C dX8_flash_71 ?_
            obtain ⟨_, q19, hm⟩ := xbind hm
            obtain ⟨v20, q21, hm⟩ := xbind hm
            refine xw_callV1 (pc := 72) (As := [.int (x1 + (1 : Int32))]) (st := []) C dX8_flash_72 (wX8_isFlash q21) dd_X8_isFlash lk_X8_141 dv_X8_isFlash (xco_spec q19) rfl (Nat.le_of_ble_eq_true rfl) (Nat.le_of_ble_eq_true rfl) (Nat.le_of_ble_eq_true rfl) ⟨Nat.le_refl _, Nat.le_refl _⟩ hN ?_
            refine xw_if_eqZ (pc := 75) (b := v20) (tgt := 99) C dX8_flash_75 (by decide) (fun q => ?_) (fun q => ?_)
            · replace hm := xif_f q hm
              refine xw_sipush (pc := 99) (v := -1004) C dX8_flash_99 xk_s_m1004 ?_
              obtain rfl := Option.some.inj hm
              exact xw_ireturn (pc := 102) C dX8_flash_102 rfl hX
            · replace hm := xif_t q hm
              refine xw_aload_n (pc := 78) (i := 0) (x := x0) C dX8_flash_78 rfl rfl ?_
              refine xw_iload_n (pc := 79) (i := 3) (x := v11) C dX8_flash_79 rfl rfl ?_
              refine xw_aload_n (pc := 80) (i := 0) (x := x0) C dX8_flash_80 rfl rfl ?_
              obtain ⟨v22, q23, hm⟩ := xbind hm
              refine xw_getR (pc := 81) C dX8_flash_81 fl_X8_10 q23 ?_
              obtain ⟨v24, q25, hm⟩ := xbind hm
              refine xw_getR (pc := 84) C dX8_flash_84 fl_X8_125 q25 ?_
              refine xw_iload_n (pc := 87) (i := 1) (x := x1) C dX8_flash_87 rfl rfl ?_
              refine xw_iconst (pc := 88) (v := 1) C dX8_flash_88 xk_i_1 ?_
              refine xw_iadd (pc := 89) C dX8_flash_89 ?_
              obtain ⟨_, q26, hm⟩ := xbind hm
              obtain ⟨v27, q28, hm⟩ := xbind hm
              refine xw_callV1 (pc := 90) (As := [.int (x1 + (1 : Int32))]) (st := [.int v11, .ref x0]) C dX8_flash_90 (wX2_tickOf q28) dd_X2_tickOf lk_X8_144 dv_X2_tickOf (xco_spec q26) rfl (Nat.le_of_ble_eq_true rfl) (Nat.le_of_ble_eq_true rfl) (Nat.le_of_ble_eq_true rfl) ⟨Nat.le_refl _, Nat.le_refl _⟩ hN ?_
              obtain ⟨_, q29, hm⟩ := xbind hm
              obtain ⟨v30, q31, hm⟩ := xbind hm
              refine xw_callV1 (pc := 93) (As := [.int v11, .int v27]) (st := []) C dX8_flash_93 (wX8_step q31) dd_X8_step lk_X8_150 dv_X8_step (xco_spec q29) rfl (Nat.le_of_ble_eq_true rfl) (Nat.le_of_ble_eq_true rfl) (Nat.le_of_ble_eq_true rfl) ⟨Nat.le_refl _, Nat.le_refl _⟩ hN ?_
              refine xw_goto (pc := 96) (tgt := 102) C dX8_flash_96 (by decide) ?_
              obtain rfl := Option.some.inj hm
              exact xw_ireturn (pc := 102) C dX8_flash_102 rfl hX
          · replace hm := xif_f q15 hm
            refine xw_tabOut (pc := 34) (tgt := 103) C dX8_flash_34 (by have := lv_neT q13 (a := 0) (by decide); have := lv_neT q14 (a := 1) (by decide); have := lv_neT q15 (a := 2) (by decide); omega) (by decide) ?_
            refine xw_aload_n (pc := 103) (i := 0) (x := x0) C dX8_flash_103 rfl rfl ?_
            obtain ⟨v32, q33, hm⟩ := xbind hm
            refine xw_getR (pc := 104) C dX8_flash_104 fl_X8_10 q33 ?_
            refine xw_iload_n (pc := 107) (i := 1) (x := x1) C dX8_flash_107 rfl rfl ?_
            obtain ⟨_, q34, hm⟩ := xbind hm
            obtain ⟨v35, q36, hm⟩ := xbind hm
            refine xw_callV1 (pc := 108) (As := [.int x1]) (st := []) C dX8_flash_108 (wX5_earliestAlike q36) dd_X5_earliestAlike lk_X8_153 dv_X5_earliestAlike (xco_spec q34) rfl (Nat.le_of_ble_eq_true rfl) (Nat.le_of_ble_eq_true rfl) (Nat.le_of_ble_eq_true rfl) ⟨Nat.le_refl _, Nat.le_refl _⟩ hN ?_
            obtain rfl := Option.some.inj hm
            exact xw_ireturn (pc := 111) C dX8_flash_111 rfl hX
    · replace hm := xif_f q hm
      refine xw_sipush (pc := 17) (v := -1001) C dX8_flash_17 xk_s_m1001 ?_
      obtain rfl := Option.some.inj hm
      exact xw_ireturn (pc := 20) C dX8_flash_20 rfl hX
set_option maxHeartbeats 4000000 in
set_option maxRecDepth 100000 in
theorem wX8_markAt {l : Launch} {n sl : Nat} {h : XH} {x0 : Nat} {x1 : Int32} {x2 : Int32} {o : Int32} (hm : fX8_markAt h x0 x1 x2 = some o) : XM l yX8_markAt cX8_markAt 3 (some .int) 2 46 [.ref x0, .int x1, .int x2] h n sl (some (.int o)) h n sl := by
  refine xm_of pnX8 [some (.ref x0), some (.int x1), some (.int x2)] 0 rfl (Nat.le_of_ble_eq_true rfl) ?_
  intro X hT C
  replace C : XOK X RX8 cX8_markAt 3 "markAt" (some .int) 2 46 := C
  obtain ⟨-, hN, hX⟩ := hT
  unfold fX8_markAt at hm
  refine xw_iload_n (pc := 0) (i := 1) (x := x1) C dX8_markAt_0 rfl rfl ?_
  obtain ⟨v1, q2, hm⟩ := xbind hm
  refine xw_callS1 (pc := 1) (As := [.int x1]) (st := []) C dX8_markAt_1 (wX8_isTick q2) dd_X8_isTick lk_X8_99 ds_X8_isTick rfl (Nat.le_of_ble_eq_true rfl) (Nat.le_of_ble_eq_true rfl) (Nat.le_of_ble_eq_true rfl) ⟨Nat.le_refl _, Nat.le_refl _⟩ hN ?_
  refine xw_if_eqZ (pc := 4) (b := v1) (tgt := 15) C dX8_markAt_4 (by decide) (fun q => ?_) (fun q => ?_)
  · replace hm := xif_f q hm
    refine xw_sipush (pc := 15) (v := -1001) C dX8_markAt_15 xk_s_m1001 ?_
    obtain rfl := Option.some.inj hm
    exact xw_ireturn (pc := 18) C dX8_markAt_18 rfl hX
  · replace hm := xif_t q hm
    refine xw_aload_n (pc := 7) (i := 0) (x := x0) C dX8_markAt_7 rfl rfl ?_
    refine xw_iload_n (pc := 8) (i := 2) (x := x2) C dX8_markAt_8 rfl rfl ?_
    obtain ⟨_, q3, hm⟩ := xbind hm
    obtain ⟨v4, q5, hm⟩ := xbind hm
    refine xw_callV1 (pc := 9) (As := [.int x2]) (st := []) C dX8_markAt_9 (wX8_isPlace q5) dd_X8_isPlace lk_X8_80 dv_X8_isPlace (xco_spec q3) rfl (Nat.le_of_ble_eq_true rfl) (Nat.le_of_ble_eq_true rfl) (Nat.le_of_ble_eq_true rfl) ⟨Nat.le_refl _, Nat.le_refl _⟩ hN ?_
    refine xw_if_neZ (pc := 12) (b := v4) (tgt := 19) C dX8_markAt_12 (by decide) (fun q => ?_) (fun q => ?_)
    · replace hm := xif_t q hm
      refine xw_aload_n (pc := 19) (i := 0) (x := x0) C dX8_markAt_19 rfl rfl ?_
      obtain ⟨v6, q7, hm⟩ := xbind hm
      refine xw_getR (pc := 20) C dX8_markAt_20 fl_X8_10 q7 ?_
      obtain ⟨v8, q9, hm⟩ := xbind hm
      refine xw_getR (pc := 23) C dX8_markAt_23 fl_X8_67 q9 ?_
      refine xw_iload_n (pc := 26) (i := 2) (x := x2) C dX8_markAt_26 rfl rfl ?_
      refine xw_aload_n (pc := 27) (i := 0) (x := x0) C dX8_markAt_27 rfl rfl ?_
      obtain ⟨v10, q11, hm⟩ := xbind hm
      refine xw_getR (pc := 28) C dX8_markAt_28 fl_X8_10 q11 ?_
      obtain ⟨v12, q13, hm⟩ := xbind hm
      refine xw_getR (pc := 31) C dX8_markAt_31 fl_X8_67 q13 ?_
      refine xw_iload_n (pc := 34) (i := 1) (x := x1) C dX8_markAt_34 rfl rfl ?_
      obtain ⟨_, q14, hm⟩ := xbind hm
      obtain ⟨v15, q16, hm⟩ := xbind hm
      refine xw_callV1 (pc := 35) (As := [.int x1]) (st := [.int x2, .ref v8]) C dX8_markAt_35 (wX6_turnAt q16) dd_X6_turnAt lk_X8_118 dv_X6_turnAt (xco_spec q14) rfl (Nat.le_of_ble_eq_true rfl) (Nat.le_of_ble_eq_true rfl) (Nat.le_of_ble_eq_true rfl) ⟨Nat.le_refl _, Nat.le_refl _⟩ hN ?_
      refine xw_isub (pc := 38) C dX8_markAt_38 ?_
      refine xw_aload_n (pc := 39) (i := 0) (x := x0) C dX8_markAt_39 rfl rfl ?_
      obtain ⟨v17, q18, hm⟩ := xbind hm
      refine xw_getR (pc := 40) C dX8_markAt_40 fl_X8_10 q18 ?_
      obtain ⟨v19, q20, hm⟩ := xbind hm
      refine xw_getR (pc := 43) C dX8_markAt_43 fl_X8_67 q20 ?_
      obtain ⟨v21, q22, hm⟩ := xbind hm
      refine xw_getI (pc := 46) C dX8_markAt_46 fl_X8_74 q22 ?_
      obtain ⟨v23, q24, hm⟩ := xbind hm
      refine xw_callS1 (pc := 49) (As := [.int (x2 - v15), .int v21]) (st := [.ref v8]) C dX8_markAt_49 (wX8_mod q24) dd_X8_mod lk_X8_121 ds_X8_mod rfl (Nat.le_of_ble_eq_true rfl) (Nat.le_of_ble_eq_true rfl) (Nat.le_of_ble_eq_true rfl) ⟨Nat.le_refl _, Nat.le_refl _⟩ hN ?_
      obtain ⟨_, q25, hm⟩ := xbind hm
      obtain ⟨v26, q27, hm⟩ := xbind hm
      refine xw_callV1 (pc := 52) (As := [.int v23]) (st := []) C dX8_markAt_52 (wX6_markOf q27) dd_X6_markOf lk_X8_84 dv_X6_markOf (xco_spec q25) rfl (Nat.le_of_ble_eq_true rfl) (Nat.le_of_ble_eq_true rfl) (Nat.le_of_ble_eq_true rfl) ⟨Nat.le_refl _, Nat.le_refl _⟩ hN ?_
      obtain rfl := Option.some.inj hm
      exact xw_ireturn (pc := 55) C dX8_markAt_55 rfl hX
    · replace hm := xif_f q hm
      refine xw_sipush (pc := 15) (v := -1001) C dX8_markAt_15 xk_s_m1001 ?_
      obtain rfl := Option.some.inj hm
      exact xw_ireturn (pc := 18) C dX8_markAt_18 rfl hX
set_option maxHeartbeats 4000000 in
set_option maxRecDepth 100000 in
theorem wX8_seems {l : Launch} {n sl : Nat} {h : XH} {x0 : Nat} {x1 : Int32} {o : Int32} (hm : fX8_seems h x0 x1 = some o) : XM l yX8_seems cX8_seems 2 (some .int) 4 97 [.ref x0, .int x1] h n sl (some (.int o)) h n sl := by
  refine xm_of pnX8 [some (.ref x0), some (.int x1)] 0 rfl (Nat.le_of_ble_eq_true rfl) ?_
  intro X hT C
  replace C : XOK X RX8 cX8_seems 2 "seems" (some .int) 4 97 := C
  obtain ⟨-, hN, hX⟩ := hT
  unfold fX8_seems at hm
  refine xw_iload_n (pc := 0) (i := 1) (x := x1) C dX8_seems_0 rfl rfl ?_
  refine xw_iconst (pc := 1) (v := 0) C dX8_seems_1 xk_i_0 ?_
  refine xw_iconst (pc := 2) (v := 3) C dX8_seems_2 xk_i_3 ?_
  obtain ⟨v1, q2, hm⟩ := xbind hm
  refine xw_callS1 (pc := 3) (As := [.int x1, .int (0 : Int32), .int (3 : Int32)]) (st := []) C dX8_seems_3 (wX8_within q2) dd_X8_within lk_X8_44 ds_X8_within rfl (Nat.le_of_ble_eq_true rfl) (Nat.le_of_ble_eq_true rfl) (Nat.le_of_ble_eq_true rfl) ⟨Nat.le_refl _, Nat.le_refl _⟩ hN ?_
  refine xw_if_neZ (pc := 6) (b := v1) (tgt := 13) C dX8_seems_6 (by decide) (fun q => ?_) (fun q => ?_)
  · replace hm := xif_t q hm
    refine xw_iload_n (pc := 13) (i := 1) (x := x1) C dX8_seems_13 rfl rfl ?_
    refine xw_iconst (pc := 14) (v := 3) C dX8_seems_14 xk_i_3 ?_
    refine xw_icmp_ne (pc := 15) (tgt := 28) C dX8_seems_15 (by decide) (fun q => ?_) (fun q => ?_)
    · replace hm := xif_f q hm
      refine xw_aload_n (pc := 28) (i := 0) (x := x0) C dX8_seems_28 rfl rfl ?_
      obtain ⟨v3, q4, hm⟩ := xbind hm
      refine xw_getR (pc := 29) C dX8_seems_29 fl_X8_10 q4 ?_
      refine xw_iload_n (pc := 32) (i := 1) (x := x1) C dX8_seems_32 rfl rfl ?_
      obtain ⟨_, q5, hm⟩ := xbind hm
      obtain ⟨v6, q7, hm⟩ := xbind hm
      refine xw_callV1 (pc := 33) (As := [.int x1]) (st := []) C dX8_seems_33 (wX5_countSeeming q7) dd_X5_countSeeming lk_X8_166 dv_X5_countSeeming (xco_spec q5) rfl (Nat.le_of_ble_eq_true rfl) (Nat.le_of_ble_eq_true rfl) (Nat.le_of_ble_eq_true rfl) ⟨Nat.le_refl _, Nat.le_refl _⟩ hN ?_
      obtain rfl := Option.some.inj hm
      exact xw_ireturn (pc := 36) C dX8_seems_36 rfl hX
    · replace hm := xif_t q hm
      refine xw_aload_n (pc := 18) (i := 0) (x := x0) C dX8_seems_18 rfl rfl ?_
      obtain ⟨v8, q9, hm⟩ := xbind hm
      refine xw_getR (pc := 19) C dX8_seems_19 fl_X8_10 q9 ?_
      obtain ⟨_, q10, hm⟩ := xbind hm
      obtain ⟨v11, q12, hm⟩ := xbind hm
      refine xw_callV1 (pc := 22) (As := []) (st := []) C dX8_seems_22 (wX5_differentPictures q12) dd_X5_differentPictures lk_X8_163 dv_X5_differentPictures (xco_spec q10) rfl (Nat.le_of_ble_eq_true rfl) (Nat.le_of_ble_eq_true rfl) (Nat.le_of_ble_eq_true rfl) ⟨Nat.le_refl _, Nat.le_refl _⟩ hN ?_
      refine xw_goto (pc := 25) (tgt := 36) C dX8_seems_25 (by decide) ?_
      obtain rfl := Option.some.inj hm
      exact xw_ireturn (pc := 36) C dX8_seems_36 rfl hX
  · replace hm := xif_f q hm
    refine xw_sipush (pc := 9) (v := -1001) C dX8_seems_9 xk_s_m1001 ?_
    obtain rfl := Option.some.inj hm
    exact xw_ireturn (pc := 12) C dX8_seems_12 rfl hX
def fX8_digestOfPictures_P5 (X : XCtx) (h : XH) (x0 : Nat) (n sl : Nat) (s : (Int64 × Int32)) : Prop := XW X 5 [some (.ref x0), none, none, some (.long s.1), none, some (.int s.2), none] [] h n sl
def fX8_digestOfPictures_E5 (X : XCtx) (h : XH) (x0 : Nat) (n sl : Nat) (e : Int64) : Prop := XW X 58 [some (.ref x0), none, none, some (.long e), none, none, none] [] h n sl
set_option maxHeartbeats 4000000 in
set_option maxRecDepth 100000 in
theorem fX8_digestOfPictures_B5_w {X : XCtx} (C : XOK X RX8 cX8_digestOfPictures 7 "digestOfPictures" (some .long) 5 118) {n sl : Nat} (hN : XN X n sl) {h : XH} {x0 : Nat} (s : (Int64 × Int32)) (o : (Int64 × Int32) ⊕ Int64) (hm : fX8_digestOfPictures_B5 h x0 s = some o) (hc : ∀ s', o = .inl s' → fX8_digestOfPictures_P5 X h x0 n sl s') (he : ∀ e', o = .inr e' → fX8_digestOfPictures_E5 X h x0 n sl e') : fX8_digestOfPictures_P5 X h x0 n sl s := by
  obtain ⟨x3, x5⟩ := s
  show XW X 5 [some (.ref x0), none, none, some (.long x3), none, some (.int x5), none] [] h n sl
  replace hm : fX8_digestOfPictures_b5 h x0 x3 x5 = some o := hm
  unfold fX8_digestOfPictures_b5 at hm
  refine xw_iload (pc := 5) (i := 5) (x := x5) C dX8_digestOfPictures_5 rfl ?_
  refine xw_aload_n (pc := 7) (i := 0) (x := x0) C dX8_digestOfPictures_7 rfl rfl ?_
  obtain ⟨v1, q2, hm⟩ := xbind hm
  refine xw_getR (pc := 8) C dX8_digestOfPictures_8 fl_X8_10 q2 ?_
  obtain ⟨v3, q4, hm⟩ := xbind hm
  refine xw_getR (pc := 11) C dX8_digestOfPictures_11 fl_X8_67 q4 ?_
  obtain ⟨v5, q6, hm⟩ := xbind hm
  refine xw_getI (pc := 14) C dX8_digestOfPictures_14 fl_X8_74 q6 ?_
  refine xw_icmp_ge (pc := 17) (tgt := 58) C dX8_digestOfPictures_17 (by decide) (fun q => ?_) (fun q => ?_)
  · replace hm := xif_t q hm
    obtain rfl := Option.some.inj hm
    refine xw_sub (pc := 58) _ ?_ (he _ rfl)
    exact ⟨Or.inr rfl, Or.inl rfl, Or.inl rfl, Or.inr rfl, Or.inl rfl, Or.inl rfl, Or.inl rfl, trivial⟩
  · replace hm := xif_f q hm
    refine xw_ldc2 (pc := 20) (v := 31) C dX8_digestOfPictures_20 cn_X8_279 ?_
    refine xw_lload_n (pc := 23) (i := 3) (x := x3) C dX8_digestOfPictures_23 rfl rfl ?_
    refine xw_lmul (pc := 24) C dX8_digestOfPictures_24 ?_
    refine xw_aload_n (pc := 25) (i := 0) (x := x0) C dX8_digestOfPictures_25 rfl rfl ?_
    refine xw_iconst (pc := 26) (v := 0) C dX8_digestOfPictures_26 xk_i_0 ?_
    refine xw_iload (pc := 27) (i := 5) (x := x5) C dX8_digestOfPictures_27 rfl ?_
    obtain ⟨_, q7, hm⟩ := xbind hm
    obtain ⟨v8, q9, hm⟩ := xbind hm
    refine xw_callV1 (pc := 29) (As := [.int (0 : Int32), .int x5]) (st := [.long ((31 : Int64) * x3)]) C dX8_digestOfPictures_29 (wX8_markAt q9) dd_X8_markAt lk_X8_294 dv_X8_markAt (xco_spec q7) rfl (Nat.le_of_ble_eq_true rfl) (Nat.le_of_ble_eq_true rfl) (Nat.le_of_ble_eq_true rfl) ⟨Nat.le_refl _, Nat.le_refl _⟩ hN ?_
    refine xw_i2l (pc := 32) C dX8_digestOfPictures_32 ?_
    refine xw_ladd (pc := 33) C dX8_digestOfPictures_33 ?_
    obtain ⟨y10, ey10, hm⟩ := xlet_ex hm
    refine xw_topJ ey10 ?_
    refine xw_lstore_n (pc := 34) (i := 3) (x := y10) (L' := [some (.ref x0), none, none, some (.long y10), none, some (.int x5), none]) C dX8_digestOfPictures_34 rfl (Nat.le_of_ble_eq_true rfl) rfl ?_
    refine xw_ldc2 (pc := 35) (v := 31) C dX8_digestOfPictures_35 cn_X8_279 ?_
    refine xw_lload_n (pc := 38) (i := 3) (x := y10) C dX8_digestOfPictures_38 rfl rfl ?_
    refine xw_lmul (pc := 39) C dX8_digestOfPictures_39 ?_
    refine xw_aload_n (pc := 40) (i := 0) (x := x0) C dX8_digestOfPictures_40 rfl rfl ?_
    refine xw_sipush (pc := 41) (v := 1000) C dX8_digestOfPictures_41 xk_s_1000 ?_
    refine xw_iload (pc := 44) (i := 5) (x := x5) C dX8_digestOfPictures_44 rfl ?_
    obtain ⟨_, q11, hm⟩ := xbind hm
    obtain ⟨v12, q13, hm⟩ := xbind hm
    refine xw_callV1 (pc := 46) (As := [.int (1000 : Int32), .int x5]) (st := [.long ((31 : Int64) * y10)]) C dX8_digestOfPictures_46 (wX8_markAt q13) dd_X8_markAt lk_X8_294 dv_X8_markAt (xco_spec q11) rfl (Nat.le_of_ble_eq_true rfl) (Nat.le_of_ble_eq_true rfl) (Nat.le_of_ble_eq_true rfl) ⟨Nat.le_refl _, Nat.le_refl _⟩ hN ?_
    refine xw_i2l (pc := 49) C dX8_digestOfPictures_49 ?_
    refine xw_ladd (pc := 50) C dX8_digestOfPictures_50 ?_
    obtain ⟨y14, ey14, hm⟩ := xlet_ex hm
    refine xw_topJ ey14 ?_
    refine xw_lstore_n (pc := 51) (i := 3) (x := y14) (L' := [some (.ref x0), none, none, some (.long y14), none, some (.int x5), none]) C dX8_digestOfPictures_51 rfl (Nat.le_of_ble_eq_true rfl) rfl ?_
    refine xw_iinc (pc := 52) (i := 5) (x := x5) (v := (x5 + (1 : Int32))) (L' := [some (.ref x0), none, none, some (.long y14), none, some (.int (x5 + (1 : Int32))), none]) C dX8_digestOfPictures_52 rfl (congrArg (HAdd.hAdd _) xk_i_1) (Nat.le_of_ble_eq_true rfl) rfl ?_
    refine xw_goto (pc := 55) (tgt := 5) C dX8_digestOfPictures_55 (by decide) ?_
    obtain rfl := Option.some.inj hm
    refine xw_sub (pc := 5) _ ?_ (hc _ rfl)
    exact ⟨Or.inr rfl, Or.inl rfl, Or.inl rfl, Or.inr rfl, Or.inl rfl, Or.inr rfl, Or.inl rfl, trivial⟩
def fX8_digestOfPictures_P61 (X : XCtx) (h : XH) (x0 : Nat) (n sl : Nat) (s : (Int64 × Int32)) : Prop := XW X 61 [some (.ref x0), none, none, some (.long s.1), none, some (.int s.2), none] [] h n sl
def fX8_digestOfPictures_E61 (X : XCtx) (h : XH) (x0 : Nat) (n sl : Nat) (e : Int64) : Prop := XW X 114 [some (.ref x0), none, none, some (.long e), none, none, none] [] h n sl
def fX8_digestOfPictures_P80 (X : XCtx) (h : XH) (x0 : Nat) (x5 : Int32) (n sl : Nat) (s : (Int64 × Int32)) : Prop := XW X 80 [some (.ref x0), none, none, some (.long s.1), none, some (.int x5), some (.int s.2)] [] h n sl
def fX8_digestOfPictures_E80 (X : XCtx) (h : XH) (x0 : Nat) (x5 : Int32) (n sl : Nat) (e : Int64) : Prop := XW X 108 [some (.ref x0), none, none, some (.long e), none, some (.int x5), none] [] h n sl
set_option maxHeartbeats 4000000 in
set_option maxRecDepth 100000 in
theorem fX8_digestOfPictures_B80_w {X : XCtx} (C : XOK X RX8 cX8_digestOfPictures 7 "digestOfPictures" (some .long) 5 118) {n sl : Nat} (hN : XN X n sl) {h : XH} {x0 : Nat} {x5 : Int32} (s : (Int64 × Int32)) (o : (Int64 × Int32) ⊕ Int64) (hm : fX8_digestOfPictures_B80 h x0 x5 s = some o) (hc : ∀ s', o = .inl s' → fX8_digestOfPictures_P80 X h x0 x5 n sl s') (he : ∀ e', o = .inr e' → fX8_digestOfPictures_E80 X h x0 x5 n sl e') : fX8_digestOfPictures_P80 X h x0 x5 n sl s := by
  obtain ⟨x3, x6⟩ := s
  show XW X 80 [some (.ref x0), none, none, some (.long x3), none, some (.int x5), some (.int x6)] [] h n sl
  replace hm : fX8_digestOfPictures_b80 h x0 x5 x3 x6 = some o := hm
  unfold fX8_digestOfPictures_b80 at hm
  refine xw_iload (pc := 80) (i := 6) (x := x6) C dX8_digestOfPictures_80 rfl ?_
  refine xw_iconst (pc := 82) (v := 3) C dX8_digestOfPictures_82 xk_i_3 ?_
  refine xw_icmp_gt (pc := 83) (tgt := 108) C dX8_digestOfPictures_83 (by decide) (fun q => ?_) (fun q => ?_)
  · replace hm := xif_t q hm
    obtain rfl := Option.some.inj hm
    refine xw_sub (pc := 108) _ ?_ (he _ rfl)
    exact ⟨Or.inr rfl, Or.inl rfl, Or.inl rfl, Or.inr rfl, Or.inl rfl, Or.inr rfl, Or.inl rfl, trivial⟩
  · replace hm := xif_f q hm
    refine xw_ldc2 (pc := 86) (v := 31) C dX8_digestOfPictures_86 cn_X8_279 ?_
    refine xw_lload_n (pc := 89) (i := 3) (x := x3) C dX8_digestOfPictures_89 rfl rfl ?_
    refine xw_lmul (pc := 90) C dX8_digestOfPictures_90 ?_
    refine xw_aload_n (pc := 91) (i := 0) (x := x0) C dX8_digestOfPictures_91 rfl rfl ?_
    refine xw_iload (pc := 92) (i := 5) (x := x5) C dX8_digestOfPictures_92 rfl ?_
    refine xw_iload (pc := 94) (i := 6) (x := x6) C dX8_digestOfPictures_94 rfl ?_
    obtain ⟨_, q20, hm⟩ := xbind hm
    obtain ⟨v21, q22, hm⟩ := xbind hm
    refine xw_callV1 (pc := 96) (As := [.int x5, .int x6]) (st := [.long ((31 : Int64) * x3)]) C dX8_digestOfPictures_96 (wX8_flash q22) dd_X8_flash lk_X8_175 dv_X8_flash (xco_spec q20) rfl (Nat.le_of_ble_eq_true rfl) (Nat.le_of_ble_eq_true rfl) (Nat.le_of_ble_eq_true rfl) ⟨Nat.le_refl _, Nat.le_refl _⟩ hN ?_
    refine xw_i2l (pc := 99) C dX8_digestOfPictures_99 ?_
    refine xw_ladd (pc := 100) C dX8_digestOfPictures_100 ?_
    obtain ⟨y23, ey23, hm⟩ := xlet_ex hm
    refine xw_topJ ey23 ?_
    refine xw_lstore_n (pc := 101) (i := 3) (x := y23) (L' := [some (.ref x0), none, none, some (.long y23), none, some (.int x5), some (.int x6)]) C dX8_digestOfPictures_101 rfl (Nat.le_of_ble_eq_true rfl) rfl ?_
    refine xw_iinc (pc := 102) (i := 6) (x := x6) (v := (x6 + (1 : Int32))) (L' := [some (.ref x0), none, none, some (.long y23), none, some (.int x5), some (.int (x6 + (1 : Int32)))]) C dX8_digestOfPictures_102 rfl (congrArg (HAdd.hAdd _) xk_i_1) (Nat.le_of_ble_eq_true rfl) rfl ?_
    refine xw_goto (pc := 105) (tgt := 80) C dX8_digestOfPictures_105 (by decide) ?_
    obtain rfl := Option.some.inj hm
    refine xw_sub (pc := 80) _ ?_ (hc _ rfl)
    exact ⟨Or.inr rfl, Or.inl rfl, Or.inl rfl, Or.inr rfl, Or.inl rfl, Or.inr rfl, Or.inr rfl, trivial⟩
set_option maxHeartbeats 4000000 in
set_option maxRecDepth 100000 in
theorem fX8_digestOfPictures_B61_w {X : XCtx} (C : XOK X RX8 cX8_digestOfPictures 7 "digestOfPictures" (some .long) 5 118) {n sl : Nat} (hN : XN X n sl) {h : XH} {x0 : Nat} (s : (Int64 × Int32)) (o : (Int64 × Int32) ⊕ Int64) (hm : fX8_digestOfPictures_B61 h x0 s = some o) (hc : ∀ s', o = .inl s' → fX8_digestOfPictures_P61 X h x0 n sl s') (he : ∀ e', o = .inr e' → fX8_digestOfPictures_E61 X h x0 n sl e') : fX8_digestOfPictures_P61 X h x0 n sl s := by
  obtain ⟨x3, x5⟩ := s
  show XW X 61 [some (.ref x0), none, none, some (.long x3), none, some (.int x5), none] [] h n sl
  replace hm : fX8_digestOfPictures_b61 h x0 x3 x5 = some o := hm
  unfold fX8_digestOfPictures_b61 at hm
  refine xw_iload (pc := 61) (i := 5) (x := x5) C dX8_digestOfPictures_61 rfl ?_
  refine xw_bipush (pc := 63) (v := 20) C dX8_digestOfPictures_63 xk_b_20 ?_
  refine xw_icmp_ge (pc := 65) (tgt := 114) C dX8_digestOfPictures_65 (by decide) (fun q => ?_) (fun q => ?_)
  · replace hm := xif_t q hm
    obtain rfl := Option.some.inj hm
    refine xw_sub (pc := 114) _ ?_ (he _ rfl)
    exact ⟨Or.inr rfl, Or.inl rfl, Or.inl rfl, Or.inr rfl, Or.inl rfl, Or.inl rfl, Or.inl rfl, trivial⟩
  · replace hm := xif_f q hm
    refine xw_aload_n (pc := 68) (i := 0) (x := x0) C dX8_digestOfPictures_68 rfl rfl ?_
    refine xw_iload (pc := 69) (i := 5) (x := x5) C dX8_digestOfPictures_69 rfl ?_
    obtain ⟨_, q17, hm⟩ := xbind hm
    obtain ⟨v18, q19, hm⟩ := xbind hm
    refine xw_callV1 (pc := 71) (As := [.int x5]) (st := []) C dX8_digestOfPictures_71 (wX8_isFlash q19) dd_X8_isFlash lk_X8_141 dv_X8_isFlash (xco_spec q17) rfl (Nat.le_of_ble_eq_true rfl) (Nat.le_of_ble_eq_true rfl) (Nat.le_of_ble_eq_true rfl) ⟨Nat.le_refl _, Nat.le_refl _⟩ hN ?_
    refine xw_if_eqZ (pc := 74) (b := v18) (tgt := 114) C dX8_digestOfPictures_74 (by decide) (fun q => ?_) (fun q => ?_)
    · replace hm := xif_f q hm
      obtain rfl := Option.some.inj hm
      refine xw_sub (pc := 114) _ ?_ (he _ rfl)
      exact ⟨Or.inr rfl, Or.inl rfl, Or.inl rfl, Or.inr rfl, Or.inl rfl, Or.inl rfl, Or.inl rfl, trivial⟩
    · replace hm := xif_t q hm
      refine xw_iconst (pc := 77) (v := 0) C dX8_digestOfPictures_77 xk_i_0 ?_
      refine xw_istore (pc := 78) (i := 6) (x := (0 : Int32)) (L' := [some (.ref x0), none, none, some (.long x3), none, some (.int x5), some (.int (0 : Int32))]) C dX8_digestOfPictures_78 (Nat.le_of_ble_eq_true rfl) rfl ?_
      obtain ⟨e24, q25, hm⟩ := xbind hm
      refine xw_sub (pc := 80) [some (.ref x0), none, none, some (.long x3), none, some (.int x5), some (.int (0 : Int32))] ⟨Or.inr rfl, Or.inl rfl, Or.inl rfl, Or.inr rfl, Or.inl rfl, Or.inr rfl, Or.inr rfl, trivial⟩ ?_
      refine xloop_walk (fX8_digestOfPictures_B80 h x0 x5) (fX8_digestOfPictures_P80 X h x0 x5 n sl) (fX8_digestOfPictures_E80 X h x0 x5 n sl) (fun s' o' => fX8_digestOfPictures_B80_w C hN s' o') 5000 (x3, (0 : Int32)) e24 q25 ?_
      show XW X 108 [some (.ref x0), none, none, some (.long e24), none, some (.int x5), none] [] h n sl
      refine xw_iinc (pc := 108) (i := 5) (x := x5) (v := (x5 + (1 : Int32))) (L' := [some (.ref x0), none, none, some (.long e24), none, some (.int (x5 + (1 : Int32))), none]) C dX8_digestOfPictures_108 rfl (congrArg (HAdd.hAdd _) xk_i_1) (Nat.le_of_ble_eq_true rfl) rfl ?_
      refine xw_goto (pc := 111) (tgt := 61) C dX8_digestOfPictures_111 (by decide) ?_
      obtain rfl := Option.some.inj hm
      refine xw_sub (pc := 61) _ ?_ (hc _ rfl)
      exact ⟨Or.inr rfl, Or.inl rfl, Or.inl rfl, Or.inr rfl, Or.inl rfl, Or.inr rfl, Or.inl rfl, trivial⟩
def fX8_digestOfPictures_P117 (X : XCtx) (h : XH) (x0 : Nat) (n sl : Nat) (s : (Int64 × Int32)) : Prop := XW X 117 [some (.ref x0), none, none, some (.long s.1), none, some (.int s.2), none] [] h n sl
def fX8_digestOfPictures_E117 (X : XCtx) (h : XH) (x0 : Nat) (n sl : Nat) (e : Int64) : Prop := XW X 143 [none, none, none, some (.long e), none, none, none] [] h n sl
set_option maxHeartbeats 4000000 in
set_option maxRecDepth 100000 in
theorem fX8_digestOfPictures_B117_w {X : XCtx} (C : XOK X RX8 cX8_digestOfPictures 7 "digestOfPictures" (some .long) 5 118) {n sl : Nat} (hN : XN X n sl) {h : XH} {x0 : Nat} (s : (Int64 × Int32)) (o : (Int64 × Int32) ⊕ Int64) (hm : fX8_digestOfPictures_B117 h x0 s = some o) (hc : ∀ s', o = .inl s' → fX8_digestOfPictures_P117 X h x0 n sl s') (he : ∀ e', o = .inr e' → fX8_digestOfPictures_E117 X h x0 n sl e') : fX8_digestOfPictures_P117 X h x0 n sl s := by
  obtain ⟨x3, x5⟩ := s
  show XW X 117 [some (.ref x0), none, none, some (.long x3), none, some (.int x5), none] [] h n sl
  replace hm : fX8_digestOfPictures_b117 h x0 x3 x5 = some o := hm
  unfold fX8_digestOfPictures_b117 at hm
  refine xw_iload (pc := 117) (i := 5) (x := x5) C dX8_digestOfPictures_117 rfl ?_
  refine xw_iconst (pc := 119) (v := 3) C dX8_digestOfPictures_119 xk_i_3 ?_
  refine xw_icmp_gt (pc := 120) (tgt := 143) C dX8_digestOfPictures_120 (by decide) (fun q => ?_) (fun q => ?_)
  · replace hm := xif_t q hm
    obtain rfl := Option.some.inj hm
    refine xw_sub (pc := 143) _ ?_ (he _ rfl)
    exact ⟨Or.inl rfl, Or.inl rfl, Or.inl rfl, Or.inr rfl, Or.inl rfl, Or.inl rfl, Or.inl rfl, trivial⟩
  · replace hm := xif_f q hm
    refine xw_ldc2 (pc := 123) (v := 31) C dX8_digestOfPictures_123 cn_X8_279 ?_
    refine xw_lload_n (pc := 126) (i := 3) (x := x3) C dX8_digestOfPictures_126 rfl rfl ?_
    refine xw_lmul (pc := 127) C dX8_digestOfPictures_127 ?_
    refine xw_aload_n (pc := 128) (i := 0) (x := x0) C dX8_digestOfPictures_128 rfl rfl ?_
    refine xw_iload (pc := 129) (i := 5) (x := x5) C dX8_digestOfPictures_129 rfl ?_
    obtain ⟨_, q28, hm⟩ := xbind hm
    obtain ⟨v29, q30, hm⟩ := xbind hm
    refine xw_callV1 (pc := 131) (As := [.int x5]) (st := [.long ((31 : Int64) * x3)]) C dX8_digestOfPictures_131 (wX8_seems q30) dd_X8_seems lk_X8_297 dv_X8_seems (xco_spec q28) rfl (Nat.le_of_ble_eq_true rfl) (Nat.le_of_ble_eq_true rfl) (Nat.le_of_ble_eq_true rfl) ⟨Nat.le_refl _, Nat.le_refl _⟩ hN ?_
    refine xw_i2l (pc := 134) C dX8_digestOfPictures_134 ?_
    refine xw_ladd (pc := 135) C dX8_digestOfPictures_135 ?_
    obtain ⟨y31, ey31, hm⟩ := xlet_ex hm
    refine xw_topJ ey31 ?_
    refine xw_lstore_n (pc := 136) (i := 3) (x := y31) (L' := [some (.ref x0), none, none, some (.long y31), none, some (.int x5), none]) C dX8_digestOfPictures_136 rfl (Nat.le_of_ble_eq_true rfl) rfl ?_
    refine xw_iinc (pc := 137) (i := 5) (x := x5) (v := (x5 + (1 : Int32))) (L' := [some (.ref x0), none, none, some (.long y31), none, some (.int (x5 + (1 : Int32))), none]) C dX8_digestOfPictures_137 rfl (congrArg (HAdd.hAdd _) xk_i_1) (Nat.le_of_ble_eq_true rfl) rfl ?_
    refine xw_goto (pc := 140) (tgt := 117) C dX8_digestOfPictures_140 (by decide) ?_
    obtain rfl := Option.some.inj hm
    refine xw_sub (pc := 117) _ ?_ (hc _ rfl)
    exact ⟨Or.inr rfl, Or.inl rfl, Or.inl rfl, Or.inr rfl, Or.inl rfl, Or.inr rfl, Or.inl rfl, trivial⟩
set_option maxHeartbeats 4000000 in
set_option maxRecDepth 100000 in
theorem wX8_digestOfPictures {l : Launch} {n sl : Nat} {h : XH} {x0 : Nat} {x1 : Int64} {o : Int64} (hm : fX8_digestOfPictures h x0 x1 = some o) : XM l yX8_digestOfPictures cX8_digestOfPictures 7 (some .long) 5 118 [.ref x0, .long x1] h n sl (some (.long o)) h n sl := by
  refine xm_of pnX8 [some (.ref x0), some (.long x1), none, none, none, none, none] 4 rfl (Nat.le_of_ble_eq_true rfl) ?_
  intro X hT C
  replace C : XOK X RX8 cX8_digestOfPictures 7 "digestOfPictures" (some .long) 5 118 := C
  obtain ⟨-, hN, hX⟩ := hT
  unfold fX8_digestOfPictures at hm
  refine xw_lload_n (pc := 0) (i := 1) (x := x1) C dX8_digestOfPictures_0 rfl rfl ?_
  refine xw_lstore_n (pc := 1) (i := 3) (x := x1) (L' := [some (.ref x0), some (.long x1), none, some (.long x1), none, none, none]) C dX8_digestOfPictures_1 rfl (Nat.le_of_ble_eq_true rfl) rfl ?_
  refine xw_iconst (pc := 2) (v := 0) C dX8_digestOfPictures_2 xk_i_0 ?_
  refine xw_istore (pc := 3) (i := 5) (x := (0 : Int32)) (L' := [some (.ref x0), some (.long x1), none, some (.long x1), none, some (.int (0 : Int32)), none]) C dX8_digestOfPictures_3 (Nat.le_of_ble_eq_true rfl) rfl ?_
  obtain ⟨e15, q16, hm⟩ := xbind hm
  refine xw_sub (pc := 5) [some (.ref x0), none, none, some (.long x1), none, some (.int (0 : Int32)), none] ⟨Or.inr rfl, Or.inl rfl, Or.inl rfl, Or.inr rfl, Or.inl rfl, Or.inr rfl, Or.inl rfl, trivial⟩ ?_
  refine xloop_walk (fX8_digestOfPictures_B5 h x0) (fX8_digestOfPictures_P5 X h x0 n sl) (fX8_digestOfPictures_E5 X h x0 n sl) (fun s' o' => fX8_digestOfPictures_B5_w C hN s' o') 5000 (x1, (0 : Int32)) e15 q16 ?_
  show XW X 58 [some (.ref x0), none, none, some (.long e15), none, none, none] [] h n sl
  refine xw_iconst (pc := 58) (v := 0) C dX8_digestOfPictures_58 xk_i_0 ?_
  refine xw_istore (pc := 59) (i := 5) (x := (0 : Int32)) (L' := [some (.ref x0), none, none, some (.long e15), none, some (.int (0 : Int32)), none]) C dX8_digestOfPictures_59 (Nat.le_of_ble_eq_true rfl) rfl ?_
  obtain ⟨e26, q27, hm⟩ := xbind hm
  refine xw_sub (pc := 61) [some (.ref x0), none, none, some (.long e15), none, some (.int (0 : Int32)), none] ⟨Or.inr rfl, Or.inl rfl, Or.inl rfl, Or.inr rfl, Or.inl rfl, Or.inr rfl, Or.inl rfl, trivial⟩ ?_
  refine xloop_walk (fX8_digestOfPictures_B61 h x0) (fX8_digestOfPictures_P61 X h x0 n sl) (fX8_digestOfPictures_E61 X h x0 n sl) (fun s' o' => fX8_digestOfPictures_B61_w C hN s' o') 5000 (e15, (0 : Int32)) e26 q27 ?_
  show XW X 114 [some (.ref x0), none, none, some (.long e26), none, none, none] [] h n sl
  refine xw_iconst (pc := 114) (v := 0) C dX8_digestOfPictures_114 xk_i_0 ?_
  refine xw_istore (pc := 115) (i := 5) (x := (0 : Int32)) (L' := [some (.ref x0), none, none, some (.long e26), none, some (.int (0 : Int32)), none]) C dX8_digestOfPictures_115 (Nat.le_of_ble_eq_true rfl) rfl ?_
  obtain ⟨e32, q33, hm⟩ := xbind hm
  refine xw_sub (pc := 117) [some (.ref x0), none, none, some (.long e26), none, some (.int (0 : Int32)), none] ⟨Or.inr rfl, Or.inl rfl, Or.inl rfl, Or.inr rfl, Or.inl rfl, Or.inr rfl, Or.inl rfl, trivial⟩ ?_
  refine xloop_walk (fX8_digestOfPictures_B117 h x0) (fX8_digestOfPictures_P117 X h x0 n sl) (fX8_digestOfPictures_E117 X h x0 n sl) (fun s' o' => fX8_digestOfPictures_B117_w C hN s' o') 5000 (e26, (0 : Int32)) e32 q33 ?_
  show XW X 143 [none, none, none, some (.long e32), none, none, none] [] h n sl
  refine xw_lload_n (pc := 143) (i := 3) (x := e32) C dX8_digestOfPictures_143 rfl rfl ?_
  obtain rfl := Option.some.inj hm
  exact xw_lreturn (pc := 144) C dX8_digestOfPictures_144 rfl hX
set_option maxHeartbeats 4000000 in
set_option maxRecDepth 100000 in
theorem wX8_nearest {l : Launch} {n sl : Nat} {h : XH} {x0 : Nat} {x1 : Int32} {o : Int32 × XH} (hm : fX8_nearest h x0 x1 = some o) : XM l yX8_nearest cX8_nearest 2 (some .int) 4 91 [.ref x0, .int x1] h n sl (some (.int o.1)) o.2 n sl := by
  refine xm_of pnX8 [some (.ref x0), some (.int x1)] 0 rfl (Nat.le_of_ble_eq_true rfl) ?_
  intro X hT C
  replace C : XOK X RX8 cX8_nearest 2 "nearest" (some .int) 4 91 := C
  obtain ⟨-, hN, hX⟩ := hT
  unfold fX8_nearest at hm
  refine xw_iload_n (pc := 0) (i := 1) (x := x1) C dX8_nearest_0 rfl rfl ?_
  refine xw_sipush (pc := 1) (v := -1000) C dX8_nearest_1 xk_s_m1000 ?_
  refine xw_sipush (pc := 4) (v := 1000) C dX8_nearest_4 xk_s_1000 ?_
  obtain ⟨v1, q2, hm⟩ := xbind hm
  refine xw_callS1 (pc := 7) (As := [.int x1, .int (-1000 : Int32), .int (1000 : Int32)]) (st := []) C dX8_nearest_7 (wX8_within q2) dd_X8_within lk_X8_44 ds_X8_within rfl (Nat.le_of_ble_eq_true rfl) (Nat.le_of_ble_eq_true rfl) (Nat.le_of_ble_eq_true rfl) ⟨Nat.le_refl _, Nat.le_refl _⟩ hN ?_
  refine xw_if_neZ (pc := 10) (b := v1) (tgt := 17) C dX8_nearest_10 (by decide) (fun q => ?_) (fun q => ?_)
  · replace hm := xif_t q hm
    refine xw_aload_n (pc := 17) (i := 0) (x := x0) C dX8_nearest_17 rfl rfl ?_
    refine xw_iconst (pc := 18) (v := -1) C dX8_nearest_18 xk_i_m1 ?_
    obtain ⟨_, q3, hm⟩ := xbind hm
    obtain ⟨v4, q5, hm⟩ := xbind hm
    refine xw_callV1 (pc := 19) (As := [.int (-1 : Int32)]) (st := []) C dX8_nearest_19 (wX8_findWithout q5) dd_X8_findWithout lk_X8_203 dv_X8_findWithout (xco_spec q3) rfl (Nat.le_of_ble_eq_true rfl) (Nat.le_of_ble_eq_true rfl) (Nat.le_of_ble_eq_true rfl) ⟨Nat.le_refl _, Nat.le_refl _⟩ hN ?_
    refine xw_iload_n (pc := 22) (i := 1) (x := x1) C dX8_nearest_22 rfl rfl ?_
    obtain ⟨_, q6, hm⟩ := xbind hm
    obtain ⟨v7, q8, hm⟩ := xbind hm
    refine xw_callV1 (pc := 23) (As := [.int x1]) (st := []) C dX8_nearest_23 (wX0_nearestTo q8) dd_X0_nearestTo lk_X8_214 dv_X0_nearestTo (xco_spec q6) rfl (Nat.le_of_ble_eq_true rfl) (Nat.le_of_ble_eq_true rfl) (Nat.le_of_ble_eq_true rfl) ⟨Nat.le_refl _, Nat.le_refl _⟩ hN ?_
    obtain rfl := Option.some.inj hm
    exact xw_ireturn (pc := 26) C dX8_nearest_26 rfl hX
  · replace hm := xif_f q hm
    refine xw_sipush (pc := 13) (v := -1001) C dX8_nearest_13 xk_s_m1001 ?_
    obtain rfl := Option.some.inj hm
    exact xw_ireturn (pc := 16) C dX8_nearest_16 rfl hX
set_option maxHeartbeats 4000000 in
set_option maxRecDepth 100000 in
theorem wX8_isReading {l : Launch} {n sl : Nat} {h : XH} {x0 : Nat} {x1 : Int32} {o : Bool} (hm : fX8_isReading h x0 x1 = some o) : XM l yX8_isReading cX8_isReading 2 (some .boolean) 1 22 [.ref x0, .int x1] h n sl (some (.int (xbi o))) h n sl := by
  refine xm_of pnX8 [some (.ref x0), some (.int x1)] 0 rfl (Nat.le_of_ble_eq_true rfl) ?_
  intro X hT C
  replace C : XOK X RX8 cX8_isReading 2 "isReading" (some .boolean) 1 22 := C
  obtain ⟨-, hN, hX⟩ := hT
  unfold fX8_isReading at hm
  refine xw_iload_n (pc := 0) (i := 1) (x := x1) C dX8_isReading_0 rfl rfl ?_
  refine xw_iconst (pc := 1) (v := 0) C dX8_isReading_1 xk_i_0 ?_
  refine xw_aload_n (pc := 2) (i := 0) (x := x0) C dX8_isReading_2 rfl rfl ?_
  obtain ⟨v1, q2, hm⟩ := xbind hm
  refine xw_getR (pc := 3) C dX8_isReading_3 fl_X8_10 q2 ?_
  obtain ⟨v3, q4, hm⟩ := xbind hm
  refine xw_getR (pc := 6) C dX8_isReading_6 fl_X8_181 q4 ?_
  obtain ⟨v5, q6, hm⟩ := xbind hm
  refine xw_getI (pc := 9) C dX8_isReading_9 fl_X8_190 q6 ?_
  refine xw_iconst (pc := 12) (v := 1) C dX8_isReading_12 xk_i_1 ?_
  refine xw_isub (pc := 13) C dX8_isReading_13 ?_
  obtain ⟨v7, q8, hm⟩ := xbind hm
  refine xw_callS1 (pc := 14) (As := [.int x1, .int (0 : Int32), .int (v5 - (1 : Int32))]) (st := []) C dX8_isReading_14 (wX8_within q8) dd_X8_within lk_X8_44 ds_X8_within rfl (Nat.le_of_ble_eq_true rfl) (Nat.le_of_ble_eq_true rfl) (Nat.le_of_ble_eq_true rfl) ⟨Nat.le_refl _, Nat.le_refl _⟩ hN ?_
  obtain rfl := Option.some.inj hm
  exact xw_zreturn (pc := 17) (v := xbi v7) C dX8_isReading_17 rfl (xbi_nar _) hX
set_option maxHeartbeats 4000000 in
set_option maxRecDepth 100000 in
theorem wX8_reading {l : Launch} {n sl : Nat} {h : XH} {x0 : Nat} {x1 : Int32} {x2 : Int32} {o : Int32 × XH} (hm : fX8_reading h x0 x1 x2 = some o) : XM l yX8_reading cX8_reading 3 (some .int) 4 91 [.ref x0, .int x1, .int x2] h n sl (some (.int o.1)) o.2 n sl := by
  refine xm_of pnX8 [some (.ref x0), some (.int x1), some (.int x2)] 0 rfl (Nat.le_of_ble_eq_true rfl) ?_
  intro X hT C
  replace C : XOK X RX8 cX8_reading 3 "reading" (some .int) 4 91 := C
  obtain ⟨-, hN, hX⟩ := hT
  unfold fX8_reading at hm
  refine xw_aload_n (pc := 0) (i := 0) (x := x0) C dX8_reading_0 rfl rfl ?_
  refine xw_iload_n (pc := 1) (i := 1) (x := x1) C dX8_reading_1 rfl rfl ?_
  obtain ⟨_, q1, hm⟩ := xbind hm
  obtain ⟨v2, q3, hm⟩ := xbind hm
  refine xw_callV1 (pc := 2) (As := [.int x1]) (st := []) C dX8_reading_2 (wX8_isReading q3) dd_X8_isReading lk_X8_178 dv_X8_isReading (xco_spec q1) rfl (Nat.le_of_ble_eq_true rfl) (Nat.le_of_ble_eq_true rfl) (Nat.le_of_ble_eq_true rfl) ⟨Nat.le_refl _, Nat.le_refl _⟩ hN ?_
  refine xw_if_eqZ (pc := 5) (b := v2) (tgt := 17) C dX8_reading_5 (by decide) (fun q => ?_) (fun q => ?_)
  · replace hm := xif_f q hm
    refine xw_sipush (pc := 17) (v := -1001) C dX8_reading_17 xk_s_m1001 ?_
    obtain rfl := Option.some.inj hm
    exact xw_ireturn (pc := 20) C dX8_reading_20 rfl hX
  · replace hm := xif_t q hm
    refine xw_iload_n (pc := 8) (i := 2) (x := x2) C dX8_reading_8 rfl rfl ?_
    refine xw_iconst (pc := 9) (v := 0) C dX8_reading_9 xk_i_0 ?_
    refine xw_iconst (pc := 10) (v := 2) C dX8_reading_10 xk_i_2 ?_
    obtain ⟨v4, q5, hm⟩ := xbind hm
    refine xw_callS1 (pc := 11) (As := [.int x2, .int (0 : Int32), .int (2 : Int32)]) (st := []) C dX8_reading_11 (wX8_within q5) dd_X8_within lk_X8_44 ds_X8_within rfl (Nat.le_of_ble_eq_true rfl) (Nat.le_of_ble_eq_true rfl) (Nat.le_of_ble_eq_true rfl) ⟨Nat.le_refl _, Nat.le_refl _⟩ hN ?_
    refine xw_if_neZ (pc := 14) (b := v4) (tgt := 21) C dX8_reading_14 (by decide) (fun q => ?_) (fun q => ?_)
    · replace hm := xif_t q hm
      refine xw_iload_n (pc := 21) (i := 2) (x := x2) C dX8_reading_21 rfl rfl ?_
      by_cases q6 : x2 = 0
      · replace hm := xif_t q6 hm
        refine xw_look (pc := 22) (off := 26) (tgt := 48) C dX8_reading_22 (by decide) (by rw [q6]; rfl) (by decide) ?_
        refine xw_aload_n (pc := 48) (i := 0) (x := x0) C dX8_reading_48 rfl rfl ?_
        obtain ⟨v8, q9, hm⟩ := xbind hm
        refine xw_getR (pc := 49) C dX8_reading_49 fl_X8_10 q9 ?_
        obtain ⟨v10, q11, hm⟩ := xbind hm
        refine xw_getR (pc := 52) C dX8_reading_52 fl_X8_181 q11 ?_
        obtain ⟨v12, q13, hm⟩ := xbind hm
        refine xw_getR (pc := 55) C dX8_reading_55 fl_X8_193 q13 ?_
        refine xw_iload_n (pc := 58) (i := 1) (x := x1) C dX8_reading_58 rfl rfl ?_
        obtain ⟨v14, q15, hm⟩ := xbind hm
        refine xw_callS1 (pc := 59) (As := [.ref v12, .int x1]) (st := []) C dX8_reading_59 (wX8_at q15) dd_X8_at lk_X8_196 ds_X8_at rfl (Nat.le_of_ble_eq_true rfl) (Nat.le_of_ble_eq_true rfl) (Nat.le_of_ble_eq_true rfl) ⟨Nat.le_refl _, Nat.le_refl _⟩ hN ?_
        obtain rfl := Option.some.inj hm
        exact xw_ireturn (pc := 62) C dX8_reading_62 rfl hX
      · replace hm := xif_f q6 hm
        by_cases q7 : x2 = 1
        · replace hm := xif_t q7 hm
          refine xw_look (pc := 22) (off := 41) (tgt := 63) C dX8_reading_22 (by decide) (by rw [q7]; rfl) (by decide) ?_
          refine xw_aload_n (pc := 63) (i := 0) (x := x0) C dX8_reading_63 rfl rfl ?_
          obtain ⟨v16, q17, hm⟩ := xbind hm
          refine xw_getR (pc := 64) C dX8_reading_64 fl_X8_10 q17 ?_
          obtain ⟨v18, q19, hm⟩ := xbind hm
          refine xw_getR (pc := 67) C dX8_reading_67 fl_X8_181 q19 ?_
          obtain ⟨v20, q21, hm⟩ := xbind hm
          refine xw_getR (pc := 70) C dX8_reading_70 fl_X8_200 q21 ?_
          refine xw_iload_n (pc := 73) (i := 1) (x := x1) C dX8_reading_73 rfl rfl ?_
          obtain ⟨v22, q23, hm⟩ := xbind hm
          refine xw_callS1 (pc := 74) (As := [.ref v20, .int x1]) (st := []) C dX8_reading_74 (wX8_at q23) dd_X8_at lk_X8_196 ds_X8_at rfl (Nat.le_of_ble_eq_true rfl) (Nat.le_of_ble_eq_true rfl) (Nat.le_of_ble_eq_true rfl) ⟨Nat.le_refl _, Nat.le_refl _⟩ hN ?_
          obtain rfl := Option.some.inj hm
          exact xw_ireturn (pc := 77) C dX8_reading_77 rfl hX
        · replace hm := xif_f q7 hm
          refine xw_look (pc := 22) (off := 56) (tgt := 78) C dX8_reading_22 (by decide) (by show Op.lookupswitch.offset [(0, 26), (1, 41)] 56 _ = _; rw [lv_osw q6 (by decide), lv_osw q7 (by decide)]; rfl) (by decide) ?_
          refine xw_aload_n (pc := 78) (i := 0) (x := x0) C dX8_reading_78 rfl rfl ?_
          refine xw_iload_n (pc := 79) (i := 1) (x := x1) C dX8_reading_79 rfl rfl ?_
          obtain ⟨_, q24, hm⟩ := xbind hm
          obtain ⟨v25, q26, hm⟩ := xbind hm
          refine xw_callV1 (pc := 80) (As := [.int x1]) (st := []) C dX8_reading_80 (wX8_findWithout q26) dd_X8_findWithout lk_X8_203 dv_X8_findWithout (xco_spec q24) rfl (Nat.le_of_ble_eq_true rfl) (Nat.le_of_ble_eq_true rfl) (Nat.le_of_ble_eq_true rfl) ⟨Nat.le_refl _, Nat.le_refl _⟩ hN ?_
          obtain ⟨_, q27, hm⟩ := xbind hm
          obtain ⟨v28, q29, hm⟩ := xbind hm
          refine xw_callV1 (pc := 83) (As := []) (st := []) C dX8_reading_83 (wX0_number q29) dd_X0_number lk_X8_207 dv_X0_number (xco_spec q27) rfl (Nat.le_of_ble_eq_true rfl) (Nat.le_of_ble_eq_true rfl) (Nat.le_of_ble_eq_true rfl) ⟨Nat.le_refl _, Nat.le_refl _⟩ hN ?_
          obtain rfl := Option.some.inj hm
          exact xw_ireturn (pc := 86) C dX8_reading_86 rfl hX
    · replace hm := xif_f q hm
      refine xw_sipush (pc := 17) (v := -1001) C dX8_reading_17 xk_s_m1001 ?_
      obtain rfl := Option.some.inj hm
      exact xw_ireturn (pc := 20) C dX8_reading_20 rfl hX
def fX8_digestOfReadings_P5 (X : XCtx) (x0 : Nat) (n sl : Nat) (s : (XH × Int64 × Int32)) : Prop := XW X 5 [some (.ref x0), none, none, some (.long s.2.1), none, some (.int s.2.2), none] [] s.1 n sl
def fX8_digestOfReadings_E5 (X : XCtx) (x0 : Nat) (n sl : Nat) (e : (XH × Int64)) : Prop := XW X 57 [some (.ref x0), none, none, some (.long e.2), none, none, none] [] e.1 n sl
def fX8_digestOfReadings_P23 (X : XCtx) (x0 : Nat) (x5 : Int32) (n sl : Nat) (s : (XH × Int64 × Int32)) : Prop := XW X 23 [some (.ref x0), none, none, some (.long s.2.1), none, some (.int x5), some (.int s.2.2)] [] s.1 n sl
def fX8_digestOfReadings_E23 (X : XCtx) (x0 : Nat) (x5 : Int32) (n sl : Nat) (e : (XH × Int64)) : Prop := XW X 51 [some (.ref x0), none, none, some (.long e.2), none, some (.int x5), none] [] e.1 n sl
set_option maxHeartbeats 4000000 in
set_option maxRecDepth 100000 in
theorem fX8_digestOfReadings_B23_w {X : XCtx} (C : XOK X RX8 cX8_digestOfReadings 7 "digestOfReadings" (some .long) 5 118) {n sl : Nat} (hN : XN X n sl) {x0 : Nat} {x5 : Int32} (s : (XH × Int64 × Int32)) (o : (XH × Int64 × Int32) ⊕ (XH × Int64)) (hm : fX8_digestOfReadings_B23 x0 x5 s = some o) (hc : ∀ s', o = .inl s' → fX8_digestOfReadings_P23 X x0 x5 n sl s') (he : ∀ e', o = .inr e' → fX8_digestOfReadings_E23 X x0 x5 n sl e') : fX8_digestOfReadings_P23 X x0 x5 n sl s := by
  obtain ⟨h, x3, x6⟩ := s
  show XW X 23 [some (.ref x0), none, none, some (.long x3), none, some (.int x5), some (.int x6)] [] h n sl
  replace hm : fX8_digestOfReadings_b23 x0 x5 h x3 x6 = some o := hm
  unfold fX8_digestOfReadings_b23 at hm
  refine xw_iload (pc := 23) (i := 6) (x := x6) C dX8_digestOfReadings_23 rfl ?_
  refine xw_iconst (pc := 25) (v := 2) C dX8_digestOfReadings_25 xk_i_2 ?_
  refine xw_icmp_gt (pc := 26) (tgt := 51) C dX8_digestOfReadings_26 (by decide) (fun q => ?_) (fun q => ?_)
  · replace hm := xif_t q hm
    obtain rfl := Option.some.inj hm
    refine xw_sub (pc := 51) _ ?_ (he _ rfl)
    exact ⟨Or.inr rfl, Or.inl rfl, Or.inl rfl, Or.inr rfl, Or.inl rfl, Or.inr rfl, Or.inl rfl, trivial⟩
  · replace hm := xif_f q hm
    refine xw_ldc2 (pc := 29) (v := 31) C dX8_digestOfReadings_29 cn_X8_279 ?_
    refine xw_lload_n (pc := 32) (i := 3) (x := x3) C dX8_digestOfReadings_32 rfl rfl ?_
    refine xw_lmul (pc := 33) C dX8_digestOfReadings_33 ?_
    refine xw_aload_n (pc := 34) (i := 0) (x := x0) C dX8_digestOfReadings_34 rfl rfl ?_
    refine xw_iload (pc := 35) (i := 5) (x := x5) C dX8_digestOfReadings_35 rfl ?_
    refine xw_iload (pc := 37) (i := 6) (x := x6) C dX8_digestOfReadings_37 rfl ?_
    obtain ⟨_, q7, hm⟩ := xbind hm
    obtain ⟨v8, q9, hm⟩ := xbind hm
    refine xw_callV1 (pc := 39) (As := [.int x5, .int x6]) (st := [.long ((31 : Int64) * x3)]) C dX8_digestOfReadings_39 (wX8_reading q9) dd_X8_reading lk_X8_300 dv_X8_reading (xco_spec q7) rfl (Nat.le_of_ble_eq_true rfl) (Nat.le_of_ble_eq_true rfl) (Nat.le_of_ble_eq_true rfl) ⟨Nat.le_refl _, Nat.le_refl _⟩ hN ?_
    refine xw_i2l (pc := 42) C dX8_digestOfReadings_42 ?_
    refine xw_ladd (pc := 43) C dX8_digestOfReadings_43 ?_
    obtain ⟨y10, ey10, hm⟩ := xlet_ex hm
    refine xw_topJ ey10 ?_
    refine xw_lstore_n (pc := 44) (i := 3) (x := y10) (L' := [some (.ref x0), none, none, some (.long y10), none, some (.int x5), some (.int x6)]) C dX8_digestOfReadings_44 rfl (Nat.le_of_ble_eq_true rfl) rfl ?_
    refine xw_iinc (pc := 45) (i := 6) (x := x6) (v := (x6 + (1 : Int32))) (L' := [some (.ref x0), none, none, some (.long y10), none, some (.int x5), some (.int (x6 + (1 : Int32)))]) C dX8_digestOfReadings_45 rfl (congrArg (HAdd.hAdd _) xk_i_1) (Nat.le_of_ble_eq_true rfl) rfl ?_
    refine xw_goto (pc := 48) (tgt := 23) C dX8_digestOfReadings_48 (by decide) ?_
    obtain rfl := Option.some.inj hm
    refine xw_sub (pc := 23) _ ?_ (hc _ rfl)
    exact ⟨Or.inr rfl, Or.inl rfl, Or.inl rfl, Or.inr rfl, Or.inl rfl, Or.inr rfl, Or.inr rfl, trivial⟩
set_option maxHeartbeats 4000000 in
set_option maxRecDepth 100000 in
theorem fX8_digestOfReadings_B5_w {X : XCtx} (C : XOK X RX8 cX8_digestOfReadings 7 "digestOfReadings" (some .long) 5 118) {n sl : Nat} (hN : XN X n sl) {x0 : Nat} (s : (XH × Int64 × Int32)) (o : (XH × Int64 × Int32) ⊕ (XH × Int64)) (hm : fX8_digestOfReadings_B5 x0 s = some o) (hc : ∀ s', o = .inl s' → fX8_digestOfReadings_P5 X x0 n sl s') (he : ∀ e', o = .inr e' → fX8_digestOfReadings_E5 X x0 n sl e') : fX8_digestOfReadings_P5 X x0 n sl s := by
  obtain ⟨h, x3, x5⟩ := s
  show XW X 5 [some (.ref x0), none, none, some (.long x3), none, some (.int x5), none] [] h n sl
  replace hm : fX8_digestOfReadings_b5 x0 h x3 x5 = some o := hm
  unfold fX8_digestOfReadings_b5 at hm
  refine xw_iload (pc := 5) (i := 5) (x := x5) C dX8_digestOfReadings_5 rfl ?_
  refine xw_aload_n (pc := 7) (i := 0) (x := x0) C dX8_digestOfReadings_7 rfl rfl ?_
  obtain ⟨v1, q2, hm⟩ := xbind hm
  refine xw_getR (pc := 8) C dX8_digestOfReadings_8 fl_X8_10 q2 ?_
  obtain ⟨v3, q4, hm⟩ := xbind hm
  refine xw_getR (pc := 11) C dX8_digestOfReadings_11 fl_X8_181 q4 ?_
  obtain ⟨v5, q6, hm⟩ := xbind hm
  refine xw_getI (pc := 14) C dX8_digestOfReadings_14 fl_X8_190 q6 ?_
  refine xw_icmp_ge (pc := 17) (tgt := 57) C dX8_digestOfReadings_17 (by decide) (fun q => ?_) (fun q => ?_)
  · replace hm := xif_t q hm
    obtain rfl := Option.some.inj hm
    refine xw_sub (pc := 57) _ ?_ (he _ rfl)
    exact ⟨Or.inr rfl, Or.inl rfl, Or.inl rfl, Or.inr rfl, Or.inl rfl, Or.inl rfl, Or.inl rfl, trivial⟩
  · replace hm := xif_f q hm
    refine xw_iconst (pc := 20) (v := 0) C dX8_digestOfReadings_20 xk_i_0 ?_
    refine xw_istore (pc := 21) (i := 6) (x := (0 : Int32)) (L' := [some (.ref x0), none, none, some (.long x3), none, some (.int x5), some (.int (0 : Int32))]) C dX8_digestOfReadings_21 (Nat.le_of_ble_eq_true rfl) rfl ?_
    obtain ⟨e11, q12, hm⟩ := xbind hm
    refine xw_sub (pc := 23) [some (.ref x0), none, none, some (.long x3), none, some (.int x5), some (.int (0 : Int32))] ⟨Or.inr rfl, Or.inl rfl, Or.inl rfl, Or.inr rfl, Or.inl rfl, Or.inr rfl, Or.inr rfl, trivial⟩ ?_
    refine xloop_walk (fX8_digestOfReadings_B23 x0 x5) (fX8_digestOfReadings_P23 X x0 x5 n sl) (fX8_digestOfReadings_E23 X x0 x5 n sl) (fun s' o' => fX8_digestOfReadings_B23_w C hN s' o') 5000 (h, x3, (0 : Int32)) e11 q12 ?_
    show XW X 51 [some (.ref x0), none, none, some (.long e11.2), none, some (.int x5), none] [] e11.1 n sl
    refine xw_iinc (pc := 51) (i := 5) (x := x5) (v := (x5 + (1 : Int32))) (L' := [some (.ref x0), none, none, some (.long e11.2), none, some (.int (x5 + (1 : Int32))), none]) C dX8_digestOfReadings_51 rfl (congrArg (HAdd.hAdd _) xk_i_1) (Nat.le_of_ble_eq_true rfl) rfl ?_
    refine xw_goto (pc := 54) (tgt := 5) C dX8_digestOfReadings_54 (by decide) ?_
    obtain rfl := Option.some.inj hm
    refine xw_sub (pc := 5) _ ?_ (hc _ rfl)
    exact ⟨Or.inr rfl, Or.inl rfl, Or.inl rfl, Or.inr rfl, Or.inl rfl, Or.inr rfl, Or.inl rfl, trivial⟩
def fX8_digestOfReadings_P72 (X : XCtx) (x0 : Nat) (n sl : Nat) (s : (XH × Int64 × Int32)) : Prop := XW X 72 [some (.ref x0), none, none, some (.long s.2.1), none, some (.int s.2.2), none] [] s.1 n sl
def fX8_digestOfReadings_E72 (X : XCtx) (x0 : Nat) (n sl : Nat) (e : (XH × Int64)) : Prop := XW X 98 [some (.ref x0), none, none, some (.long e.2), none, none, none] [] e.1 n sl
set_option maxHeartbeats 4000000 in
set_option maxRecDepth 100000 in
theorem fX8_digestOfReadings_B72_w {X : XCtx} (C : XOK X RX8 cX8_digestOfReadings 7 "digestOfReadings" (some .long) 5 118) {n sl : Nat} (hN : XN X n sl) {x0 : Nat} (s : (XH × Int64 × Int32)) (o : (XH × Int64 × Int32) ⊕ (XH × Int64)) (hm : fX8_digestOfReadings_B72 x0 s = some o) (hc : ∀ s', o = .inl s' → fX8_digestOfReadings_P72 X x0 n sl s') (he : ∀ e', o = .inr e' → fX8_digestOfReadings_E72 X x0 n sl e') : fX8_digestOfReadings_P72 X x0 n sl s := by
  obtain ⟨h, x3, x5⟩ := s
  show XW X 72 [some (.ref x0), none, none, some (.long x3), none, some (.int x5), none] [] h n sl
  replace hm : fX8_digestOfReadings_b72 x0 h x3 x5 = some o := hm
  unfold fX8_digestOfReadings_b72 at hm
  refine xw_iload (pc := 72) (i := 5) (x := x5) C dX8_digestOfReadings_72 rfl ?_
  refine xw_iconst (pc := 74) (v := 4) C dX8_digestOfReadings_74 xk_i_4 ?_
  refine xw_icmp_gt (pc := 75) (tgt := 98) C dX8_digestOfReadings_75 (by decide) (fun q => ?_) (fun q => ?_)
  · replace hm := xif_t q hm
    obtain rfl := Option.some.inj hm
    refine xw_sub (pc := 98) _ ?_ (he _ rfl)
    exact ⟨Or.inr rfl, Or.inl rfl, Or.inl rfl, Or.inr rfl, Or.inl rfl, Or.inl rfl, Or.inl rfl, trivial⟩
  · replace hm := xif_f q hm
    refine xw_ldc2 (pc := 78) (v := 31) C dX8_digestOfReadings_78 cn_X8_279 ?_
    refine xw_lload_n (pc := 81) (i := 3) (x := x3) C dX8_digestOfReadings_81 rfl rfl ?_
    refine xw_lmul (pc := 82) C dX8_digestOfReadings_82 ?_
    refine xw_aload_n (pc := 83) (i := 0) (x := x0) C dX8_digestOfReadings_83 rfl rfl ?_
    refine xw_iload (pc := 84) (i := 5) (x := x5) C dX8_digestOfReadings_84 rfl ?_
    obtain ⟨_, q19, hm⟩ := xbind hm
    obtain ⟨v20, q21, hm⟩ := xbind hm
    refine xw_callV1 (pc := 86) (As := [.int x5]) (st := [.long ((31 : Int64) * x3)]) C dX8_digestOfReadings_86 (wX8_candidate q21) dd_X8_candidate lk_X8_303 dv_X8_candidate (xco_spec q19) rfl (Nat.le_of_ble_eq_true rfl) (Nat.le_of_ble_eq_true rfl) (Nat.le_of_ble_eq_true rfl) ⟨Nat.le_refl _, Nat.le_refl _⟩ hN ?_
    refine xw_i2l (pc := 89) C dX8_digestOfReadings_89 ?_
    refine xw_ladd (pc := 90) C dX8_digestOfReadings_90 ?_
    obtain ⟨y22, ey22, hm⟩ := xlet_ex hm
    refine xw_topJ ey22 ?_
    refine xw_lstore_n (pc := 91) (i := 3) (x := y22) (L' := [some (.ref x0), none, none, some (.long y22), none, some (.int x5), none]) C dX8_digestOfReadings_91 rfl (Nat.le_of_ble_eq_true rfl) rfl ?_
    refine xw_iinc (pc := 92) (i := 5) (x := x5) (v := (x5 + (1 : Int32))) (L' := [some (.ref x0), none, none, some (.long y22), none, some (.int (x5 + (1 : Int32))), none]) C dX8_digestOfReadings_92 rfl (congrArg (HAdd.hAdd _) xk_i_1) (Nat.le_of_ble_eq_true rfl) rfl ?_
    refine xw_goto (pc := 95) (tgt := 72) C dX8_digestOfReadings_95 (by decide) ?_
    obtain rfl := Option.some.inj hm
    refine xw_sub (pc := 72) _ ?_ (hc _ rfl)
    exact ⟨Or.inr rfl, Or.inl rfl, Or.inl rfl, Or.inr rfl, Or.inl rfl, Or.inr rfl, Or.inl rfl, trivial⟩
set_option maxHeartbeats 4000000 in
set_option maxRecDepth 100000 in
theorem wX8_digestOfReadings {l : Launch} {n sl : Nat} {h : XH} {x0 : Nat} {x1 : Int64} {o : Int64 × XH} (hm : fX8_digestOfReadings h x0 x1 = some o) : XM l yX8_digestOfReadings cX8_digestOfReadings 7 (some .long) 5 118 [.ref x0, .long x1] h n sl (some (.long o.1)) o.2 n sl := by
  refine xm_of pnX8 [some (.ref x0), some (.long x1), none, none, none, none, none] 4 rfl (Nat.le_of_ble_eq_true rfl) ?_
  intro X hT C
  replace C : XOK X RX8 cX8_digestOfReadings 7 "digestOfReadings" (some .long) 5 118 := C
  obtain ⟨-, hN, hX⟩ := hT
  unfold fX8_digestOfReadings at hm
  refine xw_lload_n (pc := 0) (i := 1) (x := x1) C dX8_digestOfReadings_0 rfl rfl ?_
  refine xw_lstore_n (pc := 1) (i := 3) (x := x1) (L' := [some (.ref x0), some (.long x1), none, some (.long x1), none, none, none]) C dX8_digestOfReadings_1 rfl (Nat.le_of_ble_eq_true rfl) rfl ?_
  refine xw_iconst (pc := 2) (v := 0) C dX8_digestOfReadings_2 xk_i_0 ?_
  refine xw_istore (pc := 3) (i := 5) (x := (0 : Int32)) (L' := [some (.ref x0), some (.long x1), none, some (.long x1), none, some (.int (0 : Int32)), none]) C dX8_digestOfReadings_3 (Nat.le_of_ble_eq_true rfl) rfl ?_
  obtain ⟨e13, q14, hm⟩ := xbind hm
  refine xw_sub (pc := 5) [some (.ref x0), none, none, some (.long x1), none, some (.int (0 : Int32)), none] ⟨Or.inr rfl, Or.inl rfl, Or.inl rfl, Or.inr rfl, Or.inl rfl, Or.inr rfl, Or.inl rfl, trivial⟩ ?_
  refine xloop_walk (fX8_digestOfReadings_B5 x0) (fX8_digestOfReadings_P5 X x0 n sl) (fX8_digestOfReadings_E5 X x0 n sl) (fun s' o' => fX8_digestOfReadings_B5_w C hN s' o') 5000 (h, x1, (0 : Int32)) e13 q14 ?_
  show XW X 57 [some (.ref x0), none, none, some (.long e13.2), none, none, none] [] e13.1 n sl
  refine xw_ldc2 (pc := 57) (v := 31) C dX8_digestOfReadings_57 cn_X8_279 ?_
  refine xw_lload_n (pc := 60) (i := 3) (x := e13.2) C dX8_digestOfReadings_60 rfl rfl ?_
  refine xw_lmul (pc := 61) C dX8_digestOfReadings_61 ?_
  refine xw_aload_n (pc := 62) (i := 0) (x := x0) C dX8_digestOfReadings_62 rfl rfl ?_
  obtain ⟨_, q15, hm⟩ := xbind hm
  obtain ⟨v16, q17, hm⟩ := xbind hm
  refine xw_callV1 (pc := 63) (As := []) (st := [.long ((31 : Int64) * e13.2)]) C dX8_digestOfReadings_63 (wX8_candidates q17) dd_X8_candidates lk_X8_217 dv_X8_candidates (xco_spec q15) rfl (Nat.le_of_ble_eq_true rfl) (Nat.le_of_ble_eq_true rfl) (Nat.le_of_ble_eq_true rfl) ⟨Nat.le_refl _, Nat.le_refl _⟩ hN ?_
  refine xw_i2l (pc := 66) C dX8_digestOfReadings_66 ?_
  refine xw_ladd (pc := 67) C dX8_digestOfReadings_67 ?_
  obtain ⟨y18, ey18, hm⟩ := xlet_ex hm
  refine xw_topJ ey18 ?_
  refine xw_lstore_n (pc := 68) (i := 3) (x := y18) (L' := [some (.ref x0), none, none, some (.long y18), none, none, none]) C dX8_digestOfReadings_68 rfl (Nat.le_of_ble_eq_true rfl) rfl ?_
  refine xw_iconst (pc := 69) (v := 0) C dX8_digestOfReadings_69 xk_i_0 ?_
  refine xw_istore (pc := 70) (i := 5) (x := (0 : Int32)) (L' := [some (.ref x0), none, none, some (.long y18), none, some (.int (0 : Int32)), none]) C dX8_digestOfReadings_70 (Nat.le_of_ble_eq_true rfl) rfl ?_
  obtain ⟨e23, q24, hm⟩ := xbind hm
  refine xw_sub (pc := 72) [some (.ref x0), none, none, some (.long y18), none, some (.int (0 : Int32)), none] ⟨Or.inr rfl, Or.inl rfl, Or.inl rfl, Or.inr rfl, Or.inl rfl, Or.inr rfl, Or.inl rfl, trivial⟩ ?_
  refine xloop_walk (fX8_digestOfReadings_B72 x0) (fX8_digestOfReadings_P72 X x0 n sl) (fX8_digestOfReadings_E72 X x0 n sl) (fun s' o' => fX8_digestOfReadings_B72_w C hN s' o') 5000 (v16.2, y18, (0 : Int32)) e23 q24 ?_
  show XW X 98 [some (.ref x0), none, none, some (.long e23.2), none, none, none] [] e23.1 n sl
  refine xw_ldc2 (pc := 98) (v := 31) C dX8_digestOfReadings_98 cn_X8_279 ?_
  refine xw_lload_n (pc := 101) (i := 3) (x := e23.2) C dX8_digestOfReadings_101 rfl rfl ?_
  refine xw_lmul (pc := 102) C dX8_digestOfReadings_102 ?_
  refine xw_aload_n (pc := 103) (i := 0) (x := x0) C dX8_digestOfReadings_103 rfl rfl ?_
  refine xw_iconst (pc := 104) (v := 0) C dX8_digestOfReadings_104 xk_i_0 ?_
  obtain ⟨_, q25, hm⟩ := xbind hm
  obtain ⟨v26, q27, hm⟩ := xbind hm
  refine xw_callV1 (pc := 105) (As := [.int (0 : Int32)]) (st := [.long ((31 : Int64) * e23.2)]) C dX8_digestOfReadings_105 (wX8_nearest q27) dd_X8_nearest lk_X8_306 dv_X8_nearest (xco_spec q25) rfl (Nat.le_of_ble_eq_true rfl) (Nat.le_of_ble_eq_true rfl) (Nat.le_of_ble_eq_true rfl) ⟨Nat.le_refl _, Nat.le_refl _⟩ hN ?_
  refine xw_i2l (pc := 108) C dX8_digestOfReadings_108 ?_
  refine xw_ladd (pc := 109) C dX8_digestOfReadings_109 ?_
  obtain ⟨y28, ey28, hm⟩ := xlet_ex hm
  refine xw_topJ ey28 ?_
  refine xw_lstore_n (pc := 110) (i := 3) (x := y28) (L' := [some (.ref x0), none, none, some (.long y28), none, none, none]) C dX8_digestOfReadings_110 rfl (Nat.le_of_ble_eq_true rfl) rfl ?_
  refine xw_ldc2 (pc := 111) (v := 31) C dX8_digestOfReadings_111 cn_X8_279 ?_
  refine xw_lload_n (pc := 114) (i := 3) (x := y28) C dX8_digestOfReadings_114 rfl rfl ?_
  refine xw_lmul (pc := 115) C dX8_digestOfReadings_115 ?_
  refine xw_aload_n (pc := 116) (i := 0) (x := x0) C dX8_digestOfReadings_116 rfl rfl ?_
  refine xw_bipush (pc := 117) (v := 20) C dX8_digestOfReadings_117 xk_b_20 ?_
  refine xw_iconst (pc := 119) (v := 0) C dX8_digestOfReadings_119 xk_i_0 ?_
  obtain ⟨_, q29, hm⟩ := xbind hm
  obtain ⟨v30, q31, hm⟩ := xbind hm
  refine xw_callV1 (pc := 120) (As := [.int (20 : Int32), .int (xbi false)]) (st := [.long ((31 : Int64) * y28)]) C dX8_digestOfReadings_120 (wX8_bestPeriod q31) dd_X8_bestPeriod lk_X8_309 dv_X8_bestPeriod (xco_spec q29) rfl (Nat.le_of_ble_eq_true rfl) (Nat.le_of_ble_eq_true rfl) (Nat.le_of_ble_eq_true rfl) ⟨Nat.le_refl _, Nat.le_refl _⟩ hN ?_
  refine xw_i2l (pc := 123) C dX8_digestOfReadings_123 ?_
  refine xw_ladd (pc := 124) C dX8_digestOfReadings_124 ?_
  obtain ⟨y32, ey32, hm⟩ := xlet_ex hm
  refine xw_topJ ey32 ?_
  refine xw_lstore_n (pc := 125) (i := 3) (x := y32) (L' := [some (.ref x0), none, none, some (.long y32), none, none, none]) C dX8_digestOfReadings_125 rfl (Nat.le_of_ble_eq_true rfl) rfl ?_
  refine xw_ldc2 (pc := 126) (v := 31) C dX8_digestOfReadings_126 cn_X8_279 ?_
  refine xw_lload_n (pc := 129) (i := 3) (x := y32) C dX8_digestOfReadings_129 rfl rfl ?_
  refine xw_lmul (pc := 130) C dX8_digestOfReadings_130 ?_
  refine xw_aload_n (pc := 131) (i := 0) (x := x0) C dX8_digestOfReadings_131 rfl rfl ?_
  refine xw_bipush (pc := 132) (v := 20) C dX8_digestOfReadings_132 xk_b_20 ?_
  refine xw_iconst (pc := 134) (v := 1) C dX8_digestOfReadings_134 xk_i_1 ?_
  obtain ⟨_, q33, hm⟩ := xbind hm
  obtain ⟨v34, q35, hm⟩ := xbind hm
  refine xw_callV1 (pc := 135) (As := [.int (20 : Int32), .int (xbi true)]) (st := [.long ((31 : Int64) * y32)]) C dX8_digestOfReadings_135 (wX8_bestPeriod q35) dd_X8_bestPeriod lk_X8_309 dv_X8_bestPeriod (xco_spec q33) rfl (Nat.le_of_ble_eq_true rfl) (Nat.le_of_ble_eq_true rfl) (Nat.le_of_ble_eq_true rfl) ⟨Nat.le_refl _, Nat.le_refl _⟩ hN ?_
  refine xw_i2l (pc := 138) C dX8_digestOfReadings_138 ?_
  refine xw_ladd (pc := 139) C dX8_digestOfReadings_139 ?_
  obtain rfl := Option.some.inj hm
  exact xw_lreturn (pc := 140) C dX8_digestOfReadings_140 rfl hX
def fX8_digest_P6 (X : XCtx) (h : XH) (x0 : Nat) (n sl : Nat) (s : (Int64 × Int32)) : Prop := XW X 6 [some (.ref x0), some (.long s.1), none, some (.int s.2)] [] h n sl
def fX8_digest_E6 (X : XCtx) (h : XH) (x0 : Nat) (n sl : Nat) (e : Int64) : Prop := XW X 31 [some (.ref x0), some (.long e), none, none] [] h n sl
set_option maxHeartbeats 4000000 in
set_option maxRecDepth 100000 in
theorem fX8_digest_B6_w {X : XCtx} (C : XOK X RX8 cX8_digest 4 "digest" (some .long) 6 149) {n sl : Nat} (hN : XN X n sl) {h : XH} {x0 : Nat} (s : (Int64 × Int32)) (o : (Int64 × Int32) ⊕ Int64) (hm : fX8_digest_B6 h x0 s = some o) (hc : ∀ s', o = .inl s' → fX8_digest_P6 X h x0 n sl s') (he : ∀ e', o = .inr e' → fX8_digest_E6 X h x0 n sl e') : fX8_digest_P6 X h x0 n sl s := by
  obtain ⟨x1, x3⟩ := s
  show XW X 6 [some (.ref x0), some (.long x1), none, some (.int x3)] [] h n sl
  replace hm : fX8_digest_b6 h x0 x1 x3 = some o := hm
  unfold fX8_digest_b6 at hm
  refine xw_iload_n (pc := 6) (i := 3) (x := x3) C dX8_digest_6 rfl rfl ?_
  refine xw_bipush (pc := 7) (v := 17) C dX8_digest_7 xk_b_17 ?_
  refine xw_icmp_gt (pc := 9) (tgt := 31) C dX8_digest_9 (by decide) (fun q => ?_) (fun q => ?_)
  · replace hm := xif_t q hm
    obtain rfl := Option.some.inj hm
    refine xw_sub (pc := 31) _ ?_ (he _ rfl)
    exact ⟨Or.inr rfl, Or.inr rfl, Or.inl rfl, Or.inl rfl, trivial⟩
  · replace hm := xif_f q hm
    refine xw_ldc2 (pc := 12) (v := 31) C dX8_digest_12 cn_X8_279 ?_
    refine xw_lload_n (pc := 15) (i := 1) (x := x1) C dX8_digest_15 rfl rfl ?_
    refine xw_lmul (pc := 16) C dX8_digest_16 ?_
    refine xw_aload_n (pc := 17) (i := 0) (x := x0) C dX8_digest_17 rfl rfl ?_
    refine xw_iload_n (pc := 18) (i := 3) (x := x3) C dX8_digest_18 rfl rfl ?_
    obtain ⟨_, q1, hm⟩ := xbind hm
    obtain ⟨v2, q3, hm⟩ := xbind hm
    refine xw_callV1 (pc := 19) (As := [.int x3]) (st := [.long ((31 : Int64) * x1)]) C dX8_digest_19 (wX8_count q3) dd_X8_count lk_X8_281 dv_X8_count (xco_spec q1) rfl (Nat.le_of_ble_eq_true rfl) (Nat.le_of_ble_eq_true rfl) (Nat.le_of_ble_eq_true rfl) ⟨Nat.le_refl _, Nat.le_refl _⟩ hN ?_
    refine xw_i2l (pc := 22) C dX8_digest_22 ?_
    refine xw_ladd (pc := 23) C dX8_digest_23 ?_
    obtain ⟨y4, ey4, hm⟩ := xlet_ex hm
    refine xw_topJ ey4 ?_
    refine xw_lstore_n (pc := 24) (i := 1) (x := y4) (L' := [some (.ref x0), some (.long y4), none, some (.int x3)]) C dX8_digest_24 rfl (Nat.le_of_ble_eq_true rfl) rfl ?_
    refine xw_iinc (pc := 25) (i := 3) (x := x3) (v := (x3 + (1 : Int32))) (L' := [some (.ref x0), some (.long y4), none, some (.int (x3 + (1 : Int32)))]) C dX8_digest_25 rfl (congrArg (HAdd.hAdd _) xk_i_1) (Nat.le_of_ble_eq_true rfl) rfl ?_
    refine xw_goto (pc := 28) (tgt := 6) C dX8_digest_28 (by decide) ?_
    obtain rfl := Option.some.inj hm
    refine xw_sub (pc := 6) _ ?_ (hc _ rfl)
    exact ⟨Or.inr rfl, Or.inr rfl, Or.inl rfl, Or.inr rfl, trivial⟩
set_option maxHeartbeats 4000000 in
set_option maxRecDepth 100000 in
theorem wX8_digest {l : Launch} {n sl : Nat} {h : XH} {x0 : Nat} {o : Int64 × XH} (hm : fX8_digest h x0 = some o) : XM l yX8_digest cX8_digest 4 (some .long) 6 149 [.ref x0] h n sl (some (.long o.1)) o.2 n sl := by
  refine xm_of pnX8 [some (.ref x0), none, none, none] 3 rfl (Nat.le_of_ble_eq_true rfl) ?_
  intro X hT C
  replace C : XOK X RX8 cX8_digest 4 "digest" (some .long) 6 149 := C
  obtain ⟨-, hN, hX⟩ := hT
  unfold fX8_digest at hm
  refine xw_ldc2 (pc := 0) (v := 12956) C dX8_digest_0 cn_X8_277 ?_
  refine xw_lstore_n (pc := 3) (i := 1) (x := (12956 : Int64)) (L' := [some (.ref x0), some (.long (12956 : Int64)), none, none]) C dX8_digest_3 rfl (Nat.le_of_ble_eq_true rfl) rfl ?_
  refine xw_iconst (pc := 4) (v := 0) C dX8_digest_4 xk_i_0 ?_
  refine xw_istore_n (pc := 5) (i := 3) (x := (0 : Int32)) (L' := [some (.ref x0), some (.long (12956 : Int64)), none, some (.int (0 : Int32))]) C dX8_digest_5 rfl (Nat.le_of_ble_eq_true rfl) rfl ?_
  obtain ⟨e5, q6, hm⟩ := xbind hm
  refine xw_sub (pc := 6) [some (.ref x0), some (.long (12956 : Int64)), none, some (.int (0 : Int32))] ⟨Or.inr rfl, Or.inr rfl, Or.inl rfl, Or.inr rfl, trivial⟩ ?_
  refine xloop_walk (fX8_digest_B6 h x0) (fX8_digest_P6 X h x0 n sl) (fX8_digest_E6 X h x0 n sl) (fun s' o' => fX8_digest_B6_w C hN s' o') 5000 ((12956 : Int64), (0 : Int32)) e5 q6 ?_
  show XW X 31 [some (.ref x0), some (.long e5), none, none] [] h n sl
  refine xw_aload_n (pc := 31) (i := 0) (x := x0) C dX8_digest_31 rfl rfl ?_
  refine xw_lload_n (pc := 32) (i := 1) (x := e5) C dX8_digest_32 rfl rfl ?_
  obtain ⟨_, q7, hm⟩ := xbind hm
  obtain ⟨v8, q9, hm⟩ := xbind hm
  refine xw_callV1 (pc := 33) (As := [.long e5]) (st := []) C dX8_digest_33 (wX8_digestOfPictures q9) dd_X8_digestOfPictures lk_X8_284 dv_X8_digestOfPictures (xco_spec q7) rfl (Nat.le_of_ble_eq_true rfl) (Nat.le_of_ble_eq_true rfl) (Nat.le_of_ble_eq_true rfl) ⟨Nat.le_refl _, Nat.le_refl _⟩ hN ?_
  refine xw_lstore_n (pc := 36) (i := 1) (x := v8) (L' := [some (.ref x0), some (.long v8), none, none]) C dX8_digest_36 rfl (Nat.le_of_ble_eq_true rfl) rfl ?_
  refine xw_aload_n (pc := 37) (i := 0) (x := x0) C dX8_digest_37 rfl rfl ?_
  refine xw_lload_n (pc := 38) (i := 1) (x := v8) C dX8_digest_38 rfl rfl ?_
  obtain ⟨_, q10, hm⟩ := xbind hm
  obtain ⟨v11, q12, hm⟩ := xbind hm
  refine xw_callV1 (pc := 39) (As := [.long v8]) (st := []) C dX8_digest_39 (wX8_digestOfReadings q12) dd_X8_digestOfReadings lk_X8_288 dv_X8_digestOfReadings (xco_spec q10) rfl (Nat.le_of_ble_eq_true rfl) (Nat.le_of_ble_eq_true rfl) (Nat.le_of_ble_eq_true rfl) ⟨Nat.le_refl _, Nat.le_refl _⟩ hN ?_
  refine xw_lstore_n (pc := 42) (i := 1) (x := v11.1) (L' := [some (.ref x0), some (.long v11.1), none, none]) C dX8_digest_42 rfl (Nat.le_of_ble_eq_true rfl) rfl ?_
  refine xw_aload_n (pc := 43) (i := 0) (x := x0) C dX8_digest_43 rfl rfl ?_
  refine xw_lload_n (pc := 44) (i := 1) (x := v11.1) C dX8_digest_44 rfl rfl ?_
  obtain ⟨_, q13, hm⟩ := xbind hm
  obtain ⟨v14, q15, hm⟩ := xbind hm
  refine xw_callV1 (pc := 45) (As := [.long v11.1]) (st := []) C dX8_digest_45 (wX8_digestOfOpenings q15) dd_X8_digestOfOpenings lk_X8_291 dv_X8_digestOfOpenings (xco_spec q13) rfl (Nat.le_of_ble_eq_true rfl) (Nat.le_of_ble_eq_true rfl) (Nat.le_of_ble_eq_true rfl) ⟨Nat.le_refl _, Nat.le_refl _⟩ hN ?_
  obtain rfl := Option.some.inj hm
  exact xw_lreturn (pc := 48) C dX8_digest_48 rfl hX
set_option maxHeartbeats 4000000 in
set_option maxRecDepth 100000 in
theorem wX8_dropChange {l : Launch} {n sl : Nat} {h : XH} {x0 : Nat} {x1 : Int32} {o : Int32 × XH} (hm : fX8_dropChange h x0 x1 = some o) : XM l yX8_dropChange cX8_dropChange 2 (some .int) 4 86 [.ref x0, .int x1] h n sl (some (.int o.1)) o.2 n sl := by
  refine xm_of pnX8 [some (.ref x0), some (.int x1)] 0 rfl (Nat.le_of_ble_eq_true rfl) ?_
  intro X hT C
  replace C : XOK X RX8 cX8_dropChange 2 "dropChange" (some .int) 4 86 := C
  obtain ⟨-, hN, hX⟩ := hT
  unfold fX8_dropChange at hm
  refine xw_aload_n (pc := 0) (i := 0) (x := x0) C dX8_dropChange_0 rfl rfl ?_
  obtain ⟨v1, q2, hm⟩ := xbind hm
  refine xw_getR (pc := 1) C dX8_dropChange_1 fl_X8_10 q2 ?_
  obtain ⟨v3, q4, hm⟩ := xbind hm
  refine xw_getR (pc := 4) C dX8_dropChange_4 fl_X8_67 q4 ?_
  refine xw_iload_n (pc := 7) (i := 1) (x := x1) C dX8_dropChange_7 rfl rfl ?_
  obtain ⟨_, q5, hm⟩ := xbind hm
  obtain ⟨v6, q7, hm⟩ := xbind hm
  refine xw_callV1 (pc := 8) (As := [.int x1]) (st := []) C dX8_dropChange_8 (wX6_hasChange q7) dd_X6_hasChange lk_X8_112 dv_X6_hasChange (xco_spec q5) rfl (Nat.le_of_ble_eq_true rfl) (Nat.le_of_ble_eq_true rfl) (Nat.le_of_ble_eq_true rfl) ⟨Nat.le_refl _, Nat.le_refl _⟩ hN ?_
  refine xw_if_neZ (pc := 11) (b := v6) (tgt := 18) C dX8_dropChange_11 (by decide) (fun q => ?_) (fun q => ?_)
  · replace hm := xif_t q hm
    refine xw_aload_n (pc := 18) (i := 0) (x := x0) C dX8_dropChange_18 rfl rfl ?_
    obtain ⟨v8, q9, hm⟩ := xbind hm
    refine xw_getR (pc := 19) C dX8_dropChange_19 fl_X8_19 q9 ?_
    refine xw_aload_n (pc := 22) (i := 0) (x := x0) C dX8_dropChange_22 rfl rfl ?_
    obtain ⟨v10, q11, hm⟩ := xbind hm
    refine xw_getR (pc := 23) C dX8_dropChange_23 fl_X8_10 q11 ?_
    obtain ⟨_, q12, hm⟩ := xbind hm
    obtain ⟨h13, q14, hm⟩ := xbind hm
    refine xw_callV0 (pc := 26) (As := [.ref v10]) (st := []) C dX8_dropChange_26 (wX3_remember q14) dd_X3_remember lk_X8_63 dv_X3_remember (xco_spec q12) rfl (Nat.le_of_ble_eq_true rfl) (Nat.le_of_ble_eq_true rfl) (Nat.le_of_ble_eq_true rfl) ⟨Nat.le_refl _, Nat.le_refl _⟩ hN ?_
    refine xw_aload_n (pc := 29) (i := 0) (x := x0) C dX8_dropChange_29 rfl rfl ?_
    obtain ⟨v15, q16, hm⟩ := xbind hm
    refine xw_getR (pc := 30) C dX8_dropChange_30 fl_X8_10 q16 ?_
    obtain ⟨v17, q18, hm⟩ := xbind hm
    refine xw_getR (pc := 33) C dX8_dropChange_33 fl_X8_67 q18 ?_
    refine xw_iload_n (pc := 36) (i := 1) (x := x1) C dX8_dropChange_36 rfl rfl ?_
    obtain ⟨_, q19, hm⟩ := xbind hm
    obtain ⟨h20, q21, hm⟩ := xbind hm
    refine xw_callV0 (pc := 37) (As := [.int x1]) (st := []) C dX8_dropChange_37 (wX6_removeChange q21) dd_X6_removeChange lk_X8_115 dv_X6_removeChange (xco_spec q19) rfl (Nat.le_of_ble_eq_true rfl) (Nat.le_of_ble_eq_true rfl) (Nat.le_of_ble_eq_true rfl) ⟨Nat.le_refl _, Nat.le_refl _⟩ hN ?_
    refine xw_aload_n (pc := 40) (i := 0) (x := x0) C dX8_dropChange_40 rfl rfl ?_
    obtain ⟨v22, q23, hm⟩ := xbind hm
    refine xw_getR (pc := 41) C dX8_dropChange_41 fl_X8_10 q23 ?_
    obtain ⟨v24, q25, hm⟩ := xbind hm
    refine xw_getR (pc := 44) C dX8_dropChange_44 fl_X8_67 q25 ?_
    obtain ⟨v26, q27, hm⟩ := xbind hm
    refine xw_getI (pc := 47) C dX8_dropChange_47 fl_X8_109 q27 ?_
    obtain rfl := Option.some.inj hm
    exact xw_ireturn (pc := 50) C dX8_dropChange_50 rfl hX
  · replace hm := xif_f q hm
    refine xw_sipush (pc := 14) (v := -1001) C dX8_dropChange_14 xk_s_m1001 ?_
    obtain rfl := Option.some.inj hm
    exact xw_ireturn (pc := 17) C dX8_dropChange_17 rfl hX
set_option maxHeartbeats 4000000 in
set_option maxRecDepth 100000 in
theorem wX8_dropReading {l : Launch} {n sl : Nat} {h : XH} {x0 : Nat} {x1 : Int32} {o : Int32 × XH} (hm : fX8_dropReading h x0 x1 = some o) : XM l yX8_dropReading cX8_dropReading 2 (some .int) 4 86 [.ref x0, .int x1] h n sl (some (.int o.1)) o.2 n sl := by
  refine xm_of pnX8 [some (.ref x0), some (.int x1)] 0 rfl (Nat.le_of_ble_eq_true rfl) ?_
  intro X hT C
  replace C : XOK X RX8 cX8_dropReading 2 "dropReading" (some .int) 4 86 := C
  obtain ⟨-, hN, hX⟩ := hT
  unfold fX8_dropReading at hm
  refine xw_aload_n (pc := 0) (i := 0) (x := x0) C dX8_dropReading_0 rfl rfl ?_
  refine xw_iload_n (pc := 1) (i := 1) (x := x1) C dX8_dropReading_1 rfl rfl ?_
  obtain ⟨_, q1, hm⟩ := xbind hm
  obtain ⟨v2, q3, hm⟩ := xbind hm
  refine xw_callV1 (pc := 2) (As := [.int x1]) (st := []) C dX8_dropReading_2 (wX8_isReading q3) dd_X8_isReading lk_X8_178 dv_X8_isReading (xco_spec q1) rfl (Nat.le_of_ble_eq_true rfl) (Nat.le_of_ble_eq_true rfl) (Nat.le_of_ble_eq_true rfl) ⟨Nat.le_refl _, Nat.le_refl _⟩ hN ?_
  refine xw_if_neZ (pc := 5) (b := v2) (tgt := 12) C dX8_dropReading_5 (by decide) (fun q => ?_) (fun q => ?_)
  · replace hm := xif_t q hm
    refine xw_aload_n (pc := 12) (i := 0) (x := x0) C dX8_dropReading_12 rfl rfl ?_
    obtain ⟨v4, q5, hm⟩ := xbind hm
    refine xw_getR (pc := 13) C dX8_dropReading_13 fl_X8_19 q5 ?_
    refine xw_aload_n (pc := 16) (i := 0) (x := x0) C dX8_dropReading_16 rfl rfl ?_
    obtain ⟨v6, q7, hm⟩ := xbind hm
    refine xw_getR (pc := 17) C dX8_dropReading_17 fl_X8_10 q7 ?_
    obtain ⟨_, q8, hm⟩ := xbind hm
    obtain ⟨h9, q10, hm⟩ := xbind hm
    refine xw_callV0 (pc := 20) (As := [.ref v6]) (st := []) C dX8_dropReading_20 (wX3_remember q10) dd_X3_remember lk_X8_63 dv_X3_remember (xco_spec q8) rfl (Nat.le_of_ble_eq_true rfl) (Nat.le_of_ble_eq_true rfl) (Nat.le_of_ble_eq_true rfl) ⟨Nat.le_refl _, Nat.le_refl _⟩ hN ?_
    refine xw_aload_n (pc := 23) (i := 0) (x := x0) C dX8_dropReading_23 rfl rfl ?_
    obtain ⟨v11, q12, hm⟩ := xbind hm
    refine xw_getR (pc := 24) C dX8_dropReading_24 fl_X8_10 q12 ?_
    obtain ⟨v13, q14, hm⟩ := xbind hm
    refine xw_getR (pc := 27) C dX8_dropReading_27 fl_X8_181 q14 ?_
    refine xw_iload_n (pc := 30) (i := 1) (x := x1) C dX8_dropReading_30 rfl rfl ?_
    obtain ⟨_, q15, hm⟩ := xbind hm
    obtain ⟨h16, q17, hm⟩ := xbind hm
    refine xw_callV0 (pc := 31) (As := [.int x1]) (st := []) C dX8_dropReading_31 (wX4_remove q17) dd_X4_remove lk_X8_185 dv_X4_remove (xco_spec q15) rfl (Nat.le_of_ble_eq_true rfl) (Nat.le_of_ble_eq_true rfl) (Nat.le_of_ble_eq_true rfl) ⟨Nat.le_refl _, Nat.le_refl _⟩ hN ?_
    refine xw_aload_n (pc := 34) (i := 0) (x := x0) C dX8_dropReading_34 rfl rfl ?_
    obtain ⟨v18, q19, hm⟩ := xbind hm
    refine xw_getR (pc := 35) C dX8_dropReading_35 fl_X8_10 q19 ?_
    obtain ⟨v20, q21, hm⟩ := xbind hm
    refine xw_getR (pc := 38) C dX8_dropReading_38 fl_X8_181 q21 ?_
    obtain ⟨v22, q23, hm⟩ := xbind hm
    refine xw_getI (pc := 41) C dX8_dropReading_41 fl_X8_190 q23 ?_
    obtain rfl := Option.some.inj hm
    exact xw_ireturn (pc := 44) C dX8_dropReading_44 rfl hX
  · replace hm := xif_f q hm
    refine xw_sipush (pc := 8) (v := -1001) C dX8_dropReading_8 xk_s_m1001 ?_
    obtain rfl := Option.some.inj hm
    exact xw_ireturn (pc := 11) C dX8_dropReading_11 rfl hX
set_option maxHeartbeats 4000000 in
set_option maxRecDepth 100000 in
theorem wX8_faultKind {l : Launch} {n sl : Nat} {h : XH} {x0 : Nat} {o : Int32} (hm : fX8_faultKind h x0 = some o) : XM l yX8_faultKind cX8_faultKind 1 (some .int) 0 0 [.ref x0] h n sl (some (.int o)) h n sl := by
  refine xm_of pnX8 [some (.ref x0)] 0 rfl (Nat.le_of_ble_eq_true rfl) ?_
  intro X hT C
  replace C : XOK X RX8 cX8_faultKind 1 "faultKind" (some .int) 0 0 := C
  obtain ⟨-, hN, hX⟩ := hT
  unfold fX8_faultKind at hm
  refine xw_aload_n (pc := 0) (i := 0) (x := x0) C dX8_faultKind_0 rfl rfl ?_
  obtain ⟨v1, q2, hm⟩ := xbind hm
  refine xw_getR (pc := 1) C dX8_faultKind_1 fl_X8_26 q2 ?_
  obtain ⟨v3, q4, hm⟩ := xbind hm
  refine xw_getI (pc := 4) C dX8_faultKind_4 fl_X8_77 q4 ?_
  obtain rfl := Option.some.inj hm
  exact xw_ireturn (pc := 7) C dX8_faultKind_7 rfl hX
set_option maxHeartbeats 4000000 in
set_option maxRecDepth 100000 in
theorem wX8_init {l : Launch} {n sl : Nat} {h : XH} {x0 : Nat} {o : XH} (hm : fX8_init h n x0 = some o) : XM l yX8_init cX8_init 1 none 4 84 [.ref x0] h n sl none o (n + 101) (sl + 1261) := by
  refine xm_of pnX8 [some (.ref x0)] 0 rfl (Nat.le_of_ble_eq_true rfl) ?_
  intro X hT C
  replace C : XOK X RX8 cX8_init 1 "<init>" none 4 84 := C
  obtain ⟨-, hN, hX⟩ := hT
  unfold fX8_init at hm
  refine xw_aload_n (pc := 0) (i := 0) (x := x0) C dX8_init_0 rfl rfl ?_
  refine xw_objInit (pc := 1) C dX8_init_1 lk_X8_1 oi_inst oi_code (Nat.le_of_ble_eq_true rfl) (Nat.le_of_ble_eq_true rfl) ?_
  refine xw_aload_n (pc := 4) (i := 0) (x := x0) C dX8_init_4 rfl rfl ?_
  obtain ⟨h1, q2, hm⟩ := xbind hm
  refine xw_newB (pc := 5) C dX8_init_5 cl_X8_7 nw_X5 ⟨by have := hN.1; omega, by have := hN.2; omega⟩ q2 ?_
  refine xw_dup (pc := 8) C dX8_init_8 rfl ?_
  obtain ⟨h3, q4, hm⟩ := xbind hm
  refine xw_callIN0 (pc := 9) (As := []) (st := [.ref n, .ref x0]) C dX8_init_9 (wX5_init q4) dd_X5_init lk_X8_9 di_X5_init rfl rfl (Nat.le_of_ble_eq_true rfl) (Nat.le_of_ble_eq_true rfl) (Nat.le_of_ble_eq_true rfl) ⟨Nat.le_add_right _ _, Nat.le_add_right _ _⟩ ⟨by have := hN.1; omega, by have := hN.2; omega⟩ ?_
  obtain ⟨h5, q6, hm⟩ := xbind hm
  refine xw_putF (pc := 12) C dX8_init_12 fl_X8_10 q6 rfl rfl (fun _ => rfl) (fun _ => rfl) ?_
  refine xw_aload_n (pc := 15) (i := 0) (x := x0) C dX8_init_15 rfl rfl ?_
  obtain ⟨h7, q8, hm⟩ := xbind hm
  refine xw_newB (pc := 16) C dX8_init_16 cl_X8_16 nw_X3 ⟨by have := hN.1; omega, by have := hN.2; omega⟩ q8 ?_
  refine xw_dup (pc := 19) C dX8_init_19 rfl ?_
  obtain ⟨h9, q10, hm⟩ := xbind hm
  refine xw_callI0 (pc := 20) (As := []) (st := [.ref (n + 10), .ref x0]) C dX8_init_20 (wX3_init q10) dd_X3_init lk_X8_18 di_X3_init rfl rfl (Nat.le_of_ble_eq_true rfl) (Nat.le_of_ble_eq_true rfl) (Nat.le_of_ble_eq_true rfl) ⟨Nat.le_add_right _ _, Nat.le_add_right _ _⟩ ⟨by have := hN.1; omega, by have := hN.2; omega⟩ ?_
  obtain ⟨h11, q12, hm⟩ := xbind hm
  refine xw_putF (pc := 23) C dX8_init_23 fl_X8_19 q12 rfl rfl (fun _ => rfl) (fun _ => rfl) ?_
  refine xw_aload_n (pc := 26) (i := 0) (x := x0) C dX8_init_26 rfl rfl ?_
  obtain ⟨h13, q14, hm⟩ := xbind hm
  refine xw_newB (pc := 27) C dX8_init_27 cl_X8_23 nw_X7 ⟨by have := hN.1; omega, by have := hN.2; omega⟩ q14 ?_
  refine xw_dup (pc := 30) C dX8_init_30 rfl ?_
  obtain ⟨h15, q16, hm⟩ := xbind hm
  refine xw_callIN0 (pc := 31) (As := []) (st := [.ref (n + 92), .ref x0]) C dX8_init_31 (wX7_init q16) dd_X7_init lk_X8_25 di_X7_init rfl rfl (Nat.le_of_ble_eq_true rfl) (Nat.le_of_ble_eq_true rfl) (Nat.le_of_ble_eq_true rfl) ⟨Nat.le_add_right _ _, Nat.le_add_right _ _⟩ ⟨by have := hN.1; omega, by have := hN.2; omega⟩ ?_
  obtain ⟨h17, q18, hm⟩ := xbind hm
  refine xw_putF (pc := 34) C dX8_init_34 fl_X8_26 q18 rfl rfl (fun _ => rfl) (fun _ => rfl) ?_
  refine xw_aload_n (pc := 37) (i := 0) (x := x0) C dX8_init_37 rfl rfl ?_
  obtain ⟨h19, q20, hm⟩ := xbind hm
  refine xw_newB (pc := 38) C dX8_init_38 cl_X8_30 nw_X6 ⟨by have := hN.1; omega, by have := hN.2; omega⟩ q20 ?_
  refine xw_dup (pc := 41) C dX8_init_41 rfl ?_
  obtain ⟨h21, q22, hm⟩ := xbind hm
  refine xw_callI0 (pc := 42) (As := []) (st := [.ref (n + 94), .ref x0]) C dX8_init_42 (wX6_init q22) dd_X6_init lk_X8_32 di_X6_init rfl rfl (Nat.le_of_ble_eq_true rfl) (Nat.le_of_ble_eq_true rfl) (Nat.le_of_ble_eq_true rfl) ⟨Nat.le_add_right _ _, Nat.le_add_right _ _⟩ ⟨by have := hN.1; omega, by have := hN.2; omega⟩ ?_
  obtain ⟨h23, q24, hm⟩ := xbind hm
  refine xw_putF (pc := 45) C dX8_init_45 fl_X8_33 q24 rfl rfl (fun _ => rfl) (fun _ => rfl) ?_
  refine xw_aload_n (pc := 48) (i := 0) (x := x0) C dX8_init_48 rfl rfl ?_
  obtain ⟨h25, q26, hm⟩ := xbind hm
  refine xw_newB (pc := 49) C dX8_init_49 cl_X8_37 nw_X0 ⟨by have := hN.1; omega, by have := hN.2; omega⟩ q26 ?_
  refine xw_dup (pc := 52) C dX8_init_52 rfl ?_
  obtain ⟨h27, q28, hm⟩ := xbind hm
  refine xw_callIN0 (pc := 53) (As := []) (st := [.ref (n + 98), .ref x0]) C dX8_init_53 (wX0_init q28) dd_X0_init lk_X8_39 di_X0_init rfl rfl (Nat.le_of_ble_eq_true rfl) (Nat.le_of_ble_eq_true rfl) (Nat.le_of_ble_eq_true rfl) ⟨Nat.le_add_right _ _, Nat.le_add_right _ _⟩ ⟨by have := hN.1; omega, by have := hN.2; omega⟩ ?_
  obtain ⟨h29, q30, hm⟩ := xbind hm
  refine xw_putF (pc := 56) C dX8_init_56 fl_X8_40 q30 rfl rfl (fun _ => rfl) (fun _ => rfl) ?_
  obtain rfl := Option.some.inj hm
  exact xw_return (pc := 59) C dX8_init_59 rfl hX
set_option maxHeartbeats 4000000 in
set_option maxRecDepth 100000 in
theorem wX8_isSeen {l : Launch} {n sl : Nat} {h : XH} {x0 : Nat} {x1 : Int32} {o : Int32} (hm : fX8_isSeen h x0 x1 = some o) : XM l yX8_isSeen cX8_isSeen 2 (some .int) 2 43 [.ref x0, .int x1] h n sl (some (.int o)) h n sl := by
  refine xm_of pnX8 [some (.ref x0), some (.int x1)] 0 rfl (Nat.le_of_ble_eq_true rfl) ?_
  intro X hT C
  replace C : XOK X RX8 cX8_isSeen 2 "isSeen" (some .int) 2 43 := C
  obtain ⟨-, hN, hX⟩ := hT
  unfold fX8_isSeen at hm
  refine xw_iload_n (pc := 0) (i := 1) (x := x1) C dX8_isSeen_0 rfl rfl ?_
  obtain ⟨v1, q2, hm⟩ := xbind hm
  refine xw_callS1 (pc := 1) (As := [.int x1]) (st := []) C dX8_isSeen_1 (wX8_isTick q2) dd_X8_isTick lk_X8_99 ds_X8_isTick rfl (Nat.le_of_ble_eq_true rfl) (Nat.le_of_ble_eq_true rfl) (Nat.le_of_ble_eq_true rfl) ⟨Nat.le_refl _, Nat.le_refl _⟩ hN ?_
  refine xw_if_neZ (pc := 4) (b := v1) (tgt := 11) C dX8_isSeen_4 (by decide) (fun q => ?_) (fun q => ?_)
  · replace hm := xif_t q hm
    refine xw_aload_n (pc := 11) (i := 0) (x := x0) C dX8_isSeen_11 rfl rfl ?_
    obtain ⟨v3, q4, hm⟩ := xbind hm
    refine xw_getR (pc := 12) C dX8_isSeen_12 fl_X8_10 q4 ?_
    obtain ⟨v5, q6, hm⟩ := xbind hm
    refine xw_getR (pc := 15) C dX8_isSeen_15 fl_X8_226 q6 ?_
    refine xw_iload_n (pc := 18) (i := 1) (x := x1) C dX8_isSeen_18 rfl rfl ?_
    obtain ⟨_, q7, hm⟩ := xbind hm
    obtain ⟨v8, q9, hm⟩ := xbind hm
    refine xw_callV1 (pc := 19) (As := [.int x1]) (st := []) C dX8_isSeen_19 (wX1_isOpenAt q9) dd_X1_isOpenAt lk_X8_243 dv_X1_isOpenAt (xco_spec q7) rfl (Nat.le_of_ble_eq_true rfl) (Nat.le_of_ble_eq_true rfl) (Nat.le_of_ble_eq_true rfl) ⟨Nat.le_refl _, Nat.le_refl _⟩ hN ?_
    refine xw_if_eqZ (pc := 22) (b := v8) (tgt := 29) C dX8_isSeen_22 (by decide) (fun q => ?_) (fun q => ?_)
    · replace hm := xif_f q hm
      refine xw_iconst (pc := 29) (v := 0) C dX8_isSeen_29 xk_i_0 ?_
      obtain rfl := Option.some.inj hm
      exact xw_ireturn (pc := 30) C dX8_isSeen_30 rfl hX
    · replace hm := xif_t q hm
      refine xw_iconst (pc := 25) (v := 1) C dX8_isSeen_25 xk_i_1 ?_
      refine xw_goto (pc := 26) (tgt := 30) C dX8_isSeen_26 (by decide) ?_
      obtain rfl := Option.some.inj hm
      exact xw_ireturn (pc := 30) C dX8_isSeen_30 rfl hX
  · replace hm := xif_f q hm
    refine xw_sipush (pc := 7) (v := -1001) C dX8_isSeen_7 xk_s_m1001 ?_
    obtain rfl := Option.some.inj hm
    exact xw_ireturn (pc := 10) C dX8_isSeen_10 rfl hX
set_option maxHeartbeats 4000000 in
set_option maxRecDepth 100000 in
theorem wX8_load {l : Launch} {n sl : Nat} {h : XH} {x0 : Nat} {o : Int32 × XH} (hm : fX8_load h x0 = some o) : XM l yX8_load cX8_load 1 (some .int) 5 107 [.ref x0] h n sl (some (.int o.1)) o.2 n sl := by
  refine xm_of pnX8 [some (.ref x0)] 0 rfl (Nat.le_of_ble_eq_true rfl) ?_
  intro X hT C
  replace C : XOK X RX8 cX8_load 1 "load" (some .int) 5 107 := C
  obtain ⟨-, hN, hX⟩ := hT
  unfold fX8_load at hm
  refine xw_aload_n (pc := 0) (i := 0) (x := x0) C dX8_load_0 rfl rfl ?_
  obtain ⟨v1, q2, hm⟩ := xbind hm
  refine xw_getR (pc := 1) C dX8_load_1 fl_X8_26 q2 ?_
  refine xw_aload_n (pc := 4) (i := 0) (x := x0) C dX8_load_4 rfl rfl ?_
  obtain ⟨v3, q4, hm⟩ := xbind hm
  refine xw_getR (pc := 5) C dX8_load_5 fl_X8_33 q4 ?_
  obtain ⟨_, q5, hm⟩ := xbind hm
  obtain ⟨v6, q7, hm⟩ := xbind hm
  refine xw_callV1 (pc := 8) (As := [.ref v3]) (st := []) C dX8_load_8 (wX7_readInto q7) dd_X7_readInto lk_X8_56 dv_X7_readInto (xco_spec q5) rfl (Nat.le_of_ble_eq_true rfl) (Nat.le_of_ble_eq_true rfl) (Nat.le_of_ble_eq_true rfl) ⟨Nat.le_refl _, Nat.le_refl _⟩ hN ?_
  refine xw_if_neZ (pc := 11) (b := v6.1) (tgt := 25) C dX8_load_11 (by decide) (fun q => ?_) (fun q => ?_)
  · replace hm := xif_t q hm
    refine xw_aload_n (pc := 25) (i := 0) (x := x0) C dX8_load_25 rfl rfl ?_
    obtain ⟨v8, q9, hm⟩ := xbind hm
    refine xw_getR (pc := 26) C dX8_load_26 fl_X8_19 q9 ?_
    refine xw_aload_n (pc := 29) (i := 0) (x := x0) C dX8_load_29 rfl rfl ?_
    obtain ⟨v10, q11, hm⟩ := xbind hm
    refine xw_getR (pc := 30) C dX8_load_30 fl_X8_10 q11 ?_
    obtain ⟨_, q12, hm⟩ := xbind hm
    obtain ⟨h13, q14, hm⟩ := xbind hm
    refine xw_callV0 (pc := 33) (As := [.ref v10]) (st := []) C dX8_load_33 (wX3_remember q14) dd_X3_remember lk_X8_63 dv_X3_remember (xco_spec q12) rfl (Nat.le_of_ble_eq_true rfl) (Nat.le_of_ble_eq_true rfl) (Nat.le_of_ble_eq_true rfl) ⟨Nat.le_refl _, Nat.le_refl _⟩ hN ?_
    refine xw_aload_n (pc := 36) (i := 0) (x := x0) C dX8_load_36 rfl rfl ?_
    obtain ⟨v15, q16, hm⟩ := xbind hm
    refine xw_getR (pc := 37) C dX8_load_37 fl_X8_10 q16 ?_
    obtain ⟨v17, q18, hm⟩ := xbind hm
    refine xw_getR (pc := 40) C dX8_load_40 fl_X8_67 q18 ?_
    refine xw_aload_n (pc := 43) (i := 0) (x := x0) C dX8_load_43 rfl rfl ?_
    obtain ⟨v19, q20, hm⟩ := xbind hm
    refine xw_getR (pc := 44) C dX8_load_44 fl_X8_33 q20 ?_
    obtain ⟨_, q21, hm⟩ := xbind hm
    obtain ⟨h22, q23, hm⟩ := xbind hm
    refine xw_callV0 (pc := 47) (As := [.ref v19]) (st := []) C dX8_load_47 (wX6_copyFrom q23) dd_X6_copyFrom lk_X8_70 dv_X6_copyFrom (xco_spec q21) rfl (Nat.le_of_ble_eq_true rfl) (Nat.le_of_ble_eq_true rfl) (Nat.le_of_ble_eq_true rfl) ⟨Nat.le_refl _, Nat.le_refl _⟩ hN ?_
    refine xw_aload_n (pc := 50) (i := 0) (x := x0) C dX8_load_50 rfl rfl ?_
    obtain ⟨v24, q25, hm⟩ := xbind hm
    refine xw_getR (pc := 51) C dX8_load_51 fl_X8_10 q25 ?_
    obtain ⟨v26, q27, hm⟩ := xbind hm
    refine xw_getR (pc := 54) C dX8_load_54 fl_X8_67 q27 ?_
    obtain ⟨v28, q29, hm⟩ := xbind hm
    refine xw_getI (pc := 57) C dX8_load_57 fl_X8_74 q29 ?_
    obtain rfl := Option.some.inj hm
    exact xw_ireturn (pc := 60) C dX8_load_60 rfl hX
  · replace hm := xif_f q hm
    refine xw_bipush (pc := 14) (v := -10) C dX8_load_14 xk_b_m10 ?_
    refine xw_aload_n (pc := 16) (i := 0) (x := x0) C dX8_load_16 rfl rfl ?_
    obtain ⟨v30, q31, hm⟩ := xbind hm
    refine xw_getR (pc := 17) C dX8_load_17 fl_X8_26 q31 ?_
    obtain ⟨v32, q33, hm⟩ := xbind hm
    refine xw_getI (pc := 20) C dX8_load_20 fl_X8_60 q33 ?_
    refine xw_isub (pc := 23) C dX8_load_23 ?_
    obtain rfl := Option.some.inj hm
    exact xw_ireturn (pc := 24) C dX8_load_24 rfl hX
set_option maxHeartbeats 4000000 in
set_option maxRecDepth 100000 in
theorem wX8_look {l : Launch} {n sl : Nat} {h : XH} {x0 : Nat} {x1 : Int32} {o : Int32 × XH} (hm : fX8_look h x0 x1 = some o) : XM l yX8_look cX8_look 2 (some .int) 5 115 [.ref x0, .int x1] h n sl (some (.int o.1)) o.2 n sl := by
  refine xm_of pnX8 [some (.ref x0), some (.int x1)] 0 rfl (Nat.le_of_ble_eq_true rfl) ?_
  intro X hT C
  replace C : XOK X RX8 cX8_look 2 "look" (some .int) 5 115 := C
  obtain ⟨-, hN, hX⟩ := hT
  unfold fX8_look at hm
  refine xw_aload_n (pc := 0) (i := 0) (x := x0) C dX8_look_0 rfl rfl ?_
  refine xw_iload_n (pc := 1) (i := 1) (x := x1) C dX8_look_1 rfl rfl ?_
  obtain ⟨_, q1, hm⟩ := xbind hm
  obtain ⟨v2, q3, hm⟩ := xbind hm
  refine xw_callV1 (pc := 2) (As := [.int x1]) (st := []) C dX8_look_2 (wX8_isFlash q3) dd_X8_isFlash lk_X8_141 dv_X8_isFlash (xco_spec q1) rfl (Nat.le_of_ble_eq_true rfl) (Nat.le_of_ble_eq_true rfl) (Nat.le_of_ble_eq_true rfl) ⟨Nat.le_refl _, Nat.le_refl _⟩ hN ?_
  refine xw_if_eqZ (pc := 5) (b := v2) (tgt := 24) C dX8_look_5 (by decide) (fun q => ?_) (fun q => ?_)
  · replace hm := xif_f q hm
    refine xw_sipush (pc := 24) (v := -1001) C dX8_look_24 xk_s_m1001 ?_
    obtain rfl := Option.some.inj hm
    exact xw_ireturn (pc := 27) C dX8_look_27 rfl hX
  · replace hm := xif_t q hm
    refine xw_iload_n (pc := 8) (i := 1) (x := x1) C dX8_look_8 rfl rfl ?_
    refine xw_aload_n (pc := 9) (i := 0) (x := x0) C dX8_look_9 rfl rfl ?_
    obtain ⟨v4, q5, hm⟩ := xbind hm
    refine xw_getR (pc := 10) C dX8_look_10 fl_X8_10 q5 ?_
    obtain ⟨v6, q7, hm⟩ := xbind hm
    refine xw_getR (pc := 13) C dX8_look_13 fl_X8_125 q7 ?_
    obtain ⟨_, q8, hm⟩ := xbind hm
    obtain ⟨v9, q10, hm⟩ := xbind hm
    refine xw_callV1 (pc := 16) (As := []) (st := [.int x1]) C dX8_look_16 (wX2_number q10) dd_X2_number lk_X8_137 dv_X2_number (xco_spec q8) rfl (Nat.le_of_ble_eq_true rfl) (Nat.le_of_ble_eq_true rfl) (Nat.le_of_ble_eq_true rfl) ⟨Nat.le_refl _, Nat.le_refl _⟩ hN ?_
    refine xw_iconst (pc := 19) (v := 1) C dX8_look_19 xk_i_1 ?_
    refine xw_isub (pc := 20) C dX8_look_20 ?_
    refine xw_icmp_ne (pc := 21) (tgt := 28) C dX8_look_21 (by decide) (fun q => ?_) (fun q => ?_)
    · replace hm := xif_f q hm
      refine xw_aload_n (pc := 28) (i := 0) (x := x0) C dX8_look_28 rfl rfl ?_
      refine xw_aload_n (pc := 29) (i := 0) (x := x0) C dX8_look_29 rfl rfl ?_
      obtain ⟨v11, q12, hm⟩ := xbind hm
      refine xw_getR (pc := 30) C dX8_look_30 fl_X8_10 q12 ?_
      obtain ⟨v13, q14, hm⟩ := xbind hm
      refine xw_getR (pc := 33) C dX8_look_33 fl_X8_125 q14 ?_
      obtain ⟨v15, q16, hm⟩ := xbind hm
      refine xw_getI (pc := 36) C dX8_look_36 fl_X8_134 q16 ?_
      refine xw_aload_n (pc := 39) (i := 0) (x := x0) C dX8_look_39 rfl rfl ?_
      refine xw_iload_n (pc := 40) (i := 1) (x := x1) C dX8_look_40 rfl rfl ?_
      refine xw_iconst (pc := 41) (v := 2) C dX8_look_41 xk_i_2 ?_
      obtain ⟨_, q17, hm⟩ := xbind hm
      obtain ⟨v18, q19, hm⟩ := xbind hm
      refine xw_callV1 (pc := 42) (As := [.int x1, .int (2 : Int32)]) (st := [.int v15, .ref x0]) C dX8_look_42 (wX8_flash q19) dd_X8_flash lk_X8_175 dv_X8_flash (xco_spec q17) rfl (Nat.le_of_ble_eq_true rfl) (Nat.le_of_ble_eq_true rfl) (Nat.le_of_ble_eq_true rfl) ⟨Nat.le_refl _, Nat.le_refl _⟩ hN ?_
      obtain ⟨_, q20, hm⟩ := xbind hm
      obtain ⟨v21, q22, hm⟩ := xbind hm
      refine xw_callV1 (pc := 45) (As := [.int v15, .int v18]) (st := []) C dX8_look_45 (wX8_addReading q22) dd_X8_addReading lk_X8_172 dv_X8_addReading (xco_spec q20) rfl (Nat.le_of_ble_eq_true rfl) (Nat.le_of_ble_eq_true rfl) (Nat.le_of_ble_eq_true rfl) ⟨Nat.le_refl _, Nat.le_refl _⟩ hN ?_
      obtain rfl := Option.some.inj hm
      exact xw_ireturn (pc := 48) C dX8_look_48 rfl hX
    · replace hm := xif_t q hm
      refine xw_sipush (pc := 24) (v := -1001) C dX8_look_24 xk_s_m1001 ?_
      obtain rfl := Option.some.inj hm
      exact xw_ireturn (pc := 27) C dX8_look_27 rfl hX
def fX8_odd_P13 (X : XCtx) (x0 : Nat) (n sl : Nat) (s : (XH × Int32)) : Prop := XW X 13 [some (.ref x0), some (.int s.2)] [] s.1 n sl
def fX8_odd_E13 (X : XCtx) (x0 : Nat) (n sl : Nat) (e : ((XH × Int32) ⊕ XH)) : Prop := match e with
  | .inl e => XW X 38 [none, some (.int e.2)] [] e.1 n sl
  | .inr e => XW X 46 [none, none] [] e n sl
set_option maxHeartbeats 4000000 in
set_option maxRecDepth 100000 in
theorem fX8_odd_B13_w {X : XCtx} (C : XOK X RX8 cX8_odd 2 "odd" (some .int) 5 111) {n sl : Nat} (hN : XN X n sl) {x0 : Nat} (s : (XH × Int32)) (o : (XH × Int32) ⊕ ((XH × Int32) ⊕ XH)) (hm : fX8_odd_B13 x0 s = some o) (hc : ∀ s', o = .inl s' → fX8_odd_P13 X x0 n sl s') (he : ∀ e', o = .inr e' → fX8_odd_E13 X x0 n sl e') : fX8_odd_P13 X x0 n sl s := by
  obtain ⟨h, x1⟩ := s
  show XW X 13 [some (.ref x0), some (.int x1)] [] h n sl
  replace hm : fX8_odd_b13 x0 h x1 = some o := hm
  unfold fX8_odd_b13 at hm
  refine xw_iload_n (pc := 13) (i := 1) (x := x1) C dX8_odd_13 rfl rfl ?_
  refine xw_aload_n (pc := 14) (i := 0) (x := x0) C dX8_odd_14 rfl rfl ?_
  obtain ⟨v4, q5, hm⟩ := xbind hm
  refine xw_getR (pc := 15) C dX8_odd_15 fl_X8_10 q5 ?_
  obtain ⟨v6, q7, hm⟩ := xbind hm
  refine xw_getR (pc := 18) C dX8_odd_18 fl_X8_181 q7 ?_
  obtain ⟨v8, q9, hm⟩ := xbind hm
  refine xw_getI (pc := 21) C dX8_odd_21 fl_X8_190 q9 ?_
  refine xw_icmp_ge (pc := 24) (tgt := 46) C dX8_odd_24 (by decide) (fun q => ?_) (fun q => ?_)
  · replace hm := xif_t q hm
    obtain rfl := Option.some.inj hm
    refine xw_sub (pc := 46) _ ?_ (he _ rfl)
    exact ⟨Or.inl rfl, Or.inl rfl, trivial⟩
  · replace hm := xif_f q hm
    refine xw_aload_n (pc := 27) (i := 0) (x := x0) C dX8_odd_27 rfl rfl ?_
    refine xw_iload_n (pc := 28) (i := 1) (x := x1) C dX8_odd_28 rfl rfl ?_
    obtain ⟨_, q10, hm⟩ := xbind hm
    obtain ⟨v11, q12, hm⟩ := xbind hm
    refine xw_callV1 (pc := 29) (As := [.int x1]) (st := []) C dX8_odd_29 (wX8_findWithout q12) dd_X8_findWithout lk_X8_203 dv_X8_findWithout (xco_spec q10) rfl (Nat.le_of_ble_eq_true rfl) (Nat.le_of_ble_eq_true rfl) (Nat.le_of_ble_eq_true rfl) ⟨Nat.le_refl _, Nat.le_refl _⟩ hN ?_
    obtain ⟨_, q13, hm⟩ := xbind hm
    obtain ⟨v14, q15, hm⟩ := xbind hm
    refine xw_callV1 (pc := 32) (As := []) (st := []) C dX8_odd_32 (wX0_number q15) dd_X0_number lk_X8_207 dv_X0_number (xco_spec q13) rfl (Nat.le_of_ble_eq_true rfl) (Nat.le_of_ble_eq_true rfl) (Nat.le_of_ble_eq_true rfl) ⟨Nat.le_refl _, Nat.le_refl _⟩ hN ?_
    refine xw_if_le (pc := 35) (tgt := 40) C dX8_odd_35 (by decide) (fun q => ?_) (fun q => ?_)
    · replace hm := xif_t q hm
      refine xw_iinc (pc := 40) (i := 1) (x := x1) (v := (x1 + (1 : Int32))) (L' := [some (.ref x0), some (.int (x1 + (1 : Int32)))]) C dX8_odd_40 rfl (congrArg (HAdd.hAdd _) xk_i_1) (Nat.le_of_ble_eq_true rfl) rfl ?_
      refine xw_goto (pc := 43) (tgt := 13) C dX8_odd_43 (by decide) ?_
      obtain rfl := Option.some.inj hm
      refine xw_sub (pc := 13) _ ?_ (hc _ rfl)
      exact ⟨Or.inr rfl, Or.inr rfl, trivial⟩
    · replace hm := xif_f q hm
      obtain rfl := Option.some.inj hm
      refine xw_sub (pc := 38) _ ?_ (he _ rfl)
      exact ⟨Or.inl rfl, Or.inr rfl, trivial⟩
set_option maxHeartbeats 4000000 in
set_option maxRecDepth 100000 in
theorem wX8_odd {l : Launch} {n sl : Nat} {h : XH} {x0 : Nat} {o : Int32 × XH} (hm : fX8_odd h x0 = some o) : XM l yX8_odd cX8_odd 2 (some .int) 5 111 [.ref x0] h n sl (some (.int o.1)) o.2 n sl := by
  refine xm_of pnX8 [some (.ref x0), none] 1 rfl (Nat.le_of_ble_eq_true rfl) ?_
  intro X hT C
  replace C : XOK X RX8 cX8_odd 2 "odd" (some .int) 5 111 := C
  obtain ⟨-, hN, hX⟩ := hT
  unfold fX8_odd at hm
  refine xw_aload_n (pc := 0) (i := 0) (x := x0) C dX8_odd_0 rfl rfl ?_
  obtain ⟨_, q1, hm⟩ := xbind hm
  obtain ⟨v2, q3, hm⟩ := xbind hm
  refine xw_callV1 (pc := 1) (As := []) (st := []) C dX8_odd_1 (wX8_candidates q3) dd_X8_candidates lk_X8_217 dv_X8_candidates (xco_spec q1) rfl (Nat.le_of_ble_eq_true rfl) (Nat.le_of_ble_eq_true rfl) (Nat.le_of_ble_eq_true rfl) ⟨Nat.le_refl _, Nat.le_refl _⟩ hN ?_
  refine xw_if_le (pc := 4) (tgt := 11) C dX8_odd_4 (by decide) (fun q => ?_) (fun q => ?_)
  · replace hm := xif_t q hm
    refine xw_iconst (pc := 11) (v := 0) C dX8_odd_11 xk_i_0 ?_
    refine xw_istore_n (pc := 12) (i := 1) (x := (0 : Int32)) (L' := [some (.ref x0), some (.int (0 : Int32))]) C dX8_odd_12 rfl (Nat.le_of_ble_eq_true rfl) rfl ?_
    obtain ⟨e16, q17, hm⟩ := xbind hm
    refine xw_sub (pc := 13) [some (.ref x0), some (.int (0 : Int32))] ⟨Or.inr rfl, Or.inr rfl, trivial⟩ ?_
    refine xloop_walk (fX8_odd_B13 x0) (fX8_odd_P13 X x0 n sl) (fX8_odd_E13 X x0 n sl) (fun s' o' => fX8_odd_B13_w C hN s' o') 5000 (v2.2, (0 : Int32)) e16 q17 ?_
    rcases e16 with e16 | e16
    · dsimp only at hm
      show XW X 38 [none, some (.int e16.2)] [] e16.1 n sl
      refine xw_iload_n (pc := 38) (i := 1) (x := e16.2) C dX8_odd_38 rfl rfl ?_
      obtain rfl := Option.some.inj hm
      exact xw_ireturn (pc := 39) C dX8_odd_39 rfl hX
    · dsimp only at hm
      show XW X 46 [none, none] [] e16 n sl
      refine xw_sipush (pc := 46) (v := -1004) C dX8_odd_46 xk_s_m1004 ?_
      obtain rfl := Option.some.inj hm
      exact xw_ireturn (pc := 49) C dX8_odd_49 rfl hX
  · replace hm := xif_f q hm
    refine xw_sipush (pc := 7) (v := -1002) C dX8_odd_7 xk_s_m1002 ?_
    obtain rfl := Option.some.inj hm
    exact xw_ireturn (pc := 10) C dX8_odd_10 rfl hX
