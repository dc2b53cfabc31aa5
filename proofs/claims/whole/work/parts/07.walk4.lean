set_option maxHeartbeats 4000000 in
set_option maxRecDepth 100000 in
theorem wX9_stepOf {l : Launch} {n sl : Nat} {h : XH} {x0 : Nat} {x1 : Int32} {x2 : Int32} {o : Int32} (hm : fX9_stepOf h x0 x1 x2 = some o) : XM l yX9_stepOf cX9_stepOf 4 (some .int) 1 22 [.ref x0, .int x1, .int x2] h n sl (some (.int o)) h n sl := by
  refine xm_of pnX9 [some (.ref x0), some (.int x1), some (.int x2), none] 1 rfl (Nat.le_of_ble_eq_true rfl) ?_
  intro X hT C
  replace C : XOK X RX9 cX9_stepOf 4 "stepOf" (some .int) 1 22 := C
  obtain ⟨-, hN, hX⟩ := hT
  unfold fX9_stepOf at hm
  refine xw_aload_n (pc := 0) (i := 0) (x := x0) C dX9_stepOf_0 rfl rfl ?_
  obtain ⟨v1, q2, hm⟩ := xbind hm
  refine xw_getR (pc := 1) C dX9_stepOf_1 fl_X9_13 q2 ?_
  refine xw_iload_n (pc := 4) (i := 2) (x := x2) C dX9_stepOf_4 rfl rfl ?_
  obtain ⟨v3, q4, hm⟩ := xbind hm
  refine xw_iaload (pc := 5) C dX9_stepOf_5 q4 ?_
  refine xw_aload_n (pc := 6) (i := 0) (x := x0) C dX9_stepOf_6 rfl rfl ?_
  obtain ⟨v5, q6, hm⟩ := xbind hm
  refine xw_getR (pc := 7) C dX9_stepOf_7 fl_X9_13 q6 ?_
  refine xw_iload_n (pc := 10) (i := 1) (x := x1) C dX9_stepOf_10 rfl rfl ?_
  obtain ⟨v7, q8, hm⟩ := xbind hm
  refine xw_iaload (pc := 11) C dX9_stepOf_11 q8 ?_
  refine xw_isub (pc := 12) C dX9_stepOf_12 ?_
  refine xw_aload_n (pc := 13) (i := 0) (x := x0) C dX9_stepOf_13 rfl rfl ?_
  obtain ⟨v9, q10, hm⟩ := xbind hm
  refine xw_getI (pc := 14) C dX9_stepOf_14 fl_X9_44 q10 ?_
  obtain ⟨v11, q12, hm⟩ := xbind hm
  refine xw_callS1 (pc := 17) (As := [.int (v3 - v7), .int v9]) (st := []) C dX9_stepOf_17 (wX9_modulo q12) dd_X9_modulo lk_X9_47 ds_X9_modulo rfl (Nat.le_of_ble_eq_true rfl) (Nat.le_of_ble_eq_true rfl) (Nat.le_of_ble_eq_true rfl) ⟨Nat.le_refl _, Nat.le_refl _⟩ hN ?_
  refine xw_istore_n (pc := 20) (i := 3) (x := v11) (L' := [some (.ref x0), some (.int x1), some (.int x2), some (.int v11)]) C dX9_stepOf_20 rfl (Nat.le_of_ble_eq_true rfl) rfl ?_
  refine xw_iconst (pc := 21) (v := 2) C dX9_stepOf_21 xk_i_2 ?_
  refine xw_iload_n (pc := 22) (i := 3) (x := v11) C dX9_stepOf_22 rfl rfl ?_
  refine xw_imul (pc := 23) C dX9_stepOf_23 ?_
  refine xw_aload_n (pc := 24) (i := 0) (x := x0) C dX9_stepOf_24 rfl rfl ?_
  obtain ⟨v13, q14, hm⟩ := xbind hm
  refine xw_getI (pc := 25) C dX9_stepOf_25 fl_X9_44 q14 ?_
  refine xw_icmp_gt (pc := 28) (tgt := 35) C dX9_stepOf_28 (by decide) (fun q => ?_) (fun q => ?_)
  · replace hm := xif_t q hm
    refine xw_iload_n (pc := 35) (i := 3) (x := v11) C dX9_stepOf_35 rfl rfl ?_
    refine xw_aload_n (pc := 36) (i := 0) (x := x0) C dX9_stepOf_36 rfl rfl ?_
    obtain ⟨v15, q16, hm⟩ := xbind hm
    refine xw_getI (pc := 37) C dX9_stepOf_37 fl_X9_44 q16 ?_
    refine xw_isub (pc := 40) C dX9_stepOf_40 ?_
    obtain rfl := Option.some.inj hm
    exact xw_ireturn (pc := 41) C dX9_stepOf_41 rfl hX
  · replace hm := xif_f q hm
    refine xw_iload_n (pc := 31) (i := 3) (x := v11) C dX9_stepOf_31 rfl rfl ?_
    refine xw_goto (pc := 32) (tgt := 41) C dX9_stepOf_32 (by decide) ?_
    obtain rfl := Option.some.inj hm
    exact xw_ireturn (pc := 41) C dX9_stepOf_41 rfl hX
set_option maxHeartbeats 4000000 in
set_option maxRecDepth 100000 in
theorem wX9_isSamePicture {l : Launch} {n sl : Nat} {h : XH} {x0 : Nat} {x1 : Int32} {x2 : Int32} {o : Bool} (hm : fX9_isSamePicture h x0 x1 x2 = some o) : XM l yX9_isSamePicture cX9_isSamePicture 3 (some .boolean) 2 45 [.ref x0, .int x1, .int x2] h n sl (some (.int (xbi o))) h n sl := by
  refine xm_of pnX9 [some (.ref x0), some (.int x1), some (.int x2)] 0 rfl (Nat.le_of_ble_eq_true rfl) ?_
  intro X hT C
  replace C : XOK X RX9 cX9_isSamePicture 3 "isSamePicture" (some .boolean) 2 45 := C
  obtain ⟨-, hN, hX⟩ := hT
  unfold fX9_isSamePicture at hm
  refine xw_aload_n (pc := 0) (i := 0) (x := x0) C dX9_isSamePicture_0 rfl rfl ?_
  refine xw_iload_n (pc := 1) (i := 1) (x := x1) C dX9_isSamePicture_1 rfl rfl ?_
  refine xw_iload_n (pc := 2) (i := 2) (x := x2) C dX9_isSamePicture_2 rfl rfl ?_
  obtain ⟨_, q1, hm⟩ := xbind hm
  obtain ⟨v2, q3, hm⟩ := xbind hm
  refine xw_callV1 (pc := 3) (As := [.int x1, .int x2]) (st := []) C dX9_isSamePicture_3 (wX9_stepOf q3) dd_X9_stepOf lk_X9_59 dv_X9_stepOf (xco_spec q1) rfl (Nat.le_of_ble_eq_true rfl) (Nat.le_of_ble_eq_true rfl) (Nat.le_of_ble_eq_true rfl) ⟨Nat.le_refl _, Nat.le_refl _⟩ hN ?_
  refine xw_if_ne (pc := 6) (tgt := 13) C dX9_isSamePicture_6 (by decide) (fun q => ?_) (fun q => ?_)
  · replace hm := xif_f q hm
    refine xw_iconst (pc := 13) (v := 0) C dX9_isSamePicture_13 xk_i_0 ?_
    obtain rfl := Option.some.inj hm
    exact xw_zreturn (pc := 14) (v := xbi false) C dX9_isSamePicture_14 rfl (xbi_nar _) hX
  · replace hm := xif_t q hm
    refine xw_iconst (pc := 9) (v := 1) C dX9_isSamePicture_9 xk_i_1 ?_
    refine xw_goto (pc := 10) (tgt := 14) C dX9_isSamePicture_10 (by decide) ?_
    obtain rfl := Option.some.inj hm
    exact xw_zreturn (pc := 14) (v := xbi true) C dX9_isSamePicture_14 rfl (xbi_nar _) hX
set_option maxHeartbeats 4000000 in
set_option maxRecDepth 100000 in
theorem wX9_tickOfFlash {l : Launch} {n sl : Nat} {h : XH} {x0 : Nat} {x1 : Int32} {o : Int32} (hm : fX9_tickOfFlash h x0 x1 = some o) : XM l yX9_tickOfFlash cX9_tickOfFlash 2 (some .int) 0 0 [.ref x0, .int x1] h n sl (some (.int o)) h n sl := by
  refine xm_of pnX9 [some (.ref x0), some (.int x1)] 0 rfl (Nat.le_of_ble_eq_true rfl) ?_
  intro X hT C
  replace C : XOK X RX9 cX9_tickOfFlash 2 "tickOfFlash" (some .int) 0 0 := C
  obtain ⟨-, hN, hX⟩ := hT
  unfold fX9_tickOfFlash at hm
  refine xw_aload_n (pc := 0) (i := 0) (x := x0) C dX9_tickOfFlash_0 rfl rfl ?_
  obtain ⟨v1, q2, hm⟩ := xbind hm
  refine xw_getR (pc := 1) C dX9_tickOfFlash_1 fl_X9_7 q2 ?_
  refine xw_bipush (pc := 4) (v := 74) C dX9_tickOfFlash_4 xk_b_74 ?_
  obtain ⟨v3, q4, hm⟩ := xbind hm
  refine xw_iaload (pc := 6) C dX9_tickOfFlash_6 q4 ?_
  refine xw_iload_n (pc := 7) (i := 1) (x := x1) C dX9_tickOfFlash_7 rfl rfl ?_
  refine xw_aload_n (pc := 8) (i := 0) (x := x0) C dX9_tickOfFlash_8 rfl rfl ?_
  obtain ⟨v5, q6, hm⟩ := xbind hm
  refine xw_getR (pc := 9) C dX9_tickOfFlash_9 fl_X9_7 q6 ?_
  refine xw_bipush (pc := 12) (v := 75) C dX9_tickOfFlash_12 xk_b_75 ?_
  obtain ⟨v7, q8, hm⟩ := xbind hm
  refine xw_iaload (pc := 14) C dX9_tickOfFlash_14 q8 ?_
  refine xw_imul (pc := 15) C dX9_tickOfFlash_15 ?_
  refine xw_iadd (pc := 16) C dX9_tickOfFlash_16 ?_
  obtain rfl := Option.some.inj hm
  exact xw_ireturn (pc := 17) C dX9_tickOfFlash_17 rfl hX
def fX9_earliest_P2 (X : XCtx) (h : XH) (x0 : Nat) (x1 : Int32) (n sl : Nat) (s : Int32) : Prop := XW X 2 [some (.ref x0), some (.int x1), some (.int s)] [] h n sl
def fX9_earliest_E2 (X : XCtx) (h : XH) (x0 : Nat) (x1 : Int32) (n sl : Nat) (e : Int32) : Prop := XW X 25 [none, none, some (.int e)] [] h n sl
set_option maxHeartbeats 4000000 in
set_option maxRecDepth 100000 in
theorem fX9_earliest_B2_w {X : XCtx} (C : XOK X RX9 cX9_earliest 3 "earliest" (some .int) 3 67) {n sl : Nat} (hN : XN X n sl) {h : XH} {x0 : Nat} {x1 : Int32} (s : Int32) (o : Int32 ⊕ Int32) (hm : fX9_earliest_B2 h x0 x1 s = some o) (hc : ∀ s', o = .inl s' → fX9_earliest_P2 X h x0 x1 n sl s') (he : ∀ e', o = .inr e' → fX9_earliest_E2 X h x0 x1 n sl e') : fX9_earliest_P2 X h x0 x1 n sl s := by
  revert s; intro x2 hm
  show XW X 2 [some (.ref x0), some (.int x1), some (.int x2)] [] h n sl
  replace hm : fX9_earliest_b2 h x0 x1 x2 = some o := hm
  unfold fX9_earliest_b2 at hm
  refine xw_aload_n (pc := 2) (i := 0) (x := x0) C dX9_earliest_2 rfl rfl ?_
  refine xw_aload_n (pc := 3) (i := 0) (x := x0) C dX9_earliest_3 rfl rfl ?_
  refine xw_iload_n (pc := 4) (i := 2) (x := x2) C dX9_earliest_4 rfl rfl ?_
  obtain ⟨_, q1, hm⟩ := xbind hm
  obtain ⟨v2, q3, hm⟩ := xbind hm
  refine xw_callV1 (pc := 5) (As := [.int x2]) (st := [.ref x0]) C dX9_earliest_5 (wX9_tickOfFlash q3) dd_X9_tickOfFlash lk_X9_129 dv_X9_tickOfFlash (xco_spec q1) rfl (Nat.le_of_ble_eq_true rfl) (Nat.le_of_ble_eq_true rfl) (Nat.le_of_ble_eq_true rfl) ⟨Nat.le_refl _, Nat.le_refl _⟩ hN ?_
  refine xw_aload_n (pc := 8) (i := 0) (x := x0) C dX9_earliest_8 rfl rfl ?_
  refine xw_iload_n (pc := 9) (i := 1) (x := x1) C dX9_earliest_9 rfl rfl ?_
  obtain ⟨_, q4, hm⟩ := xbind hm
  obtain ⟨v5, q6, hm⟩ := xbind hm
  refine xw_callV1 (pc := 10) (As := [.int x1]) (st := [.int v2, .ref x0]) C dX9_earliest_10 (wX9_tickOfFlash q6) dd_X9_tickOfFlash lk_X9_129 dv_X9_tickOfFlash (xco_spec q4) rfl (Nat.le_of_ble_eq_true rfl) (Nat.le_of_ble_eq_true rfl) (Nat.le_of_ble_eq_true rfl) ⟨Nat.le_refl _, Nat.le_refl _⟩ hN ?_
  obtain ⟨_, q7, hm⟩ := xbind hm
  obtain ⟨v8, q9, hm⟩ := xbind hm
  refine xw_callV1 (pc := 13) (As := [.int v2, .int v5]) (st := []) C dX9_earliest_13 (wX9_isSamePicture q9) dd_X9_isSamePicture lk_X9_132 dv_X9_isSamePicture (xco_spec q7) rfl (Nat.le_of_ble_eq_true rfl) (Nat.le_of_ble_eq_true rfl) (Nat.le_of_ble_eq_true rfl) ⟨Nat.le_refl _, Nat.le_refl _⟩ hN ?_
  refine xw_if_neZ (pc := 16) (b := v8) (tgt := 25) C dX9_earliest_16 (by decide) (fun q => ?_) (fun q => ?_)
  · replace hm := xif_t q hm
    obtain rfl := Option.some.inj hm
    refine xw_sub (pc := 25) _ ?_ (he _ rfl)
    exact ⟨Or.inl rfl, Or.inl rfl, Or.inr rfl, trivial⟩
  · replace hm := xif_f q hm
    refine xw_iinc (pc := 19) (i := 2) (x := x2) (v := (x2 + (1 : Int32))) (L' := [some (.ref x0), some (.int x1), some (.int (x2 + (1 : Int32)))]) C dX9_earliest_19 rfl (congrArg (HAdd.hAdd _) xk_i_1) (Nat.le_of_ble_eq_true rfl) rfl ?_
    refine xw_goto (pc := 22) (tgt := 2) C dX9_earliest_22 (by decide) ?_
    obtain rfl := Option.some.inj hm
    refine xw_sub (pc := 2) _ ?_ (hc _ rfl)
    exact ⟨Or.inr rfl, Or.inr rfl, Or.inr rfl, trivial⟩
set_option maxHeartbeats 4000000 in
set_option maxRecDepth 100000 in
theorem wX9_earliest {l : Launch} {n sl : Nat} {h : XH} {x0 : Nat} {x1 : Int32} {o : Int32} (hm : fX9_earliest h x0 x1 = some o) : XM l yX9_earliest cX9_earliest 3 (some .int) 3 67 [.ref x0, .int x1] h n sl (some (.int o)) h n sl := by
  refine xm_of pnX9 [some (.ref x0), some (.int x1), none] 1 rfl (Nat.le_of_ble_eq_true rfl) ?_
  intro X hT C
  replace C : XOK X RX9 cX9_earliest 3 "earliest" (some .int) 3 67 := C
  obtain ⟨-, hN, hX⟩ := hT
  unfold fX9_earliest at hm
  refine xw_iconst (pc := 0) (v := 0) C dX9_earliest_0 xk_i_0 ?_
  refine xw_istore_n (pc := 1) (i := 2) (x := (0 : Int32)) (L' := [some (.ref x0), some (.int x1), some (.int (0 : Int32))]) C dX9_earliest_1 rfl (Nat.le_of_ble_eq_true rfl) rfl ?_
  obtain ⟨e10, q11, hm⟩ := xbind hm
  refine xw_sub (pc := 2) [some (.ref x0), some (.int x1), some (.int (0 : Int32))] ⟨Or.inr rfl, Or.inr rfl, Or.inr rfl, trivial⟩ ?_
  refine xloop_walk (fX9_earliest_B2 h x0 x1) (fX9_earliest_P2 X h x0 x1 n sl) (fX9_earliest_E2 X h x0 x1 n sl) (fun s' o' => fX9_earliest_B2_w C hN s' o') 5000 (0 : Int32) e10 q11 ?_
  show XW X 25 [none, none, some (.int e10)] [] h n sl
  refine xw_iload_n (pc := 25) (i := 2) (x := e10) C dX9_earliest_25 rfl rfl ?_
  obtain rfl := Option.some.inj hm
  exact xw_ireturn (pc := 26) C dX9_earliest_26 rfl hX
set_option maxHeartbeats 4000000 in
set_option maxRecDepth 100000 in
theorem wX9_isFlash {l : Launch} {n sl : Nat} {h : XH} {x0 : Nat} {x1 : Int32} {o : Bool} (hm : fX9_isFlash h x0 x1 = some o) : XM l yX9_isFlash cX9_isFlash 2 (some .boolean) 1 22 [.ref x0, .int x1] h n sl (some (.int (xbi o))) h n sl := by
  refine xm_of pnX9 [some (.ref x0), some (.int x1)] 0 rfl (Nat.le_of_ble_eq_true rfl) ?_
  intro X hT C
  replace C : XOK X RX9 cX9_isFlash 2 "isFlash" (some .boolean) 1 22 := C
  obtain ⟨-, hN, hX⟩ := hT
  unfold fX9_isFlash at hm
  refine xw_iload_n (pc := 0) (i := 1) (x := x1) C dX9_isFlash_0 rfl rfl ?_
  refine xw_iconst (pc := 1) (v := 0) C dX9_isFlash_1 xk_i_0 ?_
  refine xw_aload_n (pc := 2) (i := 0) (x := x0) C dX9_isFlash_2 rfl rfl ?_
  obtain ⟨_, q1, hm⟩ := xbind hm
  obtain ⟨v2, q3, hm⟩ := xbind hm
  refine xw_callV1 (pc := 3) (As := []) (st := [.int (0 : Int32), .int x1]) C dX9_isFlash_3 (wX9_flashes q3) dd_X9_flashes lk_X9_126 dv_X9_flashes (xco_spec q1) rfl (Nat.le_of_ble_eq_true rfl) (Nat.le_of_ble_eq_true rfl) (Nat.le_of_ble_eq_true rfl) ⟨Nat.le_refl _, Nat.le_refl _⟩ hN ?_
  refine xw_iconst (pc := 6) (v := 1) C dX9_isFlash_6 xk_i_1 ?_
  refine xw_isub (pc := 7) C dX9_isFlash_7 ?_
  obtain ⟨v4, q5, hm⟩ := xbind hm
  refine xw_callS1 (pc := 8) (As := [.int x1, .int (0 : Int32), .int (v2 - (1 : Int32))]) (st := []) C dX9_isFlash_8 (wX9_in q5) dd_X9_in lk_X9_55 ds_X9_in rfl (Nat.le_of_ble_eq_true rfl) (Nat.le_of_ble_eq_true rfl) (Nat.le_of_ble_eq_true rfl) ⟨Nat.le_refl _, Nat.le_refl _⟩ hN ?_
  obtain rfl := Option.some.inj hm
  exact xw_zreturn (pc := 11) (v := xbi v4) C dX9_isFlash_11 rfl (xbi_nar _) hX
def fX9_laysTurns_P40 (X : XCtx) (x0 : Nat) (n sl : Nat) (s : (XH × Int32 × Int32 × Int32)) : Prop := XW X 40 [some (.ref x0), some (.int s.2.1), some (.int s.2.2.1), some (.int s.2.2.2)] [] s.1 n sl
def fX9_laysTurns_E40 (X : XCtx) (x0 : Nat) (n sl : Nat) (e : XH) : Prop := XW X 113 [none, none, none, none] [] e n sl
set_option maxHeartbeats 4000000 in
set_option maxRecDepth 100000 in
theorem fX9_laysTurns_J84_w {X : XCtx} (C : XOK X RX9 cX9_laysTurns 4 "laysTurns" none 2 43) {n sl : Nat} (hN : XN X n sl)  {h : XH} {x0 : Nat} {x1 : Int32} {x2 : Int32} {x3 : Int32} {o : (XH × Int32 × Int32 × Int32) ⊕ XH} (hm : fX9_laysTurns_J84 h x0 x1 x2 x3 = some o) (hc : ∀ s', o = .inl s' → fX9_laysTurns_P40 X x0 n sl s') (he : ∀ e', o = .inr e' → fX9_laysTurns_E40 X x0 n sl e') : XW X 84 [some (.ref x0), some (.int x1), some (.int x2), some (.int x3)] [] h n sl := by
  unfold fX9_laysTurns_J84 at hm
  refine xw_aload_n (pc := 84) (i := 0) (x := x0) C dX9_laysTurns_84 rfl rfl ?_
  obtain ⟨v27, q28, hm⟩ := xbind hm
  refine xw_getR (pc := 85) C dX9_laysTurns_85 fl_X9_13 q28 ?_
  refine xw_iload_n (pc := 88) (i := 3) (x := x3) C dX9_laysTurns_88 rfl rfl ?_
  refine xw_iconst (pc := 89) (v := 1) C dX9_laysTurns_89 xk_i_1 ?_
  refine xw_iadd (pc := 90) C dX9_laysTurns_90 ?_
  refine xw_aload_n (pc := 91) (i := 0) (x := x0) C dX9_laysTurns_91 rfl rfl ?_
  obtain ⟨v29, q30, hm⟩ := xbind hm
  refine xw_getR (pc := 92) C dX9_laysTurns_92 fl_X9_13 q30 ?_
  refine xw_iload_n (pc := 95) (i := 3) (x := x3) C dX9_laysTurns_95 rfl rfl ?_
  obtain ⟨v31, q32, hm⟩ := xbind hm
  refine xw_iaload (pc := 96) C dX9_laysTurns_96 q32 ?_
  refine xw_iload_n (pc := 97) (i := 2) (x := x2) C dX9_laysTurns_97 rfl rfl ?_
  refine xw_iadd (pc := 98) C dX9_laysTurns_98 ?_
  refine xw_aload_n (pc := 99) (i := 0) (x := x0) C dX9_laysTurns_99 rfl rfl ?_
  obtain ⟨_, q33, hm⟩ := xbind hm
  obtain ⟨v34, q35, hm⟩ := xbind hm
  refine xw_callV1 (pc := 100) (As := []) (st := [.int (v31 + x2), .int (x3 + (1 : Int32)), .ref v27]) C dX9_laysTurns_100 (wX9_cells q35) dd_X9_cells lk_X9_37 dv_X9_cells (xco_spec q33) rfl (Nat.le_of_ble_eq_true rfl) (Nat.le_of_ble_eq_true rfl) (Nat.le_of_ble_eq_true rfl) ⟨Nat.le_refl _, Nat.le_refl _⟩ hN ?_
  obtain ⟨v36, q37, hm⟩ := xbind hm
  refine xw_callS1 (pc := 103) (As := [.int (v31 + x2), .int v34]) (st := [.int (x3 + (1 : Int32)), .ref v27]) C dX9_laysTurns_103 (wX9_modulo q37) dd_X9_modulo lk_X9_47 ds_X9_modulo rfl (Nat.le_of_ble_eq_true rfl) (Nat.le_of_ble_eq_true rfl) (Nat.le_of_ble_eq_true rfl) ⟨Nat.le_refl _, Nat.le_refl _⟩ hN ?_
  obtain ⟨h38, q39, hm⟩ := xbind hm
  refine xw_iastore (pc := 106) C dX9_laysTurns_106 q39 ?_
  refine xw_iinc (pc := 107) (i := 3) (x := x3) (v := (x3 + (1 : Int32))) (L' := [some (.ref x0), some (.int x1), some (.int x2), some (.int (x3 + (1 : Int32)))]) C dX9_laysTurns_107 rfl (congrArg (HAdd.hAdd _) xk_i_1) (Nat.le_of_ble_eq_true rfl) rfl ?_
  refine xw_goto (pc := 110) (tgt := 40) C dX9_laysTurns_110 (by decide) ?_
  obtain rfl := Option.some.inj hm
  refine xw_sub (pc := 40) _ ?_ (hc _ rfl)
  exact ⟨Or.inr rfl, Or.inr rfl, Or.inr rfl, Or.inr rfl, trivial⟩
set_option maxHeartbeats 4000000 in
set_option maxRecDepth 100000 in
theorem fX9_laysTurns_B40_w {X : XCtx} (C : XOK X RX9 cX9_laysTurns 4 "laysTurns" none 2 43) {n sl : Nat} (hN : XN X n sl) {x0 : Nat} (s : (XH × Int32 × Int32 × Int32)) (o : (XH × Int32 × Int32 × Int32) ⊕ XH) (hm : fX9_laysTurns_B40 x0 s = some o) (hc : ∀ s', o = .inl s' → fX9_laysTurns_P40 X x0 n sl s') (he : ∀ e', o = .inr e' → fX9_laysTurns_E40 X x0 n sl e') : fX9_laysTurns_P40 X x0 n sl s := by
  obtain ⟨h, x1, x2, x3⟩ := s
  show XW X 40 [some (.ref x0), some (.int x1), some (.int x2), some (.int x3)] [] h n sl
  replace hm : fX9_laysTurns_b40 x0 h x1 x2 x3 = some o := hm
  unfold fX9_laysTurns_b40 at hm
  refine xw_iload_n (pc := 40) (i := 3) (x := x3) C dX9_laysTurns_40 rfl rfl ?_
  refine xw_sipush (pc := 41) (v := 1000) C dX9_laysTurns_41 xk_s_1000 ?_
  refine xw_icmp_ge (pc := 44) (tgt := 113) C dX9_laysTurns_44 (by decide) (fun q => ?_) (fun q => ?_)
  · replace hm := xif_t q hm
    obtain rfl := Option.some.inj hm
    refine xw_sub (pc := 113) _ ?_ (he _ rfl)
    exact ⟨Or.inl rfl, Or.inl rfl, Or.inl rfl, Or.inl rfl, trivial⟩
  · replace hm := xif_f q hm
    refine xw_iload_n (pc := 47) (i := 1) (x := x1) C dX9_laysTurns_47 rfl rfl ?_
    refine xw_aload_n (pc := 48) (i := 0) (x := x0) C dX9_laysTurns_48 rfl rfl ?_
    obtain ⟨v23, q24, hm⟩ := xbind hm
    refine xw_getR (pc := 49) C dX9_laysTurns_49 fl_X9_7 q24 ?_
    refine xw_bipush (pc := 52) (v := 63) C dX9_laysTurns_52 xk_b_63 ?_
    obtain ⟨v25, q26, hm⟩ := xbind hm
    refine xw_iaload (pc := 54) C dX9_laysTurns_54 q26 ?_
    refine xw_icmp_ge (pc := 55) (tgt := 84) C dX9_laysTurns_55 (by decide) (fun q => ?_) (fun q => ?_)
    · replace hm := xif_t q hm
      exact xw_sub (pc := 84) [some (.ref x0), some (.int x1), some (.int x2), some (.int x3)] ⟨Or.inr rfl, Or.inr rfl, Or.inr rfl, Or.inr rfl, trivial⟩ (fX9_laysTurns_J84_w C hN hm hc he)
    · replace hm := xif_f q hm
      refine xw_aload_n (pc := 58) (i := 0) (x := x0) C dX9_laysTurns_58 rfl rfl ?_
      refine xw_iload_n (pc := 59) (i := 1) (x := x1) C dX9_laysTurns_59 rfl rfl ?_
      obtain ⟨_, q40, hm⟩ := xbind hm
      obtain ⟨v41, q42, hm⟩ := xbind hm
      refine xw_callV1 (pc := 60) (As := [.int x1]) (st := []) C dX9_laysTurns_60 (wX9_tickOf q42) dd_X9_tickOf lk_X9_51 dv_X9_tickOf (xco_spec q40) rfl (Nat.le_of_ble_eq_true rfl) (Nat.le_of_ble_eq_true rfl) (Nat.le_of_ble_eq_true rfl) ⟨Nat.le_refl _, Nat.le_refl _⟩ hN ?_
      refine xw_iload_n (pc := 63) (i := 3) (x := x3) C dX9_laysTurns_63 rfl rfl ?_
      refine xw_icmp_ne (pc := 64) (tgt := 84) C dX9_laysTurns_64 (by decide) (fun q => ?_) (fun q => ?_)
      · replace hm := xif_f q hm
        exact xw_sub (pc := 84) [some (.ref x0), some (.int x1), some (.int x2), some (.int x3)] ⟨Or.inr rfl, Or.inr rfl, Or.inr rfl, Or.inr rfl, trivial⟩ (fX9_laysTurns_J84_w C hN hm hc he)
      · replace hm := xif_t q hm
        refine xw_aload_n (pc := 67) (i := 0) (x := x0) C dX9_laysTurns_67 rfl rfl ?_
        obtain ⟨v43, q44, hm⟩ := xbind hm
        refine xw_getR (pc := 68) C dX9_laysTurns_68 fl_X9_7 q44 ?_
        refine xw_bipush (pc := 71) (v := 64) C dX9_laysTurns_71 xk_b_64 ?_
        refine xw_iconst (pc := 73) (v := 2) C dX9_laysTurns_73 xk_i_2 ?_
        refine xw_iload_n (pc := 74) (i := 1) (x := x1) C dX9_laysTurns_74 rfl rfl ?_
        refine xw_imul (pc := 75) C dX9_laysTurns_75 ?_
        refine xw_iadd (pc := 76) C dX9_laysTurns_76 ?_
        refine xw_iconst (pc := 77) (v := 1) C dX9_laysTurns_77 xk_i_1 ?_
        refine xw_iadd (pc := 78) C dX9_laysTurns_78 ?_
        obtain ⟨v45, q46, hm⟩ := xbind hm
        refine xw_iaload (pc := 79) C dX9_laysTurns_79 q46 ?_
        refine xw_istore_n (pc := 80) (i := 2) (x := v45) (L' := [some (.ref x0), some (.int x1), some (.int v45), some (.int x3)]) C dX9_laysTurns_80 rfl (Nat.le_of_ble_eq_true rfl) rfl ?_
        refine xw_iinc (pc := 81) (i := 1) (x := x1) (v := (x1 + (1 : Int32))) (L' := [some (.ref x0), some (.int (x1 + (1 : Int32))), some (.int v45), some (.int x3)]) C dX9_laysTurns_81 rfl (congrArg (HAdd.hAdd _) xk_i_1) (Nat.le_of_ble_eq_true rfl) rfl ?_
        exact xw_sub (pc := 84) [some (.ref x0), some (.int (x1 + (1 : Int32))), some (.int v45), some (.int x3)] ⟨Or.inr rfl, Or.inr rfl, Or.inr rfl, Or.inr rfl, trivial⟩ (fX9_laysTurns_J84_w C hN hm hc he)
set_option maxHeartbeats 4000000 in
set_option maxRecDepth 100000 in
theorem wX9_laysTurns {l : Launch} {n sl : Nat} {h : XH} {x0 : Nat} {o : XH} (hm : fX9_laysTurns h x0 = some o) : XM l yX9_laysTurns cX9_laysTurns 4 none 2 43 [.ref x0] h n sl none o n sl := by
  refine xm_of pnX9 [some (.ref x0), none, none, none] 3 rfl (Nat.le_of_ble_eq_true rfl) ?_
  intro X hT C
  replace C : XOK X RX9 cX9_laysTurns 4 "laysTurns" none 2 43 := C
  obtain ⟨-, hN, hX⟩ := hT
  unfold fX9_laysTurns at hm
  refine xw_iconst (pc := 0) (v := 0) C dX9_laysTurns_0 xk_i_0 ?_
  refine xw_istore_n (pc := 1) (i := 1) (x := (0 : Int32)) (L' := [some (.ref x0), some (.int (0 : Int32)), none, none]) C dX9_laysTurns_1 rfl (Nat.le_of_ble_eq_true rfl) rfl ?_
  refine xw_aload_n (pc := 2) (i := 0) (x := x0) C dX9_laysTurns_2 rfl rfl ?_
  obtain ⟨v1, q2, hm⟩ := xbind hm
  refine xw_getR (pc := 3) C dX9_laysTurns_3 fl_X9_7 q2 ?_
  refine xw_bipush (pc := 6) (v := 62) C dX9_laysTurns_6 xk_b_62 ?_
  obtain ⟨v3, q4, hm⟩ := xbind hm
  refine xw_iaload (pc := 8) C dX9_laysTurns_8 q4 ?_
  refine xw_istore_n (pc := 9) (i := 2) (x := v3) (L' := [some (.ref x0), some (.int (0 : Int32)), some (.int v3), none]) C dX9_laysTurns_9 rfl (Nat.le_of_ble_eq_true rfl) rfl ?_
  refine xw_aload_n (pc := 10) (i := 0) (x := x0) C dX9_laysTurns_10 rfl rfl ?_
  refine xw_aload_n (pc := 11) (i := 0) (x := x0) C dX9_laysTurns_11 rfl rfl ?_
  obtain ⟨_, q5, hm⟩ := xbind hm
  obtain ⟨v6, q7, hm⟩ := xbind hm
  refine xw_callV1 (pc := 12) (As := []) (st := [.ref x0]) C dX9_laysTurns_12 (wX9_measure q7) dd_X9_measure lk_X9_41 dv_X9_measure (xco_spec q5) rfl (Nat.le_of_ble_eq_true rfl) (Nat.le_of_ble_eq_true rfl) (Nat.le_of_ble_eq_true rfl) ⟨Nat.le_refl _, Nat.le_refl _⟩ hN ?_
  obtain ⟨h8, q9, hm⟩ := xbind hm
  refine xw_put (pc := 15) C dX9_laysTurns_15 fl_X9_44 q9 (fun _ => rfl) (fun _ => rfl) ?_
  refine xw_aload_n (pc := 18) (i := 0) (x := x0) C dX9_laysTurns_18 rfl rfl ?_
  obtain ⟨v10, q11, hm⟩ := xbind hm
  refine xw_getR (pc := 19) C dX9_laysTurns_19 fl_X9_13 q11 ?_
  refine xw_iconst (pc := 22) (v := 0) C dX9_laysTurns_22 xk_i_0 ?_
  refine xw_aload_n (pc := 23) (i := 0) (x := x0) C dX9_laysTurns_23 rfl rfl ?_
  obtain ⟨v12, q13, hm⟩ := xbind hm
  refine xw_getR (pc := 24) C dX9_laysTurns_24 fl_X9_7 q13 ?_
  refine xw_bipush (pc := 27) (v := 61) C dX9_laysTurns_27 xk_b_61 ?_
  obtain ⟨v14, q15, hm⟩ := xbind hm
  refine xw_iaload (pc := 29) C dX9_laysTurns_29 q15 ?_
  refine xw_aload_n (pc := 30) (i := 0) (x := x0) C dX9_laysTurns_30 rfl rfl ?_
  obtain ⟨_, q16, hm⟩ := xbind hm
  obtain ⟨v17, q18, hm⟩ := xbind hm
  refine xw_callV1 (pc := 31) (As := []) (st := [.int v14, .int (0 : Int32), .ref v10]) C dX9_laysTurns_31 (wX9_cells q18) dd_X9_cells lk_X9_37 dv_X9_cells (xco_spec q16) rfl (Nat.le_of_ble_eq_true rfl) (Nat.le_of_ble_eq_true rfl) (Nat.le_of_ble_eq_true rfl) ⟨Nat.le_refl _, Nat.le_refl _⟩ hN ?_
  obtain ⟨v19, q20, hm⟩ := xbind hm
  refine xw_callS1 (pc := 34) (As := [.int v14, .int v17]) (st := [.int (0 : Int32), .ref v10]) C dX9_laysTurns_34 (wX9_modulo q20) dd_X9_modulo lk_X9_47 ds_X9_modulo rfl (Nat.le_of_ble_eq_true rfl) (Nat.le_of_ble_eq_true rfl) (Nat.le_of_ble_eq_true rfl) ⟨Nat.le_refl _, Nat.le_refl _⟩ hN ?_
  obtain ⟨h21, q22, hm⟩ := xbind hm
  refine xw_iastore (pc := 37) C dX9_laysTurns_37 q22 ?_
  refine xw_iconst (pc := 38) (v := 0) C dX9_laysTurns_38 xk_i_0 ?_
  refine xw_istore_n (pc := 39) (i := 3) (x := (0 : Int32)) (L' := [some (.ref x0), some (.int (0 : Int32)), some (.int v3), some (.int (0 : Int32))]) C dX9_laysTurns_39 rfl (Nat.le_of_ble_eq_true rfl) rfl ?_
  obtain ⟨e47, q48, hm⟩ := xbind hm
  refine xw_sub (pc := 40) [some (.ref x0), some (.int (0 : Int32)), some (.int v3), some (.int (0 : Int32))] ⟨Or.inr rfl, Or.inr rfl, Or.inr rfl, Or.inr rfl, trivial⟩ ?_
  refine xloop_walk (fX9_laysTurns_B40 x0) (fX9_laysTurns_P40 X x0 n sl) (fX9_laysTurns_E40 X x0 n sl) (fun s' o' => fX9_laysTurns_B40_w C hN s' o') 5000 (h21, (0 : Int32), v3, (0 : Int32)) e47 q48 ?_
  show XW X 113 [none, none, none, none] [] e47 n sl
  obtain rfl := Option.some.inj hm
  exact xw_return (pc := 113) C dX9_laysTurns_113 rfl hX
set_option maxHeartbeats 4000000 in
set_option maxRecDepth 100000 in
theorem wX9_stepBehind {l : Launch} {n sl : Nat} {h : XH} {x0 : Nat} {x1 : Int32} {o : Int32} (hm : fX9_stepBehind h x0 x1 = some o) : XM l yX9_stepBehind cX9_stepBehind 2 (some .int) 2 45 [.ref x0, .int x1] h n sl (some (.int o)) h n sl := by
  refine xm_of pnX9 [some (.ref x0), some (.int x1)] 0 rfl (Nat.le_of_ble_eq_true rfl) ?_
  intro X hT C
  replace C : XOK X RX9 cX9_stepBehind 2 "stepBehind" (some .int) 2 45 := C
  obtain ⟨-, hN, hX⟩ := hT
  unfold fX9_stepBehind at hm
  refine xw_iload_n (pc := 0) (i := 1) (x := x1) C dX9_stepBehind_0 rfl rfl ?_
  refine xw_aload_n (pc := 1) (i := 0) (x := x0) C dX9_stepBehind_1 rfl rfl ?_
  obtain ⟨_, q1, hm⟩ := xbind hm
  obtain ⟨v2, q3, hm⟩ := xbind hm
  refine xw_callV1 (pc := 2) (As := []) (st := [.int x1]) C dX9_stepBehind_2 (wX9_flashes q3) dd_X9_flashes lk_X9_126 dv_X9_flashes (xco_spec q1) rfl (Nat.le_of_ble_eq_true rfl) (Nat.le_of_ble_eq_true rfl) (Nat.le_of_ble_eq_true rfl) ⟨Nat.le_refl _, Nat.le_refl _⟩ hN ?_
  refine xw_iconst (pc := 5) (v := 1) C dX9_stepBehind_5 xk_i_1 ?_
  refine xw_isub (pc := 6) C dX9_stepBehind_6 ?_
  refine xw_icmp_ne (pc := 7) (tgt := 16) C dX9_stepBehind_7 (by decide) (fun q => ?_) (fun q => ?_)
  · replace hm := xif_f q hm
    refine xw_aload_n (pc := 16) (i := 0) (x := x0) C dX9_stepBehind_16 rfl rfl ?_
    refine xw_aload_n (pc := 17) (i := 0) (x := x0) C dX9_stepBehind_17 rfl rfl ?_
    refine xw_iload_n (pc := 18) (i := 1) (x := x1) C dX9_stepBehind_18 rfl rfl ?_
    obtain ⟨_, q4, hm⟩ := xbind hm
    obtain ⟨v5, q6, hm⟩ := xbind hm
    refine xw_callV1 (pc := 19) (As := [.int x1]) (st := [.ref x0]) C dX9_stepBehind_19 (wX9_tickOfFlash q6) dd_X9_tickOfFlash lk_X9_129 dv_X9_tickOfFlash (xco_spec q4) rfl (Nat.le_of_ble_eq_true rfl) (Nat.le_of_ble_eq_true rfl) (Nat.le_of_ble_eq_true rfl) ⟨Nat.le_refl _, Nat.le_refl _⟩ hN ?_
    refine xw_aload_n (pc := 22) (i := 0) (x := x0) C dX9_stepBehind_22 rfl rfl ?_
    refine xw_iload_n (pc := 23) (i := 1) (x := x1) C dX9_stepBehind_23 rfl rfl ?_
    refine xw_iconst (pc := 24) (v := 1) C dX9_stepBehind_24 xk_i_1 ?_
    refine xw_iadd (pc := 25) C dX9_stepBehind_25 ?_
    obtain ⟨_, q7, hm⟩ := xbind hm
    obtain ⟨v8, q9, hm⟩ := xbind hm
    refine xw_callV1 (pc := 26) (As := [.int (x1 + (1 : Int32))]) (st := [.int v5, .ref x0]) C dX9_stepBehind_26 (wX9_tickOfFlash q9) dd_X9_tickOfFlash lk_X9_129 dv_X9_tickOfFlash (xco_spec q7) rfl (Nat.le_of_ble_eq_true rfl) (Nat.le_of_ble_eq_true rfl) (Nat.le_of_ble_eq_true rfl) ⟨Nat.le_refl _, Nat.le_refl _⟩ hN ?_
    obtain ⟨_, q10, hm⟩ := xbind hm
    obtain ⟨v11, q12, hm⟩ := xbind hm
    refine xw_callV1 (pc := 29) (As := [.int v5, .int v8]) (st := []) C dX9_stepBehind_29 (wX9_stepOf q12) dd_X9_stepOf lk_X9_59 dv_X9_stepOf (xco_spec q10) rfl (Nat.le_of_ble_eq_true rfl) (Nat.le_of_ble_eq_true rfl) (Nat.le_of_ble_eq_true rfl) ⟨Nat.le_refl _, Nat.le_refl _⟩ hN ?_
    obtain rfl := Option.some.inj hm
    exact xw_ireturn (pc := 32) C dX9_stepBehind_32 rfl hX
  · replace hm := xif_t q hm
    refine xw_sipush (pc := 10) (v := -1004) C dX9_stepBehind_10 xk_s_m1004 ?_
    refine xw_goto (pc := 13) (tgt := 32) C dX9_stepBehind_13 (by decide) ?_
    obtain rfl := Option.some.inj hm
    exact xw_ireturn (pc := 32) C dX9_stepBehind_32 rfl hX
set_option maxHeartbeats 4000000 in
set_option maxRecDepth 100000 in
theorem wX9_flash {l : Launch} {n sl : Nat} {h : XH} {x0 : Nat} {x1 : Int32} {x2 : Int32} {o : Int32 × XH} (hm : fX9_flash h x0 x1 x2 = some o) : XM l yX9_flash cX9_flash 3 (some .int) 4 89 [.ref x0, .int x1, .int x2] h n sl (some (.int o.1)) o.2 n sl := by
  refine xm_of pnX9 [some (.ref x0), some (.int x1), some (.int x2)] 0 rfl (Nat.le_of_ble_eq_true rfl) ?_
  intro X hT C
  replace C : XOK X RX9 cX9_flash 3 "flash" (some .int) 4 89 := C
  obtain ⟨-, hN, hX⟩ := hT
  unfold fX9_flash at hm
  refine xw_aload_n (pc := 0) (i := 0) (x := x0) C dX9_flash_0 rfl rfl ?_
  refine xw_iload_n (pc := 1) (i := 1) (x := x1) C dX9_flash_1 rfl rfl ?_
  obtain ⟨_, q1, hm⟩ := xbind hm
  obtain ⟨v2, q3, hm⟩ := xbind hm
  refine xw_callV1 (pc := 2) (As := [.int x1]) (st := []) C dX9_flash_2 (wX9_isFlash q3) dd_X9_isFlash lk_X9_135 dv_X9_isFlash (xco_spec q1) rfl (Nat.le_of_ble_eq_true rfl) (Nat.le_of_ble_eq_true rfl) (Nat.le_of_ble_eq_true rfl) ⟨Nat.le_refl _, Nat.le_refl _⟩ hN ?_
  refine xw_if_eqZ (pc := 5) (b := v2) (tgt := 17) C dX9_flash_5 (by decide) (fun q => ?_) (fun q => ?_)
  · replace hm := xif_f q hm
    refine xw_sipush (pc := 17) (v := -1001) C dX9_flash_17 xk_s_m1001 ?_
    obtain rfl := Option.some.inj hm
    exact xw_ireturn (pc := 20) C dX9_flash_20 rfl hX
  · replace hm := xif_t q hm
    refine xw_iload_n (pc := 8) (i := 2) (x := x2) C dX9_flash_8 rfl rfl ?_
    refine xw_iconst (pc := 9) (v := 0) C dX9_flash_9 xk_i_0 ?_
    refine xw_iconst (pc := 10) (v := 3) C dX9_flash_10 xk_i_3 ?_
    obtain ⟨v4, q5, hm⟩ := xbind hm
    refine xw_callS1 (pc := 11) (As := [.int x2, .int (0 : Int32), .int (3 : Int32)]) (st := []) C dX9_flash_11 (wX9_in q5) dd_X9_in lk_X9_55 ds_X9_in rfl (Nat.le_of_ble_eq_true rfl) (Nat.le_of_ble_eq_true rfl) (Nat.le_of_ble_eq_true rfl) ⟨Nat.le_refl _, Nat.le_refl _⟩ hN ?_
    refine xw_if_neZ (pc := 14) (b := v4) (tgt := 21) C dX9_flash_14 (by decide) (fun q => ?_) (fun q => ?_)
    · replace hm := xif_t q hm
      refine xw_aload_n (pc := 21) (i := 0) (x := x0) C dX9_flash_21 rfl rfl ?_
      obtain ⟨_, q6, hm⟩ := xbind hm
      obtain ⟨h7, q8, hm⟩ := xbind hm
      refine xw_callV0 (pc := 22) (As := []) (st := []) C dX9_flash_22 (wX9_laysTurns q8) dd_X9_laysTurns lk_X9_120 dv_X9_laysTurns (xco_spec q6) rfl (Nat.le_of_ble_eq_true rfl) (Nat.le_of_ble_eq_true rfl) (Nat.le_of_ble_eq_true rfl) ⟨Nat.le_refl _, Nat.le_refl _⟩ hN ?_
      refine xw_iload_n (pc := 25) (i := 2) (x := x2) C dX9_flash_25 rfl rfl ?_
      by_cases q9 : x2 = 0
      · replace hm := xif_t q9 hm
        refine xw_tabIn (pc := 26) (v := 0) (off := 26) (tgt := 52) C dX9_flash_26 q9 (by decide) (by decide) (by decide) (by decide) ?_
        refine xw_aload_n (pc := 52) (i := 0) (x := x0) C dX9_flash_52 rfl rfl ?_
        refine xw_iload_n (pc := 53) (i := 1) (x := x1) C dX9_flash_53 rfl rfl ?_
        obtain ⟨_, q12, hm⟩ := xbind hm
        obtain ⟨v13, q14, hm⟩ := xbind hm
        refine xw_callV1 (pc := 54) (As := [.int x1]) (st := []) C dX9_flash_54 (wX9_tickOfFlash q14) dd_X9_tickOfFlash lk_X9_129 dv_X9_tickOfFlash (xco_spec q12) rfl (Nat.le_of_ble_eq_true rfl) (Nat.le_of_ble_eq_true rfl) (Nat.le_of_ble_eq_true rfl) ⟨Nat.le_refl _, Nat.le_refl _⟩ hN ?_
        obtain rfl := Option.some.inj hm
        exact xw_ireturn (pc := 57) C dX9_flash_57 rfl hX
      · replace hm := xif_f q9 hm
        by_cases q10 : x2 = 1
        · replace hm := xif_t q10 hm
          refine xw_tabIn (pc := 26) (v := 1) (off := 32) (tgt := 58) C dX9_flash_26 q10 (by decide) (by decide) (by decide) (by decide) ?_
          refine xw_aload_n (pc := 58) (i := 0) (x := x0) C dX9_flash_58 rfl rfl ?_
          obtain ⟨v15, q16, hm⟩ := xbind hm
          refine xw_getR (pc := 59) C dX9_flash_59 fl_X9_13 q16 ?_
          refine xw_aload_n (pc := 62) (i := 0) (x := x0) C dX9_flash_62 rfl rfl ?_
          refine xw_iload_n (pc := 63) (i := 1) (x := x1) C dX9_flash_63 rfl rfl ?_
          obtain ⟨_, q17, hm⟩ := xbind hm
          obtain ⟨v18, q19, hm⟩ := xbind hm
          refine xw_callV1 (pc := 64) (As := [.int x1]) (st := [.ref v15]) C dX9_flash_64 (wX9_tickOfFlash q19) dd_X9_tickOfFlash lk_X9_129 dv_X9_tickOfFlash (xco_spec q17) rfl (Nat.le_of_ble_eq_true rfl) (Nat.le_of_ble_eq_true rfl) (Nat.le_of_ble_eq_true rfl) ⟨Nat.le_refl _, Nat.le_refl _⟩ hN ?_
          obtain ⟨v20, q21, hm⟩ := xbind hm
          refine xw_iaload (pc := 67) C dX9_flash_67 q21 ?_
          obtain rfl := Option.some.inj hm
          exact xw_ireturn (pc := 68) C dX9_flash_68 rfl hX
        · replace hm := xif_f q10 hm
          by_cases q11 : x2 = 2
          · replace hm := xif_t q11 hm
            refine xw_tabIn (pc := 26) (v := 2) (off := 43) (tgt := 69) C dX9_flash_26 q11 (by decide) (by decide) (by decide) (by decide) ?_
            refine xw_aload_n (pc := 69) (i := 0) (x := x0) C dX9_flash_69 rfl rfl ?_
            refine xw_iload_n (pc := 70) (i := 1) (x := x1) C dX9_flash_70 rfl rfl ?_
            obtain ⟨_, q22, hm⟩ := xbind hm
            obtain ⟨v23, q24, hm⟩ := xbind hm
            refine xw_callV1 (pc := 71) (As := [.int x1]) (st := []) C dX9_flash_71 (wX9_stepBehind q24) dd_X9_stepBehind lk_X9_138 dv_X9_stepBehind (xco_spec q22) rfl (Nat.le_of_ble_eq_true rfl) (Nat.le_of_ble_eq_true rfl) (Nat.le_of_ble_eq_true rfl) ⟨Nat.le_refl _, Nat.le_refl _⟩ hN ?_
            obtain rfl := Option.some.inj hm
            exact xw_ireturn (pc := 74) C dX9_flash_74 rfl hX
          · replace hm := xif_f q11 hm
            refine xw_tabOut (pc := 26) (tgt := 75) C dX9_flash_26 (by have := lv_neT q9 (a := 0) (by decide); have := lv_neT q10 (a := 1) (by decide); have := lv_neT q11 (a := 2) (by decide); omega) (by decide) ?_
            refine xw_aload_n (pc := 75) (i := 0) (x := x0) C dX9_flash_75 rfl rfl ?_
            refine xw_iload_n (pc := 76) (i := 1) (x := x1) C dX9_flash_76 rfl rfl ?_
            obtain ⟨_, q25, hm⟩ := xbind hm
            obtain ⟨v26, q27, hm⟩ := xbind hm
            refine xw_callV1 (pc := 77) (As := [.int x1]) (st := []) C dX9_flash_77 (wX9_earliest q27) dd_X9_earliest lk_X9_141 dv_X9_earliest (xco_spec q25) rfl (Nat.le_of_ble_eq_true rfl) (Nat.le_of_ble_eq_true rfl) (Nat.le_of_ble_eq_true rfl) ⟨Nat.le_refl _, Nat.le_refl _⟩ hN ?_
            obtain rfl := Option.some.inj hm
            exact xw_ireturn (pc := 80) C dX9_flash_80 rfl hX
    · replace hm := xif_f q hm
      refine xw_sipush (pc := 17) (v := -1001) C dX9_flash_17 xk_s_m1001 ?_
      obtain rfl := Option.some.inj hm
      exact xw_ireturn (pc := 20) C dX9_flash_20 rfl hX
set_option maxHeartbeats 4000000 in
set_option maxRecDepth 100000 in
theorem wX9_isCell {l : Launch} {n sl : Nat} {h : XH} {x0 : Nat} {x1 : Int32} {o : Bool} (hm : fX9_isCell h x0 x1 = some o) : XM l yX9_isCell cX9_isCell 2 (some .boolean) 1 22 [.ref x0, .int x1] h n sl (some (.int (xbi o))) h n sl := by
  refine xm_of pnX9 [some (.ref x0), some (.int x1)] 0 rfl (Nat.le_of_ble_eq_true rfl) ?_
  intro X hT C
  replace C : XOK X RX9 cX9_isCell 2 "isCell" (some .boolean) 1 22 := C
  obtain ⟨-, hN, hX⟩ := hT
  unfold fX9_isCell at hm
  refine xw_iload_n (pc := 0) (i := 1) (x := x1) C dX9_isCell_0 rfl rfl ?_
  refine xw_iconst (pc := 1) (v := 0) C dX9_isCell_1 xk_i_0 ?_
  refine xw_aload_n (pc := 2) (i := 0) (x := x0) C dX9_isCell_2 rfl rfl ?_
  obtain ⟨_, q1, hm⟩ := xbind hm
  obtain ⟨v2, q3, hm⟩ := xbind hm
  refine xw_callV1 (pc := 3) (As := []) (st := [.int (0 : Int32), .int x1]) C dX9_isCell_3 (wX9_cells q3) dd_X9_cells lk_X9_37 dv_X9_cells (xco_spec q1) rfl (Nat.le_of_ble_eq_true rfl) (Nat.le_of_ble_eq_true rfl) (Nat.le_of_ble_eq_true rfl) ⟨Nat.le_refl _, Nat.le_refl _⟩ hN ?_
  refine xw_iconst (pc := 6) (v := 1) C dX9_isCell_6 xk_i_1 ?_
  refine xw_isub (pc := 7) C dX9_isCell_7 ?_
  obtain ⟨v4, q5, hm⟩ := xbind hm
  refine xw_callS1 (pc := 8) (As := [.int x1, .int (0 : Int32), .int (v2 - (1 : Int32))]) (st := []) C dX9_isCell_8 (wX9_in q5) dd_X9_in lk_X9_55 ds_X9_in rfl (Nat.le_of_ble_eq_true rfl) (Nat.le_of_ble_eq_true rfl) (Nat.le_of_ble_eq_true rfl) ⟨Nat.le_refl _, Nat.le_refl _⟩ hN ?_
  obtain rfl := Option.some.inj hm
  exact xw_zreturn (pc := 11) (v := xbi v4) C dX9_isCell_11 rfl (xbi_nar _) hX
set_option maxHeartbeats 4000000 in
set_option maxRecDepth 100000 in
theorem wX9_isTick {l : Launch} {n sl : Nat} {h : XH} {x0 : Int32} {o : Bool} (hm : fX9_isTick x0 = some o) : XM l yX9_isTick cX9_isTick 1 (some .boolean) 1 22 [.int x0] h n sl (some (.int (xbi o))) h n sl := by
  refine xm_of pnX9 [some (.int x0)] 0 rfl (Nat.le_of_ble_eq_true rfl) ?_
  intro X hT C
  replace C : XOK X RX9 cX9_isTick 1 "isTick" (some .boolean) 1 22 := C
  obtain ⟨-, hN, hX⟩ := hT
  unfold fX9_isTick at hm
  refine xw_iload_n (pc := 0) (i := 0) (x := x0) C dX9_isTick_0 rfl rfl ?_
  refine xw_iconst (pc := 1) (v := 0) C dX9_isTick_1 xk_i_0 ?_
  refine xw_sipush (pc := 2) (v := 1000) C dX9_isTick_2 xk_s_1000 ?_
  obtain ⟨v1, q2, hm⟩ := xbind hm
  refine xw_callS1 (pc := 5) (As := [.int x0, .int (0 : Int32), .int (1000 : Int32)]) (st := []) C dX9_isTick_5 (wX9_in q2) dd_X9_in lk_X9_55 ds_X9_in rfl (Nat.le_of_ble_eq_true rfl) (Nat.le_of_ble_eq_true rfl) (Nat.le_of_ble_eq_true rfl) ⟨Nat.le_refl _, Nat.le_refl _⟩ hN ?_
  obtain rfl := Option.some.inj hm
  exact xw_zreturn (pc := 8) (v := xbi v1) C dX9_isTick_8 rfl (xbi_nar _) hX
set_option maxHeartbeats 4000000 in
set_option maxRecDepth 100000 in
theorem wX9_seenAt {l : Launch} {n sl : Nat} {h : XH} {x0 : Nat} {x1 : Int32} {x2 : Int32} {o : Int32} (hm : fX9_seenAt h x0 x1 x2 = some o) : XM l yX9_seenAt cX9_seenAt 3 (some .int) 1 22 [.ref x0, .int x1, .int x2] h n sl (some (.int o)) h n sl := by
  refine xm_of pnX9 [some (.ref x0), some (.int x1), some (.int x2)] 0 rfl (Nat.le_of_ble_eq_true rfl) ?_
  intro X hT C
  replace C : XOK X RX9 cX9_seenAt 3 "seenAt" (some .int) 1 22 := C
  obtain ⟨-, hN, hX⟩ := hT
  unfold fX9_seenAt at hm
  refine xw_aload_n (pc := 0) (i := 0) (x := x0) C dX9_seenAt_0 rfl rfl ?_
  obtain ⟨v1, q2, hm⟩ := xbind hm
  refine xw_getR (pc := 1) C dX9_seenAt_1 fl_X9_7 q2 ?_
  refine xw_iconst (pc := 4) (v := 1) C dX9_seenAt_4 xk_i_1 ?_
  refine xw_iload_n (pc := 5) (i := 2) (x := x2) C dX9_seenAt_5 rfl rfl ?_
  refine xw_aload_n (pc := 6) (i := 0) (x := x0) C dX9_seenAt_6 rfl rfl ?_
  obtain ⟨v3, q4, hm⟩ := xbind hm
  refine xw_getR (pc := 7) C dX9_seenAt_7 fl_X9_13 q4 ?_
  refine xw_iload_n (pc := 10) (i := 1) (x := x1) C dX9_seenAt_10 rfl rfl ?_
  obtain ⟨v5, q6, hm⟩ := xbind hm
  refine xw_iaload (pc := 11) C dX9_seenAt_11 q6 ?_
  refine xw_isub (pc := 12) C dX9_seenAt_12 ?_
  refine xw_aload_n (pc := 13) (i := 0) (x := x0) C dX9_seenAt_13 rfl rfl ?_
  obtain ⟨_, q7, hm⟩ := xbind hm
  obtain ⟨v8, q9, hm⟩ := xbind hm
  refine xw_callV1 (pc := 14) (As := []) (st := [.int (x2 - v5), .int (1 : Int32), .ref v1]) C dX9_seenAt_14 (wX9_cells q9) dd_X9_cells lk_X9_37 dv_X9_cells (xco_spec q7) rfl (Nat.le_of_ble_eq_true rfl) (Nat.le_of_ble_eq_true rfl) (Nat.le_of_ble_eq_true rfl) ⟨Nat.le_refl _, Nat.le_refl _⟩ hN ?_
  obtain ⟨v10, q11, hm⟩ := xbind hm
  refine xw_callS1 (pc := 17) (As := [.int (x2 - v5), .int v8]) (st := [.int (1 : Int32), .ref v1]) C dX9_seenAt_17 (wX9_modulo q11) dd_X9_modulo lk_X9_47 ds_X9_modulo rfl (Nat.le_of_ble_eq_true rfl) (Nat.le_of_ble_eq_true rfl) (Nat.le_of_ble_eq_true rfl) ⟨Nat.le_refl _, Nat.le_refl _⟩ hN ?_
  refine xw_iadd (pc := 20) C dX9_seenAt_20 ?_
  obtain ⟨v12, q13, hm⟩ := xbind hm
  refine xw_iaload (pc := 21) C dX9_seenAt_21 q13 ?_
  obtain rfl := Option.some.inj hm
  exact xw_ireturn (pc := 22) C dX9_seenAt_22 rfl hX
set_option maxHeartbeats 4000000 in
set_option maxRecDepth 100000 in
theorem wX9_markAt {l : Launch} {n sl : Nat} {h : XH} {x0 : Nat} {x1 : Int32} {x2 : Int32} {o : Int32 × XH} (hm : fX9_markAt h x0 x1 x2 = some o) : XM l yX9_markAt cX9_markAt 3 (some .int) 3 66 [.ref x0, .int x1, .int x2] h n sl (some (.int o.1)) o.2 n sl := by
  refine xm_of pnX9 [some (.ref x0), some (.int x1), some (.int x2)] 0 rfl (Nat.le_of_ble_eq_true rfl) ?_
  intro X hT C
  replace C : XOK X RX9 cX9_markAt 3 "markAt" (some .int) 3 66 := C
  obtain ⟨-, hN, hX⟩ := hT
  unfold fX9_markAt at hm
  refine xw_iload_n (pc := 0) (i := 1) (x := x1) C dX9_markAt_0 rfl rfl ?_
  obtain ⟨v1, q2, hm⟩ := xbind hm
  refine xw_callS1 (pc := 1) (As := [.int x1]) (st := []) C dX9_markAt_1 (wX9_isTick q2) dd_X9_isTick lk_X9_114 ds_X9_isTick rfl (Nat.le_of_ble_eq_true rfl) (Nat.le_of_ble_eq_true rfl) (Nat.le_of_ble_eq_true rfl) ⟨Nat.le_refl _, Nat.le_refl _⟩ hN ?_
  refine xw_if_eqZ (pc := 4) (b := v1) (tgt := 15) C dX9_markAt_4 (by decide) (fun q => ?_) (fun q => ?_)
  · replace hm := xif_f q hm
    refine xw_sipush (pc := 15) (v := -1001) C dX9_markAt_15 xk_s_m1001 ?_
    obtain rfl := Option.some.inj hm
    exact xw_ireturn (pc := 18) C dX9_markAt_18 rfl hX
  · replace hm := xif_t q hm
    refine xw_aload_n (pc := 7) (i := 0) (x := x0) C dX9_markAt_7 rfl rfl ?_
    refine xw_iload_n (pc := 8) (i := 2) (x := x2) C dX9_markAt_8 rfl rfl ?_
    obtain ⟨_, q3, hm⟩ := xbind hm
    obtain ⟨v4, q5, hm⟩ := xbind hm
    refine xw_callV1 (pc := 9) (As := [.int x2]) (st := []) C dX9_markAt_9 (wX9_isCell q5) dd_X9_isCell lk_X9_104 dv_X9_isCell (xco_spec q3) rfl (Nat.le_of_ble_eq_true rfl) (Nat.le_of_ble_eq_true rfl) (Nat.le_of_ble_eq_true rfl) ⟨Nat.le_refl _, Nat.le_refl _⟩ hN ?_
    refine xw_if_neZ (pc := 12) (b := v4) (tgt := 19) C dX9_markAt_12 (by decide) (fun q => ?_) (fun q => ?_)
    · replace hm := xif_t q hm
      refine xw_aload_n (pc := 19) (i := 0) (x := x0) C dX9_markAt_19 rfl rfl ?_
      obtain ⟨_, q6, hm⟩ := xbind hm
      obtain ⟨h7, q8, hm⟩ := xbind hm
      refine xw_callV0 (pc := 20) (As := []) (st := []) C dX9_markAt_20 (wX9_laysTurns q8) dd_X9_laysTurns lk_X9_120 dv_X9_laysTurns (xco_spec q6) rfl (Nat.le_of_ble_eq_true rfl) (Nat.le_of_ble_eq_true rfl) (Nat.le_of_ble_eq_true rfl) ⟨Nat.le_refl _, Nat.le_refl _⟩ hN ?_
      refine xw_aload_n (pc := 23) (i := 0) (x := x0) C dX9_markAt_23 rfl rfl ?_
      refine xw_iload_n (pc := 24) (i := 1) (x := x1) C dX9_markAt_24 rfl rfl ?_
      refine xw_iload_n (pc := 25) (i := 2) (x := x2) C dX9_markAt_25 rfl rfl ?_
      obtain ⟨_, q9, hm⟩ := xbind hm
      obtain ⟨v10, q11, hm⟩ := xbind hm
      refine xw_callV1 (pc := 26) (As := [.int x1, .int x2]) (st := []) C dX9_markAt_26 (wX9_seenAt q11) dd_X9_seenAt lk_X9_123 dv_X9_seenAt (xco_spec q9) rfl (Nat.le_of_ble_eq_true rfl) (Nat.le_of_ble_eq_true rfl) (Nat.le_of_ble_eq_true rfl) ⟨Nat.le_refl _, Nat.le_refl _⟩ hN ?_
      obtain rfl := Option.some.inj hm
      exact xw_ireturn (pc := 29) C dX9_markAt_29 rfl hX
    · replace hm := xif_f q hm
      refine xw_sipush (pc := 15) (v := -1001) C dX9_markAt_15 xk_s_m1001 ?_
      obtain rfl := Option.some.inj hm
      exact xw_ireturn (pc := 18) C dX9_markAt_18 rfl hX
set_option maxHeartbeats 4000000 in
set_option maxRecDepth 100000 in
theorem wX9_mixes {l : Launch} {n sl : Nat} {h : XH} {x0 : Nat} {x1 : Int32} {o : XH} (hm : fX9_mixes h x0 x1 = some o) : XM l yX9_mixes cX9_mixes 2 none 0 0 [.ref x0, .int x1] h n sl none o n sl := by
  refine xm_of pnX9 [some (.ref x0), some (.int x1)] 0 rfl (Nat.le_of_ble_eq_true rfl) ?_
  intro X hT C
  replace C : XOK X RX9 cX9_mixes 2 "mixes" none 0 0 := C
  obtain ⟨-, hN, hX⟩ := hT
  unfold fX9_mixes at hm
  refine xw_aload_n (pc := 0) (i := 0) (x := x0) C dX9_mixes_0 rfl rfl ?_
  refine xw_ldc2 (pc := 1) (v := 31) C dX9_mixes_1 cn_X9_190 ?_
  refine xw_aload_n (pc := 4) (i := 0) (x := x0) C dX9_mixes_4 rfl rfl ?_
  obtain ⟨v1, q2, hm⟩ := xbind hm
  refine xw_getJ (pc := 5) C dX9_mixes_5 fl_X9_192 q2 ?_
  refine xw_lmul (pc := 8) C dX9_mixes_8 ?_
  refine xw_iload_n (pc := 9) (i := 1) (x := x1) C dX9_mixes_9 rfl rfl ?_
  refine xw_i2l (pc := 10) C dX9_mixes_10 ?_
  refine xw_ladd (pc := 11) C dX9_mixes_11 ?_
  obtain ⟨h3, q4, hm⟩ := xbind hm
  refine xw_put (pc := 12) C dX9_mixes_12 fl_X9_192 q4 (fun _ => rfl) (fun _ => rfl) ?_
  obtain rfl := Option.some.inj hm
  exact xw_return (pc := 15) C dX9_mixes_15 rfl hX
def fX9_nearest_P33 (X : XCtx) (h : XH) (x0 : Nat) (x1 : Int32) (n sl : Nat) (s : (Int32 × Int32 × Int32)) : Prop := XW X 33 [some (.ref x0), some (.int x1), some (.int s.1), some (.int s.2.1), some (.int s.2.2), none, none] [] h n sl
def fX9_nearest_E33 (X : XCtx) (h : XH) (x0 : Nat) (x1 : Int32) (n sl : Nat) (e : Int32) : Prop := XW X 108 [none, none, some (.int e), none, none, none, none] [] h n sl
set_option maxHeartbeats 4000000 in
set_option maxRecDepth 100000 in
theorem fX9_nearest_J89_w {X : XCtx} (C : XOK X RX9 cX9_nearest 7 "nearest" (some .int) 3 68) {n sl : Nat} (hN : XN X n sl)  {h : XH} {x0 : Nat} {x1 : Int32} {x3 : Int32} {x4 : Int32} {x5 : Int32} {x6 : Bool} {s0 : Int32} {o : (Int32 × Int32 × Int32) ⊕ Int32} (hm : fX9_nearest_J89 h x0 x1 x3 x4 x5 x6 s0 = some o) (hc : ∀ s', o = .inl s' → fX9_nearest_P33 X h x0 x1 n sl s') (he : ∀ e', o = .inr e' → fX9_nearest_E33 X h x0 x1 n sl e') : XW X 89 [some (.ref x0), some (.int x1), none, some (.int x3), some (.int x4), some (.int x5), some (.int (xbi x6))] [.int s0] h n sl := by
  unfold fX9_nearest_J89 at hm
  refine xw_istore_n (pc := 89) (i := 2) (x := s0) (L' := [some (.ref x0), some (.int x1), some (.int s0), some (.int x3), some (.int x4), some (.int x5), some (.int (xbi x6))]) C dX9_nearest_89 rfl (Nat.le_of_ble_eq_true rfl) rfl ?_
  refine xw_iload (pc := 90) (i := 6) (x := (xbi x6)) C dX9_nearest_90 rfl ?_
  refine xw_if_eqZ (pc := 92) (b := x6) (tgt := 100) C dX9_nearest_92 (by decide) (fun q => ?_) (fun q => ?_)
  · replace hm := xif_f q hm
    refine xw_iload_n (pc := 100) (i := 3) (x := x3) C dX9_nearest_100 rfl rfl ?_
    refine xw_istore_n (pc := 101) (i := 3) (x := x3) (L' := [some (.ref x0), some (.int x1), some (.int s0), some (.int x3), some (.int x4), some (.int x5), some (.int (xbi x6))]) C dX9_nearest_101 rfl (Nat.le_of_ble_eq_true rfl) rfl ?_
    refine xw_iinc (pc := 102) (i := 4) (x := x4) (v := (x4 + (1 : Int32))) (L' := [some (.ref x0), some (.int x1), some (.int s0), some (.int x3), some (.int (x4 + (1 : Int32))), some (.int x5), some (.int (xbi x6))]) C dX9_nearest_102 rfl (congrArg (HAdd.hAdd _) xk_i_1) (Nat.le_of_ble_eq_true rfl) rfl ?_
    refine xw_goto (pc := 105) (tgt := 33) C dX9_nearest_105 (by decide) ?_
    obtain rfl := Option.some.inj hm
    refine xw_sub (pc := 33) _ ?_ (hc _ rfl)
    exact ⟨Or.inr rfl, Or.inr rfl, Or.inr rfl, Or.inr rfl, Or.inr rfl, Or.inl rfl, Or.inl rfl, trivial⟩
  · replace hm := xif_t q hm
    refine xw_iload (pc := 95) (i := 5) (x := x5) C dX9_nearest_95 rfl ?_
    refine xw_goto (pc := 97) (tgt := 101) C dX9_nearest_97 (by decide) ?_
    refine xw_istore_n (pc := 101) (i := 3) (x := x5) (L' := [some (.ref x0), some (.int x1), some (.int s0), some (.int x5), some (.int x4), some (.int x5), some (.int (xbi x6))]) C dX9_nearest_101 rfl (Nat.le_of_ble_eq_true rfl) rfl ?_
    refine xw_iinc (pc := 102) (i := 4) (x := x4) (v := (x4 + (1 : Int32))) (L' := [some (.ref x0), some (.int x1), some (.int s0), some (.int x5), some (.int (x4 + (1 : Int32))), some (.int x5), some (.int (xbi x6))]) C dX9_nearest_102 rfl (congrArg (HAdd.hAdd _) xk_i_1) (Nat.le_of_ble_eq_true rfl) rfl ?_
    refine xw_goto (pc := 105) (tgt := 33) C dX9_nearest_105 (by decide) ?_
    obtain rfl := Option.some.inj hm
    refine xw_sub (pc := 33) _ ?_ (hc _ rfl)
    exact ⟨Or.inr rfl, Or.inr rfl, Or.inr rfl, Or.inr rfl, Or.inr rfl, Or.inl rfl, Or.inl rfl, trivial⟩
set_option maxHeartbeats 4000000 in
set_option maxRecDepth 100000 in
theorem fX9_nearest_J71_w {X : XCtx} (C : XOK X RX9 cX9_nearest 7 "nearest" (some .int) 3 68) {n sl : Nat} (hN : XN X n sl)  {h : XH} {x0 : Nat} {x1 : Int32} {x2 : Int32} {x3 : Int32} {x4 : Int32} {x5 : Int32} {s0 : Bool} {o : (Int32 × Int32 × Int32) ⊕ Int32} (hm : fX9_nearest_J71 h x0 x1 x2 x3 x4 x5 s0 = some o) (hc : ∀ s', o = .inl s' → fX9_nearest_P33 X h x0 x1 n sl s') (he : ∀ e', o = .inr e' → fX9_nearest_E33 X h x0 x1 n sl e') : XW X 71 [some (.ref x0), some (.int x1), some (.int x2), some (.int x3), some (.int x4), some (.int x5), none] [.int (xbi s0)] h n sl := by
  unfold fX9_nearest_J71 at hm
  refine xw_istore (pc := 71) (i := 6) (x := (xbi s0)) (L' := [some (.ref x0), some (.int x1), some (.int x2), some (.int x3), some (.int x4), some (.int x5), some (.int (xbi s0))]) C dX9_nearest_71 (Nat.le_of_ble_eq_true rfl) rfl ?_
  refine xw_iload (pc := 73) (i := 6) (x := (xbi s0)) C dX9_nearest_73 rfl ?_
  refine xw_if_eqZ (pc := 75) (b := s0) (tgt := 88) C dX9_nearest_75 (by decide) (fun q => ?_) (fun q => ?_)
  · replace hm := xif_f q hm
    refine xw_iload_n (pc := 88) (i := 2) (x := x2) C dX9_nearest_88 rfl rfl ?_
    exact xw_sub (pc := 89) [some (.ref x0), some (.int x1), none, some (.int x3), some (.int x4), some (.int x5), some (.int (xbi s0))] ⟨Or.inr rfl, Or.inr rfl, Or.inl rfl, Or.inr rfl, Or.inr rfl, Or.inr rfl, Or.inr rfl, trivial⟩ (fX9_nearest_J89_w C hN hm hc he)
  · replace hm := xif_t q hm
    refine xw_aload_n (pc := 78) (i := 0) (x := x0) C dX9_nearest_78 rfl rfl ?_
    obtain ⟨v14, q15, hm⟩ := xbind hm
    refine xw_getR (pc := 79) C dX9_nearest_79 fl_X9_23 q15 ?_
    refine xw_iload (pc := 82) (i := 4) (x := x4) C dX9_nearest_82 rfl ?_
    obtain ⟨v16, q17, hm⟩ := xbind hm
    refine xw_iaload (pc := 84) C dX9_nearest_84 q17 ?_
    refine xw_goto (pc := 85) (tgt := 89) C dX9_nearest_85 (by decide) ?_
    exact xw_sub (pc := 89) [some (.ref x0), some (.int x1), none, some (.int x3), some (.int x4), some (.int x5), some (.int (xbi s0))] ⟨Or.inr rfl, Or.inr rfl, Or.inl rfl, Or.inr rfl, Or.inr rfl, Or.inr rfl, Or.inr rfl, trivial⟩ (fX9_nearest_J89_w C hN hm hc he)
set_option maxHeartbeats 4000000 in
set_option maxRecDepth 100000 in
theorem fX9_nearest_J66_w {X : XCtx} (C : XOK X RX9 cX9_nearest 7 "nearest" (some .int) 3 68) {n sl : Nat} (hN : XN X n sl)  {h : XH} {x0 : Nat} {x1 : Int32} {x2 : Int32} {x3 : Int32} {x4 : Int32} {x5 : Int32} {o : (Int32 × Int32 × Int32) ⊕ Int32} (hm : fX9_nearest_J66 h x0 x1 x2 x3 x4 x5 = some o) (hc : ∀ s', o = .inl s' → fX9_nearest_P33 X h x0 x1 n sl s') (he : ∀ e', o = .inr e' → fX9_nearest_E33 X h x0 x1 n sl e') : XW X 66 [some (.ref x0), some (.int x1), some (.int x2), some (.int x3), some (.int x4), some (.int x5), none] [] h n sl := by
  unfold fX9_nearest_J66 at hm
  refine xw_iconst (pc := 66) (v := 1) C dX9_nearest_66 xk_i_1 ?_
  refine xw_goto (pc := 67) (tgt := 71) C dX9_nearest_67 (by decide) ?_
  exact xw_sub (pc := 71) [some (.ref x0), some (.int x1), some (.int x2), some (.int x3), some (.int x4), some (.int x5), none] ⟨Or.inr rfl, Or.inr rfl, Or.inr rfl, Or.inr rfl, Or.inr rfl, Or.inr rfl, Or.inl rfl, trivial⟩ (fX9_nearest_J71_w C hN hm hc he)
set_option maxHeartbeats 4000000 in
set_option maxRecDepth 100000 in
theorem fX9_nearest_B33_w {X : XCtx} (C : XOK X RX9 cX9_nearest 7 "nearest" (some .int) 3 68) {n sl : Nat} (hN : XN X n sl) {h : XH} {x0 : Nat} {x1 : Int32} (s : (Int32 × Int32 × Int32)) (o : (Int32 × Int32 × Int32) ⊕ Int32) (hm : fX9_nearest_B33 h x0 x1 s = some o) (hc : ∀ s', o = .inl s' → fX9_nearest_P33 X h x0 x1 n sl s') (he : ∀ e', o = .inr e' → fX9_nearest_E33 X h x0 x1 n sl e') : fX9_nearest_P33 X h x0 x1 n sl s := by
  obtain ⟨x2, x3, x4⟩ := s
  show XW X 33 [some (.ref x0), some (.int x1), some (.int x2), some (.int x3), some (.int x4), none, none] [] h n sl
  replace hm : fX9_nearest_b33 h x0 x1 x2 x3 x4 = some o := hm
  unfold fX9_nearest_b33 at hm
  refine xw_iload (pc := 33) (i := 4) (x := x4) C dX9_nearest_33 rfl ?_
  refine xw_aload_n (pc := 35) (i := 0) (x := x0) C dX9_nearest_35 rfl rfl ?_
  obtain ⟨v6, q7, hm⟩ := xbind hm
  refine xw_getI (pc := 36) C dX9_nearest_36 fl_X9_153 q7 ?_
  refine xw_icmp_ge (pc := 39) (tgt := 108) C dX9_nearest_39 (by decide) (fun q => ?_) (fun q => ?_)
  · replace hm := xif_t q hm
    obtain rfl := Option.some.inj hm
    refine xw_sub (pc := 108) _ ?_ (he _ rfl)
    exact ⟨Or.inl rfl, Or.inl rfl, Or.inr rfl, Or.inl rfl, Or.inl rfl, Or.inl rfl, Or.inl rfl, trivial⟩
  · replace hm := xif_f q hm
    refine xw_aload_n (pc := 42) (i := 0) (x := x0) C dX9_nearest_42 rfl rfl ?_
    obtain ⟨v8, q9, hm⟩ := xbind hm
    refine xw_getR (pc := 43) C dX9_nearest_43 fl_X9_23 q9 ?_
    refine xw_iload (pc := 46) (i := 4) (x := x4) C dX9_nearest_46 rfl ?_
    obtain ⟨v10, q11, hm⟩ := xbind hm
    refine xw_iaload (pc := 48) C dX9_nearest_48 q11 ?_
    refine xw_iload_n (pc := 49) (i := 1) (x := x1) C dX9_nearest_49 rfl rfl ?_
    obtain ⟨v12, q13, hm⟩ := xbind hm
    refine xw_callS1 (pc := 50) (As := [.int v10, .int x1]) (st := []) C dX9_nearest_50 (wX9_apart q13) dd_X9_apart lk_X9_160 ds_X9_apart rfl (Nat.le_of_ble_eq_true rfl) (Nat.le_of_ble_eq_true rfl) (Nat.le_of_ble_eq_true rfl) ⟨Nat.le_refl _, Nat.le_refl _⟩ hN ?_
    refine xw_istore (pc := 53) (i := 5) (x := v12) (L' := [some (.ref x0), some (.int x1), some (.int x2), some (.int x3), some (.int x4), some (.int v12), none]) C dX9_nearest_53 (Nat.le_of_ble_eq_true rfl) rfl ?_
    refine xw_iload (pc := 55) (i := 4) (x := x4) C dX9_nearest_55 rfl ?_
    refine xw_if_eq (pc := 57) (tgt := 66) C dX9_nearest_57 (by decide) (fun q => ?_) (fun q => ?_)
    · replace hm := xif_t q hm
      exact xw_sub (pc := 66) [some (.ref x0), some (.int x1), some (.int x2), some (.int x3), some (.int x4), some (.int v12), none] ⟨Or.inr rfl, Or.inr rfl, Or.inr rfl, Or.inr rfl, Or.inr rfl, Or.inr rfl, Or.inl rfl, trivial⟩ (fX9_nearest_J66_w C hN hm hc he)
    · replace hm := xif_f q hm
      refine xw_iload (pc := 60) (i := 5) (x := v12) C dX9_nearest_60 rfl ?_
      refine xw_iload_n (pc := 62) (i := 3) (x := x3) C dX9_nearest_62 rfl rfl ?_
      refine xw_icmp_ge (pc := 63) (tgt := 70) C dX9_nearest_63 (by decide) (fun q => ?_) (fun q => ?_)
      · replace hm := xif_t q hm
        refine xw_iconst (pc := 70) (v := 0) C dX9_nearest_70 xk_i_0 ?_
        exact xw_sub (pc := 71) [some (.ref x0), some (.int x1), some (.int x2), some (.int x3), some (.int x4), some (.int v12), none] ⟨Or.inr rfl, Or.inr rfl, Or.inr rfl, Or.inr rfl, Or.inr rfl, Or.inr rfl, Or.inl rfl, trivial⟩ (fX9_nearest_J71_w C hN hm hc he)
      · replace hm := xif_f q hm
        exact xw_sub (pc := 66) [some (.ref x0), some (.int x1), some (.int x2), some (.int x3), some (.int x4), some (.int v12), none] ⟨Or.inr rfl, Or.inr rfl, Or.inr rfl, Or.inr rfl, Or.inr rfl, Or.inr rfl, Or.inl rfl, trivial⟩ (fX9_nearest_J66_w C hN hm hc he)
set_option maxHeartbeats 4000000 in
set_option maxRecDepth 100000 in
theorem wX9_nearest {l : Launch} {n sl : Nat} {h : XH} {x0 : Nat} {x1 : Int32} {o : Int32 × XH} (hm : fX9_nearest h x0 x1 = some o) : XM l yX9_nearest cX9_nearest 7 (some .int) 3 68 [.ref x0, .int x1] h n sl (some (.int o.1)) o.2 n sl := by
  refine xm_of pnX9 [some (.ref x0), some (.int x1), none, none, none, none, none] 5 rfl (Nat.le_of_ble_eq_true rfl) ?_
  intro X hT C
  replace C : XOK X RX9 cX9_nearest 7 "nearest" (some .int) 3 68 := C
  obtain ⟨-, hN, hX⟩ := hT
  unfold fX9_nearest at hm
  refine xw_iload_n (pc := 0) (i := 1) (x := x1) C dX9_nearest_0 rfl rfl ?_
  refine xw_sipush (pc := 1) (v := -1000) C dX9_nearest_1 xk_s_m1000 ?_
  refine xw_sipush (pc := 4) (v := 1000) C dX9_nearest_4 xk_s_1000 ?_
  obtain ⟨v1, q2, hm⟩ := xbind hm
  refine xw_callS1 (pc := 7) (As := [.int x1, .int (-1000 : Int32), .int (1000 : Int32)]) (st := []) C dX9_nearest_7 (wX9_in q2) dd_X9_in lk_X9_55 ds_X9_in rfl (Nat.le_of_ble_eq_true rfl) (Nat.le_of_ble_eq_true rfl) (Nat.le_of_ble_eq_true rfl) ⟨Nat.le_refl _, Nat.le_refl _⟩ hN ?_
  refine xw_if_neZ (pc := 10) (b := v1) (tgt := 17) C dX9_nearest_10 (by decide) (fun q => ?_) (fun q => ?_)
  · replace hm := xif_t q hm
    refine xw_aload_n (pc := 17) (i := 0) (x := x0) C dX9_nearest_17 rfl rfl ?_
    refine xw_sipush (pc := 18) (v := -1004) C dX9_nearest_18 xk_s_m1004 ?_
    obtain ⟨_, q3, hm⟩ := xbind hm
    obtain ⟨h4, q5, hm⟩ := xbind hm
    refine xw_callV0 (pc := 21) (As := [.int (-1004 : Int32)]) (st := []) C dX9_nearest_21 (wX9_finds q5) dd_X9_finds lk_X9_156 dv_X9_finds (xco_spec q3) rfl (Nat.le_of_ble_eq_true rfl) (Nat.le_of_ble_eq_true rfl) (Nat.le_of_ble_eq_true rfl) ⟨Nat.le_refl _, Nat.le_refl _⟩ hN ?_
    refine xw_sipush (pc := 24) (v := -1004) C dX9_nearest_24 xk_s_m1004 ?_
    refine xw_istore_n (pc := 27) (i := 2) (x := (-1004 : Int32)) (L' := [some (.ref x0), some (.int x1), some (.int (-1004 : Int32)), none, none, none, none]) C dX9_nearest_27 rfl (Nat.le_of_ble_eq_true rfl) rfl ?_
    refine xw_iconst (pc := 28) (v := 0) C dX9_nearest_28 xk_i_0 ?_
    refine xw_istore_n (pc := 29) (i := 3) (x := (0 : Int32)) (L' := [some (.ref x0), some (.int x1), some (.int (-1004 : Int32)), some (.int (0 : Int32)), none, none, none]) C dX9_nearest_29 rfl (Nat.le_of_ble_eq_true rfl) rfl ?_
    refine xw_iconst (pc := 30) (v := 0) C dX9_nearest_30 xk_i_0 ?_
    refine xw_istore (pc := 31) (i := 4) (x := (0 : Int32)) (L' := [some (.ref x0), some (.int x1), some (.int (-1004 : Int32)), some (.int (0 : Int32)), some (.int (0 : Int32)), none, none]) C dX9_nearest_31 (Nat.le_of_ble_eq_true rfl) rfl ?_
    obtain ⟨e18, q19, hm⟩ := xbind hm
    refine xw_sub (pc := 33) [some (.ref x0), some (.int x1), some (.int (-1004 : Int32)), some (.int (0 : Int32)), some (.int (0 : Int32)), none, none] ⟨Or.inr rfl, Or.inr rfl, Or.inr rfl, Or.inr rfl, Or.inr rfl, Or.inl rfl, Or.inl rfl, trivial⟩ ?_
    refine xloop_walk (fX9_nearest_B33 h4 x0 x1) (fX9_nearest_P33 X h4 x0 x1 n sl) (fX9_nearest_E33 X h4 x0 x1 n sl) (fun s' o' => fX9_nearest_B33_w C hN s' o') 5000 ((-1004 : Int32), (0 : Int32), (0 : Int32)) e18 q19 ?_
    show XW X 108 [none, none, some (.int e18), none, none, none, none] [] h4 n sl
    refine xw_iload_n (pc := 108) (i := 2) (x := e18) C dX9_nearest_108 rfl rfl ?_
    obtain rfl := Option.some.inj hm
    exact xw_ireturn (pc := 109) C dX9_nearest_109 rfl hX
  · replace hm := xif_f q hm
    refine xw_sipush (pc := 13) (v := -1001) C dX9_nearest_13 xk_s_m1001 ?_
    obtain rfl := Option.some.inj hm
    exact xw_ireturn (pc := 16) C dX9_nearest_16 rfl hX
set_option maxHeartbeats 4000000 in
set_option maxRecDepth 100000 in
theorem wX9_isReading {l : Launch} {n sl : Nat} {h : XH} {x0 : Nat} {x1 : Int32} {o : Bool} (hm : fX9_isReading h x0 x1 = some o) : XM l yX9_isReading cX9_isReading 2 (some .boolean) 1 22 [.ref x0, .int x1] h n sl (some (.int (xbi o))) h n sl := by
  refine xm_of pnX9 [some (.ref x0), some (.int x1)] 0 rfl (Nat.le_of_ble_eq_true rfl) ?_
  intro X hT C
  replace C : XOK X RX9 cX9_isReading 2 "isReading" (some .boolean) 1 22 := C
  obtain ⟨-, hN, hX⟩ := hT
  unfold fX9_isReading at hm
  refine xw_iload_n (pc := 0) (i := 1) (x := x1) C dX9_isReading_0 rfl rfl ?_
  refine xw_iconst (pc := 1) (v := 0) C dX9_isReading_1 xk_i_0 ?_
  refine xw_aload_n (pc := 2) (i := 0) (x := x0) C dX9_isReading_2 rfl rfl ?_
  obtain ⟨v1, q2, hm⟩ := xbind hm
  refine xw_getR (pc := 3) C dX9_isReading_3 fl_X9_7 q2 ?_
  refine xw_bipush (pc := 6) (v := 76) C dX9_isReading_6 xk_b_76 ?_
  obtain ⟨v3, q4, hm⟩ := xbind hm
  refine xw_iaload (pc := 8) C dX9_isReading_8 q4 ?_
  refine xw_iconst (pc := 9) (v := 1) C dX9_isReading_9 xk_i_1 ?_
  refine xw_isub (pc := 10) C dX9_isReading_10 ?_
  obtain ⟨v5, q6, hm⟩ := xbind hm
  refine xw_callS1 (pc := 11) (As := [.int x1, .int (0 : Int32), .int (v3 - (1 : Int32))]) (st := []) C dX9_isReading_11 (wX9_in q6) dd_X9_in lk_X9_55 ds_X9_in rfl (Nat.le_of_ble_eq_true rfl) (Nat.le_of_ble_eq_true rfl) (Nat.le_of_ble_eq_true rfl) ⟨Nat.le_refl _, Nat.le_refl _⟩ hN ?_
  obtain rfl := Option.some.inj hm
  exact xw_zreturn (pc := 14) (v := xbi v5) C dX9_isReading_14 rfl (xbi_nar _) hX
set_option maxHeartbeats 4000000 in
set_option maxRecDepth 100000 in
theorem wX9_reading {l : Launch} {n sl : Nat} {h : XH} {x0 : Nat} {x1 : Int32} {x2 : Int32} {o : Int32 × XH} (hm : fX9_reading h x0 x1 x2 = some o) : XM l yX9_reading cX9_reading 3 (some .int) 3 68 [.ref x0, .int x1, .int x2] h n sl (some (.int o.1)) o.2 n sl := by
  refine xm_of pnX9 [some (.ref x0), some (.int x1), some (.int x2)] 0 rfl (Nat.le_of_ble_eq_true rfl) ?_
  intro X hT C
  replace C : XOK X RX9 cX9_reading 3 "reading" (some .int) 3 68 := C
  obtain ⟨-, hN, hX⟩ := hT
  unfold fX9_reading at hm
  refine xw_aload_n (pc := 0) (i := 0) (x := x0) C dX9_reading_0 rfl rfl ?_
  refine xw_iload_n (pc := 1) (i := 1) (x := x1) C dX9_reading_1 rfl rfl ?_
  obtain ⟨_, q1, hm⟩ := xbind hm
  obtain ⟨v2, q3, hm⟩ := xbind hm
  refine xw_callV1 (pc := 2) (As := [.int x1]) (st := []) C dX9_reading_2 (wX9_isReading q3) dd_X9_isReading lk_X9_150 dv_X9_isReading (xco_spec q1) rfl (Nat.le_of_ble_eq_true rfl) (Nat.le_of_ble_eq_true rfl) (Nat.le_of_ble_eq_true rfl) ⟨Nat.le_refl _, Nat.le_refl _⟩ hN ?_
  refine xw_if_eqZ (pc := 5) (b := v2) (tgt := 17) C dX9_reading_5 (by decide) (fun q => ?_) (fun q => ?_)
  · replace hm := xif_f q hm
    refine xw_sipush (pc := 17) (v := -1001) C dX9_reading_17 xk_s_m1001 ?_
    obtain rfl := Option.some.inj hm
    exact xw_ireturn (pc := 20) C dX9_reading_20 rfl hX
  · replace hm := xif_t q hm
    refine xw_iload_n (pc := 8) (i := 2) (x := x2) C dX9_reading_8 rfl rfl ?_
    refine xw_iconst (pc := 9) (v := 0) C dX9_reading_9 xk_i_0 ?_
    refine xw_iconst (pc := 10) (v := 2) C dX9_reading_10 xk_i_2 ?_
    obtain ⟨v4, q5, hm⟩ := xbind hm
    refine xw_callS1 (pc := 11) (As := [.int x2, .int (0 : Int32), .int (2 : Int32)]) (st := []) C dX9_reading_11 (wX9_in q5) dd_X9_in lk_X9_55 ds_X9_in rfl (Nat.le_of_ble_eq_true rfl) (Nat.le_of_ble_eq_true rfl) (Nat.le_of_ble_eq_true rfl) ⟨Nat.le_refl _, Nat.le_refl _⟩ hN ?_
    refine xw_if_neZ (pc := 14) (b := v4) (tgt := 21) C dX9_reading_14 (by decide) (fun q => ?_) (fun q => ?_)
    · replace hm := xif_t q hm
      refine xw_iload_n (pc := 21) (i := 2) (x := x2) C dX9_reading_21 rfl rfl ?_
      refine xw_iconst (pc := 22) (v := 2) C dX9_reading_22 xk_i_2 ?_
      refine xw_icmp_ge (pc := 23) (tgt := 40) C dX9_reading_23 (by decide) (fun q => ?_) (fun q => ?_)
      · replace hm := xif_t q hm
        refine xw_aload_n (pc := 40) (i := 0) (x := x0) C dX9_reading_40 rfl rfl ?_
        refine xw_iload_n (pc := 41) (i := 1) (x := x1) C dX9_reading_41 rfl rfl ?_
        obtain ⟨_, q6, hm⟩ := xbind hm
        obtain ⟨h7, q8, hm⟩ := xbind hm
        refine xw_callV0 (pc := 42) (As := [.int x1]) (st := []) C dX9_reading_42 (wX9_finds q8) dd_X9_finds lk_X9_156 dv_X9_finds (xco_spec q6) rfl (Nat.le_of_ble_eq_true rfl) (Nat.le_of_ble_eq_true rfl) (Nat.le_of_ble_eq_true rfl) ⟨Nat.le_refl _, Nat.le_refl _⟩ hN ?_
        refine xw_aload_n (pc := 45) (i := 0) (x := x0) C dX9_reading_45 rfl rfl ?_
        obtain ⟨v9, q10, hm⟩ := xbind hm
        refine xw_getI (pc := 46) C dX9_reading_46 fl_X9_153 q10 ?_
        obtain rfl := Option.some.inj hm
        exact xw_ireturn (pc := 49) C dX9_reading_49 rfl hX
      · replace hm := xif_f q hm
        refine xw_aload_n (pc := 26) (i := 0) (x := x0) C dX9_reading_26 rfl rfl ?_
        obtain ⟨v11, q12, hm⟩ := xbind hm
        refine xw_getR (pc := 27) C dX9_reading_27 fl_X9_7 q12 ?_
        refine xw_bipush (pc := 30) (v := 77) C dX9_reading_30 xk_b_77 ?_
        refine xw_iconst (pc := 32) (v := 2) C dX9_reading_32 xk_i_2 ?_
        refine xw_iload_n (pc := 33) (i := 1) (x := x1) C dX9_reading_33 rfl rfl ?_
        refine xw_imul (pc := 34) C dX9_reading_34 ?_
        refine xw_iadd (pc := 35) C dX9_reading_35 ?_
        refine xw_iload_n (pc := 36) (i := 2) (x := x2) C dX9_reading_36 rfl rfl ?_
        refine xw_iadd (pc := 37) C dX9_reading_37 ?_
        obtain ⟨v13, q14, hm⟩ := xbind hm
        refine xw_iaload (pc := 38) C dX9_reading_38 q14 ?_
        obtain rfl := Option.some.inj hm
        exact xw_ireturn (pc := 39) C dX9_reading_39 rfl hX
    · replace hm := xif_f q hm
      refine xw_sipush (pc := 17) (v := -1001) C dX9_reading_17 xk_s_m1001 ?_
      obtain rfl := Option.some.inj hm
      exact xw_ireturn (pc := 20) C dX9_reading_20 rfl hX
def fX9_mixesReadings_P2 (X : XCtx) (x0 : Nat) (n sl : Nat) (s : (XH × Int32)) : Prop := XW X 2 [some (.ref x0), some (.int s.2), none] [] s.1 n sl
def fX9_mixesReadings_E2 (X : XCtx) (x0 : Nat) (n sl : Nat) (e : XH) : Prop := XW X 42 [some (.ref x0), none, none] [] e n sl
def fX9_mixesReadings_P15 (X : XCtx) (x0 : Nat) (x1 : Int32) (n sl : Nat) (s : (XH × Int32)) : Prop := XW X 15 [some (.ref x0), some (.int x1), some (.int s.2)] [] s.1 n sl
def fX9_mixesReadings_E15 (X : XCtx) (x0 : Nat) (x1 : Int32) (n sl : Nat) (e : XH) : Prop := XW X 36 [some (.ref x0), some (.int x1), none] [] e n sl
set_option maxHeartbeats 4000000 in
set_option maxRecDepth 100000 in
theorem fX9_mixesReadings_B15_w {X : XCtx} (C : XOK X RX9 cX9_mixesReadings 3 "mixesReadings" none 4 96) {n sl : Nat} (hN : XN X n sl) {x0 : Nat} {x1 : Int32} (s : (XH × Int32)) (o : (XH × Int32) ⊕ XH) (hm : fX9_mixesReadings_B15 x0 x1 s = some o) (hc : ∀ s', o = .inl s' → fX9_mixesReadings_P15 X x0 x1 n sl s') (he : ∀ e', o = .inr e' → fX9_mixesReadings_E15 X x0 x1 n sl e') : fX9_mixesReadings_P15 X x0 x1 n sl s := by
  obtain ⟨h, x2⟩ := s
  show XW X 15 [some (.ref x0), some (.int x1), some (.int x2)] [] h n sl
  replace hm : fX9_mixesReadings_b15 x0 x1 h x2 = some o := hm
  unfold fX9_mixesReadings_b15 at hm
  refine xw_iload_n (pc := 15) (i := 2) (x := x2) C dX9_mixesReadings_15 rfl rfl ?_
  refine xw_iconst (pc := 16) (v := 3) C dX9_mixesReadings_16 xk_i_3 ?_
  refine xw_icmp_ge (pc := 17) (tgt := 36) C dX9_mixesReadings_17 (by decide) (fun q => ?_) (fun q => ?_)
  · replace hm := xif_t q hm
    obtain rfl := Option.some.inj hm
    refine xw_sub (pc := 36) _ ?_ (he _ rfl)
    exact ⟨Or.inr rfl, Or.inr rfl, Or.inl rfl, trivial⟩
  · replace hm := xif_f q hm
    refine xw_aload_n (pc := 20) (i := 0) (x := x0) C dX9_mixesReadings_20 rfl rfl ?_
    refine xw_aload_n (pc := 21) (i := 0) (x := x0) C dX9_mixesReadings_21 rfl rfl ?_
    refine xw_iload_n (pc := 22) (i := 1) (x := x1) C dX9_mixesReadings_22 rfl rfl ?_
    refine xw_iload_n (pc := 23) (i := 2) (x := x2) C dX9_mixesReadings_23 rfl rfl ?_
    obtain ⟨_, q5, hm⟩ := xbind hm
    obtain ⟨v6, q7, hm⟩ := xbind hm
    refine xw_callV1 (pc := 24) (As := [.int x1, .int x2]) (st := [.ref x0]) C dX9_mixesReadings_24 (wX9_reading q7) dd_X9_reading lk_X9_196 dv_X9_reading (xco_spec q5) rfl (Nat.le_of_ble_eq_true rfl) (Nat.le_of_ble_eq_true rfl) (Nat.le_of_ble_eq_true rfl) ⟨Nat.le_refl _, Nat.le_refl _⟩ hN ?_
    obtain ⟨_, q8, hm⟩ := xbind hm
    obtain ⟨h9, q10, hm⟩ := xbind hm
    refine xw_callV0 (pc := 27) (As := [.int v6.1]) (st := []) C dX9_mixesReadings_27 (wX9_mixes q10) dd_X9_mixes lk_X9_199 dv_X9_mixes (xco_spec q8) rfl (Nat.le_of_ble_eq_true rfl) (Nat.le_of_ble_eq_true rfl) (Nat.le_of_ble_eq_true rfl) ⟨Nat.le_refl _, Nat.le_refl _⟩ hN ?_
    refine xw_iinc (pc := 30) (i := 2) (x := x2) (v := (x2 + (1 : Int32))) (L' := [some (.ref x0), some (.int x1), some (.int (x2 + (1 : Int32)))]) C dX9_mixesReadings_30 rfl (congrArg (HAdd.hAdd _) xk_i_1) (Nat.le_of_ble_eq_true rfl) rfl ?_
    refine xw_goto (pc := 33) (tgt := 15) C dX9_mixesReadings_33 (by decide) ?_
    obtain rfl := Option.some.inj hm
    refine xw_sub (pc := 15) _ ?_ (hc _ rfl)
    exact ⟨Or.inr rfl, Or.inr rfl, Or.inr rfl, trivial⟩
set_option maxHeartbeats 4000000 in
set_option maxRecDepth 100000 in
theorem fX9_mixesReadings_B2_w {X : XCtx} (C : XOK X RX9 cX9_mixesReadings 3 "mixesReadings" none 4 96) {n sl : Nat} (hN : XN X n sl) {x0 : Nat} (s : (XH × Int32)) (o : (XH × Int32) ⊕ XH) (hm : fX9_mixesReadings_B2 x0 s = some o) (hc : ∀ s', o = .inl s' → fX9_mixesReadings_P2 X x0 n sl s') (he : ∀ e', o = .inr e' → fX9_mixesReadings_E2 X x0 n sl e') : fX9_mixesReadings_P2 X x0 n sl s := by
  obtain ⟨h, x1⟩ := s
  show XW X 2 [some (.ref x0), some (.int x1), none] [] h n sl
  replace hm : fX9_mixesReadings_b2 x0 h x1 = some o := hm
  unfold fX9_mixesReadings_b2 at hm
  refine xw_iload_n (pc := 2) (i := 1) (x := x1) C dX9_mixesReadings_2 rfl rfl ?_
  refine xw_aload_n (pc := 3) (i := 0) (x := x0) C dX9_mixesReadings_3 rfl rfl ?_
  obtain ⟨v1, q2, hm⟩ := xbind hm
  refine xw_getR (pc := 4) C dX9_mixesReadings_4 fl_X9_7 q2 ?_
  refine xw_bipush (pc := 7) (v := 76) C dX9_mixesReadings_7 xk_b_76 ?_
  obtain ⟨v3, q4, hm⟩ := xbind hm
  refine xw_iaload (pc := 9) C dX9_mixesReadings_9 q4 ?_
  refine xw_icmp_ge (pc := 10) (tgt := 42) C dX9_mixesReadings_10 (by decide) (fun q => ?_) (fun q => ?_)
  · replace hm := xif_t q hm
    obtain rfl := Option.some.inj hm
    refine xw_sub (pc := 42) _ ?_ (he _ rfl)
    exact ⟨Or.inr rfl, Or.inl rfl, Or.inl rfl, trivial⟩
  · replace hm := xif_f q hm
    refine xw_iconst (pc := 13) (v := 0) C dX9_mixesReadings_13 xk_i_0 ?_
    refine xw_istore_n (pc := 14) (i := 2) (x := (0 : Int32)) (L' := [some (.ref x0), some (.int x1), some (.int (0 : Int32))]) C dX9_mixesReadings_14 rfl (Nat.le_of_ble_eq_true rfl) rfl ?_
    obtain ⟨e11, q12, hm⟩ := xbind hm
    refine xw_sub (pc := 15) [some (.ref x0), some (.int x1), some (.int (0 : Int32))] ⟨Or.inr rfl, Or.inr rfl, Or.inr rfl, trivial⟩ ?_
    refine xloop_walk (fX9_mixesReadings_B15 x0 x1) (fX9_mixesReadings_P15 X x0 x1 n sl) (fX9_mixesReadings_E15 X x0 x1 n sl) (fun s' o' => fX9_mixesReadings_B15_w C hN s' o') 5000 (h, (0 : Int32)) e11 q12 ?_
    show XW X 36 [some (.ref x0), some (.int x1), none] [] e11 n sl
    refine xw_iinc (pc := 36) (i := 1) (x := x1) (v := (x1 + (1 : Int32))) (L' := [some (.ref x0), some (.int (x1 + (1 : Int32))), none]) C dX9_mixesReadings_36 rfl (congrArg (HAdd.hAdd _) xk_i_1) (Nat.le_of_ble_eq_true rfl) rfl ?_
    refine xw_goto (pc := 39) (tgt := 2) C dX9_mixesReadings_39 (by decide) ?_
    obtain rfl := Option.some.inj hm
    refine xw_sub (pc := 2) _ ?_ (hc _ rfl)
    exact ⟨Or.inr rfl, Or.inr rfl, Or.inl rfl, trivial⟩
def fX9_mixesReadings_P52 (X : XCtx) (x0 : Nat) (n sl : Nat) (s : (XH × Int32)) : Prop := XW X 52 [some (.ref x0), some (.int s.2), none] [] s.1 n sl
def fX9_mixesReadings_E52 (X : XCtx) (x0 : Nat) (n sl : Nat) (e : XH) : Prop := XW X 72 [some (.ref x0), none, none] [] e n sl
set_option maxHeartbeats 4000000 in
set_option maxRecDepth 100000 in
theorem fX9_mixesReadings_B52_w {X : XCtx} (C : XOK X RX9 cX9_mixesReadings 3 "mixesReadings" none 4 96) {n sl : Nat} (hN : XN X n sl) {x0 : Nat} (s : (XH × Int32)) (o : (XH × Int32) ⊕ XH) (hm : fX9_mixesReadings_B52 x0 s = some o) (hc : ∀ s', o = .inl s' → fX9_mixesReadings_P52 X x0 n sl s') (he : ∀ e', o = .inr e' → fX9_mixesReadings_E52 X x0 n sl e') : fX9_mixesReadings_P52 X x0 n sl s := by
  obtain ⟨h, x1⟩ := s
  show XW X 52 [some (.ref x0), some (.int x1), none] [] h n sl
  replace hm : fX9_mixesReadings_b52 x0 h x1 = some o := hm
  unfold fX9_mixesReadings_b52 at hm
  refine xw_iload_n (pc := 52) (i := 1) (x := x1) C dX9_mixesReadings_52 rfl rfl ?_
  refine xw_iconst (pc := 53) (v := 5) C dX9_mixesReadings_53 xk_i_5 ?_
  refine xw_icmp_ge (pc := 54) (tgt := 72) C dX9_mixesReadings_54 (by decide) (fun q => ?_) (fun q => ?_)
  · replace hm := xif_t q hm
    obtain rfl := Option.some.inj hm
    refine xw_sub (pc := 72) _ ?_ (he _ rfl)
    exact ⟨Or.inr rfl, Or.inl rfl, Or.inl rfl, trivial⟩
  · replace hm := xif_f q hm
    refine xw_aload_n (pc := 57) (i := 0) (x := x0) C dX9_mixesReadings_57 rfl rfl ?_
    refine xw_aload_n (pc := 58) (i := 0) (x := x0) C dX9_mixesReadings_58 rfl rfl ?_
    refine xw_iload_n (pc := 59) (i := 1) (x := x1) C dX9_mixesReadings_59 rfl rfl ?_
    obtain ⟨_, q21, hm⟩ := xbind hm
    obtain ⟨v22, q23, hm⟩ := xbind hm
    refine xw_callV1 (pc := 60) (As := [.int x1]) (st := [.ref x0]) C dX9_mixesReadings_60 (wX9_candidate q23) dd_X9_candidate lk_X9_205 dv_X9_candidate (xco_spec q21) rfl (Nat.le_of_ble_eq_true rfl) (Nat.le_of_ble_eq_true rfl) (Nat.le_of_ble_eq_true rfl) ⟨Nat.le_refl _, Nat.le_refl _⟩ hN ?_
    obtain ⟨_, q24, hm⟩ := xbind hm
    obtain ⟨h25, q26, hm⟩ := xbind hm
    refine xw_callV0 (pc := 63) (As := [.int v22.1]) (st := []) C dX9_mixesReadings_63 (wX9_mixes q26) dd_X9_mixes lk_X9_199 dv_X9_mixes (xco_spec q24) rfl (Nat.le_of_ble_eq_true rfl) (Nat.le_of_ble_eq_true rfl) (Nat.le_of_ble_eq_true rfl) ⟨Nat.le_refl _, Nat.le_refl _⟩ hN ?_
    refine xw_iinc (pc := 66) (i := 1) (x := x1) (v := (x1 + (1 : Int32))) (L' := [some (.ref x0), some (.int (x1 + (1 : Int32))), none]) C dX9_mixesReadings_66 rfl (congrArg (HAdd.hAdd _) xk_i_1) (Nat.le_of_ble_eq_true rfl) rfl ?_
    refine xw_goto (pc := 69) (tgt := 52) C dX9_mixesReadings_69 (by decide) ?_
    obtain rfl := Option.some.inj hm
    refine xw_sub (pc := 52) _ ?_ (hc _ rfl)
    exact ⟨Or.inr rfl, Or.inr rfl, Or.inl rfl, trivial⟩
set_option maxHeartbeats 4000000 in
set_option maxRecDepth 100000 in
theorem wX9_mixesReadings {l : Launch} {n sl : Nat} {h : XH} {x0 : Nat} {o : XH} (hm : fX9_mixesReadings h x0 = some o) : XM l yX9_mixesReadings cX9_mixesReadings 3 none 4 96 [.ref x0] h n sl none o n sl := by
  refine xm_of pnX9 [some (.ref x0), none, none] 2 rfl (Nat.le_of_ble_eq_true rfl) ?_
  intro X hT C
  replace C : XOK X RX9 cX9_mixesReadings 3 "mixesReadings" none 4 96 := C
  obtain ⟨-, hN, hX⟩ := hT
  unfold fX9_mixesReadings at hm
  refine xw_iconst (pc := 0) (v := 0) C dX9_mixesReadings_0 xk_i_0 ?_
  refine xw_istore_n (pc := 1) (i := 1) (x := (0 : Int32)) (L' := [some (.ref x0), some (.int (0 : Int32)), none]) C dX9_mixesReadings_1 rfl (Nat.le_of_ble_eq_true rfl) rfl ?_
  obtain ⟨e13, q14, hm⟩ := xbind hm
  refine xw_sub (pc := 2) [some (.ref x0), some (.int (0 : Int32)), none] ⟨Or.inr rfl, Or.inr rfl, Or.inl rfl, trivial⟩ ?_
  refine xloop_walk (fX9_mixesReadings_B2 x0) (fX9_mixesReadings_P2 X x0 n sl) (fX9_mixesReadings_E2 X x0 n sl) (fun s' o' => fX9_mixesReadings_B2_w C hN s' o') 5000 (h, (0 : Int32)) e13 q14 ?_
  show XW X 42 [some (.ref x0), none, none] [] e13 n sl
  refine xw_aload_n (pc := 42) (i := 0) (x := x0) C dX9_mixesReadings_42 rfl rfl ?_
  refine xw_aload_n (pc := 43) (i := 0) (x := x0) C dX9_mixesReadings_43 rfl rfl ?_
  obtain ⟨_, q15, hm⟩ := xbind hm
  obtain ⟨v16, q17, hm⟩ := xbind hm
  refine xw_callV1 (pc := 44) (As := []) (st := [.ref x0]) C dX9_mixesReadings_44 (wX9_candidates q17) dd_X9_candidates lk_X9_202 dv_X9_candidates (xco_spec q15) rfl (Nat.le_of_ble_eq_true rfl) (Nat.le_of_ble_eq_true rfl) (Nat.le_of_ble_eq_true rfl) ⟨Nat.le_refl _, Nat.le_refl _⟩ hN ?_
  obtain ⟨_, q18, hm⟩ := xbind hm
  obtain ⟨h19, q20, hm⟩ := xbind hm
  refine xw_callV0 (pc := 47) (As := [.int v16.1]) (st := []) C dX9_mixesReadings_47 (wX9_mixes q20) dd_X9_mixes lk_X9_199 dv_X9_mixes (xco_spec q18) rfl (Nat.le_of_ble_eq_true rfl) (Nat.le_of_ble_eq_true rfl) (Nat.le_of_ble_eq_true rfl) ⟨Nat.le_refl _, Nat.le_refl _⟩ hN ?_
  refine xw_iconst (pc := 50) (v := 0) C dX9_mixesReadings_50 xk_i_0 ?_
  refine xw_istore_n (pc := 51) (i := 1) (x := (0 : Int32)) (L' := [some (.ref x0), some (.int (0 : Int32)), none]) C dX9_mixesReadings_51 rfl (Nat.le_of_ble_eq_true rfl) rfl ?_
  obtain ⟨e27, q28, hm⟩ := xbind hm
  refine xw_sub (pc := 52) [some (.ref x0), some (.int (0 : Int32)), none] ⟨Or.inr rfl, Or.inr rfl, Or.inl rfl, trivial⟩ ?_
  refine xloop_walk (fX9_mixesReadings_B52 x0) (fX9_mixesReadings_P52 X x0 n sl) (fX9_mixesReadings_E52 X x0 n sl) (fun s' o' => fX9_mixesReadings_B52_w C hN s' o') 5000 (h19, (0 : Int32)) e27 q28 ?_
  show XW X 72 [some (.ref x0), none, none] [] e27 n sl
  refine xw_aload_n (pc := 72) (i := 0) (x := x0) C dX9_mixesReadings_72 rfl rfl ?_
  refine xw_aload_n (pc := 73) (i := 0) (x := x0) C dX9_mixesReadings_73 rfl rfl ?_
  refine xw_iconst (pc := 74) (v := 0) C dX9_mixesReadings_74 xk_i_0 ?_
  obtain ⟨_, q29, hm⟩ := xbind hm
  obtain ⟨v30, q31, hm⟩ := xbind hm
  refine xw_callV1 (pc := 75) (As := [.int (0 : Int32)]) (st := [.ref x0]) C dX9_mixesReadings_75 (wX9_nearest q31) dd_X9_nearest lk_X9_208 dv_X9_nearest (xco_spec q29) rfl (Nat.le_of_ble_eq_true rfl) (Nat.le_of_ble_eq_true rfl) (Nat.le_of_ble_eq_true rfl) ⟨Nat.le_refl _, Nat.le_refl _⟩ hN ?_
  obtain ⟨_, q32, hm⟩ := xbind hm
  obtain ⟨h33, q34, hm⟩ := xbind hm
  refine xw_callV0 (pc := 78) (As := [.int v30.1]) (st := []) C dX9_mixesReadings_78 (wX9_mixes q34) dd_X9_mixes lk_X9_199 dv_X9_mixes (xco_spec q32) rfl (Nat.le_of_ble_eq_true rfl) (Nat.le_of_ble_eq_true rfl) (Nat.le_of_ble_eq_true rfl) ⟨Nat.le_refl _, Nat.le_refl _⟩ hN ?_
  refine xw_aload_n (pc := 81) (i := 0) (x := x0) C dX9_mixesReadings_81 rfl rfl ?_
  refine xw_aload_n (pc := 82) (i := 0) (x := x0) C dX9_mixesReadings_82 rfl rfl ?_
  refine xw_bipush (pc := 83) (v := 20) C dX9_mixesReadings_83 xk_b_20 ?_
  refine xw_iconst (pc := 85) (v := 0) C dX9_mixesReadings_85 xk_i_0 ?_
  obtain ⟨_, q35, hm⟩ := xbind hm
  obtain ⟨v36, q37, hm⟩ := xbind hm
  refine xw_callV1 (pc := 86) (As := [.int (20 : Int32), .int (xbi false)]) (st := [.ref x0]) C dX9_mixesReadings_86 (wX9_bestPeriod q37) dd_X9_bestPeriod lk_X9_211 dv_X9_bestPeriod (xco_spec q35) rfl (Nat.le_of_ble_eq_true rfl) (Nat.le_of_ble_eq_true rfl) (Nat.le_of_ble_eq_true rfl) ⟨Nat.le_refl _, Nat.le_refl _⟩ hN ?_
  obtain ⟨_, q38, hm⟩ := xbind hm
  obtain ⟨h39, q40, hm⟩ := xbind hm
  refine xw_callV0 (pc := 89) (As := [.int v36.1]) (st := []) C dX9_mixesReadings_89 (wX9_mixes q40) dd_X9_mixes lk_X9_199 dv_X9_mixes (xco_spec q38) rfl (Nat.le_of_ble_eq_true rfl) (Nat.le_of_ble_eq_true rfl) (Nat.le_of_ble_eq_true rfl) ⟨Nat.le_refl _, Nat.le_refl _⟩ hN ?_
  refine xw_aload_n (pc := 92) (i := 0) (x := x0) C dX9_mixesReadings_92 rfl rfl ?_
  refine xw_aload_n (pc := 93) (i := 0) (x := x0) C dX9_mixesReadings_93 rfl rfl ?_
  refine xw_bipush (pc := 94) (v := 20) C dX9_mixesReadings_94 xk_b_20 ?_
  refine xw_iconst (pc := 96) (v := 1) C dX9_mixesReadings_96 xk_i_1 ?_
  obtain ⟨_, q41, hm⟩ := xbind hm
  obtain ⟨v42, q43, hm⟩ := xbind hm
  refine xw_callV1 (pc := 97) (As := [.int (20 : Int32), .int (xbi true)]) (st := [.ref x0]) C dX9_mixesReadings_97 (wX9_bestPeriod q43) dd_X9_bestPeriod lk_X9_211 dv_X9_bestPeriod (xco_spec q41) rfl (Nat.le_of_ble_eq_true rfl) (Nat.le_of_ble_eq_true rfl) (Nat.le_of_ble_eq_true rfl) ⟨Nat.le_refl _, Nat.le_refl _⟩ hN ?_
  obtain ⟨_, q44, hm⟩ := xbind hm
  obtain ⟨h45, q46, hm⟩ := xbind hm
  refine xw_callV0 (pc := 100) (As := [.int v42.1]) (st := []) C dX9_mixesReadings_100 (wX9_mixes q46) dd_X9_mixes lk_X9_199 dv_X9_mixes (xco_spec q44) rfl (Nat.le_of_ble_eq_true rfl) (Nat.le_of_ble_eq_true rfl) (Nat.le_of_ble_eq_true rfl) ⟨Nat.le_refl _, Nat.le_refl _⟩ hN ?_
  obtain rfl := Option.some.inj hm
  exact xw_return (pc := 103) C dX9_mixesReadings_103 rfl hX
def fX9_isStill_P12 (X : XCtx) (h : XH) (x0 : Nat) (x1 : Int32) (n sl : Nat) (s : (Bool × Int32)) : Prop := XW X 12 [some (.ref x0), some (.int x1), some (.int (xbi s.1)), some (.int s.2)] [] h n sl
def fX9_isStill_E12 (X : XCtx) (h : XH) (x0 : Nat) (x1 : Int32) (n sl : Nat) (e : Bool) : Prop := XW X 57 [none, none, some (.int (xbi e)), none] [] h n sl
set_option maxHeartbeats 4000000 in
set_option maxRecDepth 100000 in
theorem fX9_isStill_J49_w {X : XCtx} (C : XOK X RX9 cX9_isStill 4 "isStill" (some .boolean) 2 43) {n sl : Nat} (hN : XN X n sl)  {h : XH} {x0 : Nat} {x1 : Int32} {x3 : Int32} {o : (Bool × Int32) ⊕ Bool} (hm : fX9_isStill_J49 h x0 x1 x3 = some o) (hc : ∀ s', o = .inl s' → fX9_isStill_P12 X h x0 x1 n sl s') (he : ∀ e', o = .inr e' → fX9_isStill_E12 X h x0 x1 n sl e') : XW X 49 [some (.ref x0), some (.int x1), none, some (.int x3)] [] h n sl := by
  unfold fX9_isStill_J49 at hm
  refine xw_iconst (pc := 49) (v := 0) C dX9_isStill_49 xk_i_0 ?_
  refine xw_istore_n (pc := 50) (i := 2) (x := (0 : Int32)) (L' := [some (.ref x0), some (.int x1), some (.int (0 : Int32)), some (.int x3)]) C dX9_isStill_50 rfl (Nat.le_of_ble_eq_true rfl) rfl ?_
  refine xw_iinc (pc := 51) (i := 3) (x := x3) (v := (x3 + (1 : Int32))) (L' := [some (.ref x0), some (.int x1), some (.int (0 : Int32)), some (.int (x3 + (1 : Int32)))]) C dX9_isStill_51 rfl (congrArg (HAdd.hAdd _) xk_i_1) (Nat.le_of_ble_eq_true rfl) rfl ?_
  refine xw_goto (pc := 54) (tgt := 12) C dX9_isStill_54 (by decide) ?_
  obtain rfl := Option.some.inj hm
  refine xw_sub (pc := 12) _ ?_ (hc _ rfl)
  exact ⟨Or.inr rfl, Or.inr rfl, Or.inr rfl, Or.inr rfl, trivial⟩
set_option maxHeartbeats 4000000 in
set_option maxRecDepth 100000 in
theorem fX9_isStill_B12_w {X : XCtx} (C : XOK X RX9 cX9_isStill 4 "isStill" (some .boolean) 2 43) {n sl : Nat} (hN : XN X n sl) {h : XH} {x0 : Nat} {x1 : Int32} (s : (Bool × Int32)) (o : (Bool × Int32) ⊕ Bool) (hm : fX9_isStill_B12 h x0 x1 s = some o) (hc : ∀ s', o = .inl s' → fX9_isStill_P12 X h x0 x1 n sl s') (he : ∀ e', o = .inr e' → fX9_isStill_E12 X h x0 x1 n sl e') : fX9_isStill_P12 X h x0 x1 n sl s := by
  obtain ⟨x2, x3⟩ := s
  show XW X 12 [some (.ref x0), some (.int x1), some (.int (xbi x2)), some (.int x3)] [] h n sl
  replace hm : fX9_isStill_b12 h x0 x1 x2 x3 = some o := hm
  unfold fX9_isStill_b12 at hm
  refine xw_iload_n (pc := 12) (i := 3) (x := x3) C dX9_isStill_12 rfl rfl ?_
  refine xw_aload_n (pc := 13) (i := 0) (x := x0) C dX9_isStill_13 rfl rfl ?_
  obtain ⟨v6, q7, hm⟩ := xbind hm
  refine xw_getI (pc := 14) C dX9_isStill_14 fl_X9_172 q7 ?_
  refine xw_icmp_gt (pc := 17) (tgt := 57) C dX9_isStill_17 (by decide) (fun q => ?_) (fun q => ?_)
  · replace hm := xif_t q hm
    obtain rfl := Option.some.inj hm
    refine xw_sub (pc := 57) _ ?_ (he _ rfl)
    exact ⟨Or.inl rfl, Or.inl rfl, Or.inr rfl, Or.inl rfl, trivial⟩
  · replace hm := xif_f q hm
    refine xw_iload_n (pc := 20) (i := 2) (x := (xbi x2)) C dX9_isStill_20 rfl rfl ?_
    refine xw_if_eqZ (pc := 21) (b := x2) (tgt := 49) C dX9_isStill_21 (by decide) (fun q => ?_) (fun q => ?_)
    · replace hm := xif_f q hm
      exact xw_sub (pc := 49) [some (.ref x0), some (.int x1), none, some (.int x3)] ⟨Or.inr rfl, Or.inr rfl, Or.inl rfl, Or.inr rfl, trivial⟩ (fX9_isStill_J49_w C hN hm hc he)
    · replace hm := xif_t q hm
      refine xw_aload_n (pc := 24) (i := 0) (x := x0) C dX9_isStill_24 rfl rfl ?_
      obtain ⟨v8, q9, hm⟩ := xbind hm
      refine xw_getR (pc := 25) C dX9_isStill_25 fl_X9_13 q9 ?_
      refine xw_iload_n (pc := 28) (i := 3) (x := x3) C dX9_isStill_28 rfl rfl ?_
      obtain ⟨v10, q11, hm⟩ := xbind hm
      refine xw_iaload (pc := 29) C dX9_isStill_29 q11 ?_
      refine xw_aload_n (pc := 30) (i := 0) (x := x0) C dX9_isStill_30 rfl rfl ?_
      obtain ⟨v12, q13, hm⟩ := xbind hm
      refine xw_getR (pc := 31) C dX9_isStill_31 fl_X9_13 q13 ?_
      refine xw_aload_n (pc := 34) (i := 0) (x := x0) C dX9_isStill_34 rfl rfl ?_
      obtain ⟨v14, q15, hm⟩ := xbind hm
      refine xw_getI (pc := 35) C dX9_isStill_35 fl_X9_169 q15 ?_
      obtain ⟨v16, q17, hm⟩ := xbind hm
      refine xw_iaload (pc := 38) C dX9_isStill_38 q17 ?_
      refine xw_isub (pc := 39) C dX9_isStill_39 ?_
      refine xw_iload_n (pc := 40) (i := 1) (x := x1) C dX9_isStill_40 rfl rfl ?_
      obtain ⟨q18, hm⟩ := xif_n hm
      refine xw_irem (pc := 41) C dX9_isStill_41 q18 ?_
      refine xw_if_ne (pc := 42) (tgt := 49) C dX9_isStill_42 (by decide) (fun q => ?_) (fun q => ?_)
      · replace hm := xif_f q hm
        exact xw_sub (pc := 49) [some (.ref x0), some (.int x1), none, some (.int x3)] ⟨Or.inr rfl, Or.inr rfl, Or.inl rfl, Or.inr rfl, trivial⟩ (fX9_isStill_J49_w C hN hm hc he)
      · replace hm := xif_t q hm
        refine xw_iconst (pc := 45) (v := 1) C dX9_isStill_45 xk_i_1 ?_
        refine xw_goto (pc := 46) (tgt := 50) C dX9_isStill_46 (by decide) ?_
        refine xw_istore_n (pc := 50) (i := 2) (x := (1 : Int32)) (L' := [some (.ref x0), some (.int x1), some (.int (1 : Int32)), some (.int x3)]) C dX9_isStill_50 rfl (Nat.le_of_ble_eq_true rfl) rfl ?_
        refine xw_iinc (pc := 51) (i := 3) (x := x3) (v := (x3 + (1 : Int32))) (L' := [some (.ref x0), some (.int x1), some (.int (1 : Int32)), some (.int (x3 + (1 : Int32)))]) C dX9_isStill_51 rfl (congrArg (HAdd.hAdd _) xk_i_1) (Nat.le_of_ble_eq_true rfl) rfl ?_
        refine xw_goto (pc := 54) (tgt := 12) C dX9_isStill_54 (by decide) ?_
        obtain rfl := Option.some.inj hm
        refine xw_sub (pc := 12) _ ?_ (hc _ rfl)
        exact ⟨Or.inr rfl, Or.inr rfl, Or.inr rfl, Or.inr rfl, trivial⟩
set_option maxHeartbeats 4000000 in
set_option maxRecDepth 100000 in
theorem wX9_isStill {l : Launch} {n sl : Nat} {h : XH} {x0 : Nat} {o : Bool} (hm : fX9_isStill h x0 = some o) : XM l yX9_isStill cX9_isStill 4 (some .boolean) 2 43 [.ref x0] h n sl (some (.int (xbi o))) h n sl := by
  refine xm_of pnX9 [some (.ref x0), none, none, none] 3 rfl (Nat.le_of_ble_eq_true rfl) ?_
  intro X hT C
  replace C : XOK X RX9 cX9_isStill 4 "isStill" (some .boolean) 2 43 := C
  obtain ⟨-, hN, hX⟩ := hT
  unfold fX9_isStill at hm
  refine xw_aload_n (pc := 0) (i := 0) (x := x0) C dX9_isStill_0 rfl rfl ?_
  obtain ⟨_, q1, hm⟩ := xbind hm
  obtain ⟨v2, q3, hm⟩ := xbind hm
  refine xw_callV1 (pc := 1) (As := []) (st := []) C dX9_isStill_1 (wX9_measure q3) dd_X9_measure lk_X9_41 dv_X9_measure (xco_spec q1) rfl (Nat.le_of_ble_eq_true rfl) (Nat.le_of_ble_eq_true rfl) (Nat.le_of_ble_eq_true rfl) ⟨Nat.le_refl _, Nat.le_refl _⟩ hN ?_
  refine xw_istore_n (pc := 4) (i := 1) (x := v2) (L' := [some (.ref x0), some (.int v2), none, none]) C dX9_isStill_4 rfl (Nat.le_of_ble_eq_true rfl) rfl ?_
  refine xw_iconst (pc := 5) (v := 1) C dX9_isStill_5 xk_i_1 ?_
  refine xw_istore_n (pc := 6) (i := 2) (x := (1 : Int32)) (L' := [some (.ref x0), some (.int v2), some (.int (1 : Int32)), none]) C dX9_isStill_6 rfl (Nat.le_of_ble_eq_true rfl) rfl ?_
  refine xw_aload_n (pc := 7) (i := 0) (x := x0) C dX9_isStill_7 rfl rfl ?_
  obtain ⟨v4, q5, hm⟩ := xbind hm
  refine xw_getI (pc := 8) C dX9_isStill_8 fl_X9_169 q5 ?_
  refine xw_istore_n (pc := 11) (i := 3) (x := v4) (L' := [some (.ref x0), some (.int v2), some (.int (1 : Int32)), some (.int v4)]) C dX9_isStill_11 rfl (Nat.le_of_ble_eq_true rfl) rfl ?_
  obtain ⟨e19, q20, hm⟩ := xbind hm
  refine xw_sub (pc := 12) [some (.ref x0), some (.int v2), some (.int (xbi true)), some (.int v4)] ⟨Or.inr rfl, Or.inr rfl, Or.inr rfl, Or.inr rfl, trivial⟩ ?_
  refine xloop_walk (fX9_isStill_B12 h x0 v2) (fX9_isStill_P12 X h x0 v2 n sl) (fX9_isStill_E12 X h x0 v2 n sl) (fun s' o' => fX9_isStill_B12_w C hN s' o') 5000 (true, v4) e19 q20 ?_
  show XW X 57 [none, none, some (.int (xbi e19)), none] [] h n sl
  refine xw_iload_n (pc := 57) (i := 2) (x := (xbi e19)) C dX9_isStill_57 rfl rfl ?_
  obtain rfl := Option.some.inj hm
  exact xw_zreturn (pc := 58) (v := xbi e19) C dX9_isStill_58 rfl (xbi_nar _) hX
def fX9_smearAt_P7 (X : XCtx) (h : XH) (x0 : Nat) (x1 : Int32) (n sl : Nat) (s : (Int32 × Int32)) : Prop := XW X 7 [some (.ref x0), some (.int x1), some (.int s.1), some (.int s.2), none] [] h n sl
def fX9_smearAt_E7 (X : XCtx) (h : XH) (x0 : Nat) (x1 : Int32) (n sl : Nat) (e : Int32) : Prop := XW X 47 [none, none, some (.int e), none, none] [] h n sl
set_option maxHeartbeats 4000000 in
set_option maxRecDepth 100000 in
theorem fX9_smearAt_B7_w {X : XCtx} (C : XOK X RX9 cX9_smearAt 5 "smearAt" (some .int) 2 44) {n sl : Nat} (hN : XN X n sl) {h : XH} {x0 : Nat} {x1 : Int32} (s : (Int32 × Int32)) (o : (Int32 × Int32) ⊕ Int32) (hm : fX9_smearAt_B7 h x0 x1 s = some o) (hc : ∀ s', o = .inl s' → fX9_smearAt_P7 X h x0 x1 n sl s') (he : ∀ e', o = .inr e' → fX9_smearAt_E7 X h x0 x1 n sl e') : fX9_smearAt_P7 X h x0 x1 n sl s := by
  obtain ⟨x2, x3⟩ := s
  show XW X 7 [some (.ref x0), some (.int x1), some (.int x2), some (.int x3), none] [] h n sl
  replace hm : fX9_smearAt_b7 h x0 x1 x2 x3 = some o := hm
  unfold fX9_smearAt_b7 at hm
  refine xw_iload_n (pc := 7) (i := 3) (x := x3) C dX9_smearAt_7 rfl rfl ?_
  refine xw_aload_n (pc := 8) (i := 0) (x := x0) C dX9_smearAt_8 rfl rfl ?_
  obtain ⟨v3, q4, hm⟩ := xbind hm
  refine xw_getI (pc := 9) C dX9_smearAt_9 fl_X9_172 q4 ?_
  refine xw_icmp_gt (pc := 12) (tgt := 47) C dX9_smearAt_12 (by decide) (fun q => ?_) (fun q => ?_)
  · replace hm := xif_t q hm
    obtain rfl := Option.some.inj hm
    refine xw_sub (pc := 47) _ ?_ (he _ rfl)
    exact ⟨Or.inl rfl, Or.inl rfl, Or.inr rfl, Or.inl rfl, Or.inl rfl, trivial⟩
  · replace hm := xif_f q hm
    refine xw_aload_n (pc := 15) (i := 0) (x := x0) C dX9_smearAt_15 rfl rfl ?_
    refine xw_iload_n (pc := 16) (i := 3) (x := x3) C dX9_smearAt_16 rfl rfl ?_
    refine xw_iload_n (pc := 17) (i := 1) (x := x1) C dX9_smearAt_17 rfl rfl ?_
    obtain ⟨_, q5, hm⟩ := xbind hm
    obtain ⟨v6, q7, hm⟩ := xbind hm
    refine xw_callV1 (pc := 18) (As := [.int x3, .int x1]) (st := []) C dX9_smearAt_18 (wX9_seenAt q7) dd_X9_seenAt lk_X9_123 dv_X9_seenAt (xco_spec q5) rfl (Nat.le_of_ble_eq_true rfl) (Nat.le_of_ble_eq_true rfl) (Nat.le_of_ble_eq_true rfl) ⟨Nat.le_refl _, Nat.le_refl _⟩ hN ?_
    refine xw_istore (pc := 21) (i := 4) (x := v6) (L' := [some (.ref x0), some (.int x1), some (.int x2), some (.int x3), some (.int v6)]) C dX9_smearAt_21 (Nat.le_of_ble_eq_true rfl) rfl ?_
    refine xw_iload_n (pc := 23) (i := 2) (x := x2) C dX9_smearAt_23 rfl rfl ?_
    refine xw_iload (pc := 24) (i := 4) (x := v6) C dX9_smearAt_24 rfl ?_
    refine xw_if_le (pc := 26) (tgt := 38) C dX9_smearAt_26 (by decide) (fun q => ?_) (fun q => ?_)
    · replace hm := xif_t q hm
      refine xw_iconst (pc := 38) (v := 0) C dX9_smearAt_38 xk_i_0 ?_
      refine xw_ior (pc := 39) C dX9_smearAt_39 ?_
      refine xw_istore_n (pc := 40) (i := 2) (x := (x2 ||| (0 : Int32))) (L' := [some (.ref x0), some (.int x1), some (.int (x2 ||| (0 : Int32))), some (.int x3), some (.int v6)]) C dX9_smearAt_40 rfl (Nat.le_of_ble_eq_true rfl) rfl ?_
      refine xw_iinc (pc := 41) (i := 3) (x := x3) (v := (x3 + (1 : Int32))) (L' := [some (.ref x0), some (.int x1), some (.int (x2 ||| (0 : Int32))), some (.int (x3 + (1 : Int32))), some (.int v6)]) C dX9_smearAt_41 rfl (congrArg (HAdd.hAdd _) xk_i_1) (Nat.le_of_ble_eq_true rfl) rfl ?_
      refine xw_goto (pc := 44) (tgt := 7) C dX9_smearAt_44 (by decide) ?_
      obtain rfl := Option.some.inj hm
      refine xw_sub (pc := 7) _ ?_ (hc _ rfl)
      exact ⟨Or.inr rfl, Or.inr rfl, Or.inr rfl, Or.inr rfl, Or.inl rfl, trivial⟩
    · replace hm := xif_f q hm
      refine xw_iconst (pc := 29) (v := 1) C dX9_smearAt_29 xk_i_1 ?_
      refine xw_iload (pc := 30) (i := 4) (x := v6) C dX9_smearAt_30 rfl ?_
      refine xw_iconst (pc := 32) (v := 1) C dX9_smearAt_32 xk_i_1 ?_
      refine xw_isub (pc := 33) C dX9_smearAt_33 ?_
      refine xw_ishl (pc := 34) C dX9_smearAt_34 ?_
      refine xw_goto (pc := 35) (tgt := 39) C dX9_smearAt_35 (by decide) ?_
      refine xw_ior (pc := 39) C dX9_smearAt_39 ?_
      obtain ⟨y8, ey8, hm⟩ := xlet_ex hm
      refine xw_topI ey8 ?_
      refine xw_istore_n (pc := 40) (i := 2) (x := y8) (L' := [some (.ref x0), some (.int x1), some (.int y8), some (.int x3), some (.int v6)]) C dX9_smearAt_40 rfl (Nat.le_of_ble_eq_true rfl) rfl ?_
      refine xw_iinc (pc := 41) (i := 3) (x := x3) (v := (x3 + (1 : Int32))) (L' := [some (.ref x0), some (.int x1), some (.int y8), some (.int (x3 + (1 : Int32))), some (.int v6)]) C dX9_smearAt_41 rfl (congrArg (HAdd.hAdd _) xk_i_1) (Nat.le_of_ble_eq_true rfl) rfl ?_
      refine xw_goto (pc := 44) (tgt := 7) C dX9_smearAt_44 (by decide) ?_
      obtain rfl := Option.some.inj hm
      refine xw_sub (pc := 7) _ ?_ (hc _ rfl)
      exact ⟨Or.inr rfl, Or.inr rfl, Or.inr rfl, Or.inr rfl, Or.inl rfl, trivial⟩
set_option maxHeartbeats 4000000 in
set_option maxRecDepth 100000 in
theorem wX9_smearAt {l : Launch} {n sl : Nat} {h : XH} {x0 : Nat} {x1 : Int32} {o : Int32} (hm : fX9_smearAt h x0 x1 = some o) : XM l yX9_smearAt cX9_smearAt 5 (some .int) 2 44 [.ref x0, .int x1] h n sl (some (.int o)) h n sl := by
  refine xm_of pnX9 [some (.ref x0), some (.int x1), none, none, none] 3 rfl (Nat.le_of_ble_eq_true rfl) ?_
  intro X hT C
  replace C : XOK X RX9 cX9_smearAt 5 "smearAt" (some .int) 2 44 := C
  obtain ⟨-, hN, hX⟩ := hT
  unfold fX9_smearAt at hm
  refine xw_iconst (pc := 0) (v := 0) C dX9_smearAt_0 xk_i_0 ?_
  refine xw_istore_n (pc := 1) (i := 2) (x := (0 : Int32)) (L' := [some (.ref x0), some (.int x1), some (.int (0 : Int32)), none, none]) C dX9_smearAt_1 rfl (Nat.le_of_ble_eq_true rfl) rfl ?_
  refine xw_aload_n (pc := 2) (i := 0) (x := x0) C dX9_smearAt_2 rfl rfl ?_
  obtain ⟨v1, q2, hm⟩ := xbind hm
  refine xw_getI (pc := 3) C dX9_smearAt_3 fl_X9_169 q2 ?_
  refine xw_istore_n (pc := 6) (i := 3) (x := v1) (L' := [some (.ref x0), some (.int x1), some (.int (0 : Int32)), some (.int v1), none]) C dX9_smearAt_6 rfl (Nat.le_of_ble_eq_true rfl) rfl ?_
  obtain ⟨e9, q10, hm⟩ := xbind hm
  refine xw_sub (pc := 7) [some (.ref x0), some (.int x1), some (.int (0 : Int32)), some (.int v1), none] ⟨Or.inr rfl, Or.inr rfl, Or.inr rfl, Or.inr rfl, Or.inl rfl, trivial⟩ ?_
  refine xloop_walk (fX9_smearAt_B7 h x0 x1) (fX9_smearAt_P7 X h x0 x1 n sl) (fX9_smearAt_E7 X h x0 x1 n sl) (fun s' o' => fX9_smearAt_B7_w C hN s' o') 5000 ((0 : Int32), v1) e9 q10 ?_
  show XW X 47 [none, none, some (.int e9), none, none] [] h n sl
  refine xw_iload_n (pc := 47) (i := 2) (x := e9) C dX9_smearAt_47 rfl rfl ?_
  obtain rfl := Option.some.inj hm
  exact xw_ireturn (pc := 48) C dX9_smearAt_48 rfl hX
def fX9_smeared_P4 (X : XCtx) (h : XH) (x0 : Nat) (n sl : Nat) (s : (Int32 × Int32)) : Prop := XW X 4 [some (.ref x0), some (.int s.1), some (.int s.2), none] [] h n sl
def fX9_smeared_E4 (X : XCtx) (h : XH) (x0 : Nat) (n sl : Nat) (e : Int32) : Prop := XW X 40 [none, some (.int e), none, none] [] h n sl
set_option maxHeartbeats 4000000 in
set_option maxRecDepth 100000 in
theorem fX9_smeared_B4_w {X : XCtx} (C : XOK X RX9 cX9_smeared 4 "smeared" (some .int) 3 68) {n sl : Nat} (hN : XN X n sl) {h : XH} {x0 : Nat} (s : (Int32 × Int32)) (o : (Int32 × Int32) ⊕ Int32) (hm : fX9_smeared_B4 h x0 s = some o) (hc : ∀ s', o = .inl s' → fX9_smeared_P4 X h x0 n sl s') (he : ∀ e', o = .inr e' → fX9_smeared_E4 X h x0 n sl e') : fX9_smeared_P4 X h x0 n sl s := by
  obtain ⟨x1, x2⟩ := s
  show XW X 4 [some (.ref x0), some (.int x1), some (.int x2), none] [] h n sl
  replace hm : fX9_smeared_b4 h x0 x1 x2 = some o := hm
  unfold fX9_smeared_b4 at hm
  refine xw_iload_n (pc := 4) (i := 2) (x := x2) C dX9_smeared_4 rfl rfl ?_
  refine xw_aload_n (pc := 5) (i := 0) (x := x0) C dX9_smeared_5 rfl rfl ?_
  obtain ⟨_, q1, hm⟩ := xbind hm
  obtain ⟨v2, q3, hm⟩ := xbind hm
  refine xw_callV1 (pc := 6) (As := []) (st := [.int x2]) C dX9_smeared_6 (wX9_cells q3) dd_X9_cells lk_X9_37 dv_X9_cells (xco_spec q1) rfl (Nat.le_of_ble_eq_true rfl) (Nat.le_of_ble_eq_true rfl) (Nat.le_of_ble_eq_true rfl) ⟨Nat.le_refl _, Nat.le_refl _⟩ hN ?_
  refine xw_icmp_ge (pc := 9) (tgt := 40) C dX9_smeared_9 (by decide) (fun q => ?_) (fun q => ?_)
  · replace hm := xif_t q hm
    obtain rfl := Option.some.inj hm
    refine xw_sub (pc := 40) _ ?_ (he _ rfl)
    exact ⟨Or.inl rfl, Or.inr rfl, Or.inl rfl, Or.inl rfl, trivial⟩
  · replace hm := xif_f q hm
    refine xw_aload_n (pc := 12) (i := 0) (x := x0) C dX9_smeared_12 rfl rfl ?_
    refine xw_iload_n (pc := 13) (i := 2) (x := x2) C dX9_smeared_13 rfl rfl ?_
    obtain ⟨_, q4, hm⟩ := xbind hm
    obtain ⟨v5, q6, hm⟩ := xbind hm
    refine xw_callV1 (pc := 14) (As := [.int x2]) (st := []) C dX9_smeared_14 (wX9_smearAt q6) dd_X9_smearAt lk_X9_175 dv_X9_smearAt (xco_spec q4) rfl (Nat.le_of_ble_eq_true rfl) (Nat.le_of_ble_eq_true rfl) (Nat.le_of_ble_eq_true rfl) ⟨Nat.le_refl _, Nat.le_refl _⟩ hN ?_
    refine xw_istore_n (pc := 17) (i := 3) (x := v5) (L' := [some (.ref x0), some (.int x1), some (.int x2), some (.int v5)]) C dX9_smeared_17 rfl (Nat.le_of_ble_eq_true rfl) rfl ?_
    refine xw_iload_n (pc := 18) (i := 1) (x := x1) C dX9_smeared_18 rfl rfl ?_
    refine xw_iload_n (pc := 19) (i := 3) (x := v5) C dX9_smeared_19 rfl rfl ?_
    refine xw_iload_n (pc := 20) (i := 3) (x := v5) C dX9_smeared_20 rfl rfl ?_
    refine xw_iconst (pc := 21) (v := 1) C dX9_smeared_21 xk_i_1 ?_
    refine xw_isub (pc := 22) C dX9_smeared_22 ?_
    refine xw_iand (pc := 23) C dX9_smeared_23 ?_
    refine xw_if_eq (pc := 24) (tgt := 31) C dX9_smeared_24 (by decide) (fun q => ?_) (fun q => ?_)
    · replace hm := xif_t q hm
      refine xw_iconst (pc := 31) (v := 0) C dX9_smeared_31 xk_i_0 ?_
      refine xw_iadd (pc := 32) C dX9_smeared_32 ?_
      refine xw_istore_n (pc := 33) (i := 1) (x := (x1 + (0 : Int32))) (L' := [some (.ref x0), some (.int (x1 + (0 : Int32))), some (.int x2), some (.int v5)]) C dX9_smeared_33 rfl (Nat.le_of_ble_eq_true rfl) rfl ?_
      refine xw_iinc (pc := 34) (i := 2) (x := x2) (v := (x2 + (1 : Int32))) (L' := [some (.ref x0), some (.int (x1 + (0 : Int32))), some (.int (x2 + (1 : Int32))), some (.int v5)]) C dX9_smeared_34 rfl (congrArg (HAdd.hAdd _) xk_i_1) (Nat.le_of_ble_eq_true rfl) rfl ?_
      refine xw_goto (pc := 37) (tgt := 4) C dX9_smeared_37 (by decide) ?_
      obtain rfl := Option.some.inj hm
      refine xw_sub (pc := 4) _ ?_ (hc _ rfl)
      exact ⟨Or.inr rfl, Or.inr rfl, Or.inr rfl, Or.inl rfl, trivial⟩
    · replace hm := xif_f q hm
      refine xw_iconst (pc := 27) (v := 1) C dX9_smeared_27 xk_i_1 ?_
      refine xw_goto (pc := 28) (tgt := 32) C dX9_smeared_28 (by decide) ?_
      refine xw_iadd (pc := 32) C dX9_smeared_32 ?_
      refine xw_istore_n (pc := 33) (i := 1) (x := (x1 + (1 : Int32))) (L' := [some (.ref x0), some (.int (x1 + (1 : Int32))), some (.int x2), some (.int v5)]) C dX9_smeared_33 rfl (Nat.le_of_ble_eq_true rfl) rfl ?_
      refine xw_iinc (pc := 34) (i := 2) (x := x2) (v := (x2 + (1 : Int32))) (L' := [some (.ref x0), some (.int (x1 + (1 : Int32))), some (.int (x2 + (1 : Int32))), some (.int v5)]) C dX9_smeared_34 rfl (congrArg (HAdd.hAdd _) xk_i_1) (Nat.le_of_ble_eq_true rfl) rfl ?_
      refine xw_goto (pc := 37) (tgt := 4) C dX9_smeared_37 (by decide) ?_
      obtain rfl := Option.some.inj hm
      refine xw_sub (pc := 4) _ ?_ (hc _ rfl)
      exact ⟨Or.inr rfl, Or.inr rfl, Or.inr rfl, Or.inl rfl, trivial⟩
set_option maxHeartbeats 4000000 in
set_option maxRecDepth 100000 in
theorem wX9_smeared {l : Launch} {n sl : Nat} {h : XH} {x0 : Nat} {o : Int32} (hm : fX9_smeared h x0 = some o) : XM l yX9_smeared cX9_smeared 4 (some .int) 3 68 [.ref x0] h n sl (some (.int o)) h n sl := by
  refine xm_of pnX9 [some (.ref x0), none, none, none] 3 rfl (Nat.le_of_ble_eq_true rfl) ?_
  intro X hT C
  replace C : XOK X RX9 cX9_smeared 4 "smeared" (some .int) 3 68 := C
  obtain ⟨-, hN, hX⟩ := hT
  unfold fX9_smeared at hm
  refine xw_iconst (pc := 0) (v := 0) C dX9_smeared_0 xk_i_0 ?_
  refine xw_istore_n (pc := 1) (i := 1) (x := (0 : Int32)) (L' := [some (.ref x0), some (.int (0 : Int32)), none, none]) C dX9_smeared_1 rfl (Nat.le_of_ble_eq_true rfl) rfl ?_
  refine xw_iconst (pc := 2) (v := 0) C dX9_smeared_2 xk_i_0 ?_
  refine xw_istore_n (pc := 3) (i := 2) (x := (0 : Int32)) (L' := [some (.ref x0), some (.int (0 : Int32)), some (.int (0 : Int32)), none]) C dX9_smeared_3 rfl (Nat.le_of_ble_eq_true rfl) rfl ?_
  obtain ⟨e7, q8, hm⟩ := xbind hm
  refine xw_sub (pc := 4) [some (.ref x0), some (.int (0 : Int32)), some (.int (0 : Int32)), none] ⟨Or.inr rfl, Or.inr rfl, Or.inr rfl, Or.inl rfl, trivial⟩ ?_
  refine xloop_walk (fX9_smeared_B4 h x0) (fX9_smeared_P4 X h x0 n sl) (fX9_smeared_E4 X h x0 n sl) (fun s' o' => fX9_smeared_B4_w C hN s' o') 5000 ((0 : Int32), (0 : Int32)) e7 q8 ?_
  show XW X 40 [none, some (.int e7), none, none] [] h n sl
  refine xw_iload_n (pc := 40) (i := 1) (x := e7) C dX9_smeared_40 rfl rfl ?_
  obtain rfl := Option.some.inj hm
  exact xw_ireturn (pc := 41) C dX9_smeared_41 rfl hX
set_option maxHeartbeats 4000000 in
set_option maxRecDepth 100000 in
theorem wX9_opening {l : Launch} {n sl : Nat} {h : XH} {x0 : Nat} {x1 : Int32} {x2 : Int32} {o : Int32 × XH} (hm : fX9_opening h x0 x1 x2 = some o) : XM l yX9_opening cX9_opening 3 (some .int) 4 91 [.ref x0, .int x1, .int x2] h n sl (some (.int o.1)) o.2 n sl := by
  refine xm_of pnX9 [some (.ref x0), some (.int x1), some (.int x2)] 0 rfl (Nat.le_of_ble_eq_true rfl) ?_
  intro X hT C
  replace C : XOK X RX9 cX9_opening 3 "opening" (some .int) 4 91 := C
  obtain ⟨-, hN, hX⟩ := hT
  unfold fX9_opening at hm
  refine xw_iload_n (pc := 0) (i := 1) (x := x1) C dX9_opening_0 rfl rfl ?_
  refine xw_if_lt (pc := 1) (tgt := 13) C dX9_opening_1 (by decide) (fun q => ?_) (fun q => ?_)
  · replace hm := xif_t q hm
    refine xw_sipush (pc := 13) (v := -1001) C dX9_opening_13 xk_s_m1001 ?_
    obtain rfl := Option.some.inj hm
    exact xw_ireturn (pc := 16) C dX9_opening_16 rfl hX
  · replace hm := xif_f q hm
    refine xw_iload_n (pc := 4) (i := 2) (x := x2) C dX9_opening_4 rfl rfl ?_
    refine xw_iconst (pc := 5) (v := 0) C dX9_opening_5 xk_i_0 ?_
    refine xw_iconst (pc := 6) (v := 3) C dX9_opening_6 xk_i_3 ?_
    obtain ⟨v1, q2, hm⟩ := xbind hm
    refine xw_callS1 (pc := 7) (As := [.int x2, .int (0 : Int32), .int (3 : Int32)]) (st := []) C dX9_opening_7 (wX9_in q2) dd_X9_in lk_X9_55 ds_X9_in rfl (Nat.le_of_ble_eq_true rfl) (Nat.le_of_ble_eq_true rfl) (Nat.le_of_ble_eq_true rfl) ⟨Nat.le_refl _, Nat.le_refl _⟩ hN ?_
    refine xw_if_neZ (pc := 10) (b := v1) (tgt := 17) C dX9_opening_10 (by decide) (fun q => ?_) (fun q => ?_)
    · replace hm := xif_t q hm
      refine xw_aload_n (pc := 17) (i := 0) (x := x0) C dX9_opening_17 rfl rfl ?_
      refine xw_iload_n (pc := 18) (i := 1) (x := x1) C dX9_opening_18 rfl rfl ?_
      obtain ⟨_, q3, hm⟩ := xbind hm
      obtain ⟨v4, q5, hm⟩ := xbind hm
      refine xw_callV1 (pc := 19) (As := [.int x1]) (st := []) C dX9_opening_19 (wX9_goesTo q5) dd_X9_goesTo lk_X9_178 dv_X9_goesTo (xco_spec q3) rfl (Nat.le_of_ble_eq_true rfl) (Nat.le_of_ble_eq_true rfl) (Nat.le_of_ble_eq_true rfl) ⟨Nat.le_refl _, Nat.le_refl _⟩ hN ?_
      refine xw_iload_n (pc := 22) (i := 1) (x := x1) C dX9_opening_22 rfl rfl ?_
      refine xw_icmp_gt (pc := 23) (tgt := 30) C dX9_opening_23 (by decide) (fun q => ?_) (fun q => ?_)
      · replace hm := xif_t q hm
        refine xw_aload_n (pc := 30) (i := 0) (x := x0) C dX9_opening_30 rfl rfl ?_
        obtain ⟨_, q6, hm⟩ := xbind hm
        obtain ⟨h7, q8, hm⟩ := xbind hm
        refine xw_callV0 (pc := 31) (As := []) (st := []) C dX9_opening_31 (wX9_laysTurns q8) dd_X9_laysTurns lk_X9_120 dv_X9_laysTurns (xco_spec q6) rfl (Nat.le_of_ble_eq_true rfl) (Nat.le_of_ble_eq_true rfl) (Nat.le_of_ble_eq_true rfl) ⟨Nat.le_refl _, Nat.le_refl _⟩ hN ?_
        refine xw_iload_n (pc := 34) (i := 2) (x := x2) C dX9_opening_34 rfl rfl ?_
        by_cases q9 : x2 = 0
        · replace hm := xif_t q9 hm
          refine xw_tabIn (pc := 35) (v := 0) (off := 25) (tgt := 60) C dX9_opening_35 q9 (by decide) (by decide) (by decide) (by decide) ?_
          refine xw_aload_n (pc := 60) (i := 0) (x := x0) C dX9_opening_60 rfl rfl ?_
          obtain ⟨v12, q13, hm⟩ := xbind hm
          refine xw_getI (pc := 61) C dX9_opening_61 fl_X9_169 q13 ?_
          obtain rfl := Option.some.inj hm
          exact xw_ireturn (pc := 64) C dX9_opening_64 rfl hX
        · replace hm := xif_f q9 hm
          by_cases q10 : x2 = 1
          · replace hm := xif_t q10 hm
            refine xw_tabIn (pc := 35) (v := 1) (off := 30) (tgt := 65) C dX9_opening_35 q10 (by decide) (by decide) (by decide) (by decide) ?_
            refine xw_aload_n (pc := 65) (i := 0) (x := x0) C dX9_opening_65 rfl rfl ?_
            obtain ⟨v14, q15, hm⟩ := xbind hm
            refine xw_getI (pc := 66) C dX9_opening_66 fl_X9_172 q15 ?_
            refine xw_aload_n (pc := 69) (i := 0) (x := x0) C dX9_opening_69 rfl rfl ?_
            obtain ⟨v16, q17, hm⟩ := xbind hm
            refine xw_getI (pc := 70) C dX9_opening_70 fl_X9_169 q17 ?_
            refine xw_isub (pc := 73) C dX9_opening_73 ?_
            refine xw_iconst (pc := 74) (v := 1) C dX9_opening_74 xk_i_1 ?_
            refine xw_iadd (pc := 75) C dX9_opening_75 ?_
            obtain rfl := Option.some.inj hm
            exact xw_ireturn (pc := 76) C dX9_opening_76 rfl hX
          · replace hm := xif_f q10 hm
            by_cases q11 : x2 = 2
            · replace hm := xif_t q11 hm
              refine xw_tabIn (pc := 35) (v := 2) (off := 42) (tgt := 77) C dX9_opening_35 q11 (by decide) (by decide) (by decide) (by decide) ?_
              refine xw_aload_n (pc := 77) (i := 0) (x := x0) C dX9_opening_77 rfl rfl ?_
              obtain ⟨_, q18, hm⟩ := xbind hm
              obtain ⟨v19, q20, hm⟩ := xbind hm
              refine xw_callV1 (pc := 78) (As := []) (st := []) C dX9_opening_78 (wX9_smeared q20) dd_X9_smeared lk_X9_181 dv_X9_smeared (xco_spec q18) rfl (Nat.le_of_ble_eq_true rfl) (Nat.le_of_ble_eq_true rfl) (Nat.le_of_ble_eq_true rfl) ⟨Nat.le_refl _, Nat.le_refl _⟩ hN ?_
              obtain rfl := Option.some.inj hm
              exact xw_ireturn (pc := 81) C dX9_opening_81 rfl hX
            · replace hm := xif_f q11 hm
              refine xw_tabOut (pc := 35) (tgt := 82) C dX9_opening_35 (by have := lv_neT q9 (a := 0) (by decide); have := lv_neT q10 (a := 1) (by decide); have := lv_neT q11 (a := 2) (by decide); omega) (by decide) ?_
              refine xw_aload_n (pc := 82) (i := 0) (x := x0) C dX9_opening_82 rfl rfl ?_
              obtain ⟨_, q21, hm⟩ := xbind hm
              obtain ⟨v22, q23, hm⟩ := xbind hm
              refine xw_callV1 (pc := 83) (As := []) (st := []) C dX9_opening_83 (wX9_isStill q23) dd_X9_isStill lk_X9_184 dv_X9_isStill (xco_spec q21) rfl (Nat.le_of_ble_eq_true rfl) (Nat.le_of_ble_eq_true rfl) (Nat.le_of_ble_eq_true rfl) ⟨Nat.le_refl _, Nat.le_refl _⟩ hN ?_
              refine xw_if_eqZ (pc := 86) (b := v22) (tgt := 93) C dX9_opening_86 (by decide) (fun q => ?_) (fun q => ?_)
              · replace hm := xif_f q hm
                refine xw_iconst (pc := 93) (v := 0) C dX9_opening_93 xk_i_0 ?_
                obtain rfl := Option.some.inj hm
                exact xw_ireturn (pc := 94) C dX9_opening_94 rfl hX
              · replace hm := xif_t q hm
                refine xw_iconst (pc := 89) (v := 1) C dX9_opening_89 xk_i_1 ?_
                refine xw_goto (pc := 90) (tgt := 94) C dX9_opening_90 (by decide) ?_
                obtain rfl := Option.some.inj hm
                exact xw_ireturn (pc := 94) C dX9_opening_94 rfl hX
      · replace hm := xif_f q hm
        refine xw_sipush (pc := 26) (v := -1004) C dX9_opening_26 xk_s_m1004 ?_
        obtain rfl := Option.some.inj hm
        exact xw_ireturn (pc := 29) C dX9_opening_29 rfl hX
    · replace hm := xif_f q hm
      refine xw_sipush (pc := 13) (v := -1001) C dX9_opening_13 xk_s_m1001 ?_
      obtain rfl := Option.some.inj hm
      exact xw_ireturn (pc := 16) C dX9_opening_16 rfl hX
def fX9_pictures_P9 (X : XCtx) (x0 : Nat) (x1 : Int32) (x2 : Int32) (n sl : Nat) (s : (XH × Int32)) : Prop := XW X 9 [some (.ref x0), some (.int x1), some (.int x2), some (.int s.2), none] [] s.1 n sl
def fX9_pictures_E9 (X : XCtx) (x0 : Nat) (x1 : Int32) (x2 : Int32) (n sl : Nat) (e : XH) : Prop := XW X 28 [some (.ref x0), some (.int x1), some (.int x2), none, none] [] e n sl
set_option maxHeartbeats 4000000 in
set_option maxRecDepth 100000 in
theorem fX9_pictures_B9_w {X : XCtx} (C : XOK X RX9 cX9_pictures 5 "pictures" (some .int) 2 43) {n sl : Nat} (hN : XN X n sl) {x0 : Nat} {x1 : Int32} {x2 : Int32} (s : (XH × Int32)) (o : (XH × Int32) ⊕ XH) (hm : fX9_pictures_B9 x0 x1 x2 s = some o) (hc : ∀ s', o = .inl s' → fX9_pictures_P9 X x0 x1 x2 n sl s') (he : ∀ e', o = .inr e' → fX9_pictures_E9 X x0 x1 x2 n sl e') : fX9_pictures_P9 X x0 x1 x2 n sl s := by
  obtain ⟨h, x3⟩ := s
  show XW X 9 [some (.ref x0), some (.int x1), some (.int x2), some (.int x3), none] [] h n sl
  replace hm : fX9_pictures_b9 x0 x1 x2 h x3 = some o := hm
  unfold fX9_pictures_b9 at hm
  refine xw_iload_n (pc := 9) (i := 3) (x := x3) C dX9_pictures_9 rfl rfl ?_
  refine xw_bipush (pc := 10) (v := 60) C dX9_pictures_10 xk_b_60 ?_
  refine xw_icmp_ge (pc := 12) (tgt := 28) C dX9_pictures_12 (by decide) (fun q => ?_) (fun q => ?_)
  · replace hm := xif_t q hm
    obtain rfl := Option.some.inj hm
    refine xw_sub (pc := 28) _ ?_ (he _ rfl)
    exact ⟨Or.inr rfl, Or.inr rfl, Or.inr rfl, Or.inl rfl, Or.inl rfl, trivial⟩
  · replace hm := xif_f q hm
    refine xw_aload_n (pc := 15) (i := 0) (x := x0) C dX9_pictures_15 rfl rfl ?_
    obtain ⟨v4, q5, hm⟩ := xbind hm
    refine xw_getR (pc := 16) C dX9_pictures_16 fl_X9_19 q5 ?_
    refine xw_iload_n (pc := 19) (i := 3) (x := x3) C dX9_pictures_19 rfl rfl ?_
    refine xw_iconst (pc := 20) (v := 0) C dX9_pictures_20 xk_i_0 ?_
    obtain ⟨h6, q7, hm⟩ := xbind hm
    refine xw_zastore (pc := 21) C dX9_pictures_21 q7 ?_
    refine xw_iinc (pc := 22) (i := 3) (x := x3) (v := (x3 + (1 : Int32))) (L' := [some (.ref x0), some (.int x1), some (.int x2), some (.int (x3 + (1 : Int32))), none]) C dX9_pictures_22 rfl (congrArg (HAdd.hAdd _) xk_i_1) (Nat.le_of_ble_eq_true rfl) rfl ?_
    refine xw_goto (pc := 25) (tgt := 9) C dX9_pictures_25 (by decide) ?_
    obtain rfl := Option.some.inj hm
    refine xw_sub (pc := 9) _ ?_ (hc _ rfl)
    exact ⟨Or.inr rfl, Or.inr rfl, Or.inr rfl, Or.inr rfl, Or.inl rfl, trivial⟩
def fX9_pictures_P30 (X : XCtx) (x0 : Nat) (x1 : Int32) (n sl : Nat) (s : (XH × Int32 × Int32)) : Prop := XW X 30 [some (.ref x0), some (.int x1), some (.int s.2.1), some (.int s.2.2), none] [] s.1 n sl
def fX9_pictures_E30 (X : XCtx) (x0 : Nat) (x1 : Int32) (n sl : Nat) (e : (XH × Int32)) : Prop := XW X 84 [none, none, some (.int e.2), none, none] [] e.1 n sl
set_option maxHeartbeats 4000000 in
set_option maxRecDepth 100000 in
theorem fX9_pictures_J68_w {X : XCtx} (C : XOK X RX9 cX9_pictures 5 "pictures" (some .int) 2 43) {n sl : Nat} (hN : XN X n sl)  {h : XH} {x0 : Nat} {x1 : Int32} {x3 : Int32} {x4 : Int32} {s0 : Int32} {s1 : Bool} {o : (XH × Int32 × Int32) ⊕ (XH × Int32)} (hm : fX9_pictures_J68 h x0 x1 x3 x4 s0 s1 = some o) (hc : ∀ s', o = .inl s' → fX9_pictures_P30 X x0 x1 n sl s') (he : ∀ e', o = .inr e' → fX9_pictures_E30 X x0 x1 n sl e') : XW X 68 [some (.ref x0), some (.int x1), none, some (.int x3), some (.int x4)] [.int (xbi s1), .int s0] h n sl := by
  unfold fX9_pictures_J68 at hm
  refine xw_iadd (pc := 68) C dX9_pictures_68 ?_
  refine xw_istore_n (pc := 69) (i := 2) (x := (s0 + (xbi s1))) (L' := [some (.ref x0), some (.int x1), some (.int (s0 + (xbi s1))), some (.int x3), some (.int x4)]) C dX9_pictures_69 rfl (Nat.le_of_ble_eq_true rfl) rfl ?_
  refine xw_aload_n (pc := 70) (i := 0) (x := x0) C dX9_pictures_70 rfl rfl ?_
  obtain ⟨v25, q26, hm⟩ := xbind hm
  refine xw_getR (pc := 71) C dX9_pictures_71 fl_X9_19 q26 ?_
  refine xw_iload (pc := 74) (i := 4) (x := x4) C dX9_pictures_74 rfl ?_
  refine xw_iconst (pc := 76) (v := 1) C dX9_pictures_76 xk_i_1 ?_
  obtain ⟨h27, q28, hm⟩ := xbind hm
  refine xw_zastore (pc := 77) C dX9_pictures_77 q28 ?_
  refine xw_iinc (pc := 78) (i := 3) (x := x3) (v := (x3 + (1 : Int32))) (L' := [some (.ref x0), some (.int x1), some (.int (s0 + (xbi s1))), some (.int (x3 + (1 : Int32))), some (.int x4)]) C dX9_pictures_78 rfl (congrArg (HAdd.hAdd _) xk_i_1) (Nat.le_of_ble_eq_true rfl) rfl ?_
  refine xw_goto (pc := 81) (tgt := 30) C dX9_pictures_81 (by decide) ?_
  obtain rfl := Option.some.inj hm
  refine xw_sub (pc := 30) _ ?_ (hc _ rfl)
  exact ⟨Or.inr rfl, Or.inr rfl, Or.inr rfl, Or.inr rfl, Or.inl rfl, trivial⟩
set_option maxHeartbeats 4000000 in
set_option maxRecDepth 100000 in
theorem fX9_pictures_B30_w {X : XCtx} (C : XOK X RX9 cX9_pictures 5 "pictures" (some .int) 2 43) {n sl : Nat} (hN : XN X n sl) {x0 : Nat} {x1 : Int32} (s : (XH × Int32 × Int32)) (o : (XH × Int32 × Int32) ⊕ (XH × Int32)) (hm : fX9_pictures_B30 x0 x1 s = some o) (hc : ∀ s', o = .inl s' → fX9_pictures_P30 X x0 x1 n sl s') (he : ∀ e', o = .inr e' → fX9_pictures_E30 X x0 x1 n sl e') : fX9_pictures_P30 X x0 x1 n sl s := by
  obtain ⟨h, x2, x3⟩ := s
  show XW X 30 [some (.ref x0), some (.int x1), some (.int x2), some (.int x3), none] [] h n sl
  replace hm : fX9_pictures_b30 x0 x1 h x2 x3 = some o := hm
  unfold fX9_pictures_b30 at hm
  refine xw_iload_n (pc := 30) (i := 3) (x := x3) C dX9_pictures_30 rfl rfl ?_
  refine xw_aload_n (pc := 31) (i := 0) (x := x0) C dX9_pictures_31 rfl rfl ?_
  obtain ⟨_, q10, hm⟩ := xbind hm
  obtain ⟨v11, q12, hm⟩ := xbind hm
  refine xw_callV1 (pc := 32) (As := []) (st := [.int x3]) C dX9_pictures_32 (wX9_flashes q12) dd_X9_flashes lk_X9_126 dv_X9_flashes (xco_spec q10) rfl (Nat.le_of_ble_eq_true rfl) (Nat.le_of_ble_eq_true rfl) (Nat.le_of_ble_eq_true rfl) ⟨Nat.le_refl _, Nat.le_refl _⟩ hN ?_
  refine xw_icmp_ge (pc := 35) (tgt := 84) C dX9_pictures_35 (by decide) (fun q => ?_) (fun q => ?_)
  · replace hm := xif_t q hm
    obtain rfl := Option.some.inj hm
    refine xw_sub (pc := 84) _ ?_ (he _ rfl)
    exact ⟨Or.inl rfl, Or.inl rfl, Or.inr rfl, Or.inl rfl, Or.inl rfl, trivial⟩
  · replace hm := xif_f q hm
    refine xw_aload_n (pc := 38) (i := 0) (x := x0) C dX9_pictures_38 rfl rfl ?_
    obtain ⟨v13, q14, hm⟩ := xbind hm
    refine xw_getR (pc := 39) C dX9_pictures_39 fl_X9_13 q14 ?_
    refine xw_aload_n (pc := 42) (i := 0) (x := x0) C dX9_pictures_42 rfl rfl ?_
    refine xw_iload_n (pc := 43) (i := 3) (x := x3) C dX9_pictures_43 rfl rfl ?_
    obtain ⟨_, q15, hm⟩ := xbind hm
    obtain ⟨v16, q17, hm⟩ := xbind hm
    refine xw_callV1 (pc := 44) (As := [.int x3]) (st := [.ref v13]) C dX9_pictures_44 (wX9_tickOfFlash q17) dd_X9_tickOfFlash lk_X9_129 dv_X9_tickOfFlash (xco_spec q15) rfl (Nat.le_of_ble_eq_true rfl) (Nat.le_of_ble_eq_true rfl) (Nat.le_of_ble_eq_true rfl) ⟨Nat.le_refl _, Nat.le_refl _⟩ hN ?_
    obtain ⟨v18, q19, hm⟩ := xbind hm
    refine xw_iaload (pc := 47) C dX9_pictures_47 q19 ?_
    refine xw_iload_n (pc := 48) (i := 1) (x := x1) C dX9_pictures_48 rfl rfl ?_
    obtain ⟨q20, hm⟩ := xif_n hm
    refine xw_irem (pc := 49) C dX9_pictures_49 q20 ?_
    refine xw_istore (pc := 50) (i := 4) (x := (xrem v18 x1)) (L' := [some (.ref x0), some (.int x1), some (.int x2), some (.int x3), some (.int (xrem v18 x1))]) C dX9_pictures_50 (Nat.le_of_ble_eq_true rfl) rfl ?_
    refine xw_iload_n (pc := 52) (i := 2) (x := x2) C dX9_pictures_52 rfl rfl ?_
    refine xw_aload_n (pc := 53) (i := 0) (x := x0) C dX9_pictures_53 rfl rfl ?_
    obtain ⟨v21, q22, hm⟩ := xbind hm
    refine xw_getR (pc := 54) C dX9_pictures_54 fl_X9_19 q22 ?_
    refine xw_iload (pc := 57) (i := 4) (x := (xrem v18 x1)) C dX9_pictures_57 rfl ?_
    obtain ⟨v23, q24, hm⟩ := xbind hm
    refine xw_zaload (pc := 59) C dX9_pictures_59 q24 ?_
    refine xw_if_eq (pc := 60) (tgt := 67) C dX9_pictures_60 (by decide) (fun q => ?_) (fun q => ?_)
    · replace hm := xif_t q hm
      refine xw_iconst (pc := 67) (v := 1) C dX9_pictures_67 xk_i_1 ?_
      exact xw_sub (pc := 68) [some (.ref x0), some (.int x1), none, some (.int x3), some (.int (xrem v18 x1))] ⟨Or.inr rfl, Or.inr rfl, Or.inl rfl, Or.inr rfl, Or.inr rfl, trivial⟩ (fX9_pictures_J68_w C hN hm hc he)
    · replace hm := xif_f q hm
      refine xw_iconst (pc := 63) (v := 0) C dX9_pictures_63 xk_i_0 ?_
      refine xw_goto (pc := 64) (tgt := 68) C dX9_pictures_64 (by decide) ?_
      exact xw_sub (pc := 68) [some (.ref x0), some (.int x1), none, some (.int x3), some (.int (xrem v18 x1))] ⟨Or.inr rfl, Or.inr rfl, Or.inl rfl, Or.inr rfl, Or.inr rfl, trivial⟩ (fX9_pictures_J68_w C hN hm hc he)
set_option maxHeartbeats 4000000 in
set_option maxRecDepth 100000 in
theorem wX9_pictures {l : Launch} {n sl : Nat} {h : XH} {x0 : Nat} {o : Int32 × XH} (hm : fX9_pictures h x0 = some o) : XM l yX9_pictures cX9_pictures 5 (some .int) 2 43 [.ref x0] h n sl (some (.int o.1)) o.2 n sl := by
  refine xm_of pnX9 [some (.ref x0), none, none, none, none] 4 rfl (Nat.le_of_ble_eq_true rfl) ?_
  intro X hT C
  replace C : XOK X RX9 cX9_pictures 5 "pictures" (some .int) 2 43 := C
  obtain ⟨-, hN, hX⟩ := hT
  unfold fX9_pictures at hm
  refine xw_aload_n (pc := 0) (i := 0) (x := x0) C dX9_pictures_0 rfl rfl ?_
  obtain ⟨_, q1, hm⟩ := xbind hm
  obtain ⟨v2, q3, hm⟩ := xbind hm
  refine xw_callV1 (pc := 1) (As := []) (st := []) C dX9_pictures_1 (wX9_measure q3) dd_X9_measure lk_X9_41 dv_X9_measure (xco_spec q1) rfl (Nat.le_of_ble_eq_true rfl) (Nat.le_of_ble_eq_true rfl) (Nat.le_of_ble_eq_true rfl) ⟨Nat.le_refl _, Nat.le_refl _⟩ hN ?_
  refine xw_istore_n (pc := 4) (i := 1) (x := v2) (L' := [some (.ref x0), some (.int v2), none, none, none]) C dX9_pictures_4 rfl (Nat.le_of_ble_eq_true rfl) rfl ?_
  refine xw_iconst (pc := 5) (v := 0) C dX9_pictures_5 xk_i_0 ?_
  refine xw_istore_n (pc := 6) (i := 2) (x := (0 : Int32)) (L' := [some (.ref x0), some (.int v2), some (.int (0 : Int32)), none, none]) C dX9_pictures_6 rfl (Nat.le_of_ble_eq_true rfl) rfl ?_
  refine xw_iconst (pc := 7) (v := 0) C dX9_pictures_7 xk_i_0 ?_
  refine xw_istore_n (pc := 8) (i := 3) (x := (0 : Int32)) (L' := [some (.ref x0), some (.int v2), some (.int (0 : Int32)), some (.int (0 : Int32)), none]) C dX9_pictures_8 rfl (Nat.le_of_ble_eq_true rfl) rfl ?_
  obtain ⟨e8, q9, hm⟩ := xbind hm
  refine xw_sub (pc := 9) [some (.ref x0), some (.int v2), some (.int (0 : Int32)), some (.int (0 : Int32)), none] ⟨Or.inr rfl, Or.inr rfl, Or.inr rfl, Or.inr rfl, Or.inl rfl, trivial⟩ ?_
  refine xloop_walk (fX9_pictures_B9 x0 v2 (0 : Int32)) (fX9_pictures_P9 X x0 v2 (0 : Int32) n sl) (fX9_pictures_E9 X x0 v2 (0 : Int32) n sl) (fun s' o' => fX9_pictures_B9_w C hN s' o') 5000 (h, (0 : Int32)) e8 q9 ?_
  show XW X 28 [some (.ref x0), some (.int v2), some (.int (0 : Int32)), none, none] [] e8 n sl
  refine xw_iconst (pc := 28) (v := 0) C dX9_pictures_28 xk_i_0 ?_
  refine xw_istore_n (pc := 29) (i := 3) (x := (0 : Int32)) (L' := [some (.ref x0), some (.int v2), some (.int (0 : Int32)), some (.int (0 : Int32)), none]) C dX9_pictures_29 rfl (Nat.le_of_ble_eq_true rfl) rfl ?_
  obtain ⟨e29, q30, hm⟩ := xbind hm
  refine xw_sub (pc := 30) [some (.ref x0), some (.int v2), some (.int (0 : Int32)), some (.int (0 : Int32)), none] ⟨Or.inr rfl, Or.inr rfl, Or.inr rfl, Or.inr rfl, Or.inl rfl, trivial⟩ ?_
  refine xloop_walk (fX9_pictures_B30 x0 v2) (fX9_pictures_P30 X x0 v2 n sl) (fX9_pictures_E30 X x0 v2 n sl) (fun s' o' => fX9_pictures_B30_w C hN s' o') 5000 (e8, (0 : Int32), (0 : Int32)) e29 q30 ?_
  show XW X 84 [none, none, some (.int e29.2), none, none] [] e29.1 n sl
  refine xw_iload_n (pc := 84) (i := 2) (x := e29.2) C dX9_pictures_84 rfl rfl ?_
  obtain rfl := Option.some.inj hm
  exact xw_ireturn (pc := 85) C dX9_pictures_85 rfl hX
def fX9_seems_P31 (X : XCtx) (h : XH) (x0 : Nat) (x1 : Int32) (n sl : Nat) (s : (Int32 × Int32)) : Prop := XW X 31 [some (.ref x0), some (.int x1), some (.int s.1), some (.int s.2), none] [] h n sl
def fX9_seems_E31 (X : XCtx) (h : XH) (x0 : Nat) (x1 : Int32) (n sl : Nat) (e : Int32) : Prop := XW X 92 [none, none, some (.int e), none, none] [] h n sl
set_option maxHeartbeats 4000000 in
set_option maxRecDepth 100000 in
theorem fX9_seems_J83_w {X : XCtx} (C : XOK X RX9 cX9_seems 5 "seems" (some .int) 3 67) {n sl : Nat} (hN : XN X n sl)  {h : XH} {x0 : Nat} {x1 : Int32} {x3 : Int32} {s0 : Int32} {o : (Int32 × Int32) ⊕ Int32} (hm : fX9_seems_J83 h x0 x1 x3 s0 = some o) (hc : ∀ s', o = .inl s' → fX9_seems_P31 X h x0 x1 n sl s') (he : ∀ e', o = .inr e' → fX9_seems_E31 X h x0 x1 n sl e') : XW X 83 [some (.ref x0), some (.int x1), none, some (.int x3), none] [.int s0] h n sl := by
  unfold fX9_seems_J83 at hm
  refine xw_iconst (pc := 83) (v := 0) C dX9_seems_83 xk_i_0 ?_
  refine xw_iadd (pc := 84) C dX9_seems_84 ?_
  refine xw_istore_n (pc := 85) (i := 2) (x := (s0 + (0 : Int32))) (L' := [some (.ref x0), some (.int x1), some (.int (s0 + (0 : Int32))), some (.int x3), none]) C dX9_seems_85 rfl (Nat.le_of_ble_eq_true rfl) rfl ?_
  refine xw_iinc (pc := 86) (i := 3) (x := x3) (v := (x3 + (1 : Int32))) (L' := [some (.ref x0), some (.int x1), some (.int (s0 + (0 : Int32))), some (.int (x3 + (1 : Int32))), none]) C dX9_seems_86 rfl (congrArg (HAdd.hAdd _) xk_i_1) (Nat.le_of_ble_eq_true rfl) rfl ?_
  refine xw_goto (pc := 89) (tgt := 31) C dX9_seems_89 (by decide) ?_
  obtain rfl := Option.some.inj hm
  refine xw_sub (pc := 31) _ ?_ (hc _ rfl)
  exact ⟨Or.inr rfl, Or.inr rfl, Or.inr rfl, Or.inr rfl, Or.inl rfl, trivial⟩
set_option maxHeartbeats 4000000 in
set_option maxRecDepth 100000 in
theorem fX9_seems_J79_w {X : XCtx} (C : XOK X RX9 cX9_seems 5 "seems" (some .int) 3 67) {n sl : Nat} (hN : XN X n sl)  {h : XH} {x0 : Nat} {x1 : Int32} {x3 : Int32} {s0 : Int32} {o : (Int32 × Int32) ⊕ Int32} (hm : fX9_seems_J79 h x0 x1 x3 s0 = some o) (hc : ∀ s', o = .inl s' → fX9_seems_P31 X h x0 x1 n sl s') (he : ∀ e', o = .inr e' → fX9_seems_E31 X h x0 x1 n sl e') : XW X 79 [some (.ref x0), some (.int x1), none, some (.int x3), none] [.int s0] h n sl := by
  unfold fX9_seems_J79 at hm
  refine xw_iconst (pc := 79) (v := 1) C dX9_seems_79 xk_i_1 ?_
  refine xw_goto (pc := 80) (tgt := 84) C dX9_seems_80 (by decide) ?_
  refine xw_iadd (pc := 84) C dX9_seems_84 ?_
  refine xw_istore_n (pc := 85) (i := 2) (x := (s0 + (1 : Int32))) (L' := [some (.ref x0), some (.int x1), some (.int (s0 + (1 : Int32))), some (.int x3), none]) C dX9_seems_85 rfl (Nat.le_of_ble_eq_true rfl) rfl ?_
  refine xw_iinc (pc := 86) (i := 3) (x := x3) (v := (x3 + (1 : Int32))) (L' := [some (.ref x0), some (.int x1), some (.int (s0 + (1 : Int32))), some (.int (x3 + (1 : Int32))), none]) C dX9_seems_86 rfl (congrArg (HAdd.hAdd _) xk_i_1) (Nat.le_of_ble_eq_true rfl) rfl ?_
  refine xw_goto (pc := 89) (tgt := 31) C dX9_seems_89 (by decide) ?_
  obtain rfl := Option.some.inj hm
  refine xw_sub (pc := 31) _ ?_ (hc _ rfl)
  exact ⟨Or.inr rfl, Or.inr rfl, Or.inr rfl, Or.inr rfl, Or.inl rfl, trivial⟩
set_option maxHeartbeats 4000000 in
set_option maxRecDepth 100000 in
theorem fX9_seems_B31_w {X : XCtx} (C : XOK X RX9 cX9_seems 5 "seems" (some .int) 3 67) {n sl : Nat} (hN : XN X n sl) {h : XH} {x0 : Nat} {x1 : Int32} (s : (Int32 × Int32)) (o : (Int32 × Int32) ⊕ Int32) (hm : fX9_seems_B31 h x0 x1 s = some o) (hc : ∀ s', o = .inl s' → fX9_seems_P31 X h x0 x1 n sl s') (he : ∀ e', o = .inr e' → fX9_seems_E31 X h x0 x1 n sl e') : fX9_seems_P31 X h x0 x1 n sl s := by
  obtain ⟨x2, x3⟩ := s
  show XW X 31 [some (.ref x0), some (.int x1), some (.int x2), some (.int x3), none] [] h n sl
  replace hm : fX9_seems_b31 h x0 x1 x2 x3 = some o := hm
  unfold fX9_seems_b31 at hm
  refine xw_iload_n (pc := 31) (i := 3) (x := x3) C dX9_seems_31 rfl rfl ?_
  refine xw_iconst (pc := 32) (v := 1) C dX9_seems_32 xk_i_1 ?_
  refine xw_iadd (pc := 33) C dX9_seems_33 ?_
  refine xw_aload_n (pc := 34) (i := 0) (x := x0) C dX9_seems_34 rfl rfl ?_
  obtain ⟨_, q6, hm⟩ := xbind hm
  obtain ⟨v7, q8, hm⟩ := xbind hm
  refine xw_callV1 (pc := 35) (As := []) (st := [.int (x3 + (1 : Int32))]) C dX9_seems_35 (wX9_flashes q8) dd_X9_flashes lk_X9_126 dv_X9_flashes (xco_spec q6) rfl (Nat.le_of_ble_eq_true rfl) (Nat.le_of_ble_eq_true rfl) (Nat.le_of_ble_eq_true rfl) ⟨Nat.le_refl _, Nat.le_refl _⟩ hN ?_
  refine xw_icmp_ge (pc := 38) (tgt := 92) C dX9_seems_38 (by decide) (fun q => ?_) (fun q => ?_)
  · replace hm := xif_t q hm
    obtain rfl := Option.some.inj hm
    refine xw_sub (pc := 92) _ ?_ (he _ rfl)
    exact ⟨Or.inl rfl, Or.inl rfl, Or.inr rfl, Or.inl rfl, Or.inl rfl, trivial⟩
  · replace hm := xif_f q hm
    refine xw_aload_n (pc := 41) (i := 0) (x := x0) C dX9_seems_41 rfl rfl ?_
    refine xw_iload_n (pc := 42) (i := 3) (x := x3) C dX9_seems_42 rfl rfl ?_
    obtain ⟨_, q9, hm⟩ := xbind hm
    obtain ⟨v10, q11, hm⟩ := xbind hm
    refine xw_callV1 (pc := 43) (As := [.int x3]) (st := []) C dX9_seems_43 (wX9_stepBehind q11) dd_X9_stepBehind lk_X9_138 dv_X9_stepBehind (xco_spec q9) rfl (Nat.le_of_ble_eq_true rfl) (Nat.le_of_ble_eq_true rfl) (Nat.le_of_ble_eq_true rfl) ⟨Nat.le_refl _, Nat.le_refl _⟩ hN ?_
    refine xw_istore (pc := 46) (i := 4) (x := v10) (L' := [some (.ref x0), some (.int x1), some (.int x2), some (.int x3), some (.int v10)]) C dX9_seems_46 (Nat.le_of_ble_eq_true rfl) rfl ?_
    refine xw_iload_n (pc := 48) (i := 2) (x := x2) C dX9_seems_48 rfl rfl ?_
    refine xw_iload_n (pc := 49) (i := 1) (x := x1) C dX9_seems_49 rfl rfl ?_
    refine xw_if_ne (pc := 50) (tgt := 61) C dX9_seems_50 (by decide) (fun q => ?_) (fun q => ?_)
    · replace hm := xif_f q hm
      refine xw_iload_n (pc := 61) (i := 1) (x := x1) C dX9_seems_61 rfl rfl ?_
      refine xw_iconst (pc := 62) (v := 1) C dX9_seems_62 xk_i_1 ?_
      refine xw_icmp_ne (pc := 63) (tgt := 74) C dX9_seems_63 (by decide) (fun q => ?_) (fun q => ?_)
      · replace hm := xif_f q hm
        refine xw_iload (pc := 74) (i := 4) (x := v10) C dX9_seems_74 rfl ?_
        refine xw_if_ge (pc := 76) (tgt := 83) C dX9_seems_76 (by decide) (fun q => ?_) (fun q => ?_)
        · replace hm := xif_t q hm
          exact xw_sub (pc := 83) [some (.ref x0), some (.int x1), none, some (.int x3), none] ⟨Or.inr rfl, Or.inr rfl, Or.inl rfl, Or.inr rfl, Or.inl rfl, trivial⟩ (fX9_seems_J83_w C hN hm hc he)
        · replace hm := xif_f q hm
          exact xw_sub (pc := 79) [some (.ref x0), some (.int x1), none, some (.int x3), none] ⟨Or.inr rfl, Or.inr rfl, Or.inl rfl, Or.inr rfl, Or.inl rfl, trivial⟩ (fX9_seems_J79_w C hN hm hc he)
      · replace hm := xif_t q hm
        refine xw_iload (pc := 66) (i := 4) (x := v10) C dX9_seems_66 rfl ?_
        refine xw_if_le (pc := 68) (tgt := 83) C dX9_seems_68 (by decide) (fun q => ?_) (fun q => ?_)
        · replace hm := xif_t q hm
          exact xw_sub (pc := 83) [some (.ref x0), some (.int x1), none, some (.int x3), none] ⟨Or.inr rfl, Or.inr rfl, Or.inl rfl, Or.inr rfl, Or.inl rfl, trivial⟩ (fX9_seems_J83_w C hN hm hc he)
        · replace hm := xif_f q hm
          refine xw_goto (pc := 71) (tgt := 79) C dX9_seems_71 (by decide) ?_
          exact xw_sub (pc := 79) [some (.ref x0), some (.int x1), none, some (.int x3), none] ⟨Or.inr rfl, Or.inr rfl, Or.inl rfl, Or.inr rfl, Or.inl rfl, trivial⟩ (fX9_seems_J79_w C hN hm hc he)
    · replace hm := xif_t q hm
      refine xw_iload (pc := 53) (i := 4) (x := v10) C dX9_seems_53 rfl ?_
      refine xw_if_ne (pc := 55) (tgt := 83) C dX9_seems_55 (by decide) (fun q => ?_) (fun q => ?_)
      · replace hm := xif_f q hm
        exact xw_sub (pc := 83) [some (.ref x0), some (.int x1), none, some (.int x3), none] ⟨Or.inr rfl, Or.inr rfl, Or.inl rfl, Or.inr rfl, Or.inl rfl, trivial⟩ (fX9_seems_J83_w C hN hm hc he)
      · replace hm := xif_t q hm
        refine xw_goto (pc := 58) (tgt := 79) C dX9_seems_58 (by decide) ?_
        exact xw_sub (pc := 79) [some (.ref x0), some (.int x1), none, some (.int x3), none] ⟨Or.inr rfl, Or.inr rfl, Or.inl rfl, Or.inr rfl, Or.inl rfl, trivial⟩ (fX9_seems_J79_w C hN hm hc he)
set_option maxHeartbeats 4000000 in
set_option maxRecDepth 100000 in
theorem wX9_seems {l : Launch} {n sl : Nat} {h : XH} {x0 : Nat} {x1 : Int32} {o : Int32 × XH} (hm : fX9_seems h x0 x1 = some o) : XM l yX9_seems cX9_seems 5 (some .int) 3 67 [.ref x0, .int x1] h n sl (some (.int o.1)) o.2 n sl := by
  refine xm_of pnX9 [some (.ref x0), some (.int x1), none, none, none] 3 rfl (Nat.le_of_ble_eq_true rfl) ?_
  intro X hT C
  replace C : XOK X RX9 cX9_seems 5 "seems" (some .int) 3 67 := C
  obtain ⟨-, hN, hX⟩ := hT
  unfold fX9_seems at hm
  refine xw_iload_n (pc := 0) (i := 1) (x := x1) C dX9_seems_0 rfl rfl ?_
  refine xw_iconst (pc := 1) (v := 0) C dX9_seems_1 xk_i_0 ?_
  refine xw_iconst (pc := 2) (v := 3) C dX9_seems_2 xk_i_3 ?_
  obtain ⟨v1, q2, hm⟩ := xbind hm
  refine xw_callS1 (pc := 3) (As := [.int x1, .int (0 : Int32), .int (3 : Int32)]) (st := []) C dX9_seems_3 (wX9_in q2) dd_X9_in lk_X9_55 ds_X9_in rfl (Nat.le_of_ble_eq_true rfl) (Nat.le_of_ble_eq_true rfl) (Nat.le_of_ble_eq_true rfl) ⟨Nat.le_refl _, Nat.le_refl _⟩ hN ?_
  refine xw_if_neZ (pc := 6) (b := v1) (tgt := 13) C dX9_seems_6 (by decide) (fun q => ?_) (fun q => ?_)
  · replace hm := xif_t q hm
    refine xw_aload_n (pc := 13) (i := 0) (x := x0) C dX9_seems_13 rfl rfl ?_
    obtain ⟨_, q3, hm⟩ := xbind hm
    obtain ⟨h4, q5, hm⟩ := xbind hm
    refine xw_callV0 (pc := 14) (As := []) (st := []) C dX9_seems_14 (wX9_laysTurns q5) dd_X9_laysTurns lk_X9_120 dv_X9_laysTurns (xco_spec q3) rfl (Nat.le_of_ble_eq_true rfl) (Nat.le_of_ble_eq_true rfl) (Nat.le_of_ble_eq_true rfl) ⟨Nat.le_refl _, Nat.le_refl _⟩ hN ?_
    refine xw_iload_n (pc := 17) (i := 1) (x := x1) C dX9_seems_17 rfl rfl ?_
    refine xw_iconst (pc := 18) (v := 3) C dX9_seems_18 xk_i_3 ?_
    refine xw_icmp_ne (pc := 19) (tgt := 27) C dX9_seems_19 (by decide) (fun q => ?_) (fun q => ?_)
    · replace hm := xif_f q hm
      refine xw_iconst (pc := 27) (v := 0) C dX9_seems_27 xk_i_0 ?_
      refine xw_istore_n (pc := 28) (i := 2) (x := (0 : Int32)) (L' := [some (.ref x0), some (.int x1), some (.int (0 : Int32)), none, none]) C dX9_seems_28 rfl (Nat.le_of_ble_eq_true rfl) rfl ?_
      refine xw_iconst (pc := 29) (v := 0) C dX9_seems_29 xk_i_0 ?_
      refine xw_istore_n (pc := 30) (i := 3) (x := (0 : Int32)) (L' := [some (.ref x0), some (.int x1), some (.int (0 : Int32)), some (.int (0 : Int32)), none]) C dX9_seems_30 rfl (Nat.le_of_ble_eq_true rfl) rfl ?_
      obtain ⟨e12, q13, hm⟩ := xbind hm
      refine xw_sub (pc := 31) [some (.ref x0), some (.int x1), some (.int (0 : Int32)), some (.int (0 : Int32)), none] ⟨Or.inr rfl, Or.inr rfl, Or.inr rfl, Or.inr rfl, Or.inl rfl, trivial⟩ ?_
      refine xloop_walk (fX9_seems_B31 h4 x0 x1) (fX9_seems_P31 X h4 x0 x1 n sl) (fX9_seems_E31 X h4 x0 x1 n sl) (fun s' o' => fX9_seems_B31_w C hN s' o') 5000 ((0 : Int32), (0 : Int32)) e12 q13 ?_
      show XW X 92 [none, none, some (.int e12), none, none] [] h4 n sl
      refine xw_iload_n (pc := 92) (i := 2) (x := e12) C dX9_seems_92 rfl rfl ?_
      obtain rfl := Option.some.inj hm
      exact xw_ireturn (pc := 93) C dX9_seems_93 rfl hX
    · replace hm := xif_t q hm
      refine xw_aload_n (pc := 22) (i := 0) (x := x0) C dX9_seems_22 rfl rfl ?_
      obtain ⟨_, q14, hm⟩ := xbind hm
      obtain ⟨v15, q16, hm⟩ := xbind hm
      refine xw_callV1 (pc := 23) (As := []) (st := []) C dX9_seems_23 (wX9_pictures q16) dd_X9_pictures lk_X9_144 dv_X9_pictures (xco_spec q14) rfl (Nat.le_of_ble_eq_true rfl) (Nat.le_of_ble_eq_true rfl) (Nat.le_of_ble_eq_true rfl) ⟨Nat.le_refl _, Nat.le_refl _⟩ hN ?_
      obtain rfl := Option.some.inj hm
      exact xw_ireturn (pc := 26) C dX9_seems_26 rfl hX
  · replace hm := xif_f q hm
    refine xw_sipush (pc := 9) (v := -1001) C dX9_seems_9 xk_s_m1001 ?_
    obtain rfl := Option.some.inj hm
    exact xw_ireturn (pc := 12) C dX9_seems_12 rfl hX
set_option maxHeartbeats 4000000 in
set_option maxRecDepth 100000 in
theorem wX9_smear {l : Launch} {n sl : Nat} {h : XH} {x0 : Nat} {x1 : Int32} {x2 : Int32} {o : Int32 × XH} (hm : fX9_smear h x0 x1 x2 = some o) : XM l yX9_smear cX9_smear 3 (some .int) 3 70 [.ref x0, .int x1, .int x2] h n sl (some (.int o.1)) o.2 n sl := by
  refine xm_of pnX9 [some (.ref x0), some (.int x1), some (.int x2)] 0 rfl (Nat.le_of_ble_eq_true rfl) ?_
  intro X hT C
  replace C : XOK X RX9 cX9_smear 3 "smear" (some .int) 3 70 := C
  obtain ⟨-, hN, hX⟩ := hT
  unfold fX9_smear at hm
  refine xw_iload_n (pc := 0) (i := 1) (x := x1) C dX9_smear_0 rfl rfl ?_
  refine xw_if_lt (pc := 1) (tgt := 12) C dX9_smear_1 (by decide) (fun q => ?_) (fun q => ?_)
  · replace hm := xif_t q hm
    refine xw_sipush (pc := 12) (v := -1001) C dX9_smear_12 xk_s_m1001 ?_
    obtain rfl := Option.some.inj hm
    exact xw_ireturn (pc := 15) C dX9_smear_15 rfl hX
  · replace hm := xif_f q hm
    refine xw_aload_n (pc := 4) (i := 0) (x := x0) C dX9_smear_4 rfl rfl ?_
    refine xw_iload_n (pc := 5) (i := 2) (x := x2) C dX9_smear_5 rfl rfl ?_
    obtain ⟨_, q1, hm⟩ := xbind hm
    obtain ⟨v2, q3, hm⟩ := xbind hm
    refine xw_callV1 (pc := 6) (As := [.int x2]) (st := []) C dX9_smear_6 (wX9_isCell q3) dd_X9_isCell lk_X9_104 dv_X9_isCell (xco_spec q1) rfl (Nat.le_of_ble_eq_true rfl) (Nat.le_of_ble_eq_true rfl) (Nat.le_of_ble_eq_true rfl) ⟨Nat.le_refl _, Nat.le_refl _⟩ hN ?_
    refine xw_if_neZ (pc := 9) (b := v2) (tgt := 16) C dX9_smear_9 (by decide) (fun q => ?_) (fun q => ?_)
    · replace hm := xif_t q hm
      refine xw_aload_n (pc := 16) (i := 0) (x := x0) C dX9_smear_16 rfl rfl ?_
      refine xw_iload_n (pc := 17) (i := 1) (x := x1) C dX9_smear_17 rfl rfl ?_
      obtain ⟨_, q4, hm⟩ := xbind hm
      obtain ⟨v5, q6, hm⟩ := xbind hm
      refine xw_callV1 (pc := 18) (As := [.int x1]) (st := []) C dX9_smear_18 (wX9_goesTo q6) dd_X9_goesTo lk_X9_178 dv_X9_goesTo (xco_spec q4) rfl (Nat.le_of_ble_eq_true rfl) (Nat.le_of_ble_eq_true rfl) (Nat.le_of_ble_eq_true rfl) ⟨Nat.le_refl _, Nat.le_refl _⟩ hN ?_
      refine xw_iload_n (pc := 21) (i := 1) (x := x1) C dX9_smear_21 rfl rfl ?_
      refine xw_icmp_gt (pc := 22) (tgt := 29) C dX9_smear_22 (by decide) (fun q => ?_) (fun q => ?_)
      · replace hm := xif_t q hm
        refine xw_aload_n (pc := 29) (i := 0) (x := x0) C dX9_smear_29 rfl rfl ?_
        obtain ⟨_, q7, hm⟩ := xbind hm
        obtain ⟨h8, q9, hm⟩ := xbind hm
        refine xw_callV0 (pc := 30) (As := []) (st := []) C dX9_smear_30 (wX9_laysTurns q9) dd_X9_laysTurns lk_X9_120 dv_X9_laysTurns (xco_spec q7) rfl (Nat.le_of_ble_eq_true rfl) (Nat.le_of_ble_eq_true rfl) (Nat.le_of_ble_eq_true rfl) ⟨Nat.le_refl _, Nat.le_refl _⟩ hN ?_
        refine xw_aload_n (pc := 33) (i := 0) (x := x0) C dX9_smear_33 rfl rfl ?_
        refine xw_iload_n (pc := 34) (i := 2) (x := x2) C dX9_smear_34 rfl rfl ?_
        obtain ⟨_, q10, hm⟩ := xbind hm
        obtain ⟨v11, q12, hm⟩ := xbind hm
        refine xw_callV1 (pc := 35) (As := [.int x2]) (st := []) C dX9_smear_35 (wX9_smearAt q12) dd_X9_smearAt lk_X9_175 dv_X9_smearAt (xco_spec q10) rfl (Nat.le_of_ble_eq_true rfl) (Nat.le_of_ble_eq_true rfl) (Nat.le_of_ble_eq_true rfl) ⟨Nat.le_refl _, Nat.le_refl _⟩ hN ?_
        obtain rfl := Option.some.inj hm
        exact xw_ireturn (pc := 38) C dX9_smear_38 rfl hX
      · replace hm := xif_f q hm
        refine xw_sipush (pc := 25) (v := -1004) C dX9_smear_25 xk_s_m1004 ?_
        obtain rfl := Option.some.inj hm
        exact xw_ireturn (pc := 28) C dX9_smear_28 rfl hX
    · replace hm := xif_f q hm
      refine xw_sipush (pc := 12) (v := -1001) C dX9_smear_12 xk_s_m1001 ?_
      obtain rfl := Option.some.inj hm
      exact xw_ireturn (pc := 15) C dX9_smear_15 rfl hX
def fX9_digest_P9 (X : XCtx) (x0 : Nat) (n sl : Nat) (s : (XH × Int32)) : Prop := XW X 9 [some (.ref x0), some (.int s.2), none] [] s.1 n sl
def fX9_digest_E9 (X : XCtx) (x0 : Nat) (n sl : Nat) (e : XH) : Prop := XW X 30 [some (.ref x0), none, none] [] e n sl
set_option maxHeartbeats 4000000 in
set_option maxRecDepth 100000 in
theorem fX9_digest_B9_w {X : XCtx} (C : XOK X RX9 cX9_digest 3 "digest" (some .long) 5 118) {n sl : Nat} (hN : XN X n sl) {x0 : Nat} (s : (XH × Int32)) (o : (XH × Int32) ⊕ XH) (hm : fX9_digest_B9 x0 s = some o) (hc : ∀ s', o = .inl s' → fX9_digest_P9 X x0 n sl s') (he : ∀ e', o = .inr e' → fX9_digest_E9 X x0 n sl e') : fX9_digest_P9 X x0 n sl s := by
  obtain ⟨h, x1⟩ := s
  show XW X 9 [some (.ref x0), some (.int x1), none] [] h n sl
  replace hm : fX9_digest_b9 x0 h x1 = some o := hm
  unfold fX9_digest_b9 at hm
  refine xw_iload_n (pc := 9) (i := 1) (x := x1) C dX9_digest_9 rfl rfl ?_
  refine xw_bipush (pc := 10) (v := 18) C dX9_digest_10 xk_b_18 ?_
  refine xw_icmp_ge (pc := 12) (tgt := 30) C dX9_digest_12 (by decide) (fun q => ?_) (fun q => ?_)
  · replace hm := xif_t q hm
    obtain rfl := Option.some.inj hm
    refine xw_sub (pc := 30) _ ?_ (he _ rfl)
    exact ⟨Or.inr rfl, Or.inl rfl, Or.inl rfl, trivial⟩
  · replace hm := xif_f q hm
    refine xw_aload_n (pc := 15) (i := 0) (x := x0) C dX9_digest_15 rfl rfl ?_
    refine xw_aload_n (pc := 16) (i := 0) (x := x0) C dX9_digest_16 rfl rfl ?_
    refine xw_iload_n (pc := 17) (i := 1) (x := x1) C dX9_digest_17 rfl rfl ?_
    obtain ⟨_, q3, hm⟩ := xbind hm
    obtain ⟨v4, q5, hm⟩ := xbind hm
    refine xw_callV1 (pc := 18) (As := [.int x1]) (st := [.ref x0]) C dX9_digest_18 (wX9_count q5) dd_X9_count lk_X9_217 dv_X9_count (xco_spec q3) rfl (Nat.le_of_ble_eq_true rfl) (Nat.le_of_ble_eq_true rfl) (Nat.le_of_ble_eq_true rfl) ⟨Nat.le_refl _, Nat.le_refl _⟩ hN ?_
    obtain ⟨_, q6, hm⟩ := xbind hm
    obtain ⟨h7, q8, hm⟩ := xbind hm
    refine xw_callV0 (pc := 21) (As := [.int v4.1]) (st := []) C dX9_digest_21 (wX9_mixes q8) dd_X9_mixes lk_X9_199 dv_X9_mixes (xco_spec q6) rfl (Nat.le_of_ble_eq_true rfl) (Nat.le_of_ble_eq_true rfl) (Nat.le_of_ble_eq_true rfl) ⟨Nat.le_refl _, Nat.le_refl _⟩ hN ?_
    refine xw_iinc (pc := 24) (i := 1) (x := x1) (v := (x1 + (1 : Int32))) (L' := [some (.ref x0), some (.int (x1 + (1 : Int32))), none]) C dX9_digest_24 rfl (congrArg (HAdd.hAdd _) xk_i_1) (Nat.le_of_ble_eq_true rfl) rfl ?_
    refine xw_goto (pc := 27) (tgt := 9) C dX9_digest_27 (by decide) ?_
    obtain rfl := Option.some.inj hm
    refine xw_sub (pc := 9) _ ?_ (hc _ rfl)
    exact ⟨Or.inr rfl, Or.inr rfl, Or.inl rfl, trivial⟩
def fX9_digest_P32 (X : XCtx) (x0 : Nat) (n sl : Nat) (s : (XH × Int32)) : Prop := XW X 32 [some (.ref x0), some (.int s.2), none] [] s.1 n sl
def fX9_digest_E32 (X : XCtx) (x0 : Nat) (n sl : Nat) (e : XH) : Prop := XW X 68 [some (.ref x0), none, none] [] e n sl
set_option maxHeartbeats 4000000 in
set_option maxRecDepth 100000 in
theorem fX9_digest_B32_w {X : XCtx} (C : XOK X RX9 cX9_digest 3 "digest" (some .long) 5 118) {n sl : Nat} (hN : XN X n sl) {x0 : Nat} (s : (XH × Int32)) (o : (XH × Int32) ⊕ XH) (hm : fX9_digest_B32 x0 s = some o) (hc : ∀ s', o = .inl s' → fX9_digest_P32 X x0 n sl s') (he : ∀ e', o = .inr e' → fX9_digest_E32 X x0 n sl e') : fX9_digest_P32 X x0 n sl s := by
  obtain ⟨h, x1⟩ := s
  show XW X 32 [some (.ref x0), some (.int x1), none] [] h n sl
  replace hm : fX9_digest_b32 x0 h x1 = some o := hm
  unfold fX9_digest_b32 at hm
  refine xw_iload_n (pc := 32) (i := 1) (x := x1) C dX9_digest_32 rfl rfl ?_
  refine xw_aload_n (pc := 33) (i := 0) (x := x0) C dX9_digest_33 rfl rfl ?_
  obtain ⟨_, q11, hm⟩ := xbind hm
  obtain ⟨v12, q13, hm⟩ := xbind hm
  refine xw_callV1 (pc := 34) (As := []) (st := [.int x1]) C dX9_digest_34 (wX9_cells q13) dd_X9_cells lk_X9_37 dv_X9_cells (xco_spec q11) rfl (Nat.le_of_ble_eq_true rfl) (Nat.le_of_ble_eq_true rfl) (Nat.le_of_ble_eq_true rfl) ⟨Nat.le_refl _, Nat.le_refl _⟩ hN ?_
  refine xw_icmp_ge (pc := 37) (tgt := 68) C dX9_digest_37 (by decide) (fun q => ?_) (fun q => ?_)
  · replace hm := xif_t q hm
    obtain rfl := Option.some.inj hm
    refine xw_sub (pc := 68) _ ?_ (he _ rfl)
    exact ⟨Or.inr rfl, Or.inl rfl, Or.inl rfl, trivial⟩
  · replace hm := xif_f q hm
    refine xw_aload_n (pc := 40) (i := 0) (x := x0) C dX9_digest_40 rfl rfl ?_
    refine xw_aload_n (pc := 41) (i := 0) (x := x0) C dX9_digest_41 rfl rfl ?_
    refine xw_iconst (pc := 42) (v := 0) C dX9_digest_42 xk_i_0 ?_
    refine xw_iload_n (pc := 43) (i := 1) (x := x1) C dX9_digest_43 rfl rfl ?_
    obtain ⟨_, q14, hm⟩ := xbind hm
    obtain ⟨v15, q16, hm⟩ := xbind hm
    refine xw_callV1 (pc := 44) (As := [.int (0 : Int32), .int x1]) (st := [.ref x0]) C dX9_digest_44 (wX9_markAt q16) dd_X9_markAt lk_X9_220 dv_X9_markAt (xco_spec q14) rfl (Nat.le_of_ble_eq_true rfl) (Nat.le_of_ble_eq_true rfl) (Nat.le_of_ble_eq_true rfl) ⟨Nat.le_refl _, Nat.le_refl _⟩ hN ?_
    obtain ⟨_, q17, hm⟩ := xbind hm
    obtain ⟨h18, q19, hm⟩ := xbind hm
    refine xw_callV0 (pc := 47) (As := [.int v15.1]) (st := []) C dX9_digest_47 (wX9_mixes q19) dd_X9_mixes lk_X9_199 dv_X9_mixes (xco_spec q17) rfl (Nat.le_of_ble_eq_true rfl) (Nat.le_of_ble_eq_true rfl) (Nat.le_of_ble_eq_true rfl) ⟨Nat.le_refl _, Nat.le_refl _⟩ hN ?_
    refine xw_aload_n (pc := 50) (i := 0) (x := x0) C dX9_digest_50 rfl rfl ?_
    refine xw_aload_n (pc := 51) (i := 0) (x := x0) C dX9_digest_51 rfl rfl ?_
    refine xw_sipush (pc := 52) (v := 1000) C dX9_digest_52 xk_s_1000 ?_
    refine xw_iload_n (pc := 55) (i := 1) (x := x1) C dX9_digest_55 rfl rfl ?_
    obtain ⟨_, q20, hm⟩ := xbind hm
    obtain ⟨v21, q22, hm⟩ := xbind hm
    refine xw_callV1 (pc := 56) (As := [.int (1000 : Int32), .int x1]) (st := [.ref x0]) C dX9_digest_56 (wX9_markAt q22) dd_X9_markAt lk_X9_220 dv_X9_markAt (xco_spec q20) rfl (Nat.le_of_ble_eq_true rfl) (Nat.le_of_ble_eq_true rfl) (Nat.le_of_ble_eq_true rfl) ⟨Nat.le_refl _, Nat.le_refl _⟩ hN ?_
    obtain ⟨_, q23, hm⟩ := xbind hm
    obtain ⟨h24, q25, hm⟩ := xbind hm
    refine xw_callV0 (pc := 59) (As := [.int v21.1]) (st := []) C dX9_digest_59 (wX9_mixes q25) dd_X9_mixes lk_X9_199 dv_X9_mixes (xco_spec q23) rfl (Nat.le_of_ble_eq_true rfl) (Nat.le_of_ble_eq_true rfl) (Nat.le_of_ble_eq_true rfl) ⟨Nat.le_refl _, Nat.le_refl _⟩ hN ?_
    refine xw_iinc (pc := 62) (i := 1) (x := x1) (v := (x1 + (1 : Int32))) (L' := [some (.ref x0), some (.int (x1 + (1 : Int32))), none]) C dX9_digest_62 rfl (congrArg (HAdd.hAdd _) xk_i_1) (Nat.le_of_ble_eq_true rfl) rfl ?_
    refine xw_goto (pc := 65) (tgt := 32) C dX9_digest_65 (by decide) ?_
    obtain rfl := Option.some.inj hm
    refine xw_sub (pc := 32) _ ?_ (hc _ rfl)
    exact ⟨Or.inr rfl, Or.inr rfl, Or.inl rfl, trivial⟩
def fX9_digest_P70 (X : XCtx) (x0 : Nat) (n sl : Nat) (s : (XH × Int32)) : Prop := XW X 70 [some (.ref x0), some (.int s.2), none] [] s.1 n sl
def fX9_digest_E70 (X : XCtx) (x0 : Nat) (n sl : Nat) (e : XH) : Prop := XW X 113 [some (.ref x0), none, none] [] e n sl
def fX9_digest_P86 (X : XCtx) (x0 : Nat) (x1 : Int32) (n sl : Nat) (s : (XH × Int32)) : Prop := XW X 86 [some (.ref x0), some (.int x1), some (.int s.2)] [] s.1 n sl
def fX9_digest_E86 (X : XCtx) (x0 : Nat) (x1 : Int32) (n sl : Nat) (e : XH) : Prop := XW X 107 [some (.ref x0), some (.int x1), none] [] e n sl
set_option maxHeartbeats 4000000 in
set_option maxRecDepth 100000 in
theorem fX9_digest_B86_w {X : XCtx} (C : XOK X RX9 cX9_digest 3 "digest" (some .long) 5 118) {n sl : Nat} (hN : XN X n sl) {x0 : Nat} {x1 : Int32} (s : (XH × Int32)) (o : (XH × Int32) ⊕ XH) (hm : fX9_digest_B86 x0 x1 s = some o) (hc : ∀ s', o = .inl s' → fX9_digest_P86 X x0 x1 n sl s') (he : ∀ e', o = .inr e' → fX9_digest_E86 X x0 x1 n sl e') : fX9_digest_P86 X x0 x1 n sl s := by
  obtain ⟨h, x2⟩ := s
  show XW X 86 [some (.ref x0), some (.int x1), some (.int x2)] [] h n sl
  replace hm : fX9_digest_b86 x0 x1 h x2 = some o := hm
  unfold fX9_digest_b86 at hm
  refine xw_iload_n (pc := 86) (i := 2) (x := x2) C dX9_digest_86 rfl rfl ?_
  refine xw_iconst (pc := 87) (v := 4) C dX9_digest_87 xk_i_4 ?_
  refine xw_icmp_ge (pc := 88) (tgt := 107) C dX9_digest_88 (by decide) (fun q => ?_) (fun q => ?_)
  · replace hm := xif_t q hm
    obtain rfl := Option.some.inj hm
    refine xw_sub (pc := 107) _ ?_ (he _ rfl)
    exact ⟨Or.inr rfl, Or.inr rfl, Or.inl rfl, trivial⟩
  · replace hm := xif_f q hm
    refine xw_aload_n (pc := 91) (i := 0) (x := x0) C dX9_digest_91 rfl rfl ?_
    refine xw_aload_n (pc := 92) (i := 0) (x := x0) C dX9_digest_92 rfl rfl ?_
    refine xw_iload_n (pc := 93) (i := 1) (x := x1) C dX9_digest_93 rfl rfl ?_
    refine xw_iload_n (pc := 94) (i := 2) (x := x2) C dX9_digest_94 rfl rfl ?_
    obtain ⟨_, q31, hm⟩ := xbind hm
    obtain ⟨v32, q33, hm⟩ := xbind hm
    refine xw_callV1 (pc := 95) (As := [.int x1, .int x2]) (st := [.ref x0]) C dX9_digest_95 (wX9_flash q33) dd_X9_flash lk_X9_223 dv_X9_flash (xco_spec q31) rfl (Nat.le_of_ble_eq_true rfl) (Nat.le_of_ble_eq_true rfl) (Nat.le_of_ble_eq_true rfl) ⟨Nat.le_refl _, Nat.le_refl _⟩ hN ?_
    obtain ⟨_, q34, hm⟩ := xbind hm
    obtain ⟨h35, q36, hm⟩ := xbind hm
    refine xw_callV0 (pc := 98) (As := [.int v32.1]) (st := []) C dX9_digest_98 (wX9_mixes q36) dd_X9_mixes lk_X9_199 dv_X9_mixes (xco_spec q34) rfl (Nat.le_of_ble_eq_true rfl) (Nat.le_of_ble_eq_true rfl) (Nat.le_of_ble_eq_true rfl) ⟨Nat.le_refl _, Nat.le_refl _⟩ hN ?_
    refine xw_iinc (pc := 101) (i := 2) (x := x2) (v := (x2 + (1 : Int32))) (L' := [some (.ref x0), some (.int x1), some (.int (x2 + (1 : Int32)))]) C dX9_digest_101 rfl (congrArg (HAdd.hAdd _) xk_i_1) (Nat.le_of_ble_eq_true rfl) rfl ?_
    refine xw_goto (pc := 104) (tgt := 86) C dX9_digest_104 (by decide) ?_
    obtain rfl := Option.some.inj hm
    refine xw_sub (pc := 86) _ ?_ (hc _ rfl)
    exact ⟨Or.inr rfl, Or.inr rfl, Or.inr rfl, trivial⟩
set_option maxHeartbeats 4000000 in
set_option maxRecDepth 100000 in
theorem fX9_digest_B70_w {X : XCtx} (C : XOK X RX9 cX9_digest 3 "digest" (some .long) 5 118) {n sl : Nat} (hN : XN X n sl) {x0 : Nat} (s : (XH × Int32)) (o : (XH × Int32) ⊕ XH) (hm : fX9_digest_B70 x0 s = some o) (hc : ∀ s', o = .inl s' → fX9_digest_P70 X x0 n sl s') (he : ∀ e', o = .inr e' → fX9_digest_E70 X x0 n sl e') : fX9_digest_P70 X x0 n sl s := by
  obtain ⟨h, x1⟩ := s
  show XW X 70 [some (.ref x0), some (.int x1), none] [] h n sl
  replace hm : fX9_digest_b70 x0 h x1 = some o := hm
  unfold fX9_digest_b70 at hm
  refine xw_iload_n (pc := 70) (i := 1) (x := x1) C dX9_digest_70 rfl rfl ?_
  refine xw_bipush (pc := 71) (v := 20) C dX9_digest_71 xk_b_20 ?_
  refine xw_icmp_ge (pc := 73) (tgt := 113) C dX9_digest_73 (by decide) (fun q => ?_) (fun q => ?_)
  · replace hm := xif_t q hm
    obtain rfl := Option.some.inj hm
    refine xw_sub (pc := 113) _ ?_ (he _ rfl)
    exact ⟨Or.inr rfl, Or.inl rfl, Or.inl rfl, trivial⟩
  · replace hm := xif_f q hm
    refine xw_iload_n (pc := 76) (i := 1) (x := x1) C dX9_digest_76 rfl rfl ?_
    refine xw_aload_n (pc := 77) (i := 0) (x := x0) C dX9_digest_77 rfl rfl ?_
    obtain ⟨_, q28, hm⟩ := xbind hm
    obtain ⟨v29, q30, hm⟩ := xbind hm
    refine xw_callV1 (pc := 78) (As := []) (st := [.int x1]) C dX9_digest_78 (wX9_flashes q30) dd_X9_flashes lk_X9_126 dv_X9_flashes (xco_spec q28) rfl (Nat.le_of_ble_eq_true rfl) (Nat.le_of_ble_eq_true rfl) (Nat.le_of_ble_eq_true rfl) ⟨Nat.le_refl _, Nat.le_refl _⟩ hN ?_
    refine xw_icmp_ge (pc := 81) (tgt := 113) C dX9_digest_81 (by decide) (fun q => ?_) (fun q => ?_)
    · replace hm := xif_t q hm
      obtain rfl := Option.some.inj hm
      refine xw_sub (pc := 113) _ ?_ (he _ rfl)
      exact ⟨Or.inr rfl, Or.inl rfl, Or.inl rfl, trivial⟩
    · replace hm := xif_f q hm
      refine xw_iconst (pc := 84) (v := 0) C dX9_digest_84 xk_i_0 ?_
      refine xw_istore_n (pc := 85) (i := 2) (x := (0 : Int32)) (L' := [some (.ref x0), some (.int x1), some (.int (0 : Int32))]) C dX9_digest_85 rfl (Nat.le_of_ble_eq_true rfl) rfl ?_
      obtain ⟨e37, q38, hm⟩ := xbind hm
      refine xw_sub (pc := 86) [some (.ref x0), some (.int x1), some (.int (0 : Int32))] ⟨Or.inr rfl, Or.inr rfl, Or.inr rfl, trivial⟩ ?_
      refine xloop_walk (fX9_digest_B86 x0 x1) (fX9_digest_P86 X x0 x1 n sl) (fX9_digest_E86 X x0 x1 n sl) (fun s' o' => fX9_digest_B86_w C hN s' o') 5000 (h, (0 : Int32)) e37 q38 ?_
      show XW X 107 [some (.ref x0), some (.int x1), none] [] e37 n sl
      refine xw_iinc (pc := 107) (i := 1) (x := x1) (v := (x1 + (1 : Int32))) (L' := [some (.ref x0), some (.int (x1 + (1 : Int32))), none]) C dX9_digest_107 rfl (congrArg (HAdd.hAdd _) xk_i_1) (Nat.le_of_ble_eq_true rfl) rfl ?_
      refine xw_goto (pc := 110) (tgt := 70) C dX9_digest_110 (by decide) ?_
      obtain rfl := Option.some.inj hm
      refine xw_sub (pc := 70) _ ?_ (hc _ rfl)
      exact ⟨Or.inr rfl, Or.inr rfl, Or.inl rfl, trivial⟩
def fX9_digest_P115 (X : XCtx) (x0 : Nat) (n sl : Nat) (s : (XH × Int32)) : Prop := XW X 115 [some (.ref x0), some (.int s.2), none] [] s.1 n sl
def fX9_digest_E115 (X : XCtx) (x0 : Nat) (n sl : Nat) (e : XH) : Prop := XW X 135 [some (.ref x0), none, none] [] e n sl
set_option maxHeartbeats 4000000 in
set_option maxRecDepth 100000 in
theorem fX9_digest_B115_w {X : XCtx} (C : XOK X RX9 cX9_digest 3 "digest" (some .long) 5 118) {n sl : Nat} (hN : XN X n sl) {x0 : Nat} (s : (XH × Int32)) (o : (XH × Int32) ⊕ XH) (hm : fX9_digest_B115 x0 s = some o) (hc : ∀ s', o = .inl s' → fX9_digest_P115 X x0 n sl s') (he : ∀ e', o = .inr e' → fX9_digest_E115 X x0 n sl e') : fX9_digest_P115 X x0 n sl s := by
  obtain ⟨h, x1⟩ := s
  show XW X 115 [some (.ref x0), some (.int x1), none] [] h n sl
  replace hm : fX9_digest_b115 x0 h x1 = some o := hm
  unfold fX9_digest_b115 at hm
  refine xw_iload_n (pc := 115) (i := 1) (x := x1) C dX9_digest_115 rfl rfl ?_
  refine xw_iconst (pc := 116) (v := 4) C dX9_digest_116 xk_i_4 ?_
  refine xw_icmp_ge (pc := 117) (tgt := 135) C dX9_digest_117 (by decide) (fun q => ?_) (fun q => ?_)
  · replace hm := xif_t q hm
    obtain rfl := Option.some.inj hm
    refine xw_sub (pc := 135) _ ?_ (he _ rfl)
    exact ⟨Or.inr rfl, Or.inl rfl, Or.inl rfl, trivial⟩
  · replace hm := xif_f q hm
    refine xw_aload_n (pc := 120) (i := 0) (x := x0) C dX9_digest_120 rfl rfl ?_
    refine xw_aload_n (pc := 121) (i := 0) (x := x0) C dX9_digest_121 rfl rfl ?_
    refine xw_iload_n (pc := 122) (i := 1) (x := x1) C dX9_digest_122 rfl rfl ?_
    obtain ⟨_, q41, hm⟩ := xbind hm
    obtain ⟨v42, q43, hm⟩ := xbind hm
    refine xw_callV1 (pc := 123) (As := [.int x1]) (st := [.ref x0]) C dX9_digest_123 (wX9_seems q43) dd_X9_seems lk_X9_226 dv_X9_seems (xco_spec q41) rfl (Nat.le_of_ble_eq_true rfl) (Nat.le_of_ble_eq_true rfl) (Nat.le_of_ble_eq_true rfl) ⟨Nat.le_refl _, Nat.le_refl _⟩ hN ?_
    obtain ⟨_, q44, hm⟩ := xbind hm
    obtain ⟨h45, q46, hm⟩ := xbind hm
    refine xw_callV0 (pc := 126) (As := [.int v42.1]) (st := []) C dX9_digest_126 (wX9_mixes q46) dd_X9_mixes lk_X9_199 dv_X9_mixes (xco_spec q44) rfl (Nat.le_of_ble_eq_true rfl) (Nat.le_of_ble_eq_true rfl) (Nat.le_of_ble_eq_true rfl) ⟨Nat.le_refl _, Nat.le_refl _⟩ hN ?_
    refine xw_iinc (pc := 129) (i := 1) (x := x1) (v := (x1 + (1 : Int32))) (L' := [some (.ref x0), some (.int (x1 + (1 : Int32))), none]) C dX9_digest_129 rfl (congrArg (HAdd.hAdd _) xk_i_1) (Nat.le_of_ble_eq_true rfl) rfl ?_
    refine xw_goto (pc := 132) (tgt := 115) C dX9_digest_132 (by decide) ?_
    obtain rfl := Option.some.inj hm
    refine xw_sub (pc := 115) _ ?_ (hc _ rfl)
    exact ⟨Or.inr rfl, Or.inr rfl, Or.inl rfl, trivial⟩
def fX9_digest_P141 (X : XCtx) (x0 : Nat) (n sl : Nat) (s : (XH × Int32)) : Prop := XW X 141 [some (.ref x0), some (.int s.2), none] [] s.1 n sl
def fX9_digest_E141 (X : XCtx) (x0 : Nat) (n sl : Nat) (e : XH) : Prop := XW X 185 [some (.ref x0), none, none] [] e n sl
def fX9_digest_P148 (X : XCtx) (x0 : Nat) (x1 : Int32) (n sl : Nat) (s : (XH × Int32)) : Prop := XW X 148 [some (.ref x0), some (.int x1), some (.int s.2)] [] s.1 n sl
def fX9_digest_E148 (X : XCtx) (x0 : Nat) (x1 : Int32) (n sl : Nat) (e : XH) : Prop := XW X 169 [some (.ref x0), some (.int x1), none] [] e n sl
set_option maxHeartbeats 4000000 in
set_option maxRecDepth 100000 in
theorem fX9_digest_B148_w {X : XCtx} (C : XOK X RX9 cX9_digest 3 "digest" (some .long) 5 118) {n sl : Nat} (hN : XN X n sl) {x0 : Nat} {x1 : Int32} (s : (XH × Int32)) (o : (XH × Int32) ⊕ XH) (hm : fX9_digest_B148 x0 x1 s = some o) (hc : ∀ s', o = .inl s' → fX9_digest_P148 X x0 x1 n sl s') (he : ∀ e', o = .inr e' → fX9_digest_E148 X x0 x1 n sl e') : fX9_digest_P148 X x0 x1 n sl s := by
  obtain ⟨h, x2⟩ := s
  show XW X 148 [some (.ref x0), some (.int x1), some (.int x2)] [] h n sl
  replace hm : fX9_digest_b148 x0 x1 h x2 = some o := hm
  unfold fX9_digest_b148 at hm
  refine xw_iload_n (pc := 148) (i := 2) (x := x2) C dX9_digest_148 rfl rfl ?_
  refine xw_iconst (pc := 149) (v := 4) C dX9_digest_149 xk_i_4 ?_
  refine xw_icmp_ge (pc := 150) (tgt := 169) C dX9_digest_150 (by decide) (fun q => ?_) (fun q => ?_)
  · replace hm := xif_t q hm
    obtain rfl := Option.some.inj hm
    refine xw_sub (pc := 169) _ ?_ (he _ rfl)
    exact ⟨Or.inr rfl, Or.inr rfl, Or.inl rfl, trivial⟩
  · replace hm := xif_f q hm
    refine xw_aload_n (pc := 153) (i := 0) (x := x0) C dX9_digest_153 rfl rfl ?_
    refine xw_aload_n (pc := 154) (i := 0) (x := x0) C dX9_digest_154 rfl rfl ?_
    refine xw_iload_n (pc := 155) (i := 1) (x := x1) C dX9_digest_155 rfl rfl ?_
    refine xw_iload_n (pc := 156) (i := 2) (x := x2) C dX9_digest_156 rfl rfl ?_
    obtain ⟨_, q52, hm⟩ := xbind hm
    obtain ⟨v53, q54, hm⟩ := xbind hm
    refine xw_callV1 (pc := 157) (As := [.int x1, .int x2]) (st := [.ref x0]) C dX9_digest_157 (wX9_opening q54) dd_X9_opening lk_X9_232 dv_X9_opening (xco_spec q52) rfl (Nat.le_of_ble_eq_true rfl) (Nat.le_of_ble_eq_true rfl) (Nat.le_of_ble_eq_true rfl) ⟨Nat.le_refl _, Nat.le_refl _⟩ hN ?_
    obtain ⟨_, q55, hm⟩ := xbind hm
    obtain ⟨h56, q57, hm⟩ := xbind hm
    refine xw_callV0 (pc := 160) (As := [.int v53.1]) (st := []) C dX9_digest_160 (wX9_mixes q57) dd_X9_mixes lk_X9_199 dv_X9_mixes (xco_spec q55) rfl (Nat.le_of_ble_eq_true rfl) (Nat.le_of_ble_eq_true rfl) (Nat.le_of_ble_eq_true rfl) ⟨Nat.le_refl _, Nat.le_refl _⟩ hN ?_
    refine xw_iinc (pc := 163) (i := 2) (x := x2) (v := (x2 + (1 : Int32))) (L' := [some (.ref x0), some (.int x1), some (.int (x2 + (1 : Int32)))]) C dX9_digest_163 rfl (congrArg (HAdd.hAdd _) xk_i_1) (Nat.le_of_ble_eq_true rfl) rfl ?_
    refine xw_goto (pc := 166) (tgt := 148) C dX9_digest_166 (by decide) ?_
    obtain rfl := Option.some.inj hm
    refine xw_sub (pc := 148) _ ?_ (hc _ rfl)
    exact ⟨Or.inr rfl, Or.inr rfl, Or.inr rfl, trivial⟩
set_option maxHeartbeats 4000000 in
set_option maxRecDepth 100000 in
theorem fX9_digest_B141_w {X : XCtx} (C : XOK X RX9 cX9_digest 3 "digest" (some .long) 5 118) {n sl : Nat} (hN : XN X n sl) {x0 : Nat} (s : (XH × Int32)) (o : (XH × Int32) ⊕ XH) (hm : fX9_digest_B141 x0 s = some o) (hc : ∀ s', o = .inl s' → fX9_digest_P141 X x0 n sl s') (he : ∀ e', o = .inr e' → fX9_digest_E141 X x0 n sl e') : fX9_digest_P141 X x0 n sl s := by
  obtain ⟨h, x1⟩ := s
  show XW X 141 [some (.ref x0), some (.int x1), none] [] h n sl
  replace hm : fX9_digest_b141 x0 h x1 = some o := hm
  unfold fX9_digest_b141 at hm
  refine xw_iload_n (pc := 141) (i := 1) (x := x1) C dX9_digest_141 rfl rfl ?_
  refine xw_iconst (pc := 142) (v := 5) C dX9_digest_142 xk_i_5 ?_
  refine xw_icmp_ge (pc := 143) (tgt := 185) C dX9_digest_143 (by decide) (fun q => ?_) (fun q => ?_)
  · replace hm := xif_t q hm
    obtain rfl := Option.some.inj hm
    refine xw_sub (pc := 185) _ ?_ (he _ rfl)
    exact ⟨Or.inr rfl, Or.inl rfl, Or.inl rfl, trivial⟩
  · replace hm := xif_f q hm
    refine xw_iconst (pc := 146) (v := 0) C dX9_digest_146 xk_i_0 ?_
    refine xw_istore_n (pc := 147) (i := 2) (x := (0 : Int32)) (L' := [some (.ref x0), some (.int x1), some (.int (0 : Int32))]) C dX9_digest_147 rfl (Nat.le_of_ble_eq_true rfl) rfl ?_
    obtain ⟨e58, q59, hm⟩ := xbind hm
    refine xw_sub (pc := 148) [some (.ref x0), some (.int x1), some (.int (0 : Int32))] ⟨Or.inr rfl, Or.inr rfl, Or.inr rfl, trivial⟩ ?_
    refine xloop_walk (fX9_digest_B148 x0 x1) (fX9_digest_P148 X x0 x1 n sl) (fX9_digest_E148 X x0 x1 n sl) (fun s' o' => fX9_digest_B148_w C hN s' o') 5000 (h, (0 : Int32)) e58 q59 ?_
    show XW X 169 [some (.ref x0), some (.int x1), none] [] e58 n sl
    refine xw_aload_n (pc := 169) (i := 0) (x := x0) C dX9_digest_169 rfl rfl ?_
    refine xw_aload_n (pc := 170) (i := 0) (x := x0) C dX9_digest_170 rfl rfl ?_
    refine xw_iload_n (pc := 171) (i := 1) (x := x1) C dX9_digest_171 rfl rfl ?_
    refine xw_iconst (pc := 172) (v := 0) C dX9_digest_172 xk_i_0 ?_
    obtain ⟨_, q60, hm⟩ := xbind hm
    obtain ⟨v61, q62, hm⟩ := xbind hm
    refine xw_callV1 (pc := 173) (As := [.int x1, .int (0 : Int32)]) (st := [.ref x0]) C dX9_digest_173 (wX9_smear q62) dd_X9_smear lk_X9_235 dv_X9_smear (xco_spec q60) rfl (Nat.le_of_ble_eq_true rfl) (Nat.le_of_ble_eq_true rfl) (Nat.le_of_ble_eq_true rfl) ⟨Nat.le_refl _, Nat.le_refl _⟩ hN ?_
    obtain ⟨_, q63, hm⟩ := xbind hm
    obtain ⟨h64, q65, hm⟩ := xbind hm
    refine xw_callV0 (pc := 176) (As := [.int v61.1]) (st := []) C dX9_digest_176 (wX9_mixes q65) dd_X9_mixes lk_X9_199 dv_X9_mixes (xco_spec q63) rfl (Nat.le_of_ble_eq_true rfl) (Nat.le_of_ble_eq_true rfl) (Nat.le_of_ble_eq_true rfl) ⟨Nat.le_refl _, Nat.le_refl _⟩ hN ?_
    refine xw_iinc (pc := 179) (i := 1) (x := x1) (v := (x1 + (1 : Int32))) (L' := [some (.ref x0), some (.int (x1 + (1 : Int32))), none]) C dX9_digest_179 rfl (congrArg (HAdd.hAdd _) xk_i_1) (Nat.le_of_ble_eq_true rfl) rfl ?_
    refine xw_goto (pc := 182) (tgt := 141) C dX9_digest_182 (by decide) ?_
    obtain rfl := Option.some.inj hm
    refine xw_sub (pc := 141) _ ?_ (hc _ rfl)
    exact ⟨Or.inr rfl, Or.inr rfl, Or.inl rfl, trivial⟩
set_option maxHeartbeats 4000000 in
set_option maxRecDepth 100000 in
theorem wX9_digest {l : Launch} {n sl : Nat} {h : XH} {x0 : Nat} {o : Int64 × XH} (hm : fX9_digest h x0 = some o) : XM l yX9_digest cX9_digest 3 (some .long) 5 118 [.ref x0] h n sl (some (.long o.1)) o.2 n sl := by
  refine xm_of pnX9 [some (.ref x0), none, none] 2 rfl (Nat.le_of_ble_eq_true rfl) ?_
  intro X hT C
  replace C : XOK X RX9 cX9_digest 3 "digest" (some .long) 5 118 := C
  obtain ⟨-, hN, hX⟩ := hT
  unfold fX9_digest at hm
  refine xw_aload_n (pc := 0) (i := 0) (x := x0) C dX9_digest_0 rfl rfl ?_
  refine xw_ldc2 (pc := 1) (v := 12956) C dX9_digest_1 cn_X9_215 ?_
  obtain ⟨h1, q2, hm⟩ := xbind hm
  refine xw_put (pc := 4) C dX9_digest_4 fl_X9_192 q2 (fun _ => rfl) (fun _ => rfl) ?_
  refine xw_iconst (pc := 7) (v := 0) C dX9_digest_7 xk_i_0 ?_
  refine xw_istore_n (pc := 8) (i := 1) (x := (0 : Int32)) (L' := [some (.ref x0), some (.int (0 : Int32)), none]) C dX9_digest_8 rfl (Nat.le_of_ble_eq_true rfl) rfl ?_
  obtain ⟨e9, q10, hm⟩ := xbind hm
  refine xw_sub (pc := 9) [some (.ref x0), some (.int (0 : Int32)), none] ⟨Or.inr rfl, Or.inr rfl, Or.inl rfl, trivial⟩ ?_
  refine xloop_walk (fX9_digest_B9 x0) (fX9_digest_P9 X x0 n sl) (fX9_digest_E9 X x0 n sl) (fun s' o' => fX9_digest_B9_w C hN s' o') 5000 (h1, (0 : Int32)) e9 q10 ?_
  show XW X 30 [some (.ref x0), none, none] [] e9 n sl
  refine xw_iconst (pc := 30) (v := 0) C dX9_digest_30 xk_i_0 ?_
  refine xw_istore_n (pc := 31) (i := 1) (x := (0 : Int32)) (L' := [some (.ref x0), some (.int (0 : Int32)), none]) C dX9_digest_31 rfl (Nat.le_of_ble_eq_true rfl) rfl ?_
  obtain ⟨e26, q27, hm⟩ := xbind hm
  refine xw_sub (pc := 32) [some (.ref x0), some (.int (0 : Int32)), none] ⟨Or.inr rfl, Or.inr rfl, Or.inl rfl, trivial⟩ ?_
  refine xloop_walk (fX9_digest_B32 x0) (fX9_digest_P32 X x0 n sl) (fX9_digest_E32 X x0 n sl) (fun s' o' => fX9_digest_B32_w C hN s' o') 5000 (e9, (0 : Int32)) e26 q27 ?_
  show XW X 68 [some (.ref x0), none, none] [] e26 n sl
  refine xw_iconst (pc := 68) (v := 0) C dX9_digest_68 xk_i_0 ?_
  refine xw_istore_n (pc := 69) (i := 1) (x := (0 : Int32)) (L' := [some (.ref x0), some (.int (0 : Int32)), none]) C dX9_digest_69 rfl (Nat.le_of_ble_eq_true rfl) rfl ?_
  obtain ⟨e39, q40, hm⟩ := xbind hm
  refine xw_sub (pc := 70) [some (.ref x0), some (.int (0 : Int32)), none] ⟨Or.inr rfl, Or.inr rfl, Or.inl rfl, trivial⟩ ?_
  refine xloop_walk (fX9_digest_B70 x0) (fX9_digest_P70 X x0 n sl) (fX9_digest_E70 X x0 n sl) (fun s' o' => fX9_digest_B70_w C hN s' o') 5000 (e26, (0 : Int32)) e39 q40 ?_
  show XW X 113 [some (.ref x0), none, none] [] e39 n sl
  refine xw_iconst (pc := 113) (v := 0) C dX9_digest_113 xk_i_0 ?_
  refine xw_istore_n (pc := 114) (i := 1) (x := (0 : Int32)) (L' := [some (.ref x0), some (.int (0 : Int32)), none]) C dX9_digest_114 rfl (Nat.le_of_ble_eq_true rfl) rfl ?_
  obtain ⟨e47, q48, hm⟩ := xbind hm
  refine xw_sub (pc := 115) [some (.ref x0), some (.int (0 : Int32)), none] ⟨Or.inr rfl, Or.inr rfl, Or.inl rfl, trivial⟩ ?_
  refine xloop_walk (fX9_digest_B115 x0) (fX9_digest_P115 X x0 n sl) (fX9_digest_E115 X x0 n sl) (fun s' o' => fX9_digest_B115_w C hN s' o') 5000 (e39, (0 : Int32)) e47 q48 ?_
  show XW X 135 [some (.ref x0), none, none] [] e47 n sl
  refine xw_aload_n (pc := 135) (i := 0) (x := x0) C dX9_digest_135 rfl rfl ?_
  obtain ⟨_, q49, hm⟩ := xbind hm
  obtain ⟨h50, q51, hm⟩ := xbind hm
  refine xw_callV0 (pc := 136) (As := []) (st := []) C dX9_digest_136 (wX9_mixesReadings q51) dd_X9_mixesReadings lk_X9_229 dv_X9_mixesReadings (xco_spec q49) rfl (Nat.le_of_ble_eq_true rfl) (Nat.le_of_ble_eq_true rfl) (Nat.le_of_ble_eq_true rfl) ⟨Nat.le_refl _, Nat.le_refl _⟩ hN ?_
  refine xw_iconst (pc := 139) (v := 0) C dX9_digest_139 xk_i_0 ?_
  refine xw_istore_n (pc := 140) (i := 1) (x := (0 : Int32)) (L' := [some (.ref x0), some (.int (0 : Int32)), none]) C dX9_digest_140 rfl (Nat.le_of_ble_eq_true rfl) rfl ?_
  obtain ⟨e66, q67, hm⟩ := xbind hm
  refine xw_sub (pc := 141) [some (.ref x0), some (.int (0 : Int32)), none] ⟨Or.inr rfl, Or.inr rfl, Or.inl rfl, trivial⟩ ?_
  refine xloop_walk (fX9_digest_B141 x0) (fX9_digest_P141 X x0 n sl) (fX9_digest_E141 X x0 n sl) (fun s' o' => fX9_digest_B141_w C hN s' o') 5000 (h50, (0 : Int32)) e66 q67 ?_
  show XW X 185 [some (.ref x0), none, none] [] e66 n sl
  refine xw_aload_n (pc := 185) (i := 0) (x := x0) C dX9_digest_185 rfl rfl ?_
  obtain ⟨v68, q69, hm⟩ := xbind hm
  refine xw_getJ (pc := 186) C dX9_digest_186 fl_X9_192 q69 ?_
  obtain rfl := Option.some.inj hm
  exact xw_lreturn (pc := 189) C dX9_digest_189 rfl hX
set_option maxHeartbeats 4000000 in
set_option maxRecDepth 100000 in
theorem wX9_isChange {l : Launch} {n sl : Nat} {h : XH} {x0 : Nat} {x1 : Int32} {o : Bool} (hm : fX9_isChange h x0 x1 = some o) : XM l yX9_isChange cX9_isChange 3 (some .boolean) 2 43 [.ref x0, .int x1] h n sl (some (.int (xbi o))) h n sl := by
  refine xm_of pnX9 [some (.ref x0), some (.int x1), none] 1 rfl (Nat.le_of_ble_eq_true rfl) ?_
  intro X hT C
  replace C : XOK X RX9 cX9_isChange 3 "isChange" (some .boolean) 2 43 := C
  obtain ⟨-, hN, hX⟩ := hT
  unfold fX9_isChange at hm
  refine xw_aload_n (pc := 0) (i := 0) (x := x0) C dX9_isChange_0 rfl rfl ?_
  refine xw_iload_n (pc := 1) (i := 1) (x := x1) C dX9_isChange_1 rfl rfl ?_
  obtain ⟨_, q1, hm⟩ := xbind hm
  obtain ⟨v2, q3, hm⟩ := xbind hm
  refine xw_callV1 (pc := 2) (As := [.int x1]) (st := []) C dX9_isChange_2 (wX9_changeFrom q3) dd_X9_changeFrom lk_X9_111 dv_X9_changeFrom (xco_spec q1) rfl (Nat.le_of_ble_eq_true rfl) (Nat.le_of_ble_eq_true rfl) (Nat.le_of_ble_eq_true rfl) ⟨Nat.le_refl _, Nat.le_refl _⟩ hN ?_
  refine xw_istore_n (pc := 5) (i := 2) (x := v2) (L' := [some (.ref x0), some (.int x1), some (.int v2)]) C dX9_isChange_5 rfl (Nat.le_of_ble_eq_true rfl) rfl ?_
  refine xw_iload_n (pc := 6) (i := 2) (x := v2) C dX9_isChange_6 rfl rfl ?_
  refine xw_aload_n (pc := 7) (i := 0) (x := x0) C dX9_isChange_7 rfl rfl ?_
  obtain ⟨v4, q5, hm⟩ := xbind hm
  refine xw_getR (pc := 8) C dX9_isChange_8 fl_X9_7 q5 ?_
  refine xw_bipush (pc := 11) (v := 63) C dX9_isChange_11 xk_b_63 ?_
  obtain ⟨v6, q7, hm⟩ := xbind hm
  refine xw_iaload (pc := 13) C dX9_isChange_13 q7 ?_
  refine xw_icmp_ge (pc := 14) (tgt := 30) C dX9_isChange_14 (by decide) (fun q => ?_) (fun q => ?_)
  · replace hm := xif_t q hm
    refine xw_iconst (pc := 30) (v := 0) C dX9_isChange_30 xk_i_0 ?_
    obtain rfl := Option.some.inj hm
    exact xw_zreturn (pc := 31) (v := xbi false) C dX9_isChange_31 rfl (xbi_nar _) hX
  · replace hm := xif_f q hm
    refine xw_aload_n (pc := 17) (i := 0) (x := x0) C dX9_isChange_17 rfl rfl ?_
    refine xw_iload_n (pc := 18) (i := 2) (x := v2) C dX9_isChange_18 rfl rfl ?_
    obtain ⟨_, q8, hm⟩ := xbind hm
    obtain ⟨v9, q10, hm⟩ := xbind hm
    refine xw_callV1 (pc := 19) (As := [.int v2]) (st := []) C dX9_isChange_19 (wX9_tickOf q10) dd_X9_tickOf lk_X9_51 dv_X9_tickOf (xco_spec q8) rfl (Nat.le_of_ble_eq_true rfl) (Nat.le_of_ble_eq_true rfl) (Nat.le_of_ble_eq_true rfl) ⟨Nat.le_refl _, Nat.le_refl _⟩ hN ?_
    refine xw_iload_n (pc := 22) (i := 1) (x := x1) C dX9_isChange_22 rfl rfl ?_
    refine xw_icmp_ne (pc := 23) (tgt := 30) C dX9_isChange_23 (by decide) (fun q => ?_) (fun q => ?_)
    · replace hm := xif_f q hm
      refine xw_iconst (pc := 30) (v := 0) C dX9_isChange_30 xk_i_0 ?_
      obtain rfl := Option.some.inj hm
      exact xw_zreturn (pc := 31) (v := xbi false) C dX9_isChange_31 rfl (xbi_nar _) hX
    · replace hm := xif_t q hm
      refine xw_iconst (pc := 26) (v := 1) C dX9_isChange_26 xk_i_1 ?_
      refine xw_goto (pc := 27) (tgt := 31) C dX9_isChange_27 (by decide) ?_
      obtain rfl := Option.some.inj hm
      exact xw_zreturn (pc := 31) (v := xbi true) C dX9_isChange_31 rfl (xbi_nar _) hX
def fX9_dropChange_P37 (X : XCtx) (x0 : Nat) (n sl : Nat) (s : (XH × Int32)) : Prop := XW X 37 [some (.ref x0), none, none, some (.int s.2)] [] s.1 n sl
def fX9_dropChange_E37 (X : XCtx) (x0 : Nat) (n sl : Nat) (e : XH) : Prop := XW X 76 [some (.ref x0), none, none, none] [] e n sl
set_option maxHeartbeats 4000000 in
set_option maxRecDepth 100000 in
theorem fX9_dropChange_B37_w {X : XCtx} (C : XOK X RX9 cX9_dropChange 4 "dropChange" (some .int) 3 65) {n sl : Nat} (hN : XN X n sl) {x0 : Nat} (s : (XH × Int32)) (o : (XH × Int32) ⊕ XH) (hm : fX9_dropChange_B37 x0 s = some o) (hc : ∀ s', o = .inl s' → fX9_dropChange_P37 X x0 n sl s') (he : ∀ e', o = .inr e' → fX9_dropChange_E37 X x0 n sl e') : fX9_dropChange_P37 X x0 n sl s := by
  obtain ⟨h, x3⟩ := s
  show XW X 37 [some (.ref x0), none, none, some (.int x3)] [] h n sl
  replace hm : fX9_dropChange_b37 x0 h x3 = some o := hm
  unfold fX9_dropChange_b37 at hm
  refine xw_iload_n (pc := 37) (i := 3) (x := x3) C dX9_dropChange_37 rfl rfl ?_
  refine xw_iconst (pc := 38) (v := 2) C dX9_dropChange_38 xk_i_2 ?_
  refine xw_aload_n (pc := 39) (i := 0) (x := x0) C dX9_dropChange_39 rfl rfl ?_
  obtain ⟨v16, q17, hm⟩ := xbind hm
  refine xw_getR (pc := 40) C dX9_dropChange_40 fl_X9_7 q17 ?_
  refine xw_bipush (pc := 43) (v := 63) C dX9_dropChange_43 xk_b_63 ?_
  obtain ⟨v18, q19, hm⟩ := xbind hm
  refine xw_iaload (pc := 45) C dX9_dropChange_45 q19 ?_
  refine xw_imul (pc := 46) C dX9_dropChange_46 ?_
  refine xw_icmp_ge (pc := 47) (tgt := 76) C dX9_dropChange_47 (by decide) (fun q => ?_) (fun q => ?_)
  · replace hm := xif_t q hm
    obtain rfl := Option.some.inj hm
    refine xw_sub (pc := 76) _ ?_ (he _ rfl)
    exact ⟨Or.inr rfl, Or.inl rfl, Or.inl rfl, Or.inl rfl, trivial⟩
  · replace hm := xif_f q hm
    refine xw_aload_n (pc := 50) (i := 0) (x := x0) C dX9_dropChange_50 rfl rfl ?_
    obtain ⟨v20, q21, hm⟩ := xbind hm
    refine xw_getR (pc := 51) C dX9_dropChange_51 fl_X9_7 q21 ?_
    refine xw_bipush (pc := 54) (v := 64) C dX9_dropChange_54 xk_b_64 ?_
    refine xw_iload_n (pc := 56) (i := 3) (x := x3) C dX9_dropChange_56 rfl rfl ?_
    refine xw_iadd (pc := 57) C dX9_dropChange_57 ?_
    refine xw_aload_n (pc := 58) (i := 0) (x := x0) C dX9_dropChange_58 rfl rfl ?_
    obtain ⟨v22, q23, hm⟩ := xbind hm
    refine xw_getR (pc := 59) C dX9_dropChange_59 fl_X9_7 q23 ?_
    refine xw_bipush (pc := 62) (v := 64) C dX9_dropChange_62 xk_b_64 ?_
    refine xw_iload_n (pc := 64) (i := 3) (x := x3) C dX9_dropChange_64 rfl rfl ?_
    refine xw_iadd (pc := 65) C dX9_dropChange_65 ?_
    refine xw_iconst (pc := 66) (v := 2) C dX9_dropChange_66 xk_i_2 ?_
    refine xw_iadd (pc := 67) C dX9_dropChange_67 ?_
    obtain ⟨v24, q25, hm⟩ := xbind hm
    refine xw_iaload (pc := 68) C dX9_dropChange_68 q25 ?_
    obtain ⟨h26, q27, hm⟩ := xbind hm
    refine xw_iastore (pc := 69) C dX9_dropChange_69 q27 ?_
    refine xw_iinc (pc := 70) (i := 3) (x := x3) (v := (x3 + (1 : Int32))) (L' := [some (.ref x0), none, none, some (.int (x3 + (1 : Int32)))]) C dX9_dropChange_70 rfl (congrArg (HAdd.hAdd _) xk_i_1) (Nat.le_of_ble_eq_true rfl) rfl ?_
    refine xw_goto (pc := 73) (tgt := 37) C dX9_dropChange_73 (by decide) ?_
    obtain rfl := Option.some.inj hm
    refine xw_sub (pc := 37) _ ?_ (hc _ rfl)
    exact ⟨Or.inr rfl, Or.inl rfl, Or.inl rfl, Or.inr rfl, trivial⟩
set_option maxHeartbeats 4000000 in
set_option maxRecDepth 100000 in
theorem wX9_dropChange {l : Launch} {n sl : Nat} {h : XH} {x0 : Nat} {x1 : Int32} {o : Int32 × XH} (hm : fX9_dropChange h x0 x1 = some o) : XM l yX9_dropChange cX9_dropChange 4 (some .int) 3 65 [.ref x0, .int x1] h n sl (some (.int o.1)) o.2 n sl := by
  refine xm_of pnX9 [some (.ref x0), some (.int x1), none, none] 2 rfl (Nat.le_of_ble_eq_true rfl) ?_
  intro X hT C
  replace C : XOK X RX9 cX9_dropChange 4 "dropChange" (some .int) 3 65 := C
  obtain ⟨-, hN, hX⟩ := hT
  unfold fX9_dropChange at hm
  refine xw_aload_n (pc := 0) (i := 0) (x := x0) C dX9_dropChange_0 rfl rfl ?_
  refine xw_iload_n (pc := 1) (i := 1) (x := x1) C dX9_dropChange_1 rfl rfl ?_
  obtain ⟨_, q1, hm⟩ := xbind hm
  obtain ⟨v2, q3, hm⟩ := xbind hm
  refine xw_callV1 (pc := 2) (As := [.int x1]) (st := []) C dX9_dropChange_2 (wX9_isChange q3) dd_X9_isChange lk_X9_117 dv_X9_isChange (xco_spec q1) rfl (Nat.le_of_ble_eq_true rfl) (Nat.le_of_ble_eq_true rfl) (Nat.le_of_ble_eq_true rfl) ⟨Nat.le_refl _, Nat.le_refl _⟩ hN ?_
  refine xw_if_neZ (pc := 5) (b := v2) (tgt := 12) C dX9_dropChange_5 (by decide) (fun q => ?_) (fun q => ?_)
  · replace hm := xif_t q hm
    refine xw_aload_n (pc := 12) (i := 0) (x := x0) C dX9_dropChange_12 rfl rfl ?_
    obtain ⟨_, q4, hm⟩ := xbind hm
    obtain ⟨h5, q6, hm⟩ := xbind hm
    refine xw_callV0 (pc := 13) (As := []) (st := []) C dX9_dropChange_13 (wX9_records q6) dd_X9_records lk_X9_101 dv_X9_records (xco_spec q4) rfl (Nat.le_of_ble_eq_true rfl) (Nat.le_of_ble_eq_true rfl) (Nat.le_of_ble_eq_true rfl) ⟨Nat.le_refl _, Nat.le_refl _⟩ hN ?_
    refine xw_aload_n (pc := 16) (i := 0) (x := x0) C dX9_dropChange_16 rfl rfl ?_
    refine xw_iload_n (pc := 17) (i := 1) (x := x1) C dX9_dropChange_17 rfl rfl ?_
    obtain ⟨_, q7, hm⟩ := xbind hm
    obtain ⟨v8, q9, hm⟩ := xbind hm
    refine xw_callV1 (pc := 18) (As := [.int x1]) (st := []) C dX9_dropChange_18 (wX9_changeFrom q9) dd_X9_changeFrom lk_X9_111 dv_X9_changeFrom (xco_spec q7) rfl (Nat.le_of_ble_eq_true rfl) (Nat.le_of_ble_eq_true rfl) (Nat.le_of_ble_eq_true rfl) ⟨Nat.le_refl _, Nat.le_refl _⟩ hN ?_
    refine xw_istore_n (pc := 21) (i := 2) (x := v8) (L' := [some (.ref x0), some (.int x1), some (.int v8), none]) C dX9_dropChange_21 rfl (Nat.le_of_ble_eq_true rfl) rfl ?_
    refine xw_aload_n (pc := 22) (i := 0) (x := x0) C dX9_dropChange_22 rfl rfl ?_
    obtain ⟨v10, q11, hm⟩ := xbind hm
    refine xw_getR (pc := 23) C dX9_dropChange_23 fl_X9_7 q11 ?_
    refine xw_bipush (pc := 26) (v := 63) C dX9_dropChange_26 xk_b_63 ?_
    refine xw_dup2 (pc := 28) C dX9_dropChange_28 rfl rfl ?_
    obtain ⟨v12, q13, hm⟩ := xbind hm
    refine xw_iaload (pc := 29) C dX9_dropChange_29 q13 ?_
    refine xw_iconst (pc := 30) (v := 1) C dX9_dropChange_30 xk_i_1 ?_
    refine xw_isub (pc := 31) C dX9_dropChange_31 ?_
    obtain ⟨h14, q15, hm⟩ := xbind hm
    refine xw_iastore (pc := 32) C dX9_dropChange_32 q15 ?_
    refine xw_iconst (pc := 33) (v := 2) C dX9_dropChange_33 xk_i_2 ?_
    refine xw_iload_n (pc := 34) (i := 2) (x := v8) C dX9_dropChange_34 rfl rfl ?_
    refine xw_imul (pc := 35) C dX9_dropChange_35 ?_
    refine xw_istore_n (pc := 36) (i := 3) (x := ((2 : Int32) * v8)) (L' := [some (.ref x0), some (.int x1), some (.int v8), some (.int ((2 : Int32) * v8))]) C dX9_dropChange_36 rfl (Nat.le_of_ble_eq_true rfl) rfl ?_
    obtain ⟨e28, q29, hm⟩ := xbind hm
    refine xw_sub (pc := 37) [some (.ref x0), none, none, some (.int ((2 : Int32) * v8))] ⟨Or.inr rfl, Or.inl rfl, Or.inl rfl, Or.inr rfl, trivial⟩ ?_
    refine xloop_walk (fX9_dropChange_B37 x0) (fX9_dropChange_P37 X x0 n sl) (fX9_dropChange_E37 X x0 n sl) (fun s' o' => fX9_dropChange_B37_w C hN s' o') 5000 (h14, ((2 : Int32) * v8)) e28 q29 ?_
    show XW X 76 [some (.ref x0), none, none, none] [] e28 n sl
    refine xw_aload_n (pc := 76) (i := 0) (x := x0) C dX9_dropChange_76 rfl rfl ?_
    obtain ⟨v30, q31, hm⟩ := xbind hm
    refine xw_getR (pc := 77) C dX9_dropChange_77 fl_X9_7 q31 ?_
    refine xw_bipush (pc := 80) (v := 63) C dX9_dropChange_80 xk_b_63 ?_
    obtain ⟨v32, q33, hm⟩ := xbind hm
    refine xw_iaload (pc := 82) C dX9_dropChange_82 q33 ?_
    obtain rfl := Option.some.inj hm
    exact xw_ireturn (pc := 83) C dX9_dropChange_83 rfl hX
  · replace hm := xif_f q hm
    refine xw_sipush (pc := 8) (v := -1001) C dX9_dropChange_8 xk_s_m1001 ?_
    obtain rfl := Option.some.inj hm
    exact xw_ireturn (pc := 11) C dX9_dropChange_11 rfl hX
