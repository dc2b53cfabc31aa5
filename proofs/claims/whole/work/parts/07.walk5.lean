def fX9_dropReading_P31 (X : XCtx) (x0 : Nat) (n sl : Nat) (s : (XH × Int32)) : Prop := XW X 31 [some (.ref x0), none, some (.int s.2)] [] s.1 n sl
def fX9_dropReading_E31 (X : XCtx) (x0 : Nat) (n sl : Nat) (e : XH) : Prop := XW X 70 [some (.ref x0), none, none] [] e n sl
set_option maxHeartbeats 4000000 in
set_option maxRecDepth 100000 in
theorem fX9_dropReading_B31_w {X : XCtx} (C : XOK X RX9 cX9_dropReading 3 "dropReading" (some .int) 2 44) {n sl : Nat} (hN : XN X n sl) {x0 : Nat} (s : (XH × Int32)) (o : (XH × Int32) ⊕ XH) (hm : fX9_dropReading_B31 x0 s = some o) (hc : ∀ s', o = .inl s' → fX9_dropReading_P31 X x0 n sl s') (he : ∀ e', o = .inr e' → fX9_dropReading_E31 X x0 n sl e') : fX9_dropReading_P31 X x0 n sl s := by
  obtain ⟨h, x2⟩ := s
  show XW X 31 [some (.ref x0), none, some (.int x2)] [] h n sl
  replace hm : fX9_dropReading_b31 x0 h x2 = some o := hm
  unfold fX9_dropReading_b31 at hm
  refine xw_iload_n (pc := 31) (i := 2) (x := x2) C dX9_dropReading_31 rfl rfl ?_
  refine xw_iconst (pc := 32) (v := 2) C dX9_dropReading_32 xk_i_2 ?_
  refine xw_aload_n (pc := 33) (i := 0) (x := x0) C dX9_dropReading_33 rfl rfl ?_
  obtain ⟨v13, q14, hm⟩ := xbind hm
  refine xw_getR (pc := 34) C dX9_dropReading_34 fl_X9_7 q14 ?_
  refine xw_bipush (pc := 37) (v := 76) C dX9_dropReading_37 xk_b_76 ?_
  obtain ⟨v15, q16, hm⟩ := xbind hm
  refine xw_iaload (pc := 39) C dX9_dropReading_39 q16 ?_
  refine xw_imul (pc := 40) C dX9_dropReading_40 ?_
  refine xw_icmp_ge (pc := 41) (tgt := 70) C dX9_dropReading_41 (by decide) (fun q => ?_) (fun q => ?_)
  · replace hm := xif_t q hm
    obtain rfl := Option.some.inj hm
    refine xw_sub (pc := 70) _ ?_ (he _ rfl)
    exact ⟨Or.inr rfl, Or.inl rfl, Or.inl rfl, trivial⟩
  · replace hm := xif_f q hm
    refine xw_aload_n (pc := 44) (i := 0) (x := x0) C dX9_dropReading_44 rfl rfl ?_
    obtain ⟨v17, q18, hm⟩ := xbind hm
    refine xw_getR (pc := 45) C dX9_dropReading_45 fl_X9_7 q18 ?_
    refine xw_bipush (pc := 48) (v := 77) C dX9_dropReading_48 xk_b_77 ?_
    refine xw_iload_n (pc := 50) (i := 2) (x := x2) C dX9_dropReading_50 rfl rfl ?_
    refine xw_iadd (pc := 51) C dX9_dropReading_51 ?_
    refine xw_aload_n (pc := 52) (i := 0) (x := x0) C dX9_dropReading_52 rfl rfl ?_
    obtain ⟨v19, q20, hm⟩ := xbind hm
    refine xw_getR (pc := 53) C dX9_dropReading_53 fl_X9_7 q20 ?_
    refine xw_bipush (pc := 56) (v := 77) C dX9_dropReading_56 xk_b_77 ?_
    refine xw_iload_n (pc := 58) (i := 2) (x := x2) C dX9_dropReading_58 rfl rfl ?_
    refine xw_iadd (pc := 59) C dX9_dropReading_59 ?_
    refine xw_iconst (pc := 60) (v := 2) C dX9_dropReading_60 xk_i_2 ?_
    refine xw_iadd (pc := 61) C dX9_dropReading_61 ?_
    obtain ⟨v21, q22, hm⟩ := xbind hm
    refine xw_iaload (pc := 62) C dX9_dropReading_62 q22 ?_
    obtain ⟨h23, q24, hm⟩ := xbind hm
    refine xw_iastore (pc := 63) C dX9_dropReading_63 q24 ?_
    refine xw_iinc (pc := 64) (i := 2) (x := x2) (v := (x2 + (1 : Int32))) (L' := [some (.ref x0), none, some (.int (x2 + (1 : Int32)))]) C dX9_dropReading_64 rfl (congrArg (HAdd.hAdd _) xk_i_1) (Nat.le_of_ble_eq_true rfl) rfl ?_
    refine xw_goto (pc := 67) (tgt := 31) C dX9_dropReading_67 (by decide) ?_
    obtain rfl := Option.some.inj hm
    refine xw_sub (pc := 31) _ ?_ (hc _ rfl)
    exact ⟨Or.inr rfl, Or.inl rfl, Or.inr rfl, trivial⟩
set_option maxHeartbeats 4000000 in
set_option maxRecDepth 100000 in
theorem wX9_dropReading {l : Launch} {n sl : Nat} {h : XH} {x0 : Nat} {x1 : Int32} {o : Int32 × XH} (hm : fX9_dropReading h x0 x1 = some o) : XM l yX9_dropReading cX9_dropReading 3 (some .int) 2 44 [.ref x0, .int x1] h n sl (some (.int o.1)) o.2 n sl := by
  refine xm_of pnX9 [some (.ref x0), some (.int x1), none] 1 rfl (Nat.le_of_ble_eq_true rfl) ?_
  intro X hT C
  replace C : XOK X RX9 cX9_dropReading 3 "dropReading" (some .int) 2 44 := C
  obtain ⟨-, hN, hX⟩ := hT
  unfold fX9_dropReading at hm
  refine xw_aload_n (pc := 0) (i := 0) (x := x0) C dX9_dropReading_0 rfl rfl ?_
  refine xw_iload_n (pc := 1) (i := 1) (x := x1) C dX9_dropReading_1 rfl rfl ?_
  obtain ⟨_, q1, hm⟩ := xbind hm
  obtain ⟨v2, q3, hm⟩ := xbind hm
  refine xw_callV1 (pc := 2) (As := [.int x1]) (st := []) C dX9_dropReading_2 (wX9_isReading q3) dd_X9_isReading lk_X9_150 dv_X9_isReading (xco_spec q1) rfl (Nat.le_of_ble_eq_true rfl) (Nat.le_of_ble_eq_true rfl) (Nat.le_of_ble_eq_true rfl) ⟨Nat.le_refl _, Nat.le_refl _⟩ hN ?_
  refine xw_if_neZ (pc := 5) (b := v2) (tgt := 12) C dX9_dropReading_5 (by decide) (fun q => ?_) (fun q => ?_)
  · replace hm := xif_t q hm
    refine xw_aload_n (pc := 12) (i := 0) (x := x0) C dX9_dropReading_12 rfl rfl ?_
    obtain ⟨_, q4, hm⟩ := xbind hm
    obtain ⟨h5, q6, hm⟩ := xbind hm
    refine xw_callV0 (pc := 13) (As := []) (st := []) C dX9_dropReading_13 (wX9_records q6) dd_X9_records lk_X9_101 dv_X9_records (xco_spec q4) rfl (Nat.le_of_ble_eq_true rfl) (Nat.le_of_ble_eq_true rfl) (Nat.le_of_ble_eq_true rfl) ⟨Nat.le_refl _, Nat.le_refl _⟩ hN ?_
    refine xw_aload_n (pc := 16) (i := 0) (x := x0) C dX9_dropReading_16 rfl rfl ?_
    obtain ⟨v7, q8, hm⟩ := xbind hm
    refine xw_getR (pc := 17) C dX9_dropReading_17 fl_X9_7 q8 ?_
    refine xw_bipush (pc := 20) (v := 76) C dX9_dropReading_20 xk_b_76 ?_
    refine xw_dup2 (pc := 22) C dX9_dropReading_22 rfl rfl ?_
    obtain ⟨v9, q10, hm⟩ := xbind hm
    refine xw_iaload (pc := 23) C dX9_dropReading_23 q10 ?_
    refine xw_iconst (pc := 24) (v := 1) C dX9_dropReading_24 xk_i_1 ?_
    refine xw_isub (pc := 25) C dX9_dropReading_25 ?_
    obtain ⟨h11, q12, hm⟩ := xbind hm
    refine xw_iastore (pc := 26) C dX9_dropReading_26 q12 ?_
    refine xw_iconst (pc := 27) (v := 2) C dX9_dropReading_27 xk_i_2 ?_
    refine xw_iload_n (pc := 28) (i := 1) (x := x1) C dX9_dropReading_28 rfl rfl ?_
    refine xw_imul (pc := 29) C dX9_dropReading_29 ?_
    refine xw_istore_n (pc := 30) (i := 2) (x := ((2 : Int32) * x1)) (L' := [some (.ref x0), some (.int x1), some (.int ((2 : Int32) * x1))]) C dX9_dropReading_30 rfl (Nat.le_of_ble_eq_true rfl) rfl ?_
    obtain ⟨e25, q26, hm⟩ := xbind hm
    refine xw_sub (pc := 31) [some (.ref x0), none, some (.int ((2 : Int32) * x1))] ⟨Or.inr rfl, Or.inl rfl, Or.inr rfl, trivial⟩ ?_
    refine xloop_walk (fX9_dropReading_B31 x0) (fX9_dropReading_P31 X x0 n sl) (fX9_dropReading_E31 X x0 n sl) (fun s' o' => fX9_dropReading_B31_w C hN s' o') 5000 (h11, ((2 : Int32) * x1)) e25 q26 ?_
    show XW X 70 [some (.ref x0), none, none] [] e25 n sl
    refine xw_aload_n (pc := 70) (i := 0) (x := x0) C dX9_dropReading_70 rfl rfl ?_
    obtain ⟨v27, q28, hm⟩ := xbind hm
    refine xw_getR (pc := 71) C dX9_dropReading_71 fl_X9_7 q28 ?_
    refine xw_bipush (pc := 74) (v := 76) C dX9_dropReading_74 xk_b_76 ?_
    obtain ⟨v29, q30, hm⟩ := xbind hm
    refine xw_iaload (pc := 76) C dX9_dropReading_76 q30 ?_
    obtain rfl := Option.some.inj hm
    exact xw_ireturn (pc := 77) C dX9_dropReading_77 rfl hX
  · replace hm := xif_f q hm
    refine xw_sipush (pc := 8) (v := -1001) C dX9_dropReading_8 xk_s_m1001 ?_
    obtain rfl := Option.some.inj hm
    exact xw_ireturn (pc := 11) C dX9_dropReading_11 rfl hX
set_option maxHeartbeats 4000000 in
set_option maxRecDepth 100000 in
theorem wX9_fails {l : Launch} {n sl : Nat} {h : XH} {x0 : Nat} {x1 : Int32} {x2 : Int32} {o : Bool × XH} (hm : fX9_fails h x0 x1 x2 = some o) : XM l yX9_fails cX9_fails 3 (some .boolean) 0 0 [.ref x0, .int x1, .int x2] h n sl (some (.int (xbi o.1))) o.2 n sl := by
  refine xm_of pnX9 [some (.ref x0), some (.int x1), some (.int x2)] 0 rfl (Nat.le_of_ble_eq_true rfl) ?_
  intro X hT C
  replace C : XOK X RX9 cX9_fails 3 "fails" (some .boolean) 0 0 := C
  obtain ⟨-, hN, hX⟩ := hT
  unfold fX9_fails at hm
  refine xw_aload_n (pc := 0) (i := 0) (x := x0) C dX9_fails_0 rfl rfl ?_
  refine xw_iload_n (pc := 1) (i := 1) (x := x1) C dX9_fails_1 rfl rfl ?_
  obtain ⟨h1, q2, hm⟩ := xbind hm
  refine xw_put (pc := 2) C dX9_fails_2 fl_X9_71 q2 (fun _ => rfl) (fun _ => rfl) ?_
  refine xw_aload_n (pc := 5) (i := 0) (x := x0) C dX9_fails_5 rfl rfl ?_
  refine xw_iload_n (pc := 6) (i := 2) (x := x2) C dX9_fails_6 rfl rfl ?_
  obtain ⟨h3, q4, hm⟩ := xbind hm
  refine xw_put (pc := 7) C dX9_fails_7 fl_X9_74 q4 (fun _ => rfl) (fun _ => rfl) ?_
  refine xw_iconst (pc := 10) (v := 0) C dX9_fails_10 xk_i_0 ?_
  obtain rfl := Option.some.inj hm
  exact xw_zreturn (pc := 11) (v := xbi false) C dX9_fails_11 rfl (xbi_nar _) hX
set_option maxHeartbeats 4000000 in
set_option maxRecDepth 100000 in
theorem wX9_faultKind {l : Launch} {n sl : Nat} {h : XH} {x0 : Nat} {o : Int32} (hm : fX9_faultKind h x0 = some o) : XM l yX9_faultKind cX9_faultKind 1 (some .int) 0 0 [.ref x0] h n sl (some (.int o)) h n sl := by
  refine xm_of pnX9 [some (.ref x0)] 0 rfl (Nat.le_of_ble_eq_true rfl) ?_
  intro X hT C
  replace C : XOK X RX9 cX9_faultKind 1 "faultKind" (some .int) 0 0 := C
  obtain ⟨-, hN, hX⟩ := hT
  unfold fX9_faultKind at hm
  refine xw_aload_n (pc := 0) (i := 0) (x := x0) C dX9_faultKind_0 rfl rfl ?_
  obtain ⟨v1, q2, hm⟩ := xbind hm
  refine xw_getI (pc := 1) C dX9_faultKind_1 fl_X9_71 q2 ?_
  obtain rfl := Option.some.inj hm
  exact xw_ireturn (pc := 4) C dX9_faultKind_4 rfl hX
set_option maxHeartbeats 4000000 in
set_option maxRecDepth 100000 in
theorem wX9_here {l : Launch} {n sl : Nat} {h : XH} {x0 : Nat} {o : Int32} (hm : fX9_here h x0 = some o) : XM l yX9_here cX9_here 1 (some .int) 0 0 [.ref x0] h n sl (some (.int o)) h n sl := by
  refine xm_of pnX9 [some (.ref x0)] 0 rfl (Nat.le_of_ble_eq_true rfl) ?_
  intro X hT C
  replace C : XOK X RX9 cX9_here 1 "here" (some .int) 0 0 := C
  obtain ⟨-, hN, hX⟩ := hT
  unfold fX9_here at hm
  refine xw_aload_n (pc := 0) (i := 0) (x := x0) C dX9_here_0 rfl rfl ?_
  obtain ⟨v1, q2, hm⟩ := xbind hm
  refine xw_getI (pc := 1) C dX9_here_1 fl_X9_65 q2 ?_
  refine xw_aload_n (pc := 4) (i := 0) (x := x0) C dX9_here_4 rfl rfl ?_
  obtain ⟨v3, q4, hm⟩ := xbind hm
  refine xw_getI (pc := 5) C dX9_here_5 fl_X9_62 q4 ?_
  refine xw_icmp_ge (pc := 8) (tgt := 23) C dX9_here_8 (by decide) (fun q => ?_) (fun q => ?_)
  · replace hm := xif_t q hm
    refine xw_sipush (pc := 23) (v := -1004) C dX9_here_23 xk_s_m1004 ?_
    obtain rfl := Option.some.inj hm
    exact xw_ireturn (pc := 26) C dX9_here_26 rfl hX
  · replace hm := xif_f q hm
    refine xw_aload_n (pc := 11) (i := 0) (x := x0) C dX9_here_11 rfl rfl ?_
    obtain ⟨v5, q6, hm⟩ := xbind hm
    refine xw_getR (pc := 12) C dX9_here_12 fl_X9_16 q6 ?_
    refine xw_aload_n (pc := 15) (i := 0) (x := x0) C dX9_here_15 rfl rfl ?_
    obtain ⟨v7, q8, hm⟩ := xbind hm
    refine xw_getI (pc := 16) C dX9_here_16 fl_X9_65 q8 ?_
    obtain ⟨v9, q10, hm⟩ := xbind hm
    refine xw_iaload (pc := 19) C dX9_here_19 q10 ?_
    refine xw_goto (pc := 20) (tgt := 26) C dX9_here_20 (by decide) ?_
    obtain rfl := Option.some.inj hm
    exact xw_ireturn (pc := 26) C dX9_here_26 rfl hX
def fX9_init_P65 (X : XCtx) (x0 : Nat) (n sl : Nat) (s : (XH × Int32)) : Prop := XW X 65 [some (.ref x0), some (.int s.2)] [] s.1 n sl
def fX9_init_E65 (X : XCtx) (x0 : Nat) (n sl : Nat) (e : XH) : Prop := XW X 86 [some (.ref x0), none] [] e n sl
set_option maxHeartbeats 4000000 in
set_option maxRecDepth 100000 in
theorem fX9_init_B65_w {X : XCtx} (C : XOK X RX9 cX9_init 2 "<init>" none 1 20) {n sl : Nat} (hN : XN X n sl) {x0 : Nat} (s : (XH × Int32)) (o : (XH × Int32) ⊕ XH) (hm : fX9_init_B65 x0 s = some o) (hc : ∀ s', o = .inl s' → fX9_init_P65 X x0 n sl s') (he : ∀ e', o = .inr e' → fX9_init_E65 X x0 n sl e') : fX9_init_P65 X x0 n sl s := by
  obtain ⟨h, x1⟩ := s
  show XW X 65 [some (.ref x0), some (.int x1)] [] h n sl
  replace hm : fX9_init_b65 x0 h x1 = some o := hm
  unfold fX9_init_b65 at hm
  refine xw_iload_n (pc := 65) (i := 1) (x := x1) C dX9_init_65 rfl rfl ?_
  refine xw_bipush (pc := 66) (v := 12) C dX9_init_66 xk_b_12 ?_
  refine xw_icmp_ge (pc := 68) (tgt := 86) C dX9_init_68 (by decide) (fun q => ?_) (fun q => ?_)
  · replace hm := xif_t q hm
    obtain rfl := Option.some.inj hm
    refine xw_sub (pc := 86) _ ?_ (he _ rfl)
    exact ⟨Or.inr rfl, Or.inl rfl, trivial⟩
  · replace hm := xif_f q hm
    refine xw_aload_n (pc := 71) (i := 0) (x := x0) C dX9_init_71 rfl rfl ?_
    obtain ⟨v29, q30, hm⟩ := xbind hm
    refine xw_getR (pc := 72) C dX9_init_72 fl_X9_7 q30 ?_
    refine xw_iconst (pc := 75) (v := 1) C dX9_init_75 xk_i_1 ?_
    refine xw_iload_n (pc := 76) (i := 1) (x := x1) C dX9_init_76 rfl rfl ?_
    refine xw_iadd (pc := 77) C dX9_init_77 ?_
    refine xw_iconst (pc := 78) (v := 1) C dX9_init_78 xk_i_1 ?_
    obtain ⟨h31, q32, hm⟩ := xbind hm
    refine xw_iastore (pc := 79) C dX9_init_79 q32 ?_
    refine xw_iinc (pc := 80) (i := 1) (x := x1) (v := (x1 + (3 : Int32))) (L' := [some (.ref x0), some (.int (x1 + (3 : Int32)))]) C dX9_init_80 rfl (congrArg (HAdd.hAdd _) xk_i_3) (Nat.le_of_ble_eq_true rfl) rfl ?_
    refine xw_goto (pc := 83) (tgt := 65) C dX9_init_83 (by decide) ?_
    obtain rfl := Option.some.inj hm
    refine xw_sub (pc := 65) _ ?_ (hc _ rfl)
    exact ⟨Or.inr rfl, Or.inr rfl, trivial⟩
set_option maxHeartbeats 4000000 in
set_option maxRecDepth 100000 in
theorem wX9_init {l : Launch} {n sl : Nat} {h : XH} {x0 : Nat} {o : XH} (hm : fX9_init h n x0 = some o) : XM l yX9_init cX9_init 2 none 1 20 [.ref x0] h n sl none o (n + 6) (sl + 4182) := by
  refine xm_of pnX9 [some (.ref x0), none] 1 rfl (Nat.le_of_ble_eq_true rfl) ?_
  intro X hT C
  replace C : XOK X RX9 cX9_init 2 "<init>" none 1 20 := C
  obtain ⟨-, hN, hX⟩ := hT
  unfold fX9_init at hm
  refine xw_aload_n (pc := 0) (i := 0) (x := x0) C dX9_init_0 rfl rfl ?_
  refine xw_objInit (pc := 1) C dX9_init_1 lk_X9_1 oi_inst oi_code (Nat.le_of_ble_eq_true rfl) (Nat.le_of_ble_eq_true rfl) ?_
  refine xw_aload_n (pc := 4) (i := 0) (x := x0) C dX9_init_4 rfl rfl ?_
  refine xw_sipush (pc := 5) (v := 980) C dX9_init_5 xk_s_980 ?_
  obtain ⟨h1, q2, hm⟩ := xbind hm
  refine xw_newIB (pc := 8) (N := 980) C dX9_init_8 ar_int (by decide) (by decide) (Nat.le_of_ble_eq_true rfl) ⟨by have := hN.1; omega, by have := hN.2; omega⟩ q2 ?_
  obtain ⟨h3, q4, hm⟩ := xbind hm
  refine xw_putF (pc := 10) C dX9_init_10 fl_X9_7 q4 rfl rfl (fun _ => rfl) (fun _ => rfl) ?_
  refine xw_aload_n (pc := 13) (i := 0) (x := x0) C dX9_init_13 rfl rfl ?_
  refine xw_sipush (pc := 14) (v := 1001) C dX9_init_14 xk_s_1001 ?_
  obtain ⟨h5, q6, hm⟩ := xbind hm
  refine xw_newIB (pc := 17) (N := 1001) C dX9_init_17 ar_int (by decide) (by decide) (Nat.le_of_ble_eq_true rfl) ⟨by have := hN.1; omega, by have := hN.2; omega⟩ q6 ?_
  obtain ⟨h7, q8, hm⟩ := xbind hm
  refine xw_putF (pc := 19) C dX9_init_19 fl_X9_13 q8 rfl rfl (fun _ => rfl) (fun _ => rfl) ?_
  refine xw_aload_n (pc := 22) (i := 0) (x := x0) C dX9_init_22 rfl rfl ?_
  refine xw_bipush (pc := 23) (v := 80) C dX9_init_23 xk_b_80 ?_
  obtain ⟨h9, q10, hm⟩ := xbind hm
  refine xw_newIB (pc := 25) (N := 80) C dX9_init_25 ar_int (by decide) (by decide) (Nat.le_of_ble_eq_true rfl) ⟨by have := hN.1; omega, by have := hN.2; omega⟩ q10 ?_
  obtain ⟨h11, q12, hm⟩ := xbind hm
  refine xw_putF (pc := 27) C dX9_init_27 fl_X9_16 q12 rfl rfl (fun _ => rfl) (fun _ => rfl) ?_
  refine xw_aload_n (pc := 30) (i := 0) (x := x0) C dX9_init_30 rfl rfl ?_
  refine xw_bipush (pc := 31) (v := 60) C dX9_init_31 xk_b_60 ?_
  obtain ⟨h13, q14, hm⟩ := xbind hm
  refine xw_newZB (pc := 33) (N := 60) C dX9_init_33 ar_boolean (by decide) (by decide) (Nat.le_of_ble_eq_true rfl) ⟨by have := hN.1; omega, by have := hN.2; omega⟩ q14 ?_
  obtain ⟨h15, q16, hm⟩ := xbind hm
  refine xw_putF (pc := 35) C dX9_init_35 fl_X9_19 q16 rfl rfl (fun _ => rfl) (fun _ => rfl) ?_
  refine xw_aload_n (pc := 38) (i := 0) (x := x0) C dX9_init_38 rfl rfl ?_
  refine xw_sipush (pc := 39) (v := 2001) C dX9_init_39 xk_s_2001 ?_
  obtain ⟨h17, q18, hm⟩ := xbind hm
  refine xw_newIB (pc := 42) (N := 2001) C dX9_init_42 ar_int (by decide) (by decide) (Nat.le_of_ble_eq_true rfl) ⟨by have := hN.1; omega, by have := hN.2; omega⟩ q18 ?_
  obtain ⟨h19, q20, hm⟩ := xbind hm
  refine xw_putF (pc := 44) C dX9_init_44 fl_X9_23 q20 rfl rfl (fun _ => rfl) (fun _ => rfl) ?_
  refine xw_aload_n (pc := 47) (i := 0) (x := x0) C dX9_init_47 rfl rfl ?_
  refine xw_bipush (pc := 48) (v := 60) C dX9_init_48 xk_b_60 ?_
  obtain ⟨h21, q22, hm⟩ := xbind hm
  refine xw_newIB (pc := 50) (N := 60) C dX9_init_50 ar_int (by decide) (by decide) (Nat.le_of_ble_eq_true rfl) ⟨by have := hN.1; omega, by have := hN.2; omega⟩ q22 ?_
  obtain ⟨h23, q24, hm⟩ := xbind hm
  refine xw_putF (pc := 52) C dX9_init_52 fl_X9_26 q24 rfl rfl (fun _ => rfl) (fun _ => rfl) ?_
  refine xw_aload_n (pc := 55) (i := 0) (x := x0) C dX9_init_55 rfl rfl ?_
  obtain ⟨v25, q26, hm⟩ := xbind hm
  refine xw_getR (pc := 56) C dX9_init_56 fl_X9_7 q26 ?_
  refine xw_iconst (pc := 59) (v := 0) C dX9_init_59 xk_i_0 ?_
  refine xw_bipush (pc := 60) (v := 12) C dX9_init_60 xk_b_12 ?_
  obtain ⟨h27, q28, hm⟩ := xbind hm
  refine xw_iastore (pc := 62) C dX9_init_62 q28 ?_
  refine xw_iconst (pc := 63) (v := 0) C dX9_init_63 xk_i_0 ?_
  refine xw_istore_n (pc := 64) (i := 1) (x := (0 : Int32)) (L' := [some (.ref x0), some (.int (0 : Int32))]) C dX9_init_64 rfl (Nat.le_of_ble_eq_true rfl) rfl ?_
  obtain ⟨e33, q34, hm⟩ := xbind hm
  refine xw_sub (pc := 65) [some (.ref x0), some (.int (0 : Int32))] ⟨Or.inr rfl, Or.inr rfl, trivial⟩ ?_
  refine xloop_walk (fX9_init_B65 x0) (fX9_init_P65 X x0 (n + 6) (sl + 4182)) (fX9_init_E65 X x0 (n + 6) (sl + 4182)) (fun s' o' => fX9_init_B65_w C (n := (n + 6)) (sl := (sl + 4182)) ⟨by have := hN.1; omega, by have := hN.2; omega⟩ s' o') 5000 (h27, (0 : Int32)) e33 q34 ?_
  show XW X 86 [some (.ref x0), none] [] e33 (n + 6) (sl + 4182)
  refine xw_aload_n (pc := 86) (i := 0) (x := x0) C dX9_init_86 rfl rfl ?_
  obtain ⟨v35, q36, hm⟩ := xbind hm
  refine xw_getR (pc := 87) C dX9_init_87 fl_X9_7 q36 ?_
  refine xw_bipush (pc := 90) (v := 75) C dX9_init_90 xk_b_75 ?_
  refine xw_iconst (pc := 92) (v := 1) C dX9_init_92 xk_i_1 ?_
  obtain ⟨h37, q38, hm⟩ := xbind hm
  refine xw_iastore (pc := 93) C dX9_init_93 q38 ?_
  refine xw_aload_n (pc := 94) (i := 0) (x := x0) C dX9_init_94 rfl rfl ?_
  obtain ⟨v39, q40, hm⟩ := xbind hm
  refine xw_getR (pc := 95) C dX9_init_95 fl_X9_7 q40 ?_
  refine xw_bipush (pc := 98) (v := 93) C dX9_init_98 xk_b_93 ?_
  refine xw_bipush (pc := 100) (v := 100) C dX9_init_100 xk_b_100 ?_
  obtain ⟨h41, q42, hm⟩ := xbind hm
  refine xw_iastore (pc := 102) C dX9_init_102 q42 ?_
  refine xw_aload_n (pc := 103) (i := 0) (x := x0) C dX9_init_103 rfl rfl ?_
  obtain ⟨v43, q44, hm⟩ := xbind hm
  refine xw_getR (pc := 104) C dX9_init_104 fl_X9_7 q44 ?_
  refine xw_bipush (pc := 107) (v := 94) C dX9_init_107 xk_b_94 ?_
  refine xw_iconst (pc := 109) (v := 1) C dX9_init_109 xk_i_1 ?_
  obtain ⟨h45, q46, hm⟩ := xbind hm
  refine xw_iastore (pc := 110) C dX9_init_110 q46 ?_
  refine xw_aload_n (pc := 111) (i := 0) (x := x0) C dX9_init_111 rfl rfl ?_
  obtain ⟨v47, q48, hm⟩ := xbind hm
  refine xw_getR (pc := 112) C dX9_init_112 fl_X9_7 q48 ?_
  refine xw_bipush (pc := 115) (v := 95) C dX9_init_115 xk_b_95 ?_
  refine xw_iconst (pc := 117) (v := 1) C dX9_init_117 xk_i_1 ?_
  obtain ⟨h49, q50, hm⟩ := xbind hm
  refine xw_iastore (pc := 118) C dX9_init_118 q50 ?_
  obtain rfl := Option.some.inj hm
  exact xw_return (pc := 119) C dX9_init_119 rfl hX
set_option maxHeartbeats 4000000 in
set_option maxRecDepth 100000 in
theorem wX9_isDigit {l : Launch} {n sl : Nat} {h : XH} {x0 : Nat} {o : Bool} (hm : fX9_isDigit h x0 = some o) : XM l yX9_isDigit cX9_isDigit 1 (some .boolean) 1 22 [.ref x0] h n sl (some (.int (xbi o))) h n sl := by
  refine xm_of pnX9 [some (.ref x0)] 0 rfl (Nat.le_of_ble_eq_true rfl) ?_
  intro X hT C
  replace C : XOK X RX9 cX9_isDigit 1 "isDigit" (some .boolean) 1 22 := C
  obtain ⟨-, hN, hX⟩ := hT
  unfold fX9_isDigit at hm
  refine xw_aload_n (pc := 0) (i := 0) (x := x0) C dX9_isDigit_0 rfl rfl ?_
  obtain ⟨_, q1, hm⟩ := xbind hm
  obtain ⟨v2, q3, hm⟩ := xbind hm
  refine xw_callV1 (pc := 1) (As := []) (st := []) C dX9_isDigit_1 (wX9_here q3) dd_X9_here lk_X9_68 dv_X9_here (xco_spec q1) rfl (Nat.le_of_ble_eq_true rfl) (Nat.le_of_ble_eq_true rfl) (Nat.le_of_ble_eq_true rfl) ⟨Nat.le_refl _, Nat.le_refl _⟩ hN ?_
  refine xw_bipush (pc := 4) (v := 48) C dX9_isDigit_4 xk_b_48 ?_
  refine xw_bipush (pc := 6) (v := 57) C dX9_isDigit_6 xk_b_57 ?_
  obtain ⟨v4, q5, hm⟩ := xbind hm
  refine xw_callS1 (pc := 8) (As := [.int v2, .int (48 : Int32), .int (57 : Int32)]) (st := []) C dX9_isDigit_8 (wX9_in q5) dd_X9_in lk_X9_55 ds_X9_in rfl (Nat.le_of_ble_eq_true rfl) (Nat.le_of_ble_eq_true rfl) (Nat.le_of_ble_eq_true rfl) ⟨Nat.le_refl _, Nat.le_refl _⟩ hN ?_
  obtain rfl := Option.some.inj hm
  exact xw_zreturn (pc := 11) (v := xbi v4) C dX9_isDigit_11 rfl (xbi_nar _) hX
set_option maxHeartbeats 4000000 in
set_option maxRecDepth 100000 in
theorem wX9_isSeen {l : Launch} {n sl : Nat} {h : XH} {x0 : Nat} {x1 : Int32} {o : Int32} (hm : fX9_isSeen h x0 x1 = some o) : XM l yX9_isSeen cX9_isSeen 2 (some .int) 2 45 [.ref x0, .int x1] h n sl (some (.int o)) h n sl := by
  refine xm_of pnX9 [some (.ref x0), some (.int x1)] 0 rfl (Nat.le_of_ble_eq_true rfl) ?_
  intro X hT C
  replace C : XOK X RX9 cX9_isSeen 2 "isSeen" (some .int) 2 45 := C
  obtain ⟨-, hN, hX⟩ := hT
  unfold fX9_isSeen at hm
  refine xw_iload_n (pc := 0) (i := 1) (x := x1) C dX9_isSeen_0 rfl rfl ?_
  obtain ⟨v1, q2, hm⟩ := xbind hm
  refine xw_callS1 (pc := 1) (As := [.int x1]) (st := []) C dX9_isSeen_1 (wX9_isTick q2) dd_X9_isTick lk_X9_114 ds_X9_isTick rfl (Nat.le_of_ble_eq_true rfl) (Nat.le_of_ble_eq_true rfl) (Nat.le_of_ble_eq_true rfl) ⟨Nat.le_refl _, Nat.le_refl _⟩ hN ?_
  refine xw_if_neZ (pc := 4) (b := v1) (tgt := 13) C dX9_isSeen_4 (by decide) (fun q => ?_) (fun q => ?_)
  · replace hm := xif_t q hm
    refine xw_aload_n (pc := 13) (i := 0) (x := x0) C dX9_isSeen_13 rfl rfl ?_
    refine xw_iload_n (pc := 14) (i := 1) (x := x1) C dX9_isSeen_14 rfl rfl ?_
    obtain ⟨_, q3, hm⟩ := xbind hm
    obtain ⟨v4, q5, hm⟩ := xbind hm
    refine xw_callV1 (pc := 15) (As := [.int x1]) (st := []) C dX9_isSeen_15 (wX9_isOpen q5) dd_X9_isOpen lk_X9_166 dv_X9_isOpen (xco_spec q3) rfl (Nat.le_of_ble_eq_true rfl) (Nat.le_of_ble_eq_true rfl) (Nat.le_of_ble_eq_true rfl) ⟨Nat.le_refl _, Nat.le_refl _⟩ hN ?_
    refine xw_if_eqZ (pc := 18) (b := v4) (tgt := 25) C dX9_isSeen_18 (by decide) (fun q => ?_) (fun q => ?_)
    · replace hm := xif_f q hm
      refine xw_iconst (pc := 25) (v := 0) C dX9_isSeen_25 xk_i_0 ?_
      obtain rfl := Option.some.inj hm
      exact xw_ireturn (pc := 26) C dX9_isSeen_26 rfl hX
    · replace hm := xif_t q hm
      refine xw_iconst (pc := 21) (v := 1) C dX9_isSeen_21 xk_i_1 ?_
      refine xw_goto (pc := 22) (tgt := 26) C dX9_isSeen_22 (by decide) ?_
      obtain rfl := Option.some.inj hm
      exact xw_ireturn (pc := 26) C dX9_isSeen_26 rfl hX
  · replace hm := xif_f q hm
    refine xw_sipush (pc := 7) (v := -1001) C dX9_isSeen_7 xk_s_m1001 ?_
    refine xw_goto (pc := 10) (tgt := 26) C dX9_isSeen_10 (by decide) ?_
    obtain rfl := Option.some.inj hm
    exact xw_ireturn (pc := 26) C dX9_isSeen_26 rfl hX
def fX9_readsCells_P2 (X : XCtx) (x0 : Nat) (n sl : Nat) (s : (XH × Int32)) : Prop := XW X 2 [some (.ref x0), some (.int s.2)] [] s.1 n sl
def fX9_readsCells_E2 (X : XCtx) (x0 : Nat) (n sl : Nat) (e : (XH × Int32)) : Prop := XW X 77 [some (.ref x0), some (.int e.2)] [] e.1 n sl
set_option maxHeartbeats 4000000 in
set_option maxRecDepth 100000 in
theorem fX9_readsCells_J60_w {X : XCtx} (C : XOK X RX9 cX9_readsCells 2 "readsCells" (some .boolean) 1 22) {n sl : Nat} (hN : XN X n sl)  {h : XH} {x0 : Nat} {x1 : Int32} {s0 : Nat} {s1 : Int32} {s2 : Int32} {o : (XH × Int32) ⊕ (XH × Int32)} (hm : fX9_readsCells_J60 h x0 x1 s0 s1 s2 = some o) (hc : ∀ s', o = .inl s' → fX9_readsCells_P2 X x0 n sl s') (he : ∀ e', o = .inr e' → fX9_readsCells_E2 X x0 n sl e') : XW X 60 [some (.ref x0), some (.int x1)] [.int s2, .int s1, .ref s0] h n sl := by
  unfold fX9_readsCells_J60 at hm
  obtain ⟨h12, q13, hm⟩ := xbind hm
  refine xw_iastore (pc := 60) C dX9_readsCells_60 q13 ?_
  refine xw_aload_n (pc := 61) (i := 0) (x := x0) C dX9_readsCells_61 rfl rfl ?_
  refine xw_dup (pc := 62) C dX9_readsCells_62 rfl ?_
  obtain ⟨v14, q15, hm⟩ := xbind hm
  refine xw_getI (pc := 63) C dX9_readsCells_63 fl_X9_65 q15 ?_
  refine xw_iconst (pc := 66) (v := 1) C dX9_readsCells_66 xk_i_1 ?_
  refine xw_iadd (pc := 67) C dX9_readsCells_67 ?_
  obtain ⟨h16, q17, hm⟩ := xbind hm
  refine xw_put (pc := 68) C dX9_readsCells_68 fl_X9_65 q17 (fun _ => rfl) (fun _ => rfl) ?_
  refine xw_iinc (pc := 71) (i := 1) (x := x1) (v := (x1 + (1 : Int32))) (L' := [some (.ref x0), some (.int (x1 + (1 : Int32)))]) C dX9_readsCells_71 rfl (congrArg (HAdd.hAdd _) xk_i_1) (Nat.le_of_ble_eq_true rfl) rfl ?_
  refine xw_goto (pc := 74) (tgt := 2) C dX9_readsCells_74 (by decide) ?_
  obtain rfl := Option.some.inj hm
  refine xw_sub (pc := 2) _ ?_ (hc _ rfl)
  exact ⟨Or.inr rfl, Or.inr rfl, trivial⟩
set_option maxHeartbeats 4000000 in
set_option maxRecDepth 100000 in
theorem fX9_readsCells_J31_w {X : XCtx} (C : XOK X RX9 cX9_readsCells 2 "readsCells" (some .boolean) 1 22) {n sl : Nat} (hN : XN X n sl)  {h : XH} {x0 : Nat} {x1 : Int32} {o : (XH × Int32) ⊕ (XH × Int32)} (hm : fX9_readsCells_J31 h x0 x1 = some o) (hc : ∀ s', o = .inl s' → fX9_readsCells_P2 X x0 n sl s') (he : ∀ e', o = .inr e' → fX9_readsCells_E2 X x0 n sl e') : XW X 31 [some (.ref x0), some (.int x1)] [] h n sl := by
  unfold fX9_readsCells_J31 at hm
  refine xw_aload_n (pc := 31) (i := 0) (x := x0) C dX9_readsCells_31 rfl rfl ?_
  obtain ⟨v4, q5, hm⟩ := xbind hm
  refine xw_getR (pc := 32) C dX9_readsCells_32 fl_X9_7 q5 ?_
  refine xw_iconst (pc := 35) (v := 1) C dX9_readsCells_35 xk_i_1 ?_
  refine xw_iload_n (pc := 36) (i := 1) (x := x1) C dX9_readsCells_36 rfl rfl ?_
  refine xw_iadd (pc := 37) C dX9_readsCells_37 ?_
  refine xw_aload_n (pc := 38) (i := 0) (x := x0) C dX9_readsCells_38 rfl rfl ?_
  obtain ⟨_, q6, hm⟩ := xbind hm
  obtain ⟨v7, q8, hm⟩ := xbind hm
  refine xw_callV1 (pc := 39) (As := []) (st := [.int ((1 : Int32) + x1), .ref v4]) C dX9_readsCells_39 (wX9_here q8) dd_X9_here lk_X9_68 dv_X9_here (xco_spec q6) rfl (Nat.le_of_ble_eq_true rfl) (Nat.le_of_ble_eq_true rfl) (Nat.le_of_ble_eq_true rfl) ⟨Nat.le_refl _, Nat.le_refl _⟩ hN ?_
  refine xw_bipush (pc := 42) (v := 46) C dX9_readsCells_42 xk_b_46 ?_
  refine xw_icmp_ne (pc := 44) (tgt := 51) C dX9_readsCells_44 (by decide) (fun q => ?_) (fun q => ?_)
  · replace hm := xif_f q hm
    refine xw_aload_n (pc := 51) (i := 0) (x := x0) C dX9_readsCells_51 rfl rfl ?_
    obtain ⟨_, q9, hm⟩ := xbind hm
    obtain ⟨v10, q11, hm⟩ := xbind hm
    refine xw_callV1 (pc := 52) (As := []) (st := [.int ((1 : Int32) + x1), .ref v4]) C dX9_readsCells_52 (wX9_here q11) dd_X9_here lk_X9_68 dv_X9_here (xco_spec q9) rfl (Nat.le_of_ble_eq_true rfl) (Nat.le_of_ble_eq_true rfl) (Nat.le_of_ble_eq_true rfl) ⟨Nat.le_refl _, Nat.le_refl _⟩ hN ?_
    refine xw_bipush (pc := 55) (v := 97) C dX9_readsCells_55 xk_b_97 ?_
    refine xw_isub (pc := 57) C dX9_readsCells_57 ?_
    refine xw_iconst (pc := 58) (v := 1) C dX9_readsCells_58 xk_i_1 ?_
    refine xw_iadd (pc := 59) C dX9_readsCells_59 ?_
    exact xw_sub (pc := 60) [some (.ref x0), some (.int x1)] ⟨Or.inr rfl, Or.inr rfl, trivial⟩ (fX9_readsCells_J60_w C hN hm hc he)
  · replace hm := xif_t q hm
    refine xw_iconst (pc := 47) (v := 0) C dX9_readsCells_47 xk_i_0 ?_
    refine xw_goto (pc := 48) (tgt := 60) C dX9_readsCells_48 (by decide) ?_
    exact xw_sub (pc := 60) [some (.ref x0), some (.int x1)] ⟨Or.inr rfl, Or.inr rfl, trivial⟩ (fX9_readsCells_J60_w C hN hm hc he)
set_option maxHeartbeats 4000000 in
set_option maxRecDepth 100000 in
theorem fX9_readsCells_B2_w {X : XCtx} (C : XOK X RX9 cX9_readsCells 2 "readsCells" (some .boolean) 1 22) {n sl : Nat} (hN : XN X n sl) {x0 : Nat} (s : (XH × Int32)) (o : (XH × Int32) ⊕ (XH × Int32)) (hm : fX9_readsCells_B2 x0 s = some o) (hc : ∀ s', o = .inl s' → fX9_readsCells_P2 X x0 n sl s') (he : ∀ e', o = .inr e' → fX9_readsCells_E2 X x0 n sl e') : fX9_readsCells_P2 X x0 n sl s := by
  obtain ⟨h, x1⟩ := s
  show XW X 2 [some (.ref x0), some (.int x1)] [] h n sl
  replace hm : fX9_readsCells_b2 x0 h x1 = some o := hm
  unfold fX9_readsCells_b2 at hm
  refine xw_iload_n (pc := 2) (i := 1) (x := x1) C dX9_readsCells_2 rfl rfl ?_
  refine xw_bipush (pc := 3) (v := 60) C dX9_readsCells_3 xk_b_60 ?_
  refine xw_icmp_ge (pc := 5) (tgt := 77) C dX9_readsCells_5 (by decide) (fun q => ?_) (fun q => ?_)
  · replace hm := xif_t q hm
    obtain rfl := Option.some.inj hm
    refine xw_sub (pc := 77) _ ?_ (he _ rfl)
    exact ⟨Or.inr rfl, Or.inr rfl, trivial⟩
  · replace hm := xif_f q hm
    refine xw_aload_n (pc := 8) (i := 0) (x := x0) C dX9_readsCells_8 rfl rfl ?_
    obtain ⟨_, q1, hm⟩ := xbind hm
    obtain ⟨v2, q3, hm⟩ := xbind hm
    refine xw_callV1 (pc := 9) (As := []) (st := []) C dX9_readsCells_9 (wX9_here q3) dd_X9_here lk_X9_68 dv_X9_here (xco_spec q1) rfl (Nat.le_of_ble_eq_true rfl) (Nat.le_of_ble_eq_true rfl) (Nat.le_of_ble_eq_true rfl) ⟨Nat.le_refl _, Nat.le_refl _⟩ hN ?_
    refine xw_bipush (pc := 12) (v := 46) C dX9_readsCells_12 xk_b_46 ?_
    refine xw_icmp_eq (pc := 14) (tgt := 31) C dX9_readsCells_14 (by decide) (fun q => ?_) (fun q => ?_)
    · replace hm := xif_t q hm
      exact xw_sub (pc := 31) [some (.ref x0), some (.int x1)] ⟨Or.inr rfl, Or.inr rfl, trivial⟩ (fX9_readsCells_J31_w C hN hm hc he)
    · replace hm := xif_f q hm
      refine xw_aload_n (pc := 17) (i := 0) (x := x0) C dX9_readsCells_17 rfl rfl ?_
      obtain ⟨_, q18, hm⟩ := xbind hm
      obtain ⟨v19, q20, hm⟩ := xbind hm
      refine xw_callV1 (pc := 18) (As := []) (st := []) C dX9_readsCells_18 (wX9_here q20) dd_X9_here lk_X9_68 dv_X9_here (xco_spec q18) rfl (Nat.le_of_ble_eq_true rfl) (Nat.le_of_ble_eq_true rfl) (Nat.le_of_ble_eq_true rfl) ⟨Nat.le_refl _, Nat.le_refl _⟩ hN ?_
      refine xw_bipush (pc := 21) (v := 97) C dX9_readsCells_21 xk_b_97 ?_
      refine xw_bipush (pc := 23) (v := 99) C dX9_readsCells_23 xk_b_99 ?_
      obtain ⟨v21, q22, hm⟩ := xbind hm
      refine xw_callS1 (pc := 25) (As := [.int v19, .int (97 : Int32), .int (99 : Int32)]) (st := []) C dX9_readsCells_25 (wX9_in q22) dd_X9_in lk_X9_55 ds_X9_in rfl (Nat.le_of_ble_eq_true rfl) (Nat.le_of_ble_eq_true rfl) (Nat.le_of_ble_eq_true rfl) ⟨Nat.le_refl _, Nat.le_refl _⟩ hN ?_
      refine xw_if_eqZ (pc := 28) (b := v21) (tgt := 77) C dX9_readsCells_28 (by decide) (fun q => ?_) (fun q => ?_)
      · replace hm := xif_f q hm
        obtain rfl := Option.some.inj hm
        refine xw_sub (pc := 77) _ ?_ (he _ rfl)
        exact ⟨Or.inr rfl, Or.inr rfl, trivial⟩
      · replace hm := xif_t q hm
        exact xw_sub (pc := 31) [some (.ref x0), some (.int x1)] ⟨Or.inr rfl, Or.inr rfl, trivial⟩ (fX9_readsCells_J31_w C hN hm hc he)
set_option maxHeartbeats 4000000 in
set_option maxRecDepth 100000 in
theorem wX9_readsCells {l : Launch} {n sl : Nat} {h : XH} {x0 : Nat} {o : Bool × XH} (hm : fX9_readsCells h x0 = some o) : XM l yX9_readsCells cX9_readsCells 2 (some .boolean) 1 22 [.ref x0] h n sl (some (.int (xbi o.1))) o.2 n sl := by
  refine xm_of pnX9 [some (.ref x0), none] 1 rfl (Nat.le_of_ble_eq_true rfl) ?_
  intro X hT C
  replace C : XOK X RX9 cX9_readsCells 2 "readsCells" (some .boolean) 1 22 := C
  obtain ⟨-, hN, hX⟩ := hT
  unfold fX9_readsCells at hm
  refine xw_iconst (pc := 0) (v := 0) C dX9_readsCells_0 xk_i_0 ?_
  refine xw_istore_n (pc := 1) (i := 1) (x := (0 : Int32)) (L' := [some (.ref x0), some (.int (0 : Int32))]) C dX9_readsCells_1 rfl (Nat.le_of_ble_eq_true rfl) rfl ?_
  obtain ⟨e23, q24, hm⟩ := xbind hm
  refine xw_sub (pc := 2) [some (.ref x0), some (.int (0 : Int32))] ⟨Or.inr rfl, Or.inr rfl, trivial⟩ ?_
  refine xloop_walk (fX9_readsCells_B2 x0) (fX9_readsCells_P2 X x0 n sl) (fX9_readsCells_E2 X x0 n sl) (fun s' o' => fX9_readsCells_B2_w C hN s' o') 5000 (h, (0 : Int32)) e23 q24 ?_
  show XW X 77 [some (.ref x0), some (.int e23.2)] [] e23.1 n sl
  refine xw_aload_n (pc := 77) (i := 0) (x := x0) C dX9_readsCells_77 rfl rfl ?_
  obtain ⟨v25, q26, hm⟩ := xbind hm
  refine xw_getR (pc := 78) C dX9_readsCells_78 fl_X9_7 q26 ?_
  refine xw_iconst (pc := 81) (v := 0) C dX9_readsCells_81 xk_i_0 ?_
  refine xw_iload_n (pc := 82) (i := 1) (x := e23.2) C dX9_readsCells_82 rfl rfl ?_
  obtain ⟨h27, q28, hm⟩ := xbind hm
  refine xw_iastore (pc := 83) C dX9_readsCells_83 q28 ?_
  refine xw_iload_n (pc := 84) (i := 1) (x := e23.2) C dX9_readsCells_84 rfl rfl ?_
  refine xw_if_gt (pc := 85) (tgt := 100) C dX9_readsCells_85 (by decide) (fun q => ?_) (fun q => ?_)
  · replace hm := xif_t q hm
    refine xw_iconst (pc := 100) (v := 1) C dX9_readsCells_100 xk_i_1 ?_
    refine xw_goto (pc := 101) (tgt := 105) C dX9_readsCells_101 (by decide) ?_
    obtain rfl := Option.some.inj hm
    exact xw_zreturn (pc := 105) (v := xbi true) C dX9_readsCells_105 rfl (xbi_nar _) hX
  · replace hm := xif_f q hm
    refine xw_aload_n (pc := 88) (i := 0) (x := x0) C dX9_readsCells_88 rfl rfl ?_
    refine xw_iconst (pc := 89) (v := 1) C dX9_readsCells_89 xk_i_1 ?_
    refine xw_aload_n (pc := 90) (i := 0) (x := x0) C dX9_readsCells_90 rfl rfl ?_
    obtain ⟨v29, q30, hm⟩ := xbind hm
    refine xw_getI (pc := 91) C dX9_readsCells_91 fl_X9_65 q30 ?_
    obtain ⟨_, q31, hm⟩ := xbind hm
    obtain ⟨v32, q33, hm⟩ := xbind hm
    refine xw_callV1 (pc := 94) (As := [.int (1 : Int32), .int v29]) (st := []) C dX9_readsCells_94 (wX9_fails q33) dd_X9_fails lk_X9_84 dv_X9_fails (xco_spec q31) rfl (Nat.le_of_ble_eq_true rfl) (Nat.le_of_ble_eq_true rfl) (Nat.le_of_ble_eq_true rfl) ⟨Nat.le_refl _, Nat.le_refl _⟩ hN ?_
    refine xw_if_eqZ (pc := 97) (b := v32.1) (tgt := 104) C dX9_readsCells_97 (by decide) (fun q => ?_) (fun q => ?_)
    · replace hm := xif_f q hm
      refine xw_iconst (pc := 104) (v := 0) C dX9_readsCells_104 xk_i_0 ?_
      obtain rfl := Option.some.inj hm
      exact xw_zreturn (pc := 105) (v := xbi false) C dX9_readsCells_105 rfl (xbi_nar _) hX
    · replace hm := xif_t q hm
      refine xw_iconst (pc := 100) (v := 1) C dX9_readsCells_100 xk_i_1 ?_
      refine xw_goto (pc := 101) (tgt := 105) C dX9_readsCells_101 (by decide) ?_
      obtain rfl := Option.some.inj hm
      exact xw_zreturn (pc := 105) (v := xbi true) C dX9_readsCells_105 rfl (xbi_nar _) hX
def fX9_readsNumber_P11 (X : XCtx) (x0 : Nat) (x1 : Int32) (x2 : Int32) (x3 : Int32) (x4 : Int32) (x5 : Int32) (n sl : Nat) (s : XH) : Prop := XW X 11 [some (.ref x0), some (.int x1), some (.int x2), some (.int x3), some (.int x4), some (.int x5)] [] s n sl
def fX9_readsNumber_E11 (X : XCtx) (x0 : Nat) (x1 : Int32) (x2 : Int32) (x3 : Int32) (x4 : Int32) (x5 : Int32) (n sl : Nat) (e : XH) : Prop := XW X 61 [some (.ref x0), none, some (.int x2), some (.int x3), some (.int x4), some (.int x5)] [] e n sl
set_option maxHeartbeats 4000000 in
set_option maxRecDepth 100000 in
theorem fX9_readsNumber_B11_w {X : XCtx} (C : XOK X RX9 cX9_readsNumber 6 "readsNumber" (some .boolean) 2 42) {n sl : Nat} (hN : XN X n sl) {x0 : Nat} {x1 : Int32} {x2 : Int32} {x3 : Int32} {x4 : Int32} {x5 : Int32} (s : XH) (o : XH ⊕ XH) (hm : fX9_readsNumber_B11 x0 x1 x2 x3 x4 x5 s = some o) (hc : ∀ s', o = .inl s' → fX9_readsNumber_P11 X x0 x1 x2 x3 x4 x5 n sl s') (he : ∀ e', o = .inr e' → fX9_readsNumber_E11 X x0 x1 x2 x3 x4 x5 n sl e') : fX9_readsNumber_P11 X x0 x1 x2 x3 x4 x5 n sl s := by
  revert s; intro h hm
  show XW X 11 [some (.ref x0), some (.int x1), some (.int x2), some (.int x3), some (.int x4), some (.int x5)] [] h n sl
  replace hm : fX9_readsNumber_b11 x0 x1 x2 x3 x4 x5 h = some o := hm
  unfold fX9_readsNumber_b11 at hm
  refine xw_aload_n (pc := 11) (i := 0) (x := x0) C dX9_readsNumber_11 rfl rfl ?_
  obtain ⟨_, q5, hm⟩ := xbind hm
  obtain ⟨v6, q7, hm⟩ := xbind hm
  refine xw_callV1 (pc := 12) (As := []) (st := []) C dX9_readsNumber_12 (wX9_isDigit q7) dd_X9_isDigit lk_X9_80 dv_X9_isDigit (xco_spec q5) rfl (Nat.le_of_ble_eq_true rfl) (Nat.le_of_ble_eq_true rfl) (Nat.le_of_ble_eq_true rfl) ⟨Nat.le_refl _, Nat.le_refl _⟩ hN ?_
  refine xw_if_eqZ (pc := 15) (b := v6) (tgt := 61) C dX9_readsNumber_15 (by decide) (fun q => ?_) (fun q => ?_)
  · replace hm := xif_f q hm
    obtain rfl := Option.some.inj hm
    refine xw_sub (pc := 61) _ ?_ (he _ rfl)
    exact ⟨Or.inr rfl, Or.inl rfl, Or.inr rfl, Or.inr rfl, Or.inr rfl, Or.inr rfl, trivial⟩
  · replace hm := xif_t q hm
    refine xw_aload_n (pc := 18) (i := 0) (x := x0) C dX9_readsNumber_18 rfl rfl ?_
    obtain ⟨v8, q9, hm⟩ := xbind hm
    refine xw_getI (pc := 19) C dX9_readsNumber_19 fl_X9_65 q9 ?_
    refine xw_iload (pc := 22) (i := 5) (x := x5) C dX9_readsNumber_22 rfl ?_
    refine xw_iload_n (pc := 24) (i := 1) (x := x1) C dX9_readsNumber_24 rfl rfl ?_
    refine xw_iadd (pc := 25) C dX9_readsNumber_25 ?_
    refine xw_icmp_ge (pc := 26) (tgt := 61) C dX9_readsNumber_26 (by decide) (fun q => ?_) (fun q => ?_)
    · replace hm := xif_t q hm
      obtain rfl := Option.some.inj hm
      refine xw_sub (pc := 61) _ ?_ (he _ rfl)
      exact ⟨Or.inr rfl, Or.inl rfl, Or.inr rfl, Or.inr rfl, Or.inr rfl, Or.inr rfl, trivial⟩
    · replace hm := xif_f q hm
      refine xw_aload_n (pc := 29) (i := 0) (x := x0) C dX9_readsNumber_29 rfl rfl ?_
      refine xw_bipush (pc := 30) (v := 10) C dX9_readsNumber_30 xk_b_10 ?_
      refine xw_aload_n (pc := 32) (i := 0) (x := x0) C dX9_readsNumber_32 rfl rfl ?_
      obtain ⟨v10, q11, hm⟩ := xbind hm
      refine xw_getI (pc := 33) C dX9_readsNumber_33 fl_X9_77 q11 ?_
      refine xw_imul (pc := 36) C dX9_readsNumber_36 ?_
      refine xw_aload_n (pc := 37) (i := 0) (x := x0) C dX9_readsNumber_37 rfl rfl ?_
      obtain ⟨_, q12, hm⟩ := xbind hm
      obtain ⟨v13, q14, hm⟩ := xbind hm
      refine xw_callV1 (pc := 38) (As := []) (st := [.int ((10 : Int32) * v10), .ref x0]) C dX9_readsNumber_38 (wX9_here q14) dd_X9_here lk_X9_68 dv_X9_here (xco_spec q12) rfl (Nat.le_of_ble_eq_true rfl) (Nat.le_of_ble_eq_true rfl) (Nat.le_of_ble_eq_true rfl) ⟨Nat.le_refl _, Nat.le_refl _⟩ hN ?_
      refine xw_iadd (pc := 41) C dX9_readsNumber_41 ?_
      refine xw_bipush (pc := 42) (v := 48) C dX9_readsNumber_42 xk_b_48 ?_
      refine xw_isub (pc := 44) C dX9_readsNumber_44 ?_
      obtain ⟨h15, q16, hm⟩ := xbind hm
      refine xw_put (pc := 45) C dX9_readsNumber_45 fl_X9_77 q16 (fun _ => rfl) (fun _ => rfl) ?_
      refine xw_aload_n (pc := 48) (i := 0) (x := x0) C dX9_readsNumber_48 rfl rfl ?_
      refine xw_dup (pc := 49) C dX9_readsNumber_49 rfl ?_
      obtain ⟨v17, q18, hm⟩ := xbind hm
      refine xw_getI (pc := 50) C dX9_readsNumber_50 fl_X9_65 q18 ?_
      refine xw_iconst (pc := 53) (v := 1) C dX9_readsNumber_53 xk_i_1 ?_
      refine xw_iadd (pc := 54) C dX9_readsNumber_54 ?_
      obtain ⟨h19, q20, hm⟩ := xbind hm
      refine xw_put (pc := 55) C dX9_readsNumber_55 fl_X9_65 q20 (fun _ => rfl) (fun _ => rfl) ?_
      refine xw_goto (pc := 58) (tgt := 11) C dX9_readsNumber_58 (by decide) ?_
      obtain rfl := Option.some.inj hm
      refine xw_sub (pc := 11) _ ?_ (hc _ rfl)
      exact ⟨Or.inr rfl, Or.inr rfl, Or.inr rfl, Or.inr rfl, Or.inr rfl, Or.inr rfl, trivial⟩
set_option maxHeartbeats 4000000 in
set_option maxRecDepth 100000 in
theorem wX9_readsNumber {l : Launch} {n sl : Nat} {h : XH} {x0 : Nat} {x1 : Int32} {x2 : Int32} {x3 : Int32} {x4 : Int32} {o : Bool × XH} (hm : fX9_readsNumber h x0 x1 x2 x3 x4 = some o) : XM l yX9_readsNumber cX9_readsNumber 6 (some .boolean) 2 42 [.ref x0, .int x1, .int x2, .int x3, .int x4] h n sl (some (.int (xbi o.1))) o.2 n sl := by
  refine xm_of pnX9 [some (.ref x0), some (.int x1), some (.int x2), some (.int x3), some (.int x4), none] 1 rfl (Nat.le_of_ble_eq_true rfl) ?_
  intro X hT C
  replace C : XOK X RX9 cX9_readsNumber 6 "readsNumber" (some .boolean) 2 42 := C
  obtain ⟨-, hN, hX⟩ := hT
  unfold fX9_readsNumber at hm
  refine xw_aload_n (pc := 0) (i := 0) (x := x0) C dX9_readsNumber_0 rfl rfl ?_
  obtain ⟨v1, q2, hm⟩ := xbind hm
  refine xw_getI (pc := 1) C dX9_readsNumber_1 fl_X9_65 q2 ?_
  refine xw_istore (pc := 4) (i := 5) (x := v1) (L' := [some (.ref x0), some (.int x1), some (.int x2), some (.int x3), some (.int x4), some (.int v1)]) C dX9_readsNumber_4 (Nat.le_of_ble_eq_true rfl) rfl ?_
  refine xw_aload_n (pc := 6) (i := 0) (x := x0) C dX9_readsNumber_6 rfl rfl ?_
  refine xw_iconst (pc := 7) (v := 0) C dX9_readsNumber_7 xk_i_0 ?_
  obtain ⟨h3, q4, hm⟩ := xbind hm
  refine xw_put (pc := 8) C dX9_readsNumber_8 fl_X9_77 q4 (fun _ => rfl) (fun _ => rfl) ?_
  obtain ⟨e21, q22, hm⟩ := xbind hm
  refine xw_sub (pc := 11) [some (.ref x0), some (.int x1), some (.int x2), some (.int x3), some (.int x4), some (.int v1)] ⟨Or.inr rfl, Or.inr rfl, Or.inr rfl, Or.inr rfl, Or.inr rfl, Or.inr rfl, trivial⟩ ?_
  refine xloop_walk (fX9_readsNumber_B11 x0 x1 x2 x3 x4 v1) (fX9_readsNumber_P11 X x0 x1 x2 x3 x4 v1 n sl) (fX9_readsNumber_E11 X x0 x1 x2 x3 x4 v1 n sl) (fun s' o' => fX9_readsNumber_B11_w C hN s' o') 5000 h3 e21 q22 ?_
  show XW X 61 [some (.ref x0), none, some (.int x2), some (.int x3), some (.int x4), some (.int v1)] [] e21 n sl
  refine xw_aload_n (pc := 61) (i := 0) (x := x0) C dX9_readsNumber_61 rfl rfl ?_
  obtain ⟨v23, q24, hm⟩ := xbind hm
  refine xw_getI (pc := 62) C dX9_readsNumber_62 fl_X9_65 q24 ?_
  refine xw_iload (pc := 65) (i := 5) (x := v1) C dX9_readsNumber_65 rfl ?_
  refine xw_icmp_eq (pc := 67) (tgt := 77) C dX9_readsNumber_67 (by decide) (fun q => ?_) (fun q => ?_)
  · replace hm := xif_t q hm
    refine xw_aload_n (pc := 77) (i := 0) (x := x0) C dX9_readsNumber_77 rfl rfl ?_
    refine xw_iconst (pc := 78) (v := 1) C dX9_readsNumber_78 xk_i_1 ?_
    refine xw_aload_n (pc := 79) (i := 0) (x := x0) C dX9_readsNumber_79 rfl rfl ?_
    obtain ⟨v25, q26, hm⟩ := xbind hm
    refine xw_getI (pc := 80) C dX9_readsNumber_80 fl_X9_65 q26 ?_
    obtain ⟨_, q27, hm⟩ := xbind hm
    obtain ⟨v28, q29, hm⟩ := xbind hm
    refine xw_callV1 (pc := 83) (As := [.int (1 : Int32), .int v25]) (st := []) C dX9_readsNumber_83 (wX9_fails q29) dd_X9_fails lk_X9_84 dv_X9_fails (xco_spec q27) rfl (Nat.le_of_ble_eq_true rfl) (Nat.le_of_ble_eq_true rfl) (Nat.le_of_ble_eq_true rfl) ⟨Nat.le_refl _, Nat.le_refl _⟩ hN ?_
    obtain rfl := Option.some.inj hm
    exact xw_zreturn (pc := 86) (v := xbi v28.1) C dX9_readsNumber_86 rfl (xbi_nar _) hX
  · replace hm := xif_f q hm
    refine xw_aload_n (pc := 70) (i := 0) (x := x0) C dX9_readsNumber_70 rfl rfl ?_
    obtain ⟨_, q30, hm⟩ := xbind hm
    obtain ⟨v31, q32, hm⟩ := xbind hm
    refine xw_callV1 (pc := 71) (As := []) (st := []) C dX9_readsNumber_71 (wX9_isDigit q32) dd_X9_isDigit lk_X9_80 dv_X9_isDigit (xco_spec q30) rfl (Nat.le_of_ble_eq_true rfl) (Nat.le_of_ble_eq_true rfl) (Nat.le_of_ble_eq_true rfl) ⟨Nat.le_refl _, Nat.le_refl _⟩ hN ?_
    refine xw_if_eqZ (pc := 74) (b := v31) (tgt := 87) C dX9_readsNumber_74 (by decide) (fun q => ?_) (fun q => ?_)
    · replace hm := xif_f q hm
      refine xw_aload_n (pc := 87) (i := 0) (x := x0) C dX9_readsNumber_87 rfl rfl ?_
      refine xw_dup (pc := 88) C dX9_readsNumber_88 rfl ?_
      obtain ⟨v33, q34, hm⟩ := xbind hm
      refine xw_getI (pc := 89) C dX9_readsNumber_89 fl_X9_77 q34 ?_
      refine xw_iload_n (pc := 92) (i := 2) (x := x2) C dX9_readsNumber_92 rfl rfl ?_
      refine xw_imul (pc := 93) C dX9_readsNumber_93 ?_
      obtain ⟨h35, q36, hm⟩ := xbind hm
      refine xw_put (pc := 94) C dX9_readsNumber_94 fl_X9_77 q36 (fun _ => rfl) (fun _ => rfl) ?_
      refine xw_aload_n (pc := 97) (i := 0) (x := x0) C dX9_readsNumber_97 rfl rfl ?_
      obtain ⟨v37, q38, hm⟩ := xbind hm
      refine xw_getI (pc := 98) C dX9_readsNumber_98 fl_X9_77 q38 ?_
      refine xw_iload_n (pc := 101) (i := 3) (x := x3) C dX9_readsNumber_101 rfl rfl ?_
      refine xw_iload (pc := 102) (i := 4) (x := x4) C dX9_readsNumber_102 rfl ?_
      obtain ⟨v39, q40, hm⟩ := xbind hm
      refine xw_callS1 (pc := 104) (As := [.int v37, .int x3, .int x4]) (st := []) C dX9_readsNumber_104 (wX9_in q40) dd_X9_in lk_X9_55 ds_X9_in rfl (Nat.le_of_ble_eq_true rfl) (Nat.le_of_ble_eq_true rfl) (Nat.le_of_ble_eq_true rfl) ⟨Nat.le_refl _, Nat.le_refl _⟩ hN ?_
      refine xw_if_neZ (pc := 107) (b := v39) (tgt := 120) C dX9_readsNumber_107 (by decide) (fun q => ?_) (fun q => ?_)
      · replace hm := xif_t q hm
        refine xw_iconst (pc := 120) (v := 1) C dX9_readsNumber_120 xk_i_1 ?_
        refine xw_goto (pc := 121) (tgt := 125) C dX9_readsNumber_121 (by decide) ?_
        obtain rfl := Option.some.inj hm
        exact xw_zreturn (pc := 125) (v := xbi true) C dX9_readsNumber_125 rfl (xbi_nar _) hX
      · replace hm := xif_f q hm
        refine xw_aload_n (pc := 110) (i := 0) (x := x0) C dX9_readsNumber_110 rfl rfl ?_
        refine xw_iconst (pc := 111) (v := 2) C dX9_readsNumber_111 xk_i_2 ?_
        refine xw_iload (pc := 112) (i := 5) (x := v1) C dX9_readsNumber_112 rfl ?_
        obtain ⟨_, q41, hm⟩ := xbind hm
        obtain ⟨v42, q43, hm⟩ := xbind hm
        refine xw_callV1 (pc := 114) (As := [.int (2 : Int32), .int v1]) (st := []) C dX9_readsNumber_114 (wX9_fails q43) dd_X9_fails lk_X9_84 dv_X9_fails (xco_spec q41) rfl (Nat.le_of_ble_eq_true rfl) (Nat.le_of_ble_eq_true rfl) (Nat.le_of_ble_eq_true rfl) ⟨Nat.le_refl _, Nat.le_refl _⟩ hN ?_
        refine xw_if_eqZ (pc := 117) (b := v42.1) (tgt := 124) C dX9_readsNumber_117 (by decide) (fun q => ?_) (fun q => ?_)
        · replace hm := xif_f q hm
          refine xw_iconst (pc := 124) (v := 0) C dX9_readsNumber_124 xk_i_0 ?_
          obtain rfl := Option.some.inj hm
          exact xw_zreturn (pc := 125) (v := xbi false) C dX9_readsNumber_125 rfl (xbi_nar _) hX
        · replace hm := xif_t q hm
          refine xw_iconst (pc := 120) (v := 1) C dX9_readsNumber_120 xk_i_1 ?_
          refine xw_goto (pc := 121) (tgt := 125) C dX9_readsNumber_121 (by decide) ?_
          obtain rfl := Option.some.inj hm
          exact xw_zreturn (pc := 125) (v := xbi true) C dX9_readsNumber_125 rfl (xbi_nar _) hX
    · replace hm := xif_t q hm
      refine xw_aload_n (pc := 77) (i := 0) (x := x0) C dX9_readsNumber_77 rfl rfl ?_
      refine xw_iconst (pc := 78) (v := 1) C dX9_readsNumber_78 xk_i_1 ?_
      refine xw_aload_n (pc := 79) (i := 0) (x := x0) C dX9_readsNumber_79 rfl rfl ?_
      obtain ⟨v44, q45, hm⟩ := xbind hm
      refine xw_getI (pc := 80) C dX9_readsNumber_80 fl_X9_65 q45 ?_
      obtain ⟨_, q46, hm⟩ := xbind hm
      obtain ⟨v47, q48, hm⟩ := xbind hm
      refine xw_callV1 (pc := 83) (As := [.int (1 : Int32), .int v44]) (st := []) C dX9_readsNumber_83 (wX9_fails q48) dd_X9_fails lk_X9_84 dv_X9_fails (xco_spec q46) rfl (Nat.le_of_ble_eq_true rfl) (Nat.le_of_ble_eq_true rfl) (Nat.le_of_ble_eq_true rfl) ⟨Nat.le_refl _, Nat.le_refl _⟩ hN ?_
      obtain rfl := Option.some.inj hm
      exact xw_zreturn (pc := 86) (v := xbi v47.1) C dX9_readsNumber_86 rfl (xbi_nar _) hX
set_option maxHeartbeats 4000000 in
set_option maxRecDepth 100000 in
theorem fX9_readsSpeed_J50_w {X : XCtx} (C : XOK X RX9 cX9_readsSpeed 3 "readsSpeed" (some .boolean) 3 67) {n sl : Nat} (hN : XN X n sl)  {h : XH} {x0 : Nat} {x1 : Int32} {s0 : Nat} {s1 : Int32} {s2 : Bool} {o : Bool × XH} (hm : fX9_readsSpeed_J50 h x0 x1 s0 s1 s2 = some o) (hX : XR X (some (.int (xbi o.1))) o.2 n sl) : XW X 50 [some (.ref x0), some (.int x1), none] [.int (xbi s2), .int s1, .ref s0] h n sl := by
  unfold fX9_readsSpeed_J50 at hm
  refine xw_iadd (pc := 50) C dX9_readsSpeed_50 ?_
  obtain ⟨h13, q14, hm⟩ := xbind hm
  refine xw_put (pc := 51) C dX9_readsSpeed_51 fl_X9_65 q14 (fun _ => rfl) (fun _ => rfl) ?_
  refine xw_aload_n (pc := 54) (i := 0) (x := x0) C dX9_readsSpeed_54 rfl rfl ?_
  refine xw_iconst (pc := 55) (v := 4) C dX9_readsSpeed_55 xk_i_4 ?_
  refine xw_iload_n (pc := 56) (i := 1) (x := x1) C dX9_readsSpeed_56 rfl rfl ?_
  refine xw_sipush (pc := 57) (v := -1000) C dX9_readsSpeed_57 xk_s_m1000 ?_
  refine xw_sipush (pc := 60) (v := 1000) C dX9_readsSpeed_60 xk_s_1000 ?_
  obtain ⟨_, q15, hm⟩ := xbind hm
  obtain ⟨v16, q17, hm⟩ := xbind hm
  refine xw_callV1 (pc := 63) (As := [.int (4 : Int32), .int x1, .int (-1000 : Int32), .int (1000 : Int32)]) (st := []) C dX9_readsSpeed_63 (wX9_readsNumber q17) dd_X9_readsNumber lk_X9_88 dv_X9_readsNumber (xco_spec q15) rfl (Nat.le_of_ble_eq_true rfl) (Nat.le_of_ble_eq_true rfl) (Nat.le_of_ble_eq_true rfl) ⟨Nat.le_refl _, Nat.le_refl _⟩ hN ?_
  refine xw_istore_n (pc := 66) (i := 2) (x := (xbi v16.1)) (L' := [some (.ref x0), some (.int x1), some (.int (xbi v16.1))]) C dX9_readsSpeed_66 rfl (Nat.le_of_ble_eq_true rfl) rfl ?_
  refine xw_aload_n (pc := 67) (i := 0) (x := x0) C dX9_readsSpeed_67 rfl rfl ?_
  obtain ⟨v18, q19, hm⟩ := xbind hm
  refine xw_getR (pc := 68) C dX9_readsSpeed_68 fl_X9_7 q19 ?_
  refine xw_bipush (pc := 71) (v := 62) C dX9_readsSpeed_71 xk_b_62 ?_
  refine xw_aload_n (pc := 73) (i := 0) (x := x0) C dX9_readsSpeed_73 rfl rfl ?_
  obtain ⟨v20, q21, hm⟩ := xbind hm
  refine xw_getI (pc := 74) C dX9_readsSpeed_74 fl_X9_77 q21 ?_
  obtain ⟨h22, q23, hm⟩ := xbind hm
  refine xw_iastore (pc := 77) C dX9_readsSpeed_77 q23 ?_
  refine xw_iload_n (pc := 78) (i := 2) (x := (xbi v16.1)) C dX9_readsSpeed_78 rfl rfl ?_
  obtain rfl := Option.some.inj hm
  exact xw_zreturn (pc := 79) (v := xbi v16.1) C dX9_readsSpeed_79 rfl (xbi_nar _) hX
set_option maxHeartbeats 4000000 in
set_option maxRecDepth 100000 in
theorem fX9_readsSpeed_J35_w {X : XCtx} (C : XOK X RX9 cX9_readsSpeed 3 "readsSpeed" (some .boolean) 3 67) {n sl : Nat} (hN : XN X n sl)  {h : XH} {x0 : Nat} {s0 : Int32} {o : Bool × XH} (hm : fX9_readsSpeed_J35 h x0 s0 = some o) (hX : XR X (some (.int (xbi o.1))) o.2 n sl) : XW X 35 [some (.ref x0), none, none] [.int s0] h n sl := by
  unfold fX9_readsSpeed_J35 at hm
  refine xw_istore_n (pc := 35) (i := 1) (x := s0) (L' := [some (.ref x0), some (.int s0), none]) C dX9_readsSpeed_35 rfl (Nat.le_of_ble_eq_true rfl) rfl ?_
  refine xw_aload_n (pc := 36) (i := 0) (x := x0) C dX9_readsSpeed_36 rfl rfl ?_
  refine xw_dup (pc := 37) C dX9_readsSpeed_37 rfl ?_
  obtain ⟨v11, q12, hm⟩ := xbind hm
  refine xw_getI (pc := 38) C dX9_readsSpeed_38 fl_X9_65 q12 ?_
  refine xw_iload_n (pc := 41) (i := 1) (x := s0) C dX9_readsSpeed_41 rfl rfl ?_
  refine xw_if_ge (pc := 42) (tgt := 49) C dX9_readsSpeed_42 (by decide) (fun q => ?_) (fun q => ?_)
  · replace hm := xif_t q hm
    refine xw_iconst (pc := 49) (v := 0) C dX9_readsSpeed_49 xk_i_0 ?_
    exact xw_sub (pc := 50) [some (.ref x0), some (.int s0), none] ⟨Or.inr rfl, Or.inr rfl, Or.inl rfl, trivial⟩ (fX9_readsSpeed_J50_w C hN hm hX)
  · replace hm := xif_f q hm
    refine xw_iconst (pc := 45) (v := 1) C dX9_readsSpeed_45 xk_i_1 ?_
    refine xw_goto (pc := 46) (tgt := 50) C dX9_readsSpeed_46 (by decide) ?_
    exact xw_sub (pc := 50) [some (.ref x0), some (.int s0), none] ⟨Or.inr rfl, Or.inr rfl, Or.inl rfl, trivial⟩ (fX9_readsSpeed_J50_w C hN hm hX)
set_option maxHeartbeats 4000000 in
set_option maxRecDepth 100000 in
theorem wX9_readsSpeed {l : Launch} {n sl : Nat} {h : XH} {x0 : Nat} {o : Bool × XH} (hm : fX9_readsSpeed h x0 = some o) : XM l yX9_readsSpeed cX9_readsSpeed 3 (some .boolean) 3 67 [.ref x0] h n sl (some (.int (xbi o.1))) o.2 n sl := by
  refine xm_of pnX9 [some (.ref x0), none, none] 2 rfl (Nat.le_of_ble_eq_true rfl) ?_
  intro X hT C
  replace C : XOK X RX9 cX9_readsSpeed 3 "readsSpeed" (some .boolean) 3 67 := C
  obtain ⟨-, hN, hX⟩ := hT
  unfold fX9_readsSpeed at hm
  refine xw_aload_n (pc := 0) (i := 0) (x := x0) C dX9_readsSpeed_0 rfl rfl ?_
  obtain ⟨_, q1, hm⟩ := xbind hm
  obtain ⟨v2, q3, hm⟩ := xbind hm
  refine xw_callV1 (pc := 1) (As := []) (st := []) C dX9_readsSpeed_1 (wX9_here q3) dd_X9_here lk_X9_68 dv_X9_here (xco_spec q1) rfl (Nat.le_of_ble_eq_true rfl) (Nat.le_of_ble_eq_true rfl) (Nat.le_of_ble_eq_true rfl) ⟨Nat.le_refl _, Nat.le_refl _⟩ hN ?_
  refine xw_bipush (pc := 4) (v := 42) C dX9_readsSpeed_4 xk_b_42 ?_
  refine xw_icmp_eq (pc := 6) (tgt := 11) C dX9_readsSpeed_6 (by decide) (fun q => ?_) (fun q => ?_)
  · replace hm := xif_t q hm
    refine xw_aload_n (pc := 11) (i := 0) (x := x0) C dX9_readsSpeed_11 rfl rfl ?_
    refine xw_dup (pc := 12) C dX9_readsSpeed_12 rfl ?_
    obtain ⟨v4, q5, hm⟩ := xbind hm
    refine xw_getI (pc := 13) C dX9_readsSpeed_13 fl_X9_65 q5 ?_
    refine xw_iconst (pc := 16) (v := 1) C dX9_readsSpeed_16 xk_i_1 ?_
    refine xw_iadd (pc := 17) C dX9_readsSpeed_17 ?_
    obtain ⟨h6, q7, hm⟩ := xbind hm
    refine xw_put (pc := 18) C dX9_readsSpeed_18 fl_X9_65 q7 (fun _ => rfl) (fun _ => rfl) ?_
    refine xw_aload_n (pc := 21) (i := 0) (x := x0) C dX9_readsSpeed_21 rfl rfl ?_
    obtain ⟨_, q8, hm⟩ := xbind hm
    obtain ⟨v9, q10, hm⟩ := xbind hm
    refine xw_callV1 (pc := 22) (As := []) (st := []) C dX9_readsSpeed_22 (wX9_here q10) dd_X9_here lk_X9_68 dv_X9_here (xco_spec q8) rfl (Nat.le_of_ble_eq_true rfl) (Nat.le_of_ble_eq_true rfl) (Nat.le_of_ble_eq_true rfl) ⟨Nat.le_refl _, Nat.le_refl _⟩ hN ?_
    refine xw_bipush (pc := 25) (v := 45) C dX9_readsSpeed_25 xk_b_45 ?_
    refine xw_icmp_ne (pc := 27) (tgt := 34) C dX9_readsSpeed_27 (by decide) (fun q => ?_) (fun q => ?_)
    · replace hm := xif_f q hm
      refine xw_iconst (pc := 34) (v := 1) C dX9_readsSpeed_34 xk_i_1 ?_
      exact xw_sub (pc := 35) [some (.ref x0), none, none] ⟨Or.inr rfl, Or.inl rfl, Or.inl rfl, trivial⟩ (fX9_readsSpeed_J35_w C hN hm hX)
    · replace hm := xif_t q hm
      refine xw_iconst (pc := 30) (v := -1) C dX9_readsSpeed_30 xk_i_m1 ?_
      refine xw_goto (pc := 31) (tgt := 35) C dX9_readsSpeed_31 (by decide) ?_
      exact xw_sub (pc := 35) [some (.ref x0), none, none] ⟨Or.inr rfl, Or.inl rfl, Or.inl rfl, trivial⟩ (fX9_readsSpeed_J35_w C hN hm hX)
  · replace hm := xif_f q hm
    refine xw_iconst (pc := 9) (v := 1) C dX9_readsSpeed_9 xk_i_1 ?_
    obtain rfl := Option.some.inj hm
    exact xw_zreturn (pc := 10) (v := xbi true) C dX9_readsSpeed_10 rfl (xbi_nar _) hX
set_option maxHeartbeats 4000000 in
set_option maxRecDepth 100000 in
theorem wX9_readsStart {l : Launch} {n sl : Nat} {h : XH} {x0 : Nat} {o : Bool × XH} (hm : fX9_readsStart h x0 = some o) : XM l yX9_readsStart cX9_readsStart 2 (some .boolean) 3 67 [.ref x0] h n sl (some (.int (xbi o.1))) o.2 n sl := by
  refine xm_of pnX9 [some (.ref x0), none] 1 rfl (Nat.le_of_ble_eq_true rfl) ?_
  intro X hT C
  replace C : XOK X RX9 cX9_readsStart 2 "readsStart" (some .boolean) 3 67 := C
  obtain ⟨-, hN, hX⟩ := hT
  unfold fX9_readsStart at hm
  refine xw_aload_n (pc := 0) (i := 0) (x := x0) C dX9_readsStart_0 rfl rfl ?_
  obtain ⟨_, q1, hm⟩ := xbind hm
  obtain ⟨v2, q3, hm⟩ := xbind hm
  refine xw_callV1 (pc := 1) (As := []) (st := []) C dX9_readsStart_1 (wX9_here q3) dd_X9_here lk_X9_68 dv_X9_here (xco_spec q1) rfl (Nat.le_of_ble_eq_true rfl) (Nat.le_of_ble_eq_true rfl) (Nat.le_of_ble_eq_true rfl) ⟨Nat.le_refl _, Nat.le_refl _⟩ hN ?_
  refine xw_bipush (pc := 4) (v := 64) C dX9_readsStart_4 xk_b_64 ?_
  refine xw_icmp_eq (pc := 6) (tgt := 11) C dX9_readsStart_6 (by decide) (fun q => ?_) (fun q => ?_)
  · replace hm := xif_t q hm
    refine xw_aload_n (pc := 11) (i := 0) (x := x0) C dX9_readsStart_11 rfl rfl ?_
    refine xw_dup (pc := 12) C dX9_readsStart_12 rfl ?_
    obtain ⟨v4, q5, hm⟩ := xbind hm
    refine xw_getI (pc := 13) C dX9_readsStart_13 fl_X9_65 q5 ?_
    refine xw_iconst (pc := 16) (v := 1) C dX9_readsStart_16 xk_i_1 ?_
    refine xw_iadd (pc := 17) C dX9_readsStart_17 ?_
    obtain ⟨h6, q7, hm⟩ := xbind hm
    refine xw_put (pc := 18) C dX9_readsStart_18 fl_X9_65 q7 (fun _ => rfl) (fun _ => rfl) ?_
    refine xw_aload_n (pc := 21) (i := 0) (x := x0) C dX9_readsStart_21 rfl rfl ?_
    refine xw_iconst (pc := 22) (v := 2) C dX9_readsStart_22 xk_i_2 ?_
    refine xw_iconst (pc := 23) (v := 1) C dX9_readsStart_23 xk_i_1 ?_
    refine xw_iconst (pc := 24) (v := 0) C dX9_readsStart_24 xk_i_0 ?_
    refine xw_bipush (pc := 25) (v := 59) C dX9_readsStart_25 xk_b_59 ?_
    obtain ⟨_, q8, hm⟩ := xbind hm
    obtain ⟨v9, q10, hm⟩ := xbind hm
    refine xw_callV1 (pc := 27) (As := [.int (2 : Int32), .int (1 : Int32), .int (0 : Int32), .int (59 : Int32)]) (st := []) C dX9_readsStart_27 (wX9_readsNumber q10) dd_X9_readsNumber lk_X9_88 dv_X9_readsNumber (xco_spec q8) rfl (Nat.le_of_ble_eq_true rfl) (Nat.le_of_ble_eq_true rfl) (Nat.le_of_ble_eq_true rfl) ⟨Nat.le_refl _, Nat.le_refl _⟩ hN ?_
    refine xw_istore_n (pc := 30) (i := 1) (x := (xbi v9.1)) (L' := [some (.ref x0), some (.int (xbi v9.1))]) C dX9_readsStart_30 rfl (Nat.le_of_ble_eq_true rfl) rfl ?_
    refine xw_aload_n (pc := 31) (i := 0) (x := x0) C dX9_readsStart_31 rfl rfl ?_
    obtain ⟨v11, q12, hm⟩ := xbind hm
    refine xw_getR (pc := 32) C dX9_readsStart_32 fl_X9_7 q12 ?_
    refine xw_bipush (pc := 35) (v := 61) C dX9_readsStart_35 xk_b_61 ?_
    refine xw_aload_n (pc := 37) (i := 0) (x := x0) C dX9_readsStart_37 rfl rfl ?_
    obtain ⟨v13, q14, hm⟩ := xbind hm
    refine xw_getI (pc := 38) C dX9_readsStart_38 fl_X9_77 q14 ?_
    obtain ⟨h15, q16, hm⟩ := xbind hm
    refine xw_iastore (pc := 41) C dX9_readsStart_41 q16 ?_
    refine xw_iload_n (pc := 42) (i := 1) (x := (xbi v9.1)) C dX9_readsStart_42 rfl rfl ?_
    obtain rfl := Option.some.inj hm
    exact xw_zreturn (pc := 43) (v := xbi v9.1) C dX9_readsStart_43 rfl (xbi_nar _) hX
  · replace hm := xif_f q hm
    refine xw_iconst (pc := 9) (v := 1) C dX9_readsStart_9 xk_i_1 ?_
    obtain rfl := Option.some.inj hm
    exact xw_zreturn (pc := 10) (v := xbi true) C dX9_readsStart_10 rfl (xbi_nar _) hX
def fX9_load_P122 (X : XCtx) (x0 : Nat) (n sl : Nat) (s : (XH × Int32)) : Prop := XW X 122 [some (.ref x0), none, some (.int s.2), none] [] s.1 n sl
def fX9_load_E122 (X : XCtx) (x0 : Nat) (n sl : Nat) (e : XH) : Prop := XW X 168 [some (.ref x0), none, none, none] [] e n sl
set_option maxHeartbeats 4000000 in
set_option maxRecDepth 100000 in
theorem fX9_load_B122_w {X : XCtx} (C : XOK X RX9 cX9_load 4 "load" (some .int) 4 89) {n sl : Nat} (hN : XN X n sl) {x0 : Nat} (s : (XH × Int32)) (o : (XH × Int32) ⊕ XH) (hm : fX9_load_B122 x0 s = some o) (hc : ∀ s', o = .inl s' → fX9_load_P122 X x0 n sl s') (he : ∀ e', o = .inr e' → fX9_load_E122 X x0 n sl e') : fX9_load_P122 X x0 n sl s := by
  obtain ⟨h, x2⟩ := s
  show XW X 122 [some (.ref x0), none, some (.int x2), none] [] h n sl
  replace hm : fX9_load_b122 x0 h x2 = some o := hm
  unfold fX9_load_b122 at hm
  refine xw_iload_n (pc := 122) (i := 2) (x := x2) C dX9_load_122 rfl rfl ?_
  refine xw_bipush (pc := 123) (v := 98) C dX9_load_123 xk_b_98 ?_
  refine xw_icmp_ge (pc := 125) (tgt := 168) C dX9_load_125 (by decide) (fun q => ?_) (fun q => ?_)
  · replace hm := xif_t q hm
    obtain rfl := Option.some.inj hm
    refine xw_sub (pc := 168) _ ?_ (he _ rfl)
    exact ⟨Or.inr rfl, Or.inl rfl, Or.inl rfl, Or.inl rfl, trivial⟩
  · replace hm := xif_f q hm
    refine xw_aload_n (pc := 128) (i := 0) (x := x0) C dX9_load_128 rfl rfl ?_
    obtain ⟨v23, q24, hm⟩ := xbind hm
    refine xw_getR (pc := 129) C dX9_load_129 fl_X9_7 q24 ?_
    refine xw_iload_n (pc := 132) (i := 2) (x := x2) C dX9_load_132 rfl rfl ?_
    obtain ⟨v25, q26, hm⟩ := xbind hm
    refine xw_iaload (pc := 133) C dX9_load_133 q26 ?_
    refine xw_istore_n (pc := 134) (i := 3) (x := v25) (L' := [some (.ref x0), none, some (.int x2), some (.int v25)]) C dX9_load_134 rfl (Nat.le_of_ble_eq_true rfl) rfl ?_
    refine xw_aload_n (pc := 135) (i := 0) (x := x0) C dX9_load_135 rfl rfl ?_
    obtain ⟨v27, q28, hm⟩ := xbind hm
    refine xw_getR (pc := 136) C dX9_load_136 fl_X9_7 q28 ?_
    refine xw_iload_n (pc := 139) (i := 2) (x := x2) C dX9_load_139 rfl rfl ?_
    refine xw_aload_n (pc := 140) (i := 0) (x := x0) C dX9_load_140 rfl rfl ?_
    obtain ⟨v29, q30, hm⟩ := xbind hm
    refine xw_getR (pc := 141) C dX9_load_141 fl_X9_7 q30 ?_
    refine xw_sipush (pc := 144) (v := 882) C dX9_load_144 xk_s_882 ?_
    refine xw_iload_n (pc := 147) (i := 2) (x := x2) C dX9_load_147 rfl rfl ?_
    refine xw_iadd (pc := 148) C dX9_load_148 ?_
    obtain ⟨v31, q32, hm⟩ := xbind hm
    refine xw_iaload (pc := 149) C dX9_load_149 q32 ?_
    obtain ⟨h33, q34, hm⟩ := xbind hm
    refine xw_iastore (pc := 150) C dX9_load_150 q34 ?_
    refine xw_aload_n (pc := 151) (i := 0) (x := x0) C dX9_load_151 rfl rfl ?_
    obtain ⟨v35, q36, hm⟩ := xbind hm
    refine xw_getR (pc := 152) C dX9_load_152 fl_X9_7 q36 ?_
    refine xw_sipush (pc := 155) (v := 882) C dX9_load_155 xk_s_882 ?_
    refine xw_iload_n (pc := 158) (i := 2) (x := x2) C dX9_load_158 rfl rfl ?_
    refine xw_iadd (pc := 159) C dX9_load_159 ?_
    refine xw_iload_n (pc := 160) (i := 3) (x := v25) C dX9_load_160 rfl rfl ?_
    obtain ⟨h37, q38, hm⟩ := xbind hm
    refine xw_iastore (pc := 161) C dX9_load_161 q38 ?_
    refine xw_iinc (pc := 162) (i := 2) (x := x2) (v := (x2 + (1 : Int32))) (L' := [some (.ref x0), none, some (.int (x2 + (1 : Int32))), some (.int v25)]) C dX9_load_162 rfl (congrArg (HAdd.hAdd _) xk_i_1) (Nat.le_of_ble_eq_true rfl) rfl ?_
    refine xw_goto (pc := 165) (tgt := 122) C dX9_load_165 (by decide) ?_
    obtain rfl := Option.some.inj hm
    refine xw_sub (pc := 122) _ ?_ (hc _ rfl)
    exact ⟨Or.inr rfl, Or.inl rfl, Or.inr rfl, Or.inl rfl, trivial⟩
set_option maxHeartbeats 4000000 in
set_option maxRecDepth 100000 in
theorem fX9_load_J100_w {X : XCtx} (C : XOK X RX9 cX9_load 4 "load" (some .int) 4 89) {n sl : Nat} (hN : XN X n sl)  {h : XH} {x0 : Nat} {s0 : Bool} {o : Int32 × XH} (hm : fX9_load_J100 h x0 s0 = some o) (hX : XR X (some (.int o.1)) o.2 n sl) : XW X 100 [some (.ref x0), none, none, none] [.int (xbi s0)] h n sl := by
  unfold fX9_load_J100 at hm
  refine xw_istore_n (pc := 100) (i := 1) (x := (xbi s0)) (L' := [some (.ref x0), some (.int (xbi s0)), none, none]) C dX9_load_100 rfl (Nat.le_of_ble_eq_true rfl) rfl ?_
  refine xw_iload_n (pc := 101) (i := 1) (x := (xbi s0)) C dX9_load_101 rfl rfl ?_
  refine xw_if_neZ (pc := 102) (b := s0) (tgt := 120) C dX9_load_102 (by decide) (fun q => ?_) (fun q => ?_)
  · replace hm := xif_t q hm
    refine xw_iconst (pc := 120) (v := 0) C dX9_load_120 xk_i_0 ?_
    refine xw_istore_n (pc := 121) (i := 2) (x := (0 : Int32)) (L' := [some (.ref x0), some (.int (xbi s0)), some (.int (0 : Int32)), none]) C dX9_load_121 rfl (Nat.le_of_ble_eq_true rfl) rfl ?_
    obtain ⟨e39, q40, hm⟩ := xbind hm
    refine xw_sub (pc := 122) [some (.ref x0), none, some (.int (0 : Int32)), none] ⟨Or.inr rfl, Or.inl rfl, Or.inr rfl, Or.inl rfl, trivial⟩ ?_
    refine xloop_walk (fX9_load_B122 x0) (fX9_load_P122 X x0 n sl) (fX9_load_E122 X x0 n sl) (fun s' o' => fX9_load_B122_w C hN s' o') 5000 (h, (0 : Int32)) e39 q40 ?_
    show XW X 168 [some (.ref x0), none, none, none] [] e39 n sl
    refine xw_aload_n (pc := 168) (i := 0) (x := x0) C dX9_load_168 rfl rfl ?_
    obtain ⟨_, q41, hm⟩ := xbind hm
    obtain ⟨h42, q43, hm⟩ := xbind hm
    refine xw_callV0 (pc := 169) (As := []) (st := []) C dX9_load_169 (wX9_records q43) dd_X9_records lk_X9_101 dv_X9_records (xco_spec q41) rfl (Nat.le_of_ble_eq_true rfl) (Nat.le_of_ble_eq_true rfl) (Nat.le_of_ble_eq_true rfl) ⟨Nat.le_refl _, Nat.le_refl _⟩ hN ?_
    refine xw_aload_n (pc := 172) (i := 0) (x := x0) C dX9_load_172 rfl rfl ?_
    refine xw_bipush (pc := 173) (v := 9) C dX9_load_173 xk_b_9 ?_
    refine xw_iconst (pc := 175) (v := 0) C dX9_load_175 xk_i_0 ?_
    obtain ⟨_, q44, hm⟩ := xbind hm
    obtain ⟨h45, q46, hm⟩ := xbind hm
    refine xw_callV0 (pc := 176) (As := [.int (9 : Int32), .int (0 : Int32)]) (st := []) C dX9_load_176 (wX9_copies q46) dd_X9_copies lk_X9_33 dv_X9_copies (xco_spec q44) rfl (Nat.le_of_ble_eq_true rfl) (Nat.le_of_ble_eq_true rfl) (Nat.le_of_ble_eq_true rfl) ⟨Nat.le_refl _, Nat.le_refl _⟩ hN ?_
    refine xw_aload_n (pc := 179) (i := 0) (x := x0) C dX9_load_179 rfl rfl ?_
    obtain ⟨_, q47, hm⟩ := xbind hm
    obtain ⟨v48, q49, hm⟩ := xbind hm
    refine xw_callV1 (pc := 180) (As := []) (st := []) C dX9_load_180 (wX9_cells q49) dd_X9_cells lk_X9_37 dv_X9_cells (xco_spec q47) rfl (Nat.le_of_ble_eq_true rfl) (Nat.le_of_ble_eq_true rfl) (Nat.le_of_ble_eq_true rfl) ⟨Nat.le_refl _, Nat.le_refl _⟩ hN ?_
    obtain rfl := Option.some.inj hm
    exact xw_ireturn (pc := 183) C dX9_load_183 rfl hX
  · replace hm := xif_f q hm
    refine xw_aload_n (pc := 105) (i := 0) (x := x0) C dX9_load_105 rfl rfl ?_
    refine xw_bipush (pc := 106) (v := 9) C dX9_load_106 xk_b_9 ?_
    refine xw_iconst (pc := 108) (v := 0) C dX9_load_108 xk_i_0 ?_
    obtain ⟨_, q50, hm⟩ := xbind hm
    obtain ⟨h51, q52, hm⟩ := xbind hm
    refine xw_callV0 (pc := 109) (As := [.int (9 : Int32), .int (0 : Int32)]) (st := []) C dX9_load_109 (wX9_copies q52) dd_X9_copies lk_X9_33 dv_X9_copies (xco_spec q50) rfl (Nat.le_of_ble_eq_true rfl) (Nat.le_of_ble_eq_true rfl) (Nat.le_of_ble_eq_true rfl) ⟨Nat.le_refl _, Nat.le_refl _⟩ hN ?_
    refine xw_bipush (pc := 112) (v := -10) C dX9_load_112 xk_b_m10 ?_
    refine xw_aload_n (pc := 114) (i := 0) (x := x0) C dX9_load_114 rfl rfl ?_
    obtain ⟨v53, q54, hm⟩ := xbind hm
    refine xw_getI (pc := 115) C dX9_load_115 fl_X9_74 q54 ?_
    refine xw_isub (pc := 118) C dX9_load_118 ?_
    obtain rfl := Option.some.inj hm
    exact xw_ireturn (pc := 119) C dX9_load_119 rfl hX
set_option maxHeartbeats 4000000 in
set_option maxRecDepth 100000 in
theorem fX9_load_J99_w {X : XCtx} (C : XOK X RX9 cX9_load 4 "load" (some .int) 4 89) {n sl : Nat} (hN : XN X n sl)  {h : XH} {x0 : Nat} {o : Int32 × XH} (hm : fX9_load_J99 h x0 = some o) (hX : XR X (some (.int o.1)) o.2 n sl) : XW X 99 [some (.ref x0), none, none, none] [] h n sl := by
  unfold fX9_load_J99 at hm
  refine xw_iconst (pc := 99) (v := 0) C dX9_load_99 xk_i_0 ?_
  exact xw_sub (pc := 100) [some (.ref x0), none, none, none] ⟨Or.inr rfl, Or.inl rfl, Or.inl rfl, Or.inl rfl, trivial⟩ (fX9_load_J100_w C hN hm hX)
set_option maxHeartbeats 4000000 in
set_option maxRecDepth 100000 in
theorem fX9_load_J95_w {X : XCtx} (C : XOK X RX9 cX9_load 4 "load" (some .int) 4 89) {n sl : Nat} (hN : XN X n sl)  {h : XH} {x0 : Nat} {o : Int32 × XH} (hm : fX9_load_J95 h x0 = some o) (hX : XR X (some (.int o.1)) o.2 n sl) : XW X 95 [some (.ref x0), none, none, none] [] h n sl := by
  unfold fX9_load_J95 at hm
  refine xw_iconst (pc := 95) (v := 1) C dX9_load_95 xk_i_1 ?_
  refine xw_goto (pc := 96) (tgt := 100) C dX9_load_96 (by decide) ?_
  exact xw_sub (pc := 100) [some (.ref x0), none, none, none] ⟨Or.inr rfl, Or.inl rfl, Or.inl rfl, Or.inl rfl, trivial⟩ (fX9_load_J100_w C hN hm hX)
set_option maxHeartbeats 4000000 in
set_option maxRecDepth 100000 in
theorem fX9_load_J67_w {X : XCtx} (C : XOK X RX9 cX9_load 4 "load" (some .int) 4 89) {n sl : Nat} (hN : XN X n sl)  {h : XH} {x0 : Nat} {s0 : Bool} {o : Int32 × XH} (hm : fX9_load_J67 h x0 s0 = some o) (hX : XR X (some (.int o.1)) o.2 n sl) : XW X 67 [some (.ref x0), none, none, none] [.int (xbi s0)] h n sl := by
  unfold fX9_load_J67 at hm
  refine xw_istore_n (pc := 67) (i := 1) (x := (xbi s0)) (L' := [some (.ref x0), some (.int (xbi s0)), none, none]) C dX9_load_67 rfl (Nat.le_of_ble_eq_true rfl) rfl ?_
  refine xw_iload_n (pc := 68) (i := 1) (x := (xbi s0)) C dX9_load_68 rfl rfl ?_
  refine xw_if_eqZ (pc := 69) (b := s0) (tgt := 99) C dX9_load_69 (by decide) (fun q => ?_) (fun q => ?_)
  · replace hm := xif_f q hm
    exact xw_sub (pc := 99) [some (.ref x0), none, none, none] ⟨Or.inr rfl, Or.inl rfl, Or.inl rfl, Or.inl rfl, trivial⟩ (fX9_load_J99_w C hN hm hX)
  · replace hm := xif_t q hm
    refine xw_aload_n (pc := 72) (i := 0) (x := x0) C dX9_load_72 rfl rfl ?_
    obtain ⟨v55, q56, hm⟩ := xbind hm
    refine xw_getI (pc := 73) C dX9_load_73 fl_X9_65 q56 ?_
    refine xw_aload_n (pc := 76) (i := 0) (x := x0) C dX9_load_76 rfl rfl ?_
    obtain ⟨v57, q58, hm⟩ := xbind hm
    refine xw_getI (pc := 77) C dX9_load_77 fl_X9_62 q58 ?_
    refine xw_icmp_eq (pc := 80) (tgt := 95) C dX9_load_80 (by decide) (fun q => ?_) (fun q => ?_)
    · replace hm := xif_t q hm
      exact xw_sub (pc := 95) [some (.ref x0), none, none, none] ⟨Or.inr rfl, Or.inl rfl, Or.inl rfl, Or.inl rfl, trivial⟩ (fX9_load_J95_w C hN hm hX)
    · replace hm := xif_f q hm
      refine xw_aload_n (pc := 83) (i := 0) (x := x0) C dX9_load_83 rfl rfl ?_
      refine xw_iconst (pc := 84) (v := 1) C dX9_load_84 xk_i_1 ?_
      refine xw_aload_n (pc := 85) (i := 0) (x := x0) C dX9_load_85 rfl rfl ?_
      obtain ⟨v59, q60, hm⟩ := xbind hm
      refine xw_getI (pc := 86) C dX9_load_86 fl_X9_65 q60 ?_
      obtain ⟨_, q61, hm⟩ := xbind hm
      obtain ⟨v62, q63, hm⟩ := xbind hm
      refine xw_callV1 (pc := 89) (As := [.int (1 : Int32), .int v59]) (st := []) C dX9_load_89 (wX9_fails q63) dd_X9_fails lk_X9_84 dv_X9_fails (xco_spec q61) rfl (Nat.le_of_ble_eq_true rfl) (Nat.le_of_ble_eq_true rfl) (Nat.le_of_ble_eq_true rfl) ⟨Nat.le_refl _, Nat.le_refl _⟩ hN ?_
      refine xw_if_eqZ (pc := 92) (b := v62.1) (tgt := 99) C dX9_load_92 (by decide) (fun q => ?_) (fun q => ?_)
      · replace hm := xif_f q hm
        exact xw_sub (pc := 99) [some (.ref x0), none, none, none] ⟨Or.inr rfl, Or.inl rfl, Or.inl rfl, Or.inl rfl, trivial⟩ (fX9_load_J99_w C hN hm hX)
      · replace hm := xif_t q hm
        exact xw_sub (pc := 95) [some (.ref x0), none, none, none] ⟨Or.inr rfl, Or.inl rfl, Or.inl rfl, Or.inl rfl, trivial⟩ (fX9_load_J95_w C hN hm hX)
set_option maxHeartbeats 4000000 in
set_option maxRecDepth 100000 in
theorem fX9_load_J66_w {X : XCtx} (C : XOK X RX9 cX9_load 4 "load" (some .int) 4 89) {n sl : Nat} (hN : XN X n sl)  {h : XH} {x0 : Nat} {o : Int32 × XH} (hm : fX9_load_J66 h x0 = some o) (hX : XR X (some (.int o.1)) o.2 n sl) : XW X 66 [some (.ref x0), none, none, none] [] h n sl := by
  unfold fX9_load_J66 at hm
  refine xw_iconst (pc := 66) (v := 0) C dX9_load_66 xk_i_0 ?_
  exact xw_sub (pc := 67) [some (.ref x0), none, none, none] ⟨Or.inr rfl, Or.inl rfl, Or.inl rfl, Or.inl rfl, trivial⟩ (fX9_load_J67_w C hN hm hX)
set_option maxHeartbeats 4000000 in
set_option maxRecDepth 100000 in
theorem wX9_load {l : Launch} {n sl : Nat} {h : XH} {x0 : Nat} {o : Int32 × XH} (hm : fX9_load h x0 = some o) : XM l yX9_load cX9_load 4 (some .int) 4 89 [.ref x0] h n sl (some (.int o.1)) o.2 n sl := by
  refine xm_of pnX9 [some (.ref x0), none, none, none] 3 rfl (Nat.le_of_ble_eq_true rfl) ?_
  intro X hT C
  replace C : XOK X RX9 cX9_load 4 "load" (some .int) 4 89 := C
  obtain ⟨-, hN, hX⟩ := hT
  unfold fX9_load at hm
  refine xw_aload_n (pc := 0) (i := 0) (x := x0) C dX9_load_0 rfl rfl ?_
  refine xw_iconst (pc := 1) (v := 0) C dX9_load_1 xk_i_0 ?_
  refine xw_bipush (pc := 2) (v := 9) C dX9_load_2 xk_b_9 ?_
  obtain ⟨_, q1, hm⟩ := xbind hm
  obtain ⟨h2, q3, hm⟩ := xbind hm
  refine xw_callV0 (pc := 4) (As := [.int (0 : Int32), .int (9 : Int32)]) (st := []) C dX9_load_4 (wX9_copies q3) dd_X9_copies lk_X9_33 dv_X9_copies (xco_spec q1) rfl (Nat.le_of_ble_eq_true rfl) (Nat.le_of_ble_eq_true rfl) (Nat.le_of_ble_eq_true rfl) ⟨Nat.le_refl _, Nat.le_refl _⟩ hN ?_
  refine xw_aload_n (pc := 7) (i := 0) (x := x0) C dX9_load_7 rfl rfl ?_
  refine xw_iconst (pc := 8) (v := 0) C dX9_load_8 xk_i_0 ?_
  obtain ⟨h4, q5, hm⟩ := xbind hm
  refine xw_put (pc := 9) C dX9_load_9 fl_X9_71 q5 (fun _ => rfl) (fun _ => rfl) ?_
  refine xw_aload_n (pc := 12) (i := 0) (x := x0) C dX9_load_12 rfl rfl ?_
  refine xw_iconst (pc := 13) (v := 0) C dX9_load_13 xk_i_0 ?_
  obtain ⟨h6, q7, hm⟩ := xbind hm
  refine xw_put (pc := 14) C dX9_load_14 fl_X9_65 q7 (fun _ => rfl) (fun _ => rfl) ?_
  refine xw_aload_n (pc := 17) (i := 0) (x := x0) C dX9_load_17 rfl rfl ?_
  obtain ⟨v8, q9, hm⟩ := xbind hm
  refine xw_getR (pc := 18) C dX9_load_18 fl_X9_7 q9 ?_
  refine xw_bipush (pc := 21) (v := 61) C dX9_load_21 xk_b_61 ?_
  refine xw_iconst (pc := 23) (v := 0) C dX9_load_23 xk_i_0 ?_
  obtain ⟨h10, q11, hm⟩ := xbind hm
  refine xw_iastore (pc := 24) C dX9_load_24 q11 ?_
  refine xw_aload_n (pc := 25) (i := 0) (x := x0) C dX9_load_25 rfl rfl ?_
  obtain ⟨v12, q13, hm⟩ := xbind hm
  refine xw_getR (pc := 26) C dX9_load_26 fl_X9_7 q13 ?_
  refine xw_bipush (pc := 29) (v := 62) C dX9_load_29 xk_b_62 ?_
  refine xw_iconst (pc := 31) (v := 0) C dX9_load_31 xk_i_0 ?_
  obtain ⟨h14, q15, hm⟩ := xbind hm
  refine xw_iastore (pc := 32) C dX9_load_32 q15 ?_
  refine xw_aload_n (pc := 33) (i := 0) (x := x0) C dX9_load_33 rfl rfl ?_
  obtain ⟨v16, q17, hm⟩ := xbind hm
  refine xw_getR (pc := 34) C dX9_load_34 fl_X9_7 q17 ?_
  refine xw_bipush (pc := 37) (v := 63) C dX9_load_37 xk_b_63 ?_
  refine xw_iconst (pc := 39) (v := 0) C dX9_load_39 xk_i_0 ?_
  obtain ⟨h18, q19, hm⟩ := xbind hm
  refine xw_iastore (pc := 40) C dX9_load_40 q19 ?_
  refine xw_aload_n (pc := 41) (i := 0) (x := x0) C dX9_load_41 rfl rfl ?_
  obtain ⟨_, q20, hm⟩ := xbind hm
  obtain ⟨v21, q22, hm⟩ := xbind hm
  refine xw_callV1 (pc := 42) (As := []) (st := []) C dX9_load_42 (wX9_readsCells q22) dd_X9_readsCells lk_X9_92 dv_X9_readsCells (xco_spec q20) rfl (Nat.le_of_ble_eq_true rfl) (Nat.le_of_ble_eq_true rfl) (Nat.le_of_ble_eq_true rfl) ⟨Nat.le_refl _, Nat.le_refl _⟩ hN ?_
  refine xw_if_eqZ (pc := 45) (b := v21.1) (tgt := 66) C dX9_load_45 (by decide) (fun q => ?_) (fun q => ?_)
  · replace hm := xif_f q hm
    exact xw_sub (pc := 66) [some (.ref x0), none, none, none] ⟨Or.inr rfl, Or.inl rfl, Or.inl rfl, Or.inl rfl, trivial⟩ (fX9_load_J66_w C hN hm hX)
  · replace hm := xif_t q hm
    refine xw_aload_n (pc := 48) (i := 0) (x := x0) C dX9_load_48 rfl rfl ?_
    obtain ⟨_, q64, hm⟩ := xbind hm
    obtain ⟨v65, q66, hm⟩ := xbind hm
    refine xw_callV1 (pc := 49) (As := []) (st := []) C dX9_load_49 (wX9_readsStart q66) dd_X9_readsStart lk_X9_95 dv_X9_readsStart (xco_spec q64) rfl (Nat.le_of_ble_eq_true rfl) (Nat.le_of_ble_eq_true rfl) (Nat.le_of_ble_eq_true rfl) ⟨Nat.le_refl _, Nat.le_refl _⟩ hN ?_
    refine xw_if_eqZ (pc := 52) (b := v65.1) (tgt := 66) C dX9_load_52 (by decide) (fun q => ?_) (fun q => ?_)
    · replace hm := xif_f q hm
      exact xw_sub (pc := 66) [some (.ref x0), none, none, none] ⟨Or.inr rfl, Or.inl rfl, Or.inl rfl, Or.inl rfl, trivial⟩ (fX9_load_J66_w C hN hm hX)
    · replace hm := xif_t q hm
      refine xw_aload_n (pc := 55) (i := 0) (x := x0) C dX9_load_55 rfl rfl ?_
      obtain ⟨_, q67, hm⟩ := xbind hm
      obtain ⟨v68, q69, hm⟩ := xbind hm
      refine xw_callV1 (pc := 56) (As := []) (st := []) C dX9_load_56 (wX9_readsSpeed q69) dd_X9_readsSpeed lk_X9_98 dv_X9_readsSpeed (xco_spec q67) rfl (Nat.le_of_ble_eq_true rfl) (Nat.le_of_ble_eq_true rfl) (Nat.le_of_ble_eq_true rfl) ⟨Nat.le_refl _, Nat.le_refl _⟩ hN ?_
      refine xw_if_eqZ (pc := 59) (b := v68.1) (tgt := 66) C dX9_load_59 (by decide) (fun q => ?_) (fun q => ?_)
      · replace hm := xif_f q hm
        exact xw_sub (pc := 66) [some (.ref x0), none, none, none] ⟨Or.inr rfl, Or.inl rfl, Or.inl rfl, Or.inl rfl, trivial⟩ (fX9_load_J66_w C hN hm hX)
      · replace hm := xif_t q hm
        refine xw_iconst (pc := 62) (v := 1) C dX9_load_62 xk_i_1 ?_
        refine xw_goto (pc := 63) (tgt := 67) C dX9_load_63 (by decide) ?_
        exact xw_sub (pc := 67) [some (.ref x0), none, none, none] ⟨Or.inr rfl, Or.inl rfl, Or.inl rfl, Or.inl rfl, trivial⟩ (fX9_load_J67_w C hN hm hX)
set_option maxHeartbeats 4000000 in
set_option maxRecDepth 100000 in
theorem wX9_look {l : Launch} {n sl : Nat} {h : XH} {x0 : Nat} {x1 : Int32} {o : Int32 × XH} (hm : fX9_look h x0 x1 = some o) : XM l yX9_look cX9_look 2 (some .int) 3 67 [.ref x0, .int x1] h n sl (some (.int o.1)) o.2 n sl := by
  refine xm_of pnX9 [some (.ref x0), some (.int x1)] 0 rfl (Nat.le_of_ble_eq_true rfl) ?_
  intro X hT C
  replace C : XOK X RX9 cX9_look 2 "look" (some .int) 3 67 := C
  obtain ⟨-, hN, hX⟩ := hT
  unfold fX9_look at hm
  refine xw_iload_n (pc := 0) (i := 1) (x := x1) C dX9_look_0 rfl rfl ?_
  refine xw_iconst (pc := 1) (v := 0) C dX9_look_1 xk_i_0 ?_
  refine xw_aload_n (pc := 2) (i := 0) (x := x0) C dX9_look_2 rfl rfl ?_
  obtain ⟨_, q1, hm⟩ := xbind hm
  obtain ⟨v2, q3, hm⟩ := xbind hm
  refine xw_callV1 (pc := 3) (As := []) (st := [.int (0 : Int32), .int x1]) C dX9_look_3 (wX9_flashes q3) dd_X9_flashes lk_X9_126 dv_X9_flashes (xco_spec q1) rfl (Nat.le_of_ble_eq_true rfl) (Nat.le_of_ble_eq_true rfl) (Nat.le_of_ble_eq_true rfl) ⟨Nat.le_refl _, Nat.le_refl _⟩ hN ?_
  refine xw_iconst (pc := 6) (v := 2) C dX9_look_6 xk_i_2 ?_
  refine xw_isub (pc := 7) C dX9_look_7 ?_
  obtain ⟨v4, q5, hm⟩ := xbind hm
  refine xw_callS1 (pc := 8) (As := [.int x1, .int (0 : Int32), .int (v2 - (2 : Int32))]) (st := []) C dX9_look_8 (wX9_in q5) dd_X9_in lk_X9_55 ds_X9_in rfl (Nat.le_of_ble_eq_true rfl) (Nat.le_of_ble_eq_true rfl) (Nat.le_of_ble_eq_true rfl) ⟨Nat.le_refl _, Nat.le_refl _⟩ hN ?_
  refine xw_if_neZ (pc := 11) (b := v4) (tgt := 18) C dX9_look_11 (by decide) (fun q => ?_) (fun q => ?_)
  · replace hm := xif_t q hm
    refine xw_aload_n (pc := 18) (i := 0) (x := x0) C dX9_look_18 rfl rfl ?_
    obtain ⟨v6, q7, hm⟩ := xbind hm
    refine xw_getR (pc := 19) C dX9_look_19 fl_X9_7 q7 ?_
    refine xw_bipush (pc := 22) (v := 76) C dX9_look_22 xk_b_76 ?_
    obtain ⟨v8, q9, hm⟩ := xbind hm
    refine xw_iaload (pc := 24) C dX9_look_24 q9 ?_
    refine xw_bipush (pc := 25) (v := 8) C dX9_look_25 xk_b_8 ?_
    refine xw_icmp_ne (pc := 27) (tgt := 34) C dX9_look_27 (by decide) (fun q => ?_) (fun q => ?_)
    · replace hm := xif_f q hm
      refine xw_aload_n (pc := 34) (i := 0) (x := x0) C dX9_look_34 rfl rfl ?_
      obtain ⟨_, q10, hm⟩ := xbind hm
      obtain ⟨h11, q12, hm⟩ := xbind hm
      refine xw_callV0 (pc := 35) (As := []) (st := []) C dX9_look_35 (wX9_laysTurns q12) dd_X9_laysTurns lk_X9_120 dv_X9_laysTurns (xco_spec q10) rfl (Nat.le_of_ble_eq_true rfl) (Nat.le_of_ble_eq_true rfl) (Nat.le_of_ble_eq_true rfl) ⟨Nat.le_refl _, Nat.le_refl _⟩ hN ?_
      refine xw_aload_n (pc := 38) (i := 0) (x := x0) C dX9_look_38 rfl rfl ?_
      refine xw_aload_n (pc := 39) (i := 0) (x := x0) C dX9_look_39 rfl rfl ?_
      obtain ⟨v13, q14, hm⟩ := xbind hm
      refine xw_getR (pc := 40) C dX9_look_40 fl_X9_7 q14 ?_
      refine xw_bipush (pc := 43) (v := 75) C dX9_look_43 xk_b_75 ?_
      obtain ⟨v15, q16, hm⟩ := xbind hm
      refine xw_iaload (pc := 45) C dX9_look_45 q16 ?_
      refine xw_aload_n (pc := 46) (i := 0) (x := x0) C dX9_look_46 rfl rfl ?_
      refine xw_iload_n (pc := 47) (i := 1) (x := x1) C dX9_look_47 rfl rfl ?_
      obtain ⟨_, q17, hm⟩ := xbind hm
      obtain ⟨v18, q19, hm⟩ := xbind hm
      refine xw_callV1 (pc := 48) (As := [.int x1]) (st := [.int v15, .ref x0]) C dX9_look_48 (wX9_stepBehind q19) dd_X9_stepBehind lk_X9_138 dv_X9_stepBehind (xco_spec q17) rfl (Nat.le_of_ble_eq_true rfl) (Nat.le_of_ble_eq_true rfl) (Nat.le_of_ble_eq_true rfl) ⟨Nat.le_refl _, Nat.le_refl _⟩ hN ?_
      obtain ⟨_, q20, hm⟩ := xbind hm
      obtain ⟨v21, q22, hm⟩ := xbind hm
      refine xw_callV1 (pc := 51) (As := [.int v15, .int v18]) (st := []) C dX9_look_51 (wX9_adds q22) dd_X9_adds lk_X9_147 dv_X9_adds (xco_spec q20) rfl (Nat.le_of_ble_eq_true rfl) (Nat.le_of_ble_eq_true rfl) (Nat.le_of_ble_eq_true rfl) ⟨Nat.le_refl _, Nat.le_refl _⟩ hN ?_
      obtain rfl := Option.some.inj hm
      exact xw_ireturn (pc := 54) C dX9_look_54 rfl hX
    · replace hm := xif_t q hm
      refine xw_sipush (pc := 30) (v := -1003) C dX9_look_30 xk_s_m1003 ?_
      obtain rfl := Option.some.inj hm
      exact xw_ireturn (pc := 33) C dX9_look_33 rfl hX
  · replace hm := xif_f q hm
    refine xw_sipush (pc := 14) (v := -1001) C dX9_look_14 xk_s_m1001 ?_
    obtain rfl := Option.some.inj hm
    exact xw_ireturn (pc := 17) C dX9_look_17 rfl hX
def fX9_odd_P20 (X : XCtx) (x0 : Nat) (n sl : Nat) (s : (XH × Int32)) : Prop := XW X 20 [some (.ref x0), some (.int s.2)] [] s.1 n sl
def fX9_odd_E20 (X : XCtx) (x0 : Nat) (n sl : Nat) (e : ((XH × Int32) ⊕ XH)) : Prop := match e with
  | .inl e => XW X 43 [none, some (.int e.2)] [] e.1 n sl
  | .inr e => XW X 51 [none, none] [] e n sl
set_option maxHeartbeats 4000000 in
set_option maxRecDepth 100000 in
theorem fX9_odd_B20_w {X : XCtx} (C : XOK X RX9 cX9_odd 2 "odd" (some .int) 3 68) {n sl : Nat} (hN : XN X n sl) {x0 : Nat} (s : (XH × Int32)) (o : (XH × Int32) ⊕ ((XH × Int32) ⊕ XH)) (hm : fX9_odd_B20 x0 s = some o) (hc : ∀ s', o = .inl s' → fX9_odd_P20 X x0 n sl s') (he : ∀ e', o = .inr e' → fX9_odd_E20 X x0 n sl e') : fX9_odd_P20 X x0 n sl s := by
  obtain ⟨h, x1⟩ := s
  show XW X 20 [some (.ref x0), some (.int x1)] [] h n sl
  replace hm : fX9_odd_b20 x0 h x1 = some o := hm
  unfold fX9_odd_b20 at hm
  refine xw_iload_n (pc := 20) (i := 1) (x := x1) C dX9_odd_20 rfl rfl ?_
  refine xw_aload_n (pc := 21) (i := 0) (x := x0) C dX9_odd_21 rfl rfl ?_
  obtain ⟨v6, q7, hm⟩ := xbind hm
  refine xw_getR (pc := 22) C dX9_odd_22 fl_X9_7 q7 ?_
  refine xw_bipush (pc := 25) (v := 76) C dX9_odd_25 xk_b_76 ?_
  obtain ⟨v8, q9, hm⟩ := xbind hm
  refine xw_iaload (pc := 27) C dX9_odd_27 q9 ?_
  refine xw_icmp_ge (pc := 28) (tgt := 51) C dX9_odd_28 (by decide) (fun q => ?_) (fun q => ?_)
  · replace hm := xif_t q hm
    obtain rfl := Option.some.inj hm
    refine xw_sub (pc := 51) _ ?_ (he _ rfl)
    exact ⟨Or.inl rfl, Or.inl rfl, trivial⟩
  · replace hm := xif_f q hm
    refine xw_aload_n (pc := 31) (i := 0) (x := x0) C dX9_odd_31 rfl rfl ?_
    refine xw_iload_n (pc := 32) (i := 1) (x := x1) C dX9_odd_32 rfl rfl ?_
    obtain ⟨_, q10, hm⟩ := xbind hm
    obtain ⟨h11, q12, hm⟩ := xbind hm
    refine xw_callV0 (pc := 33) (As := [.int x1]) (st := []) C dX9_odd_33 (wX9_finds q12) dd_X9_finds lk_X9_156 dv_X9_finds (xco_spec q10) rfl (Nat.le_of_ble_eq_true rfl) (Nat.le_of_ble_eq_true rfl) (Nat.le_of_ble_eq_true rfl) ⟨Nat.le_refl _, Nat.le_refl _⟩ hN ?_
    refine xw_aload_n (pc := 36) (i := 0) (x := x0) C dX9_odd_36 rfl rfl ?_
    obtain ⟨v13, q14, hm⟩ := xbind hm
    refine xw_getI (pc := 37) C dX9_odd_37 fl_X9_153 q14 ?_
    refine xw_if_le (pc := 40) (tgt := 45) C dX9_odd_40 (by decide) (fun q => ?_) (fun q => ?_)
    · replace hm := xif_t q hm
      refine xw_iinc (pc := 45) (i := 1) (x := x1) (v := (x1 + (1 : Int32))) (L' := [some (.ref x0), some (.int (x1 + (1 : Int32)))]) C dX9_odd_45 rfl (congrArg (HAdd.hAdd _) xk_i_1) (Nat.le_of_ble_eq_true rfl) rfl ?_
      refine xw_goto (pc := 48) (tgt := 20) C dX9_odd_48 (by decide) ?_
      obtain rfl := Option.some.inj hm
      refine xw_sub (pc := 20) _ ?_ (hc _ rfl)
      exact ⟨Or.inr rfl, Or.inr rfl, trivial⟩
    · replace hm := xif_f q hm
      obtain rfl := Option.some.inj hm
      refine xw_sub (pc := 43) _ ?_ (he _ rfl)
      exact ⟨Or.inl rfl, Or.inr rfl, trivial⟩
set_option maxHeartbeats 4000000 in
set_option maxRecDepth 100000 in
theorem wX9_odd {l : Launch} {n sl : Nat} {h : XH} {x0 : Nat} {o : Int32 × XH} (hm : fX9_odd h x0 = some o) : XM l yX9_odd cX9_odd 2 (some .int) 3 68 [.ref x0] h n sl (some (.int o.1)) o.2 n sl := by
  refine xm_of pnX9 [some (.ref x0), none] 1 rfl (Nat.le_of_ble_eq_true rfl) ?_
  intro X hT C
  replace C : XOK X RX9 cX9_odd 2 "odd" (some .int) 3 68 := C
  obtain ⟨-, hN, hX⟩ := hT
  unfold fX9_odd at hm
  refine xw_aload_n (pc := 0) (i := 0) (x := x0) C dX9_odd_0 rfl rfl ?_
  refine xw_sipush (pc := 1) (v := -1004) C dX9_odd_1 xk_s_m1004 ?_
  obtain ⟨_, q1, hm⟩ := xbind hm
  obtain ⟨h2, q3, hm⟩ := xbind hm
  refine xw_callV0 (pc := 4) (As := [.int (-1004 : Int32)]) (st := []) C dX9_odd_4 (wX9_finds q3) dd_X9_finds lk_X9_156 dv_X9_finds (xco_spec q1) rfl (Nat.le_of_ble_eq_true rfl) (Nat.le_of_ble_eq_true rfl) (Nat.le_of_ble_eq_true rfl) ⟨Nat.le_refl _, Nat.le_refl _⟩ hN ?_
  refine xw_aload_n (pc := 7) (i := 0) (x := x0) C dX9_odd_7 rfl rfl ?_
  obtain ⟨v4, q5, hm⟩ := xbind hm
  refine xw_getI (pc := 8) C dX9_odd_8 fl_X9_153 q5 ?_
  refine xw_if_le (pc := 11) (tgt := 18) C dX9_odd_11 (by decide) (fun q => ?_) (fun q => ?_)
  · replace hm := xif_t q hm
    refine xw_iconst (pc := 18) (v := 0) C dX9_odd_18 xk_i_0 ?_
    refine xw_istore_n (pc := 19) (i := 1) (x := (0 : Int32)) (L' := [some (.ref x0), some (.int (0 : Int32))]) C dX9_odd_19 rfl (Nat.le_of_ble_eq_true rfl) rfl ?_
    obtain ⟨e15, q16, hm⟩ := xbind hm
    refine xw_sub (pc := 20) [some (.ref x0), some (.int (0 : Int32))] ⟨Or.inr rfl, Or.inr rfl, trivial⟩ ?_
    refine xloop_walk (fX9_odd_B20 x0) (fX9_odd_P20 X x0 n sl) (fX9_odd_E20 X x0 n sl) (fun s' o' => fX9_odd_B20_w C hN s' o') 5000 (h2, (0 : Int32)) e15 q16 ?_
    rcases e15 with e15 | e15
    · dsimp only at hm
      show XW X 43 [none, some (.int e15.2)] [] e15.1 n sl
      refine xw_iload_n (pc := 43) (i := 1) (x := e15.2) C dX9_odd_43 rfl rfl ?_
      obtain rfl := Option.some.inj hm
      exact xw_ireturn (pc := 44) C dX9_odd_44 rfl hX
    · dsimp only at hm
      show XW X 51 [none, none] [] e15 n sl
      refine xw_sipush (pc := 51) (v := -1004) C dX9_odd_51 xk_s_m1004 ?_
      obtain rfl := Option.some.inj hm
      exact xw_ireturn (pc := 54) C dX9_odd_54 rfl hX
  · replace hm := xif_f q hm
    refine xw_sipush (pc := 14) (v := -1002) C dX9_odd_14 xk_s_m1002 ?_
    obtain rfl := Option.some.inj hm
    exact xw_ireturn (pc := 17) C dX9_odd_17 rfl hX
set_option maxHeartbeats 4000000 in
set_option maxRecDepth 100000 in
theorem wX9_read {l : Launch} {n sl : Nat} {h : XH} {x0 : Nat} {x1 : Int32} {x2 : Int32} {o : Int32 × XH} (hm : fX9_read h x0 x1 x2 = some o) : XM l yX9_read cX9_read 3 (some .int) 3 67 [.ref x0, .int x1, .int x2] h n sl (some (.int o.1)) o.2 n sl := by
  refine xm_of pnX9 [some (.ref x0), some (.int x1), some (.int x2)] 0 rfl (Nat.le_of_ble_eq_true rfl) ?_
  intro X hT C
  replace C : XOK X RX9 cX9_read 3 "read" (some .int) 3 67 := C
  obtain ⟨-, hN, hX⟩ := hT
  unfold fX9_read at hm
  refine xw_iload_n (pc := 0) (i := 1) (x := x1) C dX9_read_0 rfl rfl ?_
  refine xw_iconst (pc := 1) (v := 1) C dX9_read_1 xk_i_1 ?_
  refine xw_sipush (pc := 2) (v := 500) C dX9_read_2 xk_s_500 ?_
  obtain ⟨v1, q2, hm⟩ := xbind hm
  refine xw_callS1 (pc := 5) (As := [.int x1, .int (1 : Int32), .int (500 : Int32)]) (st := []) C dX9_read_5 (wX9_in q2) dd_X9_in lk_X9_55 ds_X9_in rfl (Nat.le_of_ble_eq_true rfl) (Nat.le_of_ble_eq_true rfl) (Nat.le_of_ble_eq_true rfl) ⟨Nat.le_refl _, Nat.le_refl _⟩ hN ?_
  refine xw_if_eqZ (pc := 8) (b := v1) (tgt := 22) C dX9_read_8 (by decide) (fun q => ?_) (fun q => ?_)
  · replace hm := xif_f q hm
    refine xw_sipush (pc := 22) (v := -1001) C dX9_read_22 xk_s_m1001 ?_
    obtain rfl := Option.some.inj hm
    exact xw_ireturn (pc := 25) C dX9_read_25 rfl hX
  · replace hm := xif_t q hm
    refine xw_iload_n (pc := 11) (i := 2) (x := x2) C dX9_read_11 rfl rfl ?_
    refine xw_bipush (pc := 12) (v := -30) C dX9_read_12 xk_b_m30 ?_
    refine xw_bipush (pc := 14) (v := 30) C dX9_read_14 xk_b_30 ?_
    obtain ⟨v3, q4, hm⟩ := xbind hm
    refine xw_callS1 (pc := 16) (As := [.int x2, .int (-30 : Int32), .int (30 : Int32)]) (st := []) C dX9_read_16 (wX9_in q4) dd_X9_in lk_X9_55 ds_X9_in rfl (Nat.le_of_ble_eq_true rfl) (Nat.le_of_ble_eq_true rfl) (Nat.le_of_ble_eq_true rfl) ⟨Nat.le_refl _, Nat.le_refl _⟩ hN ?_
    refine xw_if_neZ (pc := 19) (b := v3) (tgt := 26) C dX9_read_19 (by decide) (fun q => ?_) (fun q => ?_)
    · replace hm := xif_t q hm
      refine xw_aload_n (pc := 26) (i := 0) (x := x0) C dX9_read_26 rfl rfl ?_
      obtain ⟨v5, q6, hm⟩ := xbind hm
      refine xw_getR (pc := 27) C dX9_read_27 fl_X9_7 q6 ?_
      refine xw_bipush (pc := 30) (v := 76) C dX9_read_30 xk_b_76 ?_
      obtain ⟨v7, q8, hm⟩ := xbind hm
      refine xw_iaload (pc := 32) C dX9_read_32 q8 ?_
      refine xw_bipush (pc := 33) (v := 8) C dX9_read_33 xk_b_8 ?_
      refine xw_icmp_ne (pc := 35) (tgt := 44) C dX9_read_35 (by decide) (fun q => ?_) (fun q => ?_)
      · replace hm := xif_f q hm
        refine xw_aload_n (pc := 44) (i := 0) (x := x0) C dX9_read_44 rfl rfl ?_
        refine xw_iload_n (pc := 45) (i := 1) (x := x1) C dX9_read_45 rfl rfl ?_
        refine xw_iload_n (pc := 46) (i := 2) (x := x2) C dX9_read_46 rfl rfl ?_
        obtain ⟨_, q9, hm⟩ := xbind hm
        obtain ⟨v10, q11, hm⟩ := xbind hm
        refine xw_callV1 (pc := 47) (As := [.int x1, .int x2]) (st := []) C dX9_read_47 (wX9_adds q11) dd_X9_adds lk_X9_147 dv_X9_adds (xco_spec q9) rfl (Nat.le_of_ble_eq_true rfl) (Nat.le_of_ble_eq_true rfl) (Nat.le_of_ble_eq_true rfl) ⟨Nat.le_refl _, Nat.le_refl _⟩ hN ?_
        obtain rfl := Option.some.inj hm
        exact xw_ireturn (pc := 50) C dX9_read_50 rfl hX
      · replace hm := xif_t q hm
        refine xw_sipush (pc := 38) (v := -1003) C dX9_read_38 xk_s_m1003 ?_
        refine xw_goto (pc := 41) (tgt := 50) C dX9_read_41 (by decide) ?_
        obtain rfl := Option.some.inj hm
        exact xw_ireturn (pc := 50) C dX9_read_50 rfl hX
    · replace hm := xif_f q hm
      refine xw_sipush (pc := 22) (v := -1001) C dX9_read_22 xk_s_m1001 ?_
      obtain rfl := Option.some.inj hm
      exact xw_ireturn (pc := 25) C dX9_read_25 rfl hX
def fX9_setDisc_P52 (X : XCtx) (h : XH) (x1 : Int32) (x2 : Int32) (n sl : Nat) (s : (Int32 × Int32)) : Prop := XW X 52 [none, some (.int x1), some (.int x2), some (.int s.1), some (.int s.2)] [] h n sl
def fX9_setDisc_E52 (X : XCtx) (h : XH) (x1 : Int32) (x2 : Int32) (n sl : Nat) (e : Int32) : Prop := XW X 73 [none, none, none, some (.int e), none] [] h n sl
set_option maxHeartbeats 4000000 in
set_option maxRecDepth 100000 in
theorem fX9_setDisc_B52_w {X : XCtx} (C : XOK X RX9 cX9_setDisc 5 "setDisc" (some .int) 2 44) {n sl : Nat} (hN : XN X n sl) {h : XH} {x1 : Int32} {x2 : Int32} (s : (Int32 × Int32)) (o : (Int32 × Int32) ⊕ Int32) (hm : fX9_setDisc_B52 h x1 x2 s = some o) (hc : ∀ s', o = .inl s' → fX9_setDisc_P52 X h x1 x2 n sl s') (he : ∀ e', o = .inr e' → fX9_setDisc_E52 X h x1 x2 n sl e') : fX9_setDisc_P52 X h x1 x2 n sl s := by
  obtain ⟨x3, x4⟩ := s
  show XW X 52 [none, some (.int x1), some (.int x2), some (.int x3), some (.int x4)] [] h n sl
  replace hm : fX9_setDisc_b52 h x1 x2 x3 x4 = some o := hm
  unfold fX9_setDisc_b52 at hm
  refine xw_iload (pc := 52) (i := 4) (x := x4) C dX9_setDisc_52 rfl ?_
  refine xw_iload_n (pc := 54) (i := 1) (x := x1) C dX9_setDisc_54 rfl rfl ?_
  refine xw_icmp_ge (pc := 55) (tgt := 73) C dX9_setDisc_55 (by decide) (fun q => ?_) (fun q => ?_)
  · replace hm := xif_t q hm
    obtain rfl := Option.some.inj hm
    refine xw_sub (pc := 73) _ ?_ (he _ rfl)
    exact ⟨Or.inl rfl, Or.inl rfl, Or.inl rfl, Or.inr rfl, Or.inl rfl, trivial⟩
  · replace hm := xif_f q hm
    refine xw_iload_n (pc := 58) (i := 3) (x := x3) C dX9_setDisc_58 rfl rfl ?_
    refine xw_iload_n (pc := 59) (i := 2) (x := x2) C dX9_setDisc_59 rfl rfl ?_
    refine xw_iload (pc := 60) (i := 4) (x := x4) C dX9_setDisc_60 rfl ?_
    refine xw_ishr (pc := 62) C dX9_setDisc_62 ?_
    refine xw_iconst (pc := 63) (v := 1) C dX9_setDisc_63 xk_i_1 ?_
    refine xw_iand (pc := 64) C dX9_setDisc_64 ?_
    refine xw_iadd (pc := 65) C dX9_setDisc_65 ?_
    obtain ⟨y16, ey16, hm⟩ := xlet_ex hm
    refine xw_topI ey16 ?_
    refine xw_istore_n (pc := 66) (i := 3) (x := y16) (L' := [none, some (.int x1), some (.int x2), some (.int y16), some (.int x4)]) C dX9_setDisc_66 rfl (Nat.le_of_ble_eq_true rfl) rfl ?_
    refine xw_iinc (pc := 67) (i := 4) (x := x4) (v := (x4 + (1 : Int32))) (L' := [none, some (.int x1), some (.int x2), some (.int y16), some (.int (x4 + (1 : Int32)))]) C dX9_setDisc_67 rfl (congrArg (HAdd.hAdd _) xk_i_1) (Nat.le_of_ble_eq_true rfl) rfl ?_
    refine xw_goto (pc := 70) (tgt := 52) C dX9_setDisc_70 (by decide) ?_
    obtain rfl := Option.some.inj hm
    refine xw_sub (pc := 52) _ ?_ (hc _ rfl)
    exact ⟨Or.inl rfl, Or.inr rfl, Or.inr rfl, Or.inr rfl, Or.inr rfl, trivial⟩
set_option maxHeartbeats 4000000 in
set_option maxRecDepth 100000 in
theorem wX9_setDisc {l : Launch} {n sl : Nat} {h : XH} {x0 : Nat} {x1 : Int32} {x2 : Int32} {o : Int32 × XH} (hm : fX9_setDisc h x0 x1 x2 = some o) : XM l yX9_setDisc cX9_setDisc 5 (some .int) 2 44 [.ref x0, .int x1, .int x2] h n sl (some (.int o.1)) o.2 n sl := by
  refine xm_of pnX9 [some (.ref x0), some (.int x1), some (.int x2), none, none] 2 rfl (Nat.le_of_ble_eq_true rfl) ?_
  intro X hT C
  replace C : XOK X RX9 cX9_setDisc 5 "setDisc" (some .int) 2 44 := C
  obtain ⟨-, hN, hX⟩ := hT
  unfold fX9_setDisc at hm
  refine xw_iload_n (pc := 0) (i := 1) (x := x1) C dX9_setDisc_0 rfl rfl ?_
  refine xw_iconst (pc := 1) (v := 1) C dX9_setDisc_1 xk_i_1 ?_
  refine xw_bipush (pc := 2) (v := 30) C dX9_setDisc_2 xk_b_30 ?_
  obtain ⟨v1, q2, hm⟩ := xbind hm
  refine xw_callS1 (pc := 4) (As := [.int x1, .int (1 : Int32), .int (30 : Int32)]) (st := []) C dX9_setDisc_4 (wX9_in q2) dd_X9_in lk_X9_55 ds_X9_in rfl (Nat.le_of_ble_eq_true rfl) (Nat.le_of_ble_eq_true rfl) (Nat.le_of_ble_eq_true rfl) ⟨Nat.le_refl _, Nat.le_refl _⟩ hN ?_
  refine xw_if_eqZ (pc := 7) (b := v1) (tgt := 23) C dX9_setDisc_7 (by decide) (fun q => ?_) (fun q => ?_)
  · replace hm := xif_f q hm
    refine xw_sipush (pc := 23) (v := -1001) C dX9_setDisc_23 xk_s_m1001 ?_
    obtain rfl := Option.some.inj hm
    exact xw_ireturn (pc := 26) C dX9_setDisc_26 rfl hX
  · replace hm := xif_t q hm
    refine xw_iload_n (pc := 10) (i := 2) (x := x2) C dX9_setDisc_10 rfl rfl ?_
    refine xw_iconst (pc := 11) (v := 0) C dX9_setDisc_11 xk_i_0 ?_
    refine xw_iconst (pc := 12) (v := 1) C dX9_setDisc_12 xk_i_1 ?_
    refine xw_iload_n (pc := 13) (i := 1) (x := x1) C dX9_setDisc_13 rfl rfl ?_
    refine xw_ishl (pc := 14) C dX9_setDisc_14 ?_
    refine xw_iconst (pc := 15) (v := 1) C dX9_setDisc_15 xk_i_1 ?_
    refine xw_isub (pc := 16) C dX9_setDisc_16 ?_
    obtain ⟨v3, q4, hm⟩ := xbind hm
    refine xw_callS1 (pc := 17) (As := [.int x2, .int (0 : Int32), .int (((1 : Int32) <<< (x1 &&& 31)) - (1 : Int32))]) (st := []) C dX9_setDisc_17 (wX9_in q4) dd_X9_in lk_X9_55 ds_X9_in rfl (Nat.le_of_ble_eq_true rfl) (Nat.le_of_ble_eq_true rfl) (Nat.le_of_ble_eq_true rfl) ⟨Nat.le_refl _, Nat.le_refl _⟩ hN ?_
    refine xw_if_neZ (pc := 20) (b := v3) (tgt := 27) C dX9_setDisc_20 (by decide) (fun q => ?_) (fun q => ?_)
    · replace hm := xif_t q hm
      refine xw_aload_n (pc := 27) (i := 0) (x := x0) C dX9_setDisc_27 rfl rfl ?_
      obtain ⟨_, q5, hm⟩ := xbind hm
      obtain ⟨h6, q7, hm⟩ := xbind hm
      refine xw_callV0 (pc := 28) (As := []) (st := []) C dX9_setDisc_28 (wX9_records q7) dd_X9_records lk_X9_101 dv_X9_records (xco_spec q5) rfl (Nat.le_of_ble_eq_true rfl) (Nat.le_of_ble_eq_true rfl) (Nat.le_of_ble_eq_true rfl) ⟨Nat.le_refl _, Nat.le_refl _⟩ hN ?_
      refine xw_aload_n (pc := 31) (i := 0) (x := x0) C dX9_setDisc_31 rfl rfl ?_
      obtain ⟨v8, q9, hm⟩ := xbind hm
      refine xw_getR (pc := 32) C dX9_setDisc_32 fl_X9_7 q9 ?_
      refine xw_bipush (pc := 35) (v := 94) C dX9_setDisc_35 xk_b_94 ?_
      refine xw_iload_n (pc := 37) (i := 1) (x := x1) C dX9_setDisc_37 rfl rfl ?_
      obtain ⟨h10, q11, hm⟩ := xbind hm
      refine xw_iastore (pc := 38) C dX9_setDisc_38 q11 ?_
      refine xw_aload_n (pc := 39) (i := 0) (x := x0) C dX9_setDisc_39 rfl rfl ?_
      obtain ⟨v12, q13, hm⟩ := xbind hm
      refine xw_getR (pc := 40) C dX9_setDisc_40 fl_X9_7 q13 ?_
      refine xw_bipush (pc := 43) (v := 95) C dX9_setDisc_43 xk_b_95 ?_
      refine xw_iload_n (pc := 45) (i := 2) (x := x2) C dX9_setDisc_45 rfl rfl ?_
      obtain ⟨h14, q15, hm⟩ := xbind hm
      refine xw_iastore (pc := 46) C dX9_setDisc_46 q15 ?_
      refine xw_iconst (pc := 47) (v := 0) C dX9_setDisc_47 xk_i_0 ?_
      refine xw_istore_n (pc := 48) (i := 3) (x := (0 : Int32)) (L' := [some (.ref x0), some (.int x1), some (.int x2), some (.int (0 : Int32)), none]) C dX9_setDisc_48 rfl (Nat.le_of_ble_eq_true rfl) rfl ?_
      refine xw_iconst (pc := 49) (v := 0) C dX9_setDisc_49 xk_i_0 ?_
      refine xw_istore (pc := 50) (i := 4) (x := (0 : Int32)) (L' := [some (.ref x0), some (.int x1), some (.int x2), some (.int (0 : Int32)), some (.int (0 : Int32))]) C dX9_setDisc_50 (Nat.le_of_ble_eq_true rfl) rfl ?_
      obtain ⟨e17, q18, hm⟩ := xbind hm
      refine xw_sub (pc := 52) [none, some (.int x1), some (.int x2), some (.int (0 : Int32)), some (.int (0 : Int32))] ⟨Or.inl rfl, Or.inr rfl, Or.inr rfl, Or.inr rfl, Or.inr rfl, trivial⟩ ?_
      refine xloop_walk (fX9_setDisc_B52 h14 x1 x2) (fX9_setDisc_P52 X h14 x1 x2 n sl) (fX9_setDisc_E52 X h14 x1 x2 n sl) (fun s' o' => fX9_setDisc_B52_w C hN s' o') 5000 ((0 : Int32), (0 : Int32)) e17 q18 ?_
      show XW X 73 [none, none, none, some (.int e17), none] [] h14 n sl
      refine xw_iload_n (pc := 73) (i := 3) (x := e17) C dX9_setDisc_73 rfl rfl ?_
      obtain rfl := Option.some.inj hm
      exact xw_ireturn (pc := 74) C dX9_setDisc_74 rfl hX
    · replace hm := xif_f q hm
      refine xw_sipush (pc := 23) (v := -1001) C dX9_setDisc_23 xk_s_m1001 ?_
      obtain rfl := Option.some.inj hm
      exact xw_ireturn (pc := 26) C dX9_setDisc_26 rfl hX
set_option maxHeartbeats 4000000 in
set_option maxRecDepth 100000 in
theorem wX9_setFlash {l : Launch} {n sl : Nat} {h : XH} {x0 : Nat} {x1 : Int32} {x2 : Int32} {o : Int32 × XH} (hm : fX9_setFlash h x0 x1 x2 = some o) : XM l yX9_setFlash cX9_setFlash 3 (some .int) 2 44 [.ref x0, .int x1, .int x2] h n sl (some (.int o.1)) o.2 n sl := by
  refine xm_of pnX9 [some (.ref x0), some (.int x1), some (.int x2)] 0 rfl (Nat.le_of_ble_eq_true rfl) ?_
  intro X hT C
  replace C : XOK X RX9 cX9_setFlash 3 "setFlash" (some .int) 2 44 := C
  obtain ⟨-, hN, hX⟩ := hT
  unfold fX9_setFlash at hm
  refine xw_iload_n (pc := 0) (i := 1) (x := x1) C dX9_setFlash_0 rfl rfl ?_
  obtain ⟨v1, q2, hm⟩ := xbind hm
  refine xw_callS1 (pc := 1) (As := [.int x1]) (st := []) C dX9_setFlash_1 (wX9_isTick q2) dd_X9_isTick lk_X9_114 ds_X9_isTick rfl (Nat.le_of_ble_eq_true rfl) (Nat.le_of_ble_eq_true rfl) (Nat.le_of_ble_eq_true rfl) ⟨Nat.le_refl _, Nat.le_refl _⟩ hN ?_
  refine xw_if_eqZ (pc := 4) (b := v1) (tgt := 18) C dX9_setFlash_4 (by decide) (fun q => ?_) (fun q => ?_)
  · replace hm := xif_f q hm
    refine xw_sipush (pc := 18) (v := -1001) C dX9_setFlash_18 xk_s_m1001 ?_
    obtain rfl := Option.some.inj hm
    exact xw_ireturn (pc := 21) C dX9_setFlash_21 rfl hX
  · replace hm := xif_t q hm
    refine xw_iload_n (pc := 7) (i := 2) (x := x2) C dX9_setFlash_7 rfl rfl ?_
    refine xw_iconst (pc := 8) (v := 1) C dX9_setFlash_8 xk_i_1 ?_
    refine xw_sipush (pc := 9) (v := 500) C dX9_setFlash_9 xk_s_500 ?_
    obtain ⟨v3, q4, hm⟩ := xbind hm
    refine xw_callS1 (pc := 12) (As := [.int x2, .int (1 : Int32), .int (500 : Int32)]) (st := []) C dX9_setFlash_12 (wX9_in q4) dd_X9_in lk_X9_55 ds_X9_in rfl (Nat.le_of_ble_eq_true rfl) (Nat.le_of_ble_eq_true rfl) (Nat.le_of_ble_eq_true rfl) ⟨Nat.le_refl _, Nat.le_refl _⟩ hN ?_
    refine xw_if_neZ (pc := 15) (b := v3) (tgt := 22) C dX9_setFlash_15 (by decide) (fun q => ?_) (fun q => ?_)
    · replace hm := xif_t q hm
      refine xw_aload_n (pc := 22) (i := 0) (x := x0) C dX9_setFlash_22 rfl rfl ?_
      obtain ⟨_, q5, hm⟩ := xbind hm
      obtain ⟨h6, q7, hm⟩ := xbind hm
      refine xw_callV0 (pc := 23) (As := []) (st := []) C dX9_setFlash_23 (wX9_records q7) dd_X9_records lk_X9_101 dv_X9_records (xco_spec q5) rfl (Nat.le_of_ble_eq_true rfl) (Nat.le_of_ble_eq_true rfl) (Nat.le_of_ble_eq_true rfl) ⟨Nat.le_refl _, Nat.le_refl _⟩ hN ?_
      refine xw_aload_n (pc := 26) (i := 0) (x := x0) C dX9_setFlash_26 rfl rfl ?_
      obtain ⟨v8, q9, hm⟩ := xbind hm
      refine xw_getR (pc := 27) C dX9_setFlash_27 fl_X9_7 q9 ?_
      refine xw_bipush (pc := 30) (v := 74) C dX9_setFlash_30 xk_b_74 ?_
      refine xw_iload_n (pc := 32) (i := 1) (x := x1) C dX9_setFlash_32 rfl rfl ?_
      obtain ⟨h10, q11, hm⟩ := xbind hm
      refine xw_iastore (pc := 33) C dX9_setFlash_33 q11 ?_
      refine xw_aload_n (pc := 34) (i := 0) (x := x0) C dX9_setFlash_34 rfl rfl ?_
      obtain ⟨v12, q13, hm⟩ := xbind hm
      refine xw_getR (pc := 35) C dX9_setFlash_35 fl_X9_7 q13 ?_
      refine xw_bipush (pc := 38) (v := 75) C dX9_setFlash_38 xk_b_75 ?_
      refine xw_iload_n (pc := 40) (i := 2) (x := x2) C dX9_setFlash_40 rfl rfl ?_
      obtain ⟨h14, q15, hm⟩ := xbind hm
      refine xw_iastore (pc := 41) C dX9_setFlash_41 q15 ?_
      refine xw_aload_n (pc := 42) (i := 0) (x := x0) C dX9_setFlash_42 rfl rfl ?_
      obtain ⟨_, q16, hm⟩ := xbind hm
      obtain ⟨v17, q18, hm⟩ := xbind hm
      refine xw_callV1 (pc := 43) (As := []) (st := []) C dX9_setFlash_43 (wX9_flashes q18) dd_X9_flashes lk_X9_126 dv_X9_flashes (xco_spec q16) rfl (Nat.le_of_ble_eq_true rfl) (Nat.le_of_ble_eq_true rfl) (Nat.le_of_ble_eq_true rfl) ⟨Nat.le_refl _, Nat.le_refl _⟩ hN ?_
      obtain rfl := Option.some.inj hm
      exact xw_ireturn (pc := 46) C dX9_setFlash_46 rfl hX
    · replace hm := xif_f q hm
      refine xw_sipush (pc := 18) (v := -1001) C dX9_setFlash_18 xk_s_m1001 ?_
      obtain rfl := Option.some.inj hm
      exact xw_ireturn (pc := 21) C dX9_setFlash_21 rfl hX
set_option maxHeartbeats 4000000 in
set_option maxRecDepth 100000 in
theorem wX9_setLimit {l : Launch} {n sl : Nat} {h : XH} {x0 : Nat} {x1 : Int32} {o : Int32 × XH} (hm : fX9_setLimit h x0 x1 = some o) : XM l yX9_setLimit cX9_setLimit 2 (some .int) 3 67 [.ref x0, .int x1] h n sl (some (.int o.1)) o.2 n sl := by
  refine xm_of pnX9 [some (.ref x0), some (.int x1)] 0 rfl (Nat.le_of_ble_eq_true rfl) ?_
  intro X hT C
  replace C : XOK X RX9 cX9_setLimit 2 "setLimit" (some .int) 3 67 := C
  obtain ⟨-, hN, hX⟩ := hT
  unfold fX9_setLimit at hm
  refine xw_iload_n (pc := 0) (i := 1) (x := x1) C dX9_setLimit_0 rfl rfl ?_
  refine xw_iconst (pc := 1) (v := 1) C dX9_setLimit_1 xk_i_1 ?_
  refine xw_sipush (pc := 2) (v := 1000) C dX9_setLimit_2 xk_s_1000 ?_
  obtain ⟨v1, q2, hm⟩ := xbind hm
  refine xw_callS1 (pc := 5) (As := [.int x1, .int (1 : Int32), .int (1000 : Int32)]) (st := []) C dX9_setLimit_5 (wX9_in q2) dd_X9_in lk_X9_55 ds_X9_in rfl (Nat.le_of_ble_eq_true rfl) (Nat.le_of_ble_eq_true rfl) (Nat.le_of_ble_eq_true rfl) ⟨Nat.le_refl _, Nat.le_refl _⟩ hN ?_
  refine xw_if_eqZ (pc := 8) (b := v1) (tgt := 21) C dX9_setLimit_8 (by decide) (fun q => ?_) (fun q => ?_)
  · replace hm := xif_f q hm
    refine xw_sipush (pc := 21) (v := -1001) C dX9_setLimit_21 xk_s_m1001 ?_
    obtain rfl := Option.some.inj hm
    exact xw_ireturn (pc := 24) C dX9_setLimit_24 rfl hX
  · replace hm := xif_t q hm
    refine xw_aload_n (pc := 11) (i := 0) (x := x0) C dX9_setLimit_11 rfl rfl ?_
    refine xw_bipush (pc := 12) (v := 93) C dX9_setLimit_12 xk_b_93 ?_
    refine xw_iload_n (pc := 14) (i := 1) (x := x1) C dX9_setLimit_14 rfl rfl ?_
    obtain ⟨_, q3, hm⟩ := xbind hm
    obtain ⟨v4, q5, hm⟩ := xbind hm
    refine xw_callV1 (pc := 15) (As := [.int (93 : Int32), .int x1]) (st := []) C dX9_setLimit_15 (wX9_becomes q5) dd_X9_becomes lk_X9_108 dv_X9_becomes (xco_spec q3) rfl (Nat.le_of_ble_eq_true rfl) (Nat.le_of_ble_eq_true rfl) (Nat.le_of_ble_eq_true rfl) ⟨Nat.le_refl _, Nat.le_refl _⟩ hN ?_
    refine xw_goto (pc := 18) (tgt := 24) C dX9_setLimit_18 (by decide) ?_
    obtain rfl := Option.some.inj hm
    exact xw_ireturn (pc := 24) C dX9_setLimit_24 rfl hX
set_option maxHeartbeats 4000000 in
set_option maxRecDepth 100000 in
theorem wX9_setMark {l : Launch} {n sl : Nat} {h : XH} {x0 : Nat} {x1 : Int32} {x2 : Int32} {o : Int32 × XH} (hm : fX9_setMark h x0 x1 x2 = some o) : XM l yX9_setMark cX9_setMark 3 (some .int) 3 67 [.ref x0, .int x1, .int x2] h n sl (some (.int o.1)) o.2 n sl := by
  refine xm_of pnX9 [some (.ref x0), some (.int x1), some (.int x2)] 0 rfl (Nat.le_of_ble_eq_true rfl) ?_
  intro X hT C
  replace C : XOK X RX9 cX9_setMark 3 "setMark" (some .int) 3 67 := C
  obtain ⟨-, hN, hX⟩ := hT
  unfold fX9_setMark at hm
  refine xw_aload_n (pc := 0) (i := 0) (x := x0) C dX9_setMark_0 rfl rfl ?_
  refine xw_iload_n (pc := 1) (i := 1) (x := x1) C dX9_setMark_1 rfl rfl ?_
  obtain ⟨_, q1, hm⟩ := xbind hm
  obtain ⟨v2, q3, hm⟩ := xbind hm
  refine xw_callV1 (pc := 2) (As := [.int x1]) (st := []) C dX9_setMark_2 (wX9_isCell q3) dd_X9_isCell lk_X9_104 dv_X9_isCell (xco_spec q1) rfl (Nat.le_of_ble_eq_true rfl) (Nat.le_of_ble_eq_true rfl) (Nat.le_of_ble_eq_true rfl) ⟨Nat.le_refl _, Nat.le_refl _⟩ hN ?_
  refine xw_if_eqZ (pc := 5) (b := v2) (tgt := 28) C dX9_setMark_5 (by decide) (fun q => ?_) (fun q => ?_)
  · replace hm := xif_f q hm
    refine xw_sipush (pc := 28) (v := -1001) C dX9_setMark_28 xk_s_m1001 ?_
    obtain rfl := Option.some.inj hm
    exact xw_ireturn (pc := 31) C dX9_setMark_31 rfl hX
  · replace hm := xif_t q hm
    refine xw_iload_n (pc := 8) (i := 2) (x := x2) C dX9_setMark_8 rfl rfl ?_
    refine xw_iconst (pc := 9) (v := 0) C dX9_setMark_9 xk_i_0 ?_
    refine xw_iconst (pc := 10) (v := 3) C dX9_setMark_10 xk_i_3 ?_
    obtain ⟨v4, q5, hm⟩ := xbind hm
    refine xw_callS1 (pc := 11) (As := [.int x2, .int (0 : Int32), .int (3 : Int32)]) (st := []) C dX9_setMark_11 (wX9_in q5) dd_X9_in lk_X9_55 ds_X9_in rfl (Nat.le_of_ble_eq_true rfl) (Nat.le_of_ble_eq_true rfl) (Nat.le_of_ble_eq_true rfl) ⟨Nat.le_refl _, Nat.le_refl _⟩ hN ?_
    refine xw_if_eqZ (pc := 14) (b := v4) (tgt := 28) C dX9_setMark_14 (by decide) (fun q => ?_) (fun q => ?_)
    · replace hm := xif_f q hm
      refine xw_sipush (pc := 28) (v := -1001) C dX9_setMark_28 xk_s_m1001 ?_
      obtain rfl := Option.some.inj hm
      exact xw_ireturn (pc := 31) C dX9_setMark_31 rfl hX
    · replace hm := xif_t q hm
      refine xw_aload_n (pc := 17) (i := 0) (x := x0) C dX9_setMark_17 rfl rfl ?_
      refine xw_iconst (pc := 18) (v := 1) C dX9_setMark_18 xk_i_1 ?_
      refine xw_iload_n (pc := 19) (i := 1) (x := x1) C dX9_setMark_19 rfl rfl ?_
      refine xw_iadd (pc := 20) C dX9_setMark_20 ?_
      refine xw_iload_n (pc := 21) (i := 2) (x := x2) C dX9_setMark_21 rfl rfl ?_
      obtain ⟨_, q6, hm⟩ := xbind hm
      obtain ⟨v7, q8, hm⟩ := xbind hm
      refine xw_callV1 (pc := 22) (As := [.int ((1 : Int32) + x1), .int x2]) (st := []) C dX9_setMark_22 (wX9_becomes q8) dd_X9_becomes lk_X9_108 dv_X9_becomes (xco_spec q6) rfl (Nat.le_of_ble_eq_true rfl) (Nat.le_of_ble_eq_true rfl) (Nat.le_of_ble_eq_true rfl) ⟨Nat.le_refl _, Nat.le_refl _⟩ hN ?_
      refine xw_goto (pc := 25) (tgt := 31) C dX9_setMark_25 (by decide) ?_
      obtain rfl := Option.some.inj hm
      exact xw_ireturn (pc := 31) C dX9_setMark_31 rfl hX
set_option maxHeartbeats 4000000 in
set_option maxRecDepth 100000 in
theorem fX9_setSpeed_J149_w {X : XCtx} (C : XOK X RX9 cX9_setSpeed 6 "setSpeed" (some .int) 3 65) {n sl : Nat} (hN : XN X n sl)  {h : XH} {x0 : Nat} {x1 : Int32} {x2 : Int32} {x4 : Int32} {o : Int32 × XH} (hm : fX9_setSpeed_J149 h x0 x1 x2 x4 = some o) (hX : XR X (some (.int o.1)) o.2 n sl) : XW X 149 [some (.ref x0), some (.int x1), some (.int x2), none, some (.int x4), none] [] h n sl := by
  unfold fX9_setSpeed_J149 at hm
  refine xw_aload_n (pc := 149) (i := 0) (x := x0) C dX9_setSpeed_149 rfl rfl ?_
  obtain ⟨v14, q15, hm⟩ := xbind hm
  refine xw_getR (pc := 150) C dX9_setSpeed_150 fl_X9_7 q15 ?_
  refine xw_bipush (pc := 153) (v := 64) C dX9_setSpeed_153 xk_b_64 ?_
  refine xw_iconst (pc := 155) (v := 2) C dX9_setSpeed_155 xk_i_2 ?_
  refine xw_iload (pc := 156) (i := 4) (x := x4) C dX9_setSpeed_156 rfl ?_
  refine xw_imul (pc := 158) C dX9_setSpeed_158 ?_
  refine xw_iadd (pc := 159) C dX9_setSpeed_159 ?_
  refine xw_iload_n (pc := 160) (i := 1) (x := x1) C dX9_setSpeed_160 rfl rfl ?_
  obtain ⟨h16, q17, hm⟩ := xbind hm
  refine xw_iastore (pc := 161) C dX9_setSpeed_161 q17 ?_
  refine xw_aload_n (pc := 162) (i := 0) (x := x0) C dX9_setSpeed_162 rfl rfl ?_
  obtain ⟨v18, q19, hm⟩ := xbind hm
  refine xw_getR (pc := 163) C dX9_setSpeed_163 fl_X9_7 q19 ?_
  refine xw_bipush (pc := 166) (v := 64) C dX9_setSpeed_166 xk_b_64 ?_
  refine xw_iconst (pc := 168) (v := 2) C dX9_setSpeed_168 xk_i_2 ?_
  refine xw_iload (pc := 169) (i := 4) (x := x4) C dX9_setSpeed_169 rfl ?_
  refine xw_imul (pc := 171) C dX9_setSpeed_171 ?_
  refine xw_iadd (pc := 172) C dX9_setSpeed_172 ?_
  refine xw_iconst (pc := 173) (v := 1) C dX9_setSpeed_173 xk_i_1 ?_
  refine xw_iadd (pc := 174) C dX9_setSpeed_174 ?_
  refine xw_iload_n (pc := 175) (i := 2) (x := x2) C dX9_setSpeed_175 rfl rfl ?_
  obtain ⟨h20, q21, hm⟩ := xbind hm
  refine xw_iastore (pc := 176) C dX9_setSpeed_176 q21 ?_
  refine xw_aload_n (pc := 177) (i := 0) (x := x0) C dX9_setSpeed_177 rfl rfl ?_
  obtain ⟨v22, q23, hm⟩ := xbind hm
  refine xw_getR (pc := 178) C dX9_setSpeed_178 fl_X9_7 q23 ?_
  refine xw_bipush (pc := 181) (v := 63) C dX9_setSpeed_181 xk_b_63 ?_
  obtain ⟨v24, q25, hm⟩ := xbind hm
  refine xw_iaload (pc := 183) C dX9_setSpeed_183 q25 ?_
  obtain rfl := Option.some.inj hm
  exact xw_ireturn (pc := 184) C dX9_setSpeed_184 rfl hX
def fX9_setSpeed_P101 (X : XCtx) (x0 : Nat) (x1 : Int32) (x2 : Int32) (x4 : Int32) (n sl : Nat) (s : (XH × Int32)) : Prop := XW X 101 [some (.ref x0), some (.int x1), some (.int x2), none, some (.int x4), some (.int s.2)] [] s.1 n sl
def fX9_setSpeed_E101 (X : XCtx) (x0 : Nat) (x1 : Int32) (x2 : Int32) (x4 : Int32) (n sl : Nat) (e : XH) : Prop := XW X 138 [some (.ref x0), some (.int x1), some (.int x2), none, some (.int x4), none] [] e n sl
set_option maxHeartbeats 4000000 in
set_option maxRecDepth 100000 in
theorem fX9_setSpeed_B101_w {X : XCtx} (C : XOK X RX9 cX9_setSpeed 6 "setSpeed" (some .int) 3 65) {n sl : Nat} (hN : XN X n sl) {x0 : Nat} {x1 : Int32} {x2 : Int32} {x4 : Int32} (s : (XH × Int32)) (o : (XH × Int32) ⊕ XH) (hm : fX9_setSpeed_B101 x0 x1 x2 x4 s = some o) (hc : ∀ s', o = .inl s' → fX9_setSpeed_P101 X x0 x1 x2 x4 n sl s') (he : ∀ e', o = .inr e' → fX9_setSpeed_E101 X x0 x1 x2 x4 n sl e') : fX9_setSpeed_P101 X x0 x1 x2 x4 n sl s := by
  obtain ⟨h, x5⟩ := s
  show XW X 101 [some (.ref x0), some (.int x1), some (.int x2), none, some (.int x4), some (.int x5)] [] h n sl
  replace hm : fX9_setSpeed_b101 x0 x1 x2 x4 h x5 = some o := hm
  unfold fX9_setSpeed_b101 at hm
  refine xw_iload (pc := 101) (i := 5) (x := x5) C dX9_setSpeed_101 rfl ?_
  refine xw_iconst (pc := 103) (v := 2) C dX9_setSpeed_103 xk_i_2 ?_
  refine xw_iload (pc := 104) (i := 4) (x := x4) C dX9_setSpeed_104 rfl ?_
  refine xw_imul (pc := 106) C dX9_setSpeed_106 ?_
  refine xw_icmp_lt (pc := 107) (tgt := 138) C dX9_setSpeed_107 (by decide) (fun q => ?_) (fun q => ?_)
  · replace hm := xif_t q hm
    obtain rfl := Option.some.inj hm
    refine xw_sub (pc := 138) _ ?_ (he _ rfl)
    exact ⟨Or.inr rfl, Or.inr rfl, Or.inr rfl, Or.inl rfl, Or.inr rfl, Or.inl rfl, trivial⟩
  · replace hm := xif_f q hm
    refine xw_aload_n (pc := 110) (i := 0) (x := x0) C dX9_setSpeed_110 rfl rfl ?_
    obtain ⟨v31, q32, hm⟩ := xbind hm
    refine xw_getR (pc := 111) C dX9_setSpeed_111 fl_X9_7 q32 ?_
    refine xw_bipush (pc := 114) (v := 64) C dX9_setSpeed_114 xk_b_64 ?_
    refine xw_iload (pc := 116) (i := 5) (x := x5) C dX9_setSpeed_116 rfl ?_
    refine xw_iadd (pc := 118) C dX9_setSpeed_118 ?_
    refine xw_iconst (pc := 119) (v := 2) C dX9_setSpeed_119 xk_i_2 ?_
    refine xw_iadd (pc := 120) C dX9_setSpeed_120 ?_
    refine xw_aload_n (pc := 121) (i := 0) (x := x0) C dX9_setSpeed_121 rfl rfl ?_
    obtain ⟨v33, q34, hm⟩ := xbind hm
    refine xw_getR (pc := 122) C dX9_setSpeed_122 fl_X9_7 q34 ?_
    refine xw_bipush (pc := 125) (v := 64) C dX9_setSpeed_125 xk_b_64 ?_
    refine xw_iload (pc := 127) (i := 5) (x := x5) C dX9_setSpeed_127 rfl ?_
    refine xw_iadd (pc := 129) C dX9_setSpeed_129 ?_
    obtain ⟨v35, q36, hm⟩ := xbind hm
    refine xw_iaload (pc := 130) C dX9_setSpeed_130 q36 ?_
    obtain ⟨h37, q38, hm⟩ := xbind hm
    refine xw_iastore (pc := 131) C dX9_setSpeed_131 q38 ?_
    refine xw_iinc (pc := 132) (i := 5) (x := x5) (v := (x5 + (-1 : Int32))) (L' := [some (.ref x0), some (.int x1), some (.int x2), none, some (.int x4), some (.int (x5 + (-1 : Int32)))]) C dX9_setSpeed_132 rfl (congrArg (HAdd.hAdd _) xk_i_m1) (Nat.le_of_ble_eq_true rfl) rfl ?_
    refine xw_goto (pc := 135) (tgt := 101) C dX9_setSpeed_135 (by decide) ?_
    obtain rfl := Option.some.inj hm
    refine xw_sub (pc := 101) _ ?_ (hc _ rfl)
    exact ⟨Or.inr rfl, Or.inr rfl, Or.inr rfl, Or.inl rfl, Or.inr rfl, Or.inr rfl, trivial⟩
set_option maxHeartbeats 4000000 in
set_option maxRecDepth 100000 in
theorem fX9_setSpeed_J53_w {X : XCtx} (C : XOK X RX9 cX9_setSpeed 6 "setSpeed" (some .int) 3 65) {n sl : Nat} (hN : XN X n sl)  {h : XH} {x0 : Nat} {x1 : Int32} {x2 : Int32} {x3 : Bool} {o : Int32 × XH} (hm : fX9_setSpeed_J53 h x0 x1 x2 x3 = some o) (hX : XR X (some (.int o.1)) o.2 n sl) : XW X 53 [some (.ref x0), some (.int x1), some (.int x2), some (.int (xbi x3)), none, none] [] h n sl := by
  unfold fX9_setSpeed_J53 at hm
  refine xw_aload_n (pc := 53) (i := 0) (x := x0) C dX9_setSpeed_53 rfl rfl ?_
  obtain ⟨_, q8, hm⟩ := xbind hm
  obtain ⟨h9, q10, hm⟩ := xbind hm
  refine xw_callV0 (pc := 54) (As := []) (st := []) C dX9_setSpeed_54 (wX9_records q10) dd_X9_records lk_X9_101 dv_X9_records (xco_spec q8) rfl (Nat.le_of_ble_eq_true rfl) (Nat.le_of_ble_eq_true rfl) (Nat.le_of_ble_eq_true rfl) ⟨Nat.le_refl _, Nat.le_refl _⟩ hN ?_
  refine xw_iload_n (pc := 57) (i := 1) (x := x1) C dX9_setSpeed_57 rfl rfl ?_
  refine xw_if_ne (pc := 58) (tgt := 77) C dX9_setSpeed_58 (by decide) (fun q => ?_) (fun q => ?_)
  · replace hm := xif_f q hm
    refine xw_aload_n (pc := 77) (i := 0) (x := x0) C dX9_setSpeed_77 rfl rfl ?_
    refine xw_iload_n (pc := 78) (i := 1) (x := x1) C dX9_setSpeed_78 rfl rfl ?_
    obtain ⟨_, q11, hm⟩ := xbind hm
    obtain ⟨v12, q13, hm⟩ := xbind hm
    refine xw_callV1 (pc := 79) (As := [.int x1]) (st := []) C dX9_setSpeed_79 (wX9_changeFrom q13) dd_X9_changeFrom lk_X9_111 dv_X9_changeFrom (xco_spec q11) rfl (Nat.le_of_ble_eq_true rfl) (Nat.le_of_ble_eq_true rfl) (Nat.le_of_ble_eq_true rfl) ⟨Nat.le_refl _, Nat.le_refl _⟩ hN ?_
    refine xw_istore (pc := 82) (i := 4) (x := v12) (L' := [some (.ref x0), some (.int x1), some (.int x2), some (.int (xbi x3)), some (.int v12), none]) C dX9_setSpeed_82 (Nat.le_of_ble_eq_true rfl) rfl ?_
    refine xw_iload_n (pc := 84) (i := 3) (x := (xbi x3)) C dX9_setSpeed_84 rfl rfl ?_
    refine xw_if_neZ (pc := 85) (b := x3) (tgt := 149) C dX9_setSpeed_85 (by decide) (fun q => ?_) (fun q => ?_)
    · replace hm := xif_t q hm
      exact xw_sub (pc := 149) [some (.ref x0), some (.int x1), some (.int x2), none, some (.int v12), none] ⟨Or.inr rfl, Or.inr rfl, Or.inr rfl, Or.inl rfl, Or.inr rfl, Or.inl rfl, trivial⟩ (fX9_setSpeed_J149_w C hN hm hX)
    · replace hm := xif_f q hm
      refine xw_iconst (pc := 88) (v := 2) C dX9_setSpeed_88 xk_i_2 ?_
      refine xw_aload_n (pc := 89) (i := 0) (x := x0) C dX9_setSpeed_89 rfl rfl ?_
      obtain ⟨v26, q27, hm⟩ := xbind hm
      refine xw_getR (pc := 90) C dX9_setSpeed_90 fl_X9_7 q27 ?_
      refine xw_bipush (pc := 93) (v := 63) C dX9_setSpeed_93 xk_b_63 ?_
      obtain ⟨v28, q29, hm⟩ := xbind hm
      refine xw_iaload (pc := 95) C dX9_setSpeed_95 q29 ?_
      refine xw_imul (pc := 96) C dX9_setSpeed_96 ?_
      refine xw_iconst (pc := 97) (v := 1) C dX9_setSpeed_97 xk_i_1 ?_
      refine xw_isub (pc := 98) C dX9_setSpeed_98 ?_
      obtain ⟨y30, ey30, hm⟩ := xlet_ex hm
      refine xw_topI ey30 ?_
      refine xw_istore (pc := 99) (i := 5) (x := y30) (L' := [some (.ref x0), some (.int x1), some (.int x2), some (.int (xbi x3)), some (.int v12), some (.int y30)]) C dX9_setSpeed_99 (Nat.le_of_ble_eq_true rfl) rfl ?_
      obtain ⟨e39, q40, hm⟩ := xbind hm
      refine xw_sub (pc := 101) [some (.ref x0), some (.int x1), some (.int x2), none, some (.int v12), some (.int y30)] ⟨Or.inr rfl, Or.inr rfl, Or.inr rfl, Or.inl rfl, Or.inr rfl, Or.inr rfl, trivial⟩ ?_
      refine xloop_walk (fX9_setSpeed_B101 x0 x1 x2 v12) (fX9_setSpeed_P101 X x0 x1 x2 v12 n sl) (fX9_setSpeed_E101 X x0 x1 x2 v12 n sl) (fun s' o' => fX9_setSpeed_B101_w C hN s' o') 5000 (h9, y30) e39 q40 ?_
      show XW X 138 [some (.ref x0), some (.int x1), some (.int x2), none, some (.int v12), none] [] e39 n sl
      refine xw_aload_n (pc := 138) (i := 0) (x := x0) C dX9_setSpeed_138 rfl rfl ?_
      obtain ⟨v41, q42, hm⟩ := xbind hm
      refine xw_getR (pc := 139) C dX9_setSpeed_139 fl_X9_7 q42 ?_
      refine xw_bipush (pc := 142) (v := 63) C dX9_setSpeed_142 xk_b_63 ?_
      refine xw_dup2 (pc := 144) C dX9_setSpeed_144 rfl rfl ?_
      obtain ⟨v43, q44, hm⟩ := xbind hm
      refine xw_iaload (pc := 145) C dX9_setSpeed_145 q44 ?_
      refine xw_iconst (pc := 146) (v := 1) C dX9_setSpeed_146 xk_i_1 ?_
      refine xw_iadd (pc := 147) C dX9_setSpeed_147 ?_
      obtain ⟨h45, q46, hm⟩ := xbind hm
      refine xw_iastore (pc := 148) C dX9_setSpeed_148 q46 ?_
      exact xw_sub (pc := 149) [some (.ref x0), some (.int x1), some (.int x2), none, some (.int v12), none] ⟨Or.inr rfl, Or.inr rfl, Or.inr rfl, Or.inl rfl, Or.inr rfl, Or.inl rfl, trivial⟩ (fX9_setSpeed_J149_w C hN hm hX)
  · replace hm := xif_t q hm
    refine xw_aload_n (pc := 61) (i := 0) (x := x0) C dX9_setSpeed_61 rfl rfl ?_
    obtain ⟨v47, q48, hm⟩ := xbind hm
    refine xw_getR (pc := 62) C dX9_setSpeed_62 fl_X9_7 q48 ?_
    refine xw_bipush (pc := 65) (v := 62) C dX9_setSpeed_65 xk_b_62 ?_
    refine xw_iload_n (pc := 67) (i := 2) (x := x2) C dX9_setSpeed_67 rfl rfl ?_
    obtain ⟨h49, q50, hm⟩ := xbind hm
    refine xw_iastore (pc := 68) C dX9_setSpeed_68 q50 ?_
    refine xw_aload_n (pc := 69) (i := 0) (x := x0) C dX9_setSpeed_69 rfl rfl ?_
    obtain ⟨v51, q52, hm⟩ := xbind hm
    refine xw_getR (pc := 70) C dX9_setSpeed_70 fl_X9_7 q52 ?_
    refine xw_bipush (pc := 73) (v := 63) C dX9_setSpeed_73 xk_b_63 ?_
    obtain ⟨v53, q54, hm⟩ := xbind hm
    refine xw_iaload (pc := 75) C dX9_setSpeed_75 q54 ?_
    obtain rfl := Option.some.inj hm
    exact xw_ireturn (pc := 76) C dX9_setSpeed_76 rfl hX
set_option maxHeartbeats 4000000 in
set_option maxRecDepth 100000 in
theorem wX9_setSpeed {l : Launch} {n sl : Nat} {h : XH} {x0 : Nat} {x1 : Int32} {x2 : Int32} {o : Int32 × XH} (hm : fX9_setSpeed h x0 x1 x2 = some o) : XM l yX9_setSpeed cX9_setSpeed 6 (some .int) 3 65 [.ref x0, .int x1, .int x2] h n sl (some (.int o.1)) o.2 n sl := by
  refine xm_of pnX9 [some (.ref x0), some (.int x1), some (.int x2), none, none, none] 3 rfl (Nat.le_of_ble_eq_true rfl) ?_
  intro X hT C
  replace C : XOK X RX9 cX9_setSpeed 6 "setSpeed" (some .int) 3 65 := C
  obtain ⟨-, hN, hX⟩ := hT
  unfold fX9_setSpeed at hm
  refine xw_iload_n (pc := 0) (i := 1) (x := x1) C dX9_setSpeed_0 rfl rfl ?_
  obtain ⟨v1, q2, hm⟩ := xbind hm
  refine xw_callS1 (pc := 1) (As := [.int x1]) (st := []) C dX9_setSpeed_1 (wX9_isTick q2) dd_X9_isTick lk_X9_114 ds_X9_isTick rfl (Nat.le_of_ble_eq_true rfl) (Nat.le_of_ble_eq_true rfl) (Nat.le_of_ble_eq_true rfl) ⟨Nat.le_refl _, Nat.le_refl _⟩ hN ?_
  refine xw_if_eqZ (pc := 4) (b := v1) (tgt := 20) C dX9_setSpeed_4 (by decide) (fun q => ?_) (fun q => ?_)
  · replace hm := xif_f q hm
    refine xw_sipush (pc := 20) (v := -1001) C dX9_setSpeed_20 xk_s_m1001 ?_
    obtain rfl := Option.some.inj hm
    exact xw_ireturn (pc := 23) C dX9_setSpeed_23 rfl hX
  · replace hm := xif_t q hm
    refine xw_iload_n (pc := 7) (i := 2) (x := x2) C dX9_setSpeed_7 rfl rfl ?_
    refine xw_sipush (pc := 8) (v := -1000) C dX9_setSpeed_8 xk_s_m1000 ?_
    refine xw_sipush (pc := 11) (v := 1000) C dX9_setSpeed_11 xk_s_1000 ?_
    obtain ⟨v3, q4, hm⟩ := xbind hm
    refine xw_callS1 (pc := 14) (As := [.int x2, .int (-1000 : Int32), .int (1000 : Int32)]) (st := []) C dX9_setSpeed_14 (wX9_in q4) dd_X9_in lk_X9_55 ds_X9_in rfl (Nat.le_of_ble_eq_true rfl) (Nat.le_of_ble_eq_true rfl) (Nat.le_of_ble_eq_true rfl) ⟨Nat.le_refl _, Nat.le_refl _⟩ hN ?_
    refine xw_if_neZ (pc := 17) (b := v3) (tgt := 24) C dX9_setSpeed_17 (by decide) (fun q => ?_) (fun q => ?_)
    · replace hm := xif_t q hm
      refine xw_aload_n (pc := 24) (i := 0) (x := x0) C dX9_setSpeed_24 rfl rfl ?_
      refine xw_iload_n (pc := 25) (i := 1) (x := x1) C dX9_setSpeed_25 rfl rfl ?_
      obtain ⟨_, q5, hm⟩ := xbind hm
      obtain ⟨v6, q7, hm⟩ := xbind hm
      refine xw_callV1 (pc := 26) (As := [.int x1]) (st := []) C dX9_setSpeed_26 (wX9_isChange q7) dd_X9_isChange lk_X9_117 dv_X9_isChange (xco_spec q5) rfl (Nat.le_of_ble_eq_true rfl) (Nat.le_of_ble_eq_true rfl) (Nat.le_of_ble_eq_true rfl) ⟨Nat.le_refl _, Nat.le_refl _⟩ hN ?_
      refine xw_istore_n (pc := 29) (i := 3) (x := (xbi v6)) (L' := [some (.ref x0), some (.int x1), some (.int x2), some (.int (xbi v6)), none, none]) C dX9_setSpeed_29 rfl (Nat.le_of_ble_eq_true rfl) rfl ?_
      refine xw_iload_n (pc := 30) (i := 1) (x := x1) C dX9_setSpeed_30 rfl rfl ?_
      refine xw_if_le (pc := 31) (tgt := 53) C dX9_setSpeed_31 (by decide) (fun q => ?_) (fun q => ?_)
      · replace hm := xif_t q hm
        exact xw_sub (pc := 53) [some (.ref x0), some (.int x1), some (.int x2), some (.int (xbi v6)), none, none] ⟨Or.inr rfl, Or.inr rfl, Or.inr rfl, Or.inr rfl, Or.inl rfl, Or.inl rfl, trivial⟩ (fX9_setSpeed_J53_w C hN hm hX)
      · replace hm := xif_f q hm
        refine xw_iload_n (pc := 34) (i := 3) (x := (xbi v6)) C dX9_setSpeed_34 rfl rfl ?_
        refine xw_if_neZ (pc := 35) (b := v6) (tgt := 53) C dX9_setSpeed_35 (by decide) (fun q => ?_) (fun q => ?_)
        · replace hm := xif_t q hm
          exact xw_sub (pc := 53) [some (.ref x0), some (.int x1), some (.int x2), some (.int (xbi v6)), none, none] ⟨Or.inr rfl, Or.inr rfl, Or.inr rfl, Or.inr rfl, Or.inl rfl, Or.inl rfl, trivial⟩ (fX9_setSpeed_J53_w C hN hm hX)
        · replace hm := xif_f q hm
          refine xw_aload_n (pc := 38) (i := 0) (x := x0) C dX9_setSpeed_38 rfl rfl ?_
          obtain ⟨v55, q56, hm⟩ := xbind hm
          refine xw_getR (pc := 39) C dX9_setSpeed_39 fl_X9_7 q56 ?_
          refine xw_bipush (pc := 42) (v := 63) C dX9_setSpeed_42 xk_b_63 ?_
          obtain ⟨v57, q58, hm⟩ := xbind hm
          refine xw_iaload (pc := 44) C dX9_setSpeed_44 q58 ?_
          refine xw_iconst (pc := 45) (v := 5) C dX9_setSpeed_45 xk_i_5 ?_
          refine xw_icmp_ne (pc := 46) (tgt := 53) C dX9_setSpeed_46 (by decide) (fun q => ?_) (fun q => ?_)
          · replace hm := xif_f q hm
            exact xw_sub (pc := 53) [some (.ref x0), some (.int x1), some (.int x2), some (.int (xbi v6)), none, none] ⟨Or.inr rfl, Or.inr rfl, Or.inr rfl, Or.inr rfl, Or.inl rfl, Or.inl rfl, trivial⟩ (fX9_setSpeed_J53_w C hN hm hX)
          · replace hm := xif_t q hm
            refine xw_sipush (pc := 49) (v := -1003) C dX9_setSpeed_49 xk_s_m1003 ?_
            obtain rfl := Option.some.inj hm
            exact xw_ireturn (pc := 52) C dX9_setSpeed_52 rfl hX
    · replace hm := xif_f q hm
      refine xw_sipush (pc := 20) (v := -1001) C dX9_setSpeed_20 xk_s_m1001 ?_
      obtain rfl := Option.some.inj hm
      exact xw_ireturn (pc := 23) C dX9_setSpeed_23 rfl hX
set_option maxHeartbeats 4000000 in
set_option maxRecDepth 100000 in
theorem wX9_setStart {l : Launch} {n sl : Nat} {h : XH} {x0 : Nat} {x1 : Int32} {o : Int32 × XH} (hm : fX9_setStart h x0 x1 = some o) : XM l yX9_setStart cX9_setStart 2 (some .int) 3 67 [.ref x0, .int x1] h n sl (some (.int o.1)) o.2 n sl := by
  refine xm_of pnX9 [some (.ref x0), some (.int x1)] 0 rfl (Nat.le_of_ble_eq_true rfl) ?_
  intro X hT C
  replace C : XOK X RX9 cX9_setStart 2 "setStart" (some .int) 3 67 := C
  obtain ⟨-, hN, hX⟩ := hT
  unfold fX9_setStart at hm
  refine xw_iload_n (pc := 0) (i := 1) (x := x1) C dX9_setStart_0 rfl rfl ?_
  refine xw_iconst (pc := 1) (v := 0) C dX9_setStart_1 xk_i_0 ?_
  refine xw_bipush (pc := 2) (v := 59) C dX9_setStart_2 xk_b_59 ?_
  obtain ⟨v1, q2, hm⟩ := xbind hm
  refine xw_callS1 (pc := 4) (As := [.int x1, .int (0 : Int32), .int (59 : Int32)]) (st := []) C dX9_setStart_4 (wX9_in q2) dd_X9_in lk_X9_55 ds_X9_in rfl (Nat.le_of_ble_eq_true rfl) (Nat.le_of_ble_eq_true rfl) (Nat.le_of_ble_eq_true rfl) ⟨Nat.le_refl _, Nat.le_refl _⟩ hN ?_
  refine xw_if_eqZ (pc := 7) (b := v1) (tgt := 20) C dX9_setStart_7 (by decide) (fun q => ?_) (fun q => ?_)
  · replace hm := xif_f q hm
    refine xw_sipush (pc := 20) (v := -1001) C dX9_setStart_20 xk_s_m1001 ?_
    obtain rfl := Option.some.inj hm
    exact xw_ireturn (pc := 23) C dX9_setStart_23 rfl hX
  · replace hm := xif_t q hm
    refine xw_aload_n (pc := 10) (i := 0) (x := x0) C dX9_setStart_10 rfl rfl ?_
    refine xw_bipush (pc := 11) (v := 61) C dX9_setStart_11 xk_b_61 ?_
    refine xw_iload_n (pc := 13) (i := 1) (x := x1) C dX9_setStart_13 rfl rfl ?_
    obtain ⟨_, q3, hm⟩ := xbind hm
    obtain ⟨v4, q5, hm⟩ := xbind hm
    refine xw_callV1 (pc := 14) (As := [.int (61 : Int32), .int x1]) (st := []) C dX9_setStart_14 (wX9_becomes q5) dd_X9_becomes lk_X9_108 dv_X9_becomes (xco_spec q3) rfl (Nat.le_of_ble_eq_true rfl) (Nat.le_of_ble_eq_true rfl) (Nat.le_of_ble_eq_true rfl) ⟨Nat.le_refl _, Nat.le_refl _⟩ hN ?_
    refine xw_goto (pc := 17) (tgt := 23) C dX9_setStart_17 (by decide) ?_
    obtain rfl := Option.some.inj hm
    exact xw_ireturn (pc := 23) C dX9_setStart_23 rfl hX
set_option maxHeartbeats 4000000 in
set_option maxRecDepth 100000 in
theorem wX9_step {l : Launch} {n sl : Nat} {h : XH} {x0 : Nat} {x1 : Int32} {x2 : Int32} {o : Int32 × XH} (hm : fX9_step h x0 x1 x2 = some o) : XM l yX9_step cX9_step 3 (some .int) 3 66 [.ref x0, .int x1, .int x2] h n sl (some (.int o.1)) o.2 n sl := by
  refine xm_of pnX9 [some (.ref x0), some (.int x1), some (.int x2)] 0 rfl (Nat.le_of_ble_eq_true rfl) ?_
  intro X hT C
  replace C : XOK X RX9 cX9_step 3 "step" (some .int) 3 66 := C
  obtain ⟨-, hN, hX⟩ := hT
  unfold fX9_step at hm
  refine xw_iload_n (pc := 0) (i := 1) (x := x1) C dX9_step_0 rfl rfl ?_
  obtain ⟨v1, q2, hm⟩ := xbind hm
  refine xw_callS1 (pc := 1) (As := [.int x1]) (st := []) C dX9_step_1 (wX9_isTick q2) dd_X9_isTick lk_X9_114 ds_X9_isTick rfl (Nat.le_of_ble_eq_true rfl) (Nat.le_of_ble_eq_true rfl) (Nat.le_of_ble_eq_true rfl) ⟨Nat.le_refl _, Nat.le_refl _⟩ hN ?_
  refine xw_if_eqZ (pc := 4) (b := v1) (tgt := 14) C dX9_step_4 (by decide) (fun q => ?_) (fun q => ?_)
  · replace hm := xif_f q hm
    refine xw_sipush (pc := 14) (v := -1001) C dX9_step_14 xk_s_m1001 ?_
    obtain rfl := Option.some.inj hm
    exact xw_ireturn (pc := 17) C dX9_step_17 rfl hX
  · replace hm := xif_t q hm
    refine xw_iload_n (pc := 7) (i := 2) (x := x2) C dX9_step_7 rfl rfl ?_
    obtain ⟨v3, q4, hm⟩ := xbind hm
    refine xw_callS1 (pc := 8) (As := [.int x2]) (st := []) C dX9_step_8 (wX9_isTick q4) dd_X9_isTick lk_X9_114 ds_X9_isTick rfl (Nat.le_of_ble_eq_true rfl) (Nat.le_of_ble_eq_true rfl) (Nat.le_of_ble_eq_true rfl) ⟨Nat.le_refl _, Nat.le_refl _⟩ hN ?_
    refine xw_if_neZ (pc := 11) (b := v3) (tgt := 18) C dX9_step_11 (by decide) (fun q => ?_) (fun q => ?_)
    · replace hm := xif_t q hm
      refine xw_aload_n (pc := 18) (i := 0) (x := x0) C dX9_step_18 rfl rfl ?_
      obtain ⟨_, q5, hm⟩ := xbind hm
      obtain ⟨h6, q7, hm⟩ := xbind hm
      refine xw_callV0 (pc := 19) (As := []) (st := []) C dX9_step_19 (wX9_laysTurns q7) dd_X9_laysTurns lk_X9_120 dv_X9_laysTurns (xco_spec q5) rfl (Nat.le_of_ble_eq_true rfl) (Nat.le_of_ble_eq_true rfl) (Nat.le_of_ble_eq_true rfl) ⟨Nat.le_refl _, Nat.le_refl _⟩ hN ?_
      refine xw_aload_n (pc := 22) (i := 0) (x := x0) C dX9_step_22 rfl rfl ?_
      refine xw_iload_n (pc := 23) (i := 1) (x := x1) C dX9_step_23 rfl rfl ?_
      refine xw_iload_n (pc := 24) (i := 2) (x := x2) C dX9_step_24 rfl rfl ?_
      obtain ⟨_, q8, hm⟩ := xbind hm
      obtain ⟨v9, q10, hm⟩ := xbind hm
      refine xw_callV1 (pc := 25) (As := [.int x1, .int x2]) (st := []) C dX9_step_25 (wX9_stepOf q10) dd_X9_stepOf lk_X9_59 dv_X9_stepOf (xco_spec q8) rfl (Nat.le_of_ble_eq_true rfl) (Nat.le_of_ble_eq_true rfl) (Nat.le_of_ble_eq_true rfl) ⟨Nat.le_refl _, Nat.le_refl _⟩ hN ?_
      obtain rfl := Option.some.inj hm
      exact xw_ireturn (pc := 28) C dX9_step_28 rfl hX
    · replace hm := xif_f q hm
      refine xw_sipush (pc := 14) (v := -1001) C dX9_step_14 xk_s_m1001 ?_
      obtain rfl := Option.some.inj hm
      exact xw_ireturn (pc := 17) C dX9_step_17 rfl hX
def fX9_stillPeriod_P34 (X : XCtx) (h : XH) (x0 : Nat) (x2 : Int32) (x3 : Int32) (n sl : Nat) (s : Int32) : Prop := XW X 34 [some (.ref x0), none, some (.int x2), some (.int x3), some (.int s)] [] h n sl
def fX9_stillPeriod_E34 (X : XCtx) (h : XH) (x0 : Nat) (x2 : Int32) (x3 : Int32) (n sl : Nat) (e : (Int32 ⊕ Unit)) : Prop := match e with
  | .inl e => XW X 55 [none, none, none, none, some (.int e)] [] h n sl
  | .inr e => XW X 64 [none, none, none, none, none] [] h n sl
set_option maxHeartbeats 4000000 in
set_option maxRecDepth 100000 in
theorem fX9_stillPeriod_B34_w {X : XCtx} (C : XOK X RX9 cX9_stillPeriod 5 "stillPeriod" (some .int) 2 43) {n sl : Nat} (hN : XN X n sl) {h : XH} {x0 : Nat} {x2 : Int32} {x3 : Int32} (s : Int32) (o : Int32 ⊕ (Int32 ⊕ Unit)) (hm : fX9_stillPeriod_B34 h x0 x2 x3 s = some o) (hc : ∀ s', o = .inl s' → fX9_stillPeriod_P34 X h x0 x2 x3 n sl s') (he : ∀ e', o = .inr e' → fX9_stillPeriod_E34 X h x0 x2 x3 n sl e') : fX9_stillPeriod_P34 X h x0 x2 x3 n sl s := by
  revert s; intro x4 hm
  show XW X 34 [some (.ref x0), none, some (.int x2), some (.int x3), some (.int x4)] [] h n sl
  replace hm : fX9_stillPeriod_b34 h x0 x2 x3 x4 = some o := hm
  unfold fX9_stillPeriod_b34 at hm
  refine xw_iload (pc := 34) (i := 4) (x := x4) C dX9_stillPeriod_34 rfl ?_
  refine xw_iload_n (pc := 36) (i := 2) (x := x2) C dX9_stillPeriod_36 rfl rfl ?_
  refine xw_icmp_gt (pc := 37) (tgt := 64) C dX9_stillPeriod_37 (by decide) (fun q => ?_) (fun q => ?_)
  · replace hm := xif_t q hm
    obtain rfl := Option.some.inj hm
    refine xw_sub (pc := 64) _ ?_ (he _ rfl)
    exact ⟨Or.inl rfl, Or.inl rfl, Or.inl rfl, Or.inl rfl, Or.inl rfl, trivial⟩
  · replace hm := xif_f q hm
    refine xw_aload_n (pc := 40) (i := 0) (x := x0) C dX9_stillPeriod_40 rfl rfl ?_
    obtain ⟨v8, q9, hm⟩ := xbind hm
    refine xw_getR (pc := 41) C dX9_stillPeriod_41 fl_X9_7 q9 ?_
    refine xw_bipush (pc := 44) (v := 62) C dX9_stillPeriod_44 xk_b_62 ?_
    obtain ⟨v10, q11, hm⟩ := xbind hm
    refine xw_iaload (pc := 46) C dX9_stillPeriod_46 q11 ?_
    refine xw_iload (pc := 47) (i := 4) (x := x4) C dX9_stillPeriod_47 rfl ?_
    refine xw_imul (pc := 49) C dX9_stillPeriod_49 ?_
    refine xw_iload_n (pc := 50) (i := 3) (x := x3) C dX9_stillPeriod_50 rfl rfl ?_
    obtain ⟨q12, hm⟩ := xif_n hm
    refine xw_irem (pc := 51) C dX9_stillPeriod_51 q12 ?_
    refine xw_if_ne (pc := 52) (tgt := 58) C dX9_stillPeriod_52 (by decide) (fun q => ?_) (fun q => ?_)
    · replace hm := xif_f q hm
      refine xw_iinc (pc := 58) (i := 4) (x := x4) (v := (x4 + (1 : Int32))) (L' := [some (.ref x0), none, some (.int x2), some (.int x3), some (.int (x4 + (1 : Int32)))]) C dX9_stillPeriod_58 rfl (congrArg (HAdd.hAdd _) xk_i_1) (Nat.le_of_ble_eq_true rfl) rfl ?_
      refine xw_goto (pc := 61) (tgt := 34) C dX9_stillPeriod_61 (by decide) ?_
      obtain rfl := Option.some.inj hm
      refine xw_sub (pc := 34) _ ?_ (hc _ rfl)
      exact ⟨Or.inr rfl, Or.inl rfl, Or.inr rfl, Or.inr rfl, Or.inr rfl, trivial⟩
    · replace hm := xif_t q hm
      obtain rfl := Option.some.inj hm
      refine xw_sub (pc := 55) _ ?_ (he _ rfl)
      exact ⟨Or.inl rfl, Or.inl rfl, Or.inl rfl, Or.inl rfl, Or.inr rfl, trivial⟩
set_option maxHeartbeats 4000000 in
set_option maxRecDepth 100000 in
theorem wX9_stillPeriod {l : Launch} {n sl : Nat} {h : XH} {x0 : Nat} {x1 : Int32} {x2 : Int32} {o : Int32} (hm : fX9_stillPeriod h x0 x1 x2 = some o) : XM l yX9_stillPeriod cX9_stillPeriod 5 (some .int) 2 43 [.ref x0, .int x1, .int x2] h n sl (some (.int o)) h n sl := by
  refine xm_of pnX9 [some (.ref x0), some (.int x1), some (.int x2), none, none] 2 rfl (Nat.le_of_ble_eq_true rfl) ?_
  intro X hT C
  replace C : XOK X RX9 cX9_stillPeriod 5 "stillPeriod" (some .int) 2 43 := C
  obtain ⟨-, hN, hX⟩ := hT
  unfold fX9_stillPeriod at hm
  refine xw_iload_n (pc := 0) (i := 1) (x := x1) C dX9_stillPeriod_0 rfl rfl ?_
  refine xw_iconst (pc := 1) (v := 1) C dX9_stillPeriod_1 xk_i_1 ?_
  refine xw_sipush (pc := 2) (v := 500) C dX9_stillPeriod_2 xk_s_500 ?_
  obtain ⟨v1, q2, hm⟩ := xbind hm
  refine xw_callS1 (pc := 5) (As := [.int x1, .int (1 : Int32), .int (500 : Int32)]) (st := []) C dX9_stillPeriod_5 (wX9_in q2) dd_X9_in lk_X9_55 ds_X9_in rfl (Nat.le_of_ble_eq_true rfl) (Nat.le_of_ble_eq_true rfl) (Nat.le_of_ble_eq_true rfl) ⟨Nat.le_refl _, Nat.le_refl _⟩ hN ?_
  refine xw_if_eqZ (pc := 8) (b := v1) (tgt := 22) C dX9_stillPeriod_8 (by decide) (fun q => ?_) (fun q => ?_)
  · replace hm := xif_f q hm
    refine xw_sipush (pc := 22) (v := -1001) C dX9_stillPeriod_22 xk_s_m1001 ?_
    obtain rfl := Option.some.inj hm
    exact xw_ireturn (pc := 25) C dX9_stillPeriod_25 rfl hX
  · replace hm := xif_t q hm
    refine xw_iload_n (pc := 11) (i := 2) (x := x2) C dX9_stillPeriod_11 rfl rfl ?_
    refine xw_iload_n (pc := 12) (i := 1) (x := x1) C dX9_stillPeriod_12 rfl rfl ?_
    refine xw_sipush (pc := 13) (v := 500) C dX9_stillPeriod_13 xk_s_500 ?_
    obtain ⟨v3, q4, hm⟩ := xbind hm
    refine xw_callS1 (pc := 16) (As := [.int x2, .int x1, .int (500 : Int32)]) (st := []) C dX9_stillPeriod_16 (wX9_in q4) dd_X9_in lk_X9_55 ds_X9_in rfl (Nat.le_of_ble_eq_true rfl) (Nat.le_of_ble_eq_true rfl) (Nat.le_of_ble_eq_true rfl) ⟨Nat.le_refl _, Nat.le_refl _⟩ hN ?_
    refine xw_if_neZ (pc := 19) (b := v3) (tgt := 26) C dX9_stillPeriod_19 (by decide) (fun q => ?_) (fun q => ?_)
    · replace hm := xif_t q hm
      refine xw_aload_n (pc := 26) (i := 0) (x := x0) C dX9_stillPeriod_26 rfl rfl ?_
      obtain ⟨_, q5, hm⟩ := xbind hm
      obtain ⟨v6, q7, hm⟩ := xbind hm
      refine xw_callV1 (pc := 27) (As := []) (st := []) C dX9_stillPeriod_27 (wX9_measure q7) dd_X9_measure lk_X9_41 dv_X9_measure (xco_spec q5) rfl (Nat.le_of_ble_eq_true rfl) (Nat.le_of_ble_eq_true rfl) (Nat.le_of_ble_eq_true rfl) ⟨Nat.le_refl _, Nat.le_refl _⟩ hN ?_
      refine xw_istore_n (pc := 30) (i := 3) (x := v6) (L' := [some (.ref x0), some (.int x1), some (.int x2), some (.int v6), none]) C dX9_stillPeriod_30 rfl (Nat.le_of_ble_eq_true rfl) rfl ?_
      refine xw_iload_n (pc := 31) (i := 1) (x := x1) C dX9_stillPeriod_31 rfl rfl ?_
      refine xw_istore (pc := 32) (i := 4) (x := x1) (L' := [some (.ref x0), some (.int x1), some (.int x2), some (.int v6), some (.int x1)]) C dX9_stillPeriod_32 (Nat.le_of_ble_eq_true rfl) rfl ?_
      obtain ⟨e13, q14, hm⟩ := xbind hm
      refine xw_sub (pc := 34) [some (.ref x0), none, some (.int x2), some (.int v6), some (.int x1)] ⟨Or.inr rfl, Or.inl rfl, Or.inr rfl, Or.inr rfl, Or.inr rfl, trivial⟩ ?_
      refine xloop_walk (fX9_stillPeriod_B34 h x0 x2 v6) (fX9_stillPeriod_P34 X h x0 x2 v6 n sl) (fX9_stillPeriod_E34 X h x0 x2 v6 n sl) (fun s' o' => fX9_stillPeriod_B34_w C hN s' o') 5000 x1 e13 q14 ?_
      rcases e13 with e13 | e13
      · dsimp only at hm
        show XW X 55 [none, none, none, none, some (.int e13)] [] h n sl
        refine xw_iload (pc := 55) (i := 4) (x := e13) C dX9_stillPeriod_55 rfl ?_
        obtain rfl := Option.some.inj hm
        exact xw_ireturn (pc := 57) C dX9_stillPeriod_57 rfl hX
      · dsimp only at hm
        show XW X 64 [none, none, none, none, none] [] h n sl
        refine xw_sipush (pc := 64) (v := -1004) C dX9_stillPeriod_64 xk_s_m1004 ?_
        obtain rfl := Option.some.inj hm
        exact xw_ireturn (pc := 67) C dX9_stillPeriod_67 rfl hX
    · replace hm := xif_f q hm
      refine xw_sipush (pc := 22) (v := -1001) C dX9_stillPeriod_22 xk_s_m1001 ?_
      obtain rfl := Option.some.inj hm
      exact xw_ireturn (pc := 25) C dX9_stillPeriod_25 rfl hX
set_option maxHeartbeats 4000000 in
set_option maxRecDepth 100000 in
theorem wX9_turn {l : Launch} {n sl : Nat} {h : XH} {x0 : Nat} {x1 : Int32} {o : Int32 × XH} (hm : fX9_turn h x0 x1 = some o) : XM l yX9_turn cX9_turn 2 (some .int) 3 66 [.ref x0, .int x1] h n sl (some (.int o.1)) o.2 n sl := by
  refine xm_of pnX9 [some (.ref x0), some (.int x1)] 0 rfl (Nat.le_of_ble_eq_true rfl) ?_
  intro X hT C
  replace C : XOK X RX9 cX9_turn 2 "turn" (some .int) 3 66 := C
  obtain ⟨-, hN, hX⟩ := hT
  unfold fX9_turn at hm
  refine xw_iload_n (pc := 0) (i := 1) (x := x1) C dX9_turn_0 rfl rfl ?_
  obtain ⟨v1, q2, hm⟩ := xbind hm
  refine xw_callS1 (pc := 1) (As := [.int x1]) (st := []) C dX9_turn_1 (wX9_isTick q2) dd_X9_isTick lk_X9_114 ds_X9_isTick rfl (Nat.le_of_ble_eq_true rfl) (Nat.le_of_ble_eq_true rfl) (Nat.le_of_ble_eq_true rfl) ⟨Nat.le_refl _, Nat.le_refl _⟩ hN ?_
  refine xw_if_neZ (pc := 4) (b := v1) (tgt := 11) C dX9_turn_4 (by decide) (fun q => ?_) (fun q => ?_)
  · replace hm := xif_t q hm
    refine xw_aload_n (pc := 11) (i := 0) (x := x0) C dX9_turn_11 rfl rfl ?_
    obtain ⟨_, q3, hm⟩ := xbind hm
    obtain ⟨h4, q5, hm⟩ := xbind hm
    refine xw_callV0 (pc := 12) (As := []) (st := []) C dX9_turn_12 (wX9_laysTurns q5) dd_X9_laysTurns lk_X9_120 dv_X9_laysTurns (xco_spec q3) rfl (Nat.le_of_ble_eq_true rfl) (Nat.le_of_ble_eq_true rfl) (Nat.le_of_ble_eq_true rfl) ⟨Nat.le_refl _, Nat.le_refl _⟩ hN ?_
    refine xw_aload_n (pc := 15) (i := 0) (x := x0) C dX9_turn_15 rfl rfl ?_
    obtain ⟨v6, q7, hm⟩ := xbind hm
    refine xw_getR (pc := 16) C dX9_turn_16 fl_X9_13 q7 ?_
    refine xw_iload_n (pc := 19) (i := 1) (x := x1) C dX9_turn_19 rfl rfl ?_
    obtain ⟨v8, q9, hm⟩ := xbind hm
    refine xw_iaload (pc := 20) C dX9_turn_20 q9 ?_
    obtain rfl := Option.some.inj hm
    exact xw_ireturn (pc := 21) C dX9_turn_21 rfl hX
  · replace hm := xif_f q hm
    refine xw_sipush (pc := 7) (v := -1001) C dX9_turn_7 xk_s_m1001 ?_
    obtain rfl := Option.some.inj hm
    exact xw_ireturn (pc := 10) C dX9_turn_10 rfl hX
set_option maxHeartbeats 4000000 in
set_option maxRecDepth 100000 in
theorem wX9_turnDisc {l : Launch} {n sl : Nat} {h : XH} {x0 : Nat} {x1 : Int32} {x2 : Int32} {o : Int32 × XH} (hm : fX9_turnDisc h x0 x1 x2 = some o) : XM l yX9_turnDisc cX9_turnDisc 4 (some .int) 2 44 [.ref x0, .int x1, .int x2] h n sl (some (.int o.1)) o.2 n sl := by
  refine xm_of pnX9 [some (.ref x0), some (.int x1), some (.int x2), none] 1 rfl (Nat.le_of_ble_eq_true rfl) ?_
  intro X hT C
  replace C : XOK X RX9 cX9_turnDisc 4 "turnDisc" (some .int) 2 44 := C
  obtain ⟨-, hN, hX⟩ := hT
  unfold fX9_turnDisc at hm
  refine xw_iload_n (pc := 0) (i := 1) (x := x1) C dX9_turnDisc_0 rfl rfl ?_
  refine xw_iconst (pc := 1) (v := 0) C dX9_turnDisc_1 xk_i_0 ?_
  refine xw_bipush (pc := 2) (v := 29) C dX9_turnDisc_2 xk_b_29 ?_
  obtain ⟨v1, q2, hm⟩ := xbind hm
  refine xw_callS1 (pc := 4) (As := [.int x1, .int (0 : Int32), .int (29 : Int32)]) (st := []) C dX9_turnDisc_4 (wX9_in q2) dd_X9_in lk_X9_55 ds_X9_in rfl (Nat.le_of_ble_eq_true rfl) (Nat.le_of_ble_eq_true rfl) (Nat.le_of_ble_eq_true rfl) ⟨Nat.le_refl _, Nat.le_refl _⟩ hN ?_
  refine xw_if_eqZ (pc := 7) (b := v1) (tgt := 23) C dX9_turnDisc_7 (by decide) (fun q => ?_) (fun q => ?_)
  · replace hm := xif_f q hm
    refine xw_sipush (pc := 23) (v := -1001) C dX9_turnDisc_23 xk_s_m1001 ?_
    obtain rfl := Option.some.inj hm
    exact xw_ireturn (pc := 26) C dX9_turnDisc_26 rfl hX
  · replace hm := xif_t q hm
    refine xw_iload_n (pc := 10) (i := 2) (x := x2) C dX9_turnDisc_10 rfl rfl ?_
    refine xw_sipush (pc := 11) (v := -1000) C dX9_turnDisc_11 xk_s_m1000 ?_
    refine xw_sipush (pc := 14) (v := 1000) C dX9_turnDisc_14 xk_s_1000 ?_
    obtain ⟨v3, q4, hm⟩ := xbind hm
    refine xw_callS1 (pc := 17) (As := [.int x2, .int (-1000 : Int32), .int (1000 : Int32)]) (st := []) C dX9_turnDisc_17 (wX9_in q4) dd_X9_in lk_X9_55 ds_X9_in rfl (Nat.le_of_ble_eq_true rfl) (Nat.le_of_ble_eq_true rfl) (Nat.le_of_ble_eq_true rfl) ⟨Nat.le_refl _, Nat.le_refl _⟩ hN ?_
    refine xw_if_neZ (pc := 20) (b := v3) (tgt := 27) C dX9_turnDisc_20 (by decide) (fun q => ?_) (fun q => ?_)
    · replace hm := xif_t q hm
      refine xw_aload_n (pc := 27) (i := 0) (x := x0) C dX9_turnDisc_27 rfl rfl ?_
      obtain ⟨_, q5, hm⟩ := xbind hm
      obtain ⟨h6, q7, hm⟩ := xbind hm
      refine xw_callV0 (pc := 28) (As := []) (st := []) C dX9_turnDisc_28 (wX9_records q7) dd_X9_records lk_X9_101 dv_X9_records (xco_spec q5) rfl (Nat.le_of_ble_eq_true rfl) (Nat.le_of_ble_eq_true rfl) (Nat.le_of_ble_eq_true rfl) ⟨Nat.le_refl _, Nat.le_refl _⟩ hN ?_
      refine xw_aload_n (pc := 31) (i := 0) (x := x0) C dX9_turnDisc_31 rfl rfl ?_
      obtain ⟨v8, q9, hm⟩ := xbind hm
      refine xw_getR (pc := 32) C dX9_turnDisc_32 fl_X9_7 q9 ?_
      refine xw_bipush (pc := 35) (v := 97) C dX9_turnDisc_35 xk_b_97 ?_
      obtain ⟨v10, q11, hm⟩ := xbind hm
      refine xw_iaload (pc := 37) C dX9_turnDisc_37 q11 ?_
      refine xw_istore_n (pc := 38) (i := 3) (x := v10) (L' := [some (.ref x0), some (.int x1), some (.int x2), some (.int v10)]) C dX9_turnDisc_38 rfl (Nat.le_of_ble_eq_true rfl) rfl ?_
      refine xw_aload_n (pc := 39) (i := 0) (x := x0) C dX9_turnDisc_39 rfl rfl ?_
      obtain ⟨v12, q13, hm⟩ := xbind hm
      refine xw_getR (pc := 40) C dX9_turnDisc_40 fl_X9_7 q13 ?_
      refine xw_bipush (pc := 43) (v := 96) C dX9_turnDisc_43 xk_b_96 ?_
      refine xw_iload_n (pc := 45) (i := 1) (x := x1) C dX9_turnDisc_45 rfl rfl ?_
      obtain ⟨h14, q15, hm⟩ := xbind hm
      refine xw_iastore (pc := 46) C dX9_turnDisc_46 q15 ?_
      refine xw_aload_n (pc := 47) (i := 0) (x := x0) C dX9_turnDisc_47 rfl rfl ?_
      obtain ⟨v16, q17, hm⟩ := xbind hm
      refine xw_getR (pc := 48) C dX9_turnDisc_48 fl_X9_7 q17 ?_
      refine xw_bipush (pc := 51) (v := 97) C dX9_turnDisc_51 xk_b_97 ?_
      refine xw_iload_n (pc := 53) (i := 2) (x := x2) C dX9_turnDisc_53 rfl rfl ?_
      obtain ⟨h18, q19, hm⟩ := xbind hm
      refine xw_iastore (pc := 54) C dX9_turnDisc_54 q19 ?_
      refine xw_iload_n (pc := 55) (i := 3) (x := v10) C dX9_turnDisc_55 rfl rfl ?_
      obtain rfl := Option.some.inj hm
      exact xw_ireturn (pc := 56) C dX9_turnDisc_56 rfl hX
    · replace hm := xif_f q hm
      refine xw_sipush (pc := 23) (v := -1001) C dX9_turnDisc_23 xk_s_m1001 ?_
      obtain rfl := Option.some.inj hm
      exact xw_ireturn (pc := 26) C dX9_turnDisc_26 rfl hX
set_option maxHeartbeats 4000000 in
set_option maxRecDepth 100000 in
theorem wX9_type {l : Launch} {n sl : Nat} {h : XH} {x0 : Nat} {x1 : Int32} {o : Int32 × XH} (hm : fX9_type h x0 x1 = some o) : XM l yX9_type cX9_type 2 (some .int) 1 22 [.ref x0, .int x1] h n sl (some (.int o.1)) o.2 n sl := by
  refine xm_of pnX9 [some (.ref x0), some (.int x1)] 0 rfl (Nat.le_of_ble_eq_true rfl) ?_
  intro X hT C
  replace C : XOK X RX9 cX9_type 2 "type" (some .int) 1 22 := C
  obtain ⟨-, hN, hX⟩ := hT
  unfold fX9_type at hm
  refine xw_iload_n (pc := 0) (i := 1) (x := x1) C dX9_type_0 rfl rfl ?_
  refine xw_bipush (pc := 1) (v := 32) C dX9_type_1 xk_b_32 ?_
  refine xw_bipush (pc := 3) (v := 126) C dX9_type_3 xk_b_126 ?_
  obtain ⟨v1, q2, hm⟩ := xbind hm
  refine xw_callS1 (pc := 5) (As := [.int x1, .int (32 : Int32), .int (126 : Int32)]) (st := []) C dX9_type_5 (wX9_in q2) dd_X9_in lk_X9_55 ds_X9_in rfl (Nat.le_of_ble_eq_true rfl) (Nat.le_of_ble_eq_true rfl) (Nat.le_of_ble_eq_true rfl) ⟨Nat.le_refl _, Nat.le_refl _⟩ hN ?_
  refine xw_if_neZ (pc := 8) (b := v1) (tgt := 15) C dX9_type_8 (by decide) (fun q => ?_) (fun q => ?_)
  · replace hm := xif_t q hm
    refine xw_aload_n (pc := 15) (i := 0) (x := x0) C dX9_type_15 rfl rfl ?_
    obtain ⟨v3, q4, hm⟩ := xbind hm
    refine xw_getI (pc := 16) C dX9_type_16 fl_X9_62 q4 ?_
    refine xw_bipush (pc := 19) (v := 80) C dX9_type_19 xk_b_80 ?_
    refine xw_icmp_ne (pc := 21) (tgt := 28) C dX9_type_21 (by decide) (fun q => ?_) (fun q => ?_)
    · replace hm := xif_f q hm
      refine xw_aload_n (pc := 28) (i := 0) (x := x0) C dX9_type_28 rfl rfl ?_
      obtain ⟨v5, q6, hm⟩ := xbind hm
      refine xw_getR (pc := 29) C dX9_type_29 fl_X9_16 q6 ?_
      refine xw_aload_n (pc := 32) (i := 0) (x := x0) C dX9_type_32 rfl rfl ?_
      obtain ⟨v7, q8, hm⟩ := xbind hm
      refine xw_getI (pc := 33) C dX9_type_33 fl_X9_62 q8 ?_
      refine xw_iload_n (pc := 36) (i := 1) (x := x1) C dX9_type_36 rfl rfl ?_
      obtain ⟨h9, q10, hm⟩ := xbind hm
      refine xw_iastore (pc := 37) C dX9_type_37 q10 ?_
      refine xw_aload_n (pc := 38) (i := 0) (x := x0) C dX9_type_38 rfl rfl ?_
      refine xw_dup (pc := 39) C dX9_type_39 rfl ?_
      obtain ⟨v11, q12, hm⟩ := xbind hm
      refine xw_getI (pc := 40) C dX9_type_40 fl_X9_62 q12 ?_
      refine xw_iconst (pc := 43) (v := 1) C dX9_type_43 xk_i_1 ?_
      refine xw_iadd (pc := 44) C dX9_type_44 ?_
      obtain ⟨h13, q14, hm⟩ := xbind hm
      refine xw_put (pc := 45) C dX9_type_45 fl_X9_62 q14 (fun _ => rfl) (fun _ => rfl) ?_
      refine xw_aload_n (pc := 48) (i := 0) (x := x0) C dX9_type_48 rfl rfl ?_
      obtain ⟨v15, q16, hm⟩ := xbind hm
      refine xw_getI (pc := 49) C dX9_type_49 fl_X9_62 q16 ?_
      obtain rfl := Option.some.inj hm
      exact xw_ireturn (pc := 52) C dX9_type_52 rfl hX
    · replace hm := xif_t q hm
      refine xw_sipush (pc := 24) (v := -1003) C dX9_type_24 xk_s_m1003 ?_
      obtain rfl := Option.some.inj hm
      exact xw_ireturn (pc := 27) C dX9_type_27 rfl hX
  · replace hm := xif_f q hm
    refine xw_sipush (pc := 11) (v := -1001) C dX9_type_11 xk_s_m1001 ?_
    obtain rfl := Option.some.inj hm
    exact xw_ireturn (pc := 14) C dX9_type_14 rfl hX
set_option maxHeartbeats 4000000 in
set_option maxRecDepth 100000 in
theorem wX9_undo {l : Launch} {n sl : Nat} {h : XH} {x0 : Nat} {o : Int32 × XH} (hm : fX9_undo h x0 = some o) : XM l yX9_undo cX9_undo 1 (some .int) 1 23 [.ref x0] h n sl (some (.int o.1)) o.2 n sl := by
  refine xm_of pnX9 [some (.ref x0)] 0 rfl (Nat.le_of_ble_eq_true rfl) ?_
  intro X hT C
  replace C : XOK X RX9 cX9_undo 1 "undo" (some .int) 1 23 := C
  obtain ⟨-, hN, hX⟩ := hT
  unfold fX9_undo at hm
  refine xw_aload_n (pc := 0) (i := 0) (x := x0) C dX9_undo_0 rfl rfl ?_
  obtain ⟨v1, q2, hm⟩ := xbind hm
  refine xw_getI (pc := 1) C dX9_undo_1 fl_X9_29 q2 ?_
  refine xw_if_ne (pc := 4) (tgt := 11) C dX9_undo_4 (by decide) (fun q => ?_) (fun q => ?_)
  · replace hm := xif_f q hm
    refine xw_aload_n (pc := 11) (i := 0) (x := x0) C dX9_undo_11 rfl rfl ?_
    refine xw_aload_n (pc := 12) (i := 0) (x := x0) C dX9_undo_12 rfl rfl ?_
    obtain ⟨v3, q4, hm⟩ := xbind hm
    refine xw_getI (pc := 13) C dX9_undo_13 fl_X9_29 q4 ?_
    refine xw_iconst (pc := 16) (v := 0) C dX9_undo_16 xk_i_0 ?_
    obtain ⟨_, q5, hm⟩ := xbind hm
    obtain ⟨h6, q7, hm⟩ := xbind hm
    refine xw_callV0 (pc := 17) (As := [.int v3, .int (0 : Int32)]) (st := []) C dX9_undo_17 (wX9_copies q7) dd_X9_copies lk_X9_33 dv_X9_copies (xco_spec q5) rfl (Nat.le_of_ble_eq_true rfl) (Nat.le_of_ble_eq_true rfl) (Nat.le_of_ble_eq_true rfl) ⟨Nat.le_refl _, Nat.le_refl _⟩ hN ?_
    refine xw_aload_n (pc := 20) (i := 0) (x := x0) C dX9_undo_20 rfl rfl ?_
    refine xw_dup (pc := 21) C dX9_undo_21 rfl ?_
    obtain ⟨v8, q9, hm⟩ := xbind hm
    refine xw_getI (pc := 22) C dX9_undo_22 fl_X9_29 q9 ?_
    refine xw_iconst (pc := 25) (v := 1) C dX9_undo_25 xk_i_1 ?_
    refine xw_isub (pc := 26) C dX9_undo_26 ?_
    obtain ⟨h10, q11, hm⟩ := xbind hm
    refine xw_put (pc := 27) C dX9_undo_27 fl_X9_29 q11 (fun _ => rfl) (fun _ => rfl) ?_
    refine xw_aload_n (pc := 30) (i := 0) (x := x0) C dX9_undo_30 rfl rfl ?_
    obtain ⟨v12, q13, hm⟩ := xbind hm
    refine xw_getI (pc := 31) C dX9_undo_31 fl_X9_29 q13 ?_
    obtain rfl := Option.some.inj hm
    exact xw_ireturn (pc := 34) C dX9_undo_34 rfl hX
  · replace hm := xif_t q hm
    refine xw_sipush (pc := 7) (v := -1002) C dX9_undo_7 xk_s_m1002 ?_
    obtain rfl := Option.some.inj hm
    exact xw_ireturn (pc := 10) C dX9_undo_10 rfl hX
