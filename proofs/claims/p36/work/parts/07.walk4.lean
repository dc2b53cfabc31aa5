set_option maxHeartbeats 4000000 in
set_option maxRecDepth 100000 in
theorem wX7_tellFault {l : Launch} {n sl : Nat} {h : XH} {x0 : Nat} {x1 : Int32} {x2 : Int32} {o : XH} (hm : fX7_tellFault h x0 x1 x2 = some o) : XM l yX7_tellFault cX7_tellFault 3 none 0 0 [.ref x0, .int x1, .int x2] h n sl none o n sl := by
  refine xm_of pnX7 [some (.ref x0), some (.int x1), some (.int x2)] 0 rfl (Nat.le_of_ble_eq_true rfl) ?_
  intro X hT C
  replace C : XOK X RX7 cX7_tellFault 3 "tellFault" none 0 0 := C
  obtain ⟨-, hN, hX⟩ := hT
  unfold fX7_tellFault at hm
  refine xw_aload_n (pc := 0) (i := 0) (x := x0) C dX7_tellFault_0 rfl rfl ?_
  refine xw_iload_n (pc := 1) (i := 1) (x := x1) C dX7_tellFault_1 rfl rfl ?_
  obtain ⟨h1, q2, hm⟩ := xbind hm
  refine xw_put (pc := 2) C dX7_tellFault_2 fl_X7_15 q2 (fun _ => rfl) (fun _ => rfl) ?_
  refine xw_aload_n (pc := 5) (i := 0) (x := x0) C dX7_tellFault_5 rfl rfl ?_
  refine xw_iload_n (pc := 6) (i := 2) (x := x2) C dX7_tellFault_6 rfl rfl ?_
  obtain ⟨h3, q4, hm⟩ := xbind hm
  refine xw_put (pc := 7) C dX7_tellFault_7 fl_X7_80 q4 (fun _ => rfl) (fun _ => rfl) ?_
  obtain rfl := Option.some.inj hm
  exact xw_return (pc := 10) C dX7_tellFault_10 rfl hX
def fX7_readCells_P0 (X : XCtx) (x0 : Nat) (x1 : Nat) (n sl : Nat) (s : XH) : Prop := XW X 0 [some (.ref x0), some (.ref x1)] [] s n sl
def fX7_readCells_E0 (X : XCtx) (x0 : Nat) (x1 : Nat) (n sl : Nat) (e : XH) : Prop := XW X 69 [some (.ref x0), some (.ref x1)] [] e n sl
set_option maxHeartbeats 4000000 in
set_option maxRecDepth 100000 in
theorem fX7_readCells_B0_w {X : XCtx} (C : XOK X RX7 cX7_readCells 2 "readCells" none 2 43) {n sl : Nat} (hN : XN X n sl) {x0 : Nat} {x1 : Nat} (s : XH) (o : XH ⊕ XH) (hm : fX7_readCells_B0 x0 x1 s = some o) (hc : ∀ s', o = .inl s' → fX7_readCells_P0 X x0 x1 n sl s') (he : ∀ e', o = .inr e' → fX7_readCells_E0 X x0 x1 n sl e') : fX7_readCells_P0 X x0 x1 n sl s := by
  revert s; intro h hm
  show XW X 0 [some (.ref x0), some (.ref x1)] [] h n sl
  replace hm : fX7_readCells_b0 x0 x1 h = some o := hm
  unfold fX7_readCells_b0 at hm
  refine xw_aload_n (pc := 0) (i := 0) (x := x0) C dX7_readCells_0 rfl rfl ?_
  obtain ⟨v46, q47, hm⟩ := xbind hm
  refine xw_getI (pc := 1) C dX7_readCells_1 fl_X7_26 q47 ?_
  refine xw_aload_n (pc := 4) (i := 0) (x := x0) C dX7_readCells_4 rfl rfl ?_
  obtain ⟨v48, q49, hm⟩ := xbind hm
  refine xw_getI (pc := 5) C dX7_readCells_5 fl_X7_19 q49 ?_
  refine xw_icmp_ge (pc := 8) (tgt := 69) C dX7_readCells_8 (by decide) (fun q => ?_) (fun q => ?_)
  · replace hm := xif_t q hm
    obtain rfl := Option.some.inj hm
    refine xw_sub (pc := 69) _ ?_ (he _ rfl)
    exact ⟨Or.inr rfl, Or.inr rfl, trivial⟩
  · replace hm := xif_f q hm
    refine xw_aload_n (pc := 11) (i := 1) (x := x1) C dX7_readCells_11 rfl rfl ?_
    obtain ⟨v50, q51, hm⟩ := xbind hm
    refine xw_getI (pc := 12) C dX7_readCells_12 fl_X7_60 q51 ?_
    refine xw_bipush (pc := 15) (v := 60) C dX7_readCells_15 xk_b_60 ?_
    refine xw_icmp_ge (pc := 17) (tgt := 69) C dX7_readCells_17 (by decide) (fun q => ?_) (fun q => ?_)
    · replace hm := xif_t q hm
      obtain rfl := Option.some.inj hm
      refine xw_sub (pc := 69) _ ?_ (he _ rfl)
      exact ⟨Or.inr rfl, Or.inr rfl, trivial⟩
    · replace hm := xif_f q hm
      refine xw_aload_n (pc := 20) (i := 0) (x := x0) C dX7_readCells_20 rfl rfl ?_
      obtain ⟨_, q52, hm⟩ := xbind hm
      obtain ⟨v53, q54, hm⟩ := xbind hm
      refine xw_callV1 (pc := 21) (As := []) (st := []) C dX7_readCells_21 (wX7_code q54) dd_X7_code lk_X7_63 dv_X7_code (xco_spec q52) rfl (Nat.le_of_ble_eq_true rfl) (Nat.le_of_ble_eq_true rfl) (Nat.le_of_ble_eq_true rfl) ⟨Nat.le_refl _, Nat.le_refl _⟩ hN ?_
      obtain ⟨v55, q56, hm⟩ := xbind hm
      refine xw_callS1 (pc := 24) (As := [.int v53]) (st := []) C dX7_readCells_24 (wX7_isCell q56) dd_X7_isCell lk_X7_66 ds_X7_isCell rfl (Nat.le_of_ble_eq_true rfl) (Nat.le_of_ble_eq_true rfl) (Nat.le_of_ble_eq_true rfl) ⟨Nat.le_refl _, Nat.le_refl _⟩ hN ?_
      refine xw_if_eqZ (pc := 27) (b := v55) (tgt := 69) C dX7_readCells_27 (by decide) (fun q => ?_) (fun q => ?_)
      · replace hm := xif_f q hm
        obtain rfl := Option.some.inj hm
        refine xw_sub (pc := 69) _ ?_ (he _ rfl)
        exact ⟨Or.inr rfl, Or.inr rfl, trivial⟩
      · replace hm := xif_t q hm
        refine xw_aload_n (pc := 30) (i := 1) (x := x1) C dX7_readCells_30 rfl rfl ?_
        refine xw_aload_n (pc := 31) (i := 0) (x := x0) C dX7_readCells_31 rfl rfl ?_
        obtain ⟨_, q57, hm⟩ := xbind hm
        obtain ⟨v58, q59, hm⟩ := xbind hm
        refine xw_callV1 (pc := 32) (As := []) (st := [.ref x1]) C dX7_readCells_32 (wX7_code q59) dd_X7_code lk_X7_63 dv_X7_code (xco_spec q57) rfl (Nat.le_of_ble_eq_true rfl) (Nat.le_of_ble_eq_true rfl) (Nat.le_of_ble_eq_true rfl) ⟨Nat.le_refl _, Nat.le_refl _⟩ hN ?_
        refine xw_bipush (pc := 35) (v := 46) C dX7_readCells_35 xk_b_46 ?_
        refine xw_icmp_ne (pc := 37) (tgt := 44) C dX7_readCells_37 (by decide) (fun q => ?_) (fun q => ?_)
        · replace hm := xif_f q hm
          refine xw_aload_n (pc := 44) (i := 0) (x := x0) C dX7_readCells_44 rfl rfl ?_
          obtain ⟨_, q60, hm⟩ := xbind hm
          obtain ⟨v61, q62, hm⟩ := xbind hm
          refine xw_callV1 (pc := 45) (As := []) (st := [.ref x1]) C dX7_readCells_45 (wX7_code q62) dd_X7_code lk_X7_63 dv_X7_code (xco_spec q60) rfl (Nat.le_of_ble_eq_true rfl) (Nat.le_of_ble_eq_true rfl) (Nat.le_of_ble_eq_true rfl) ⟨Nat.le_refl _, Nat.le_refl _⟩ hN ?_
          refine xw_bipush (pc := 48) (v := 97) C dX7_readCells_48 xk_b_97 ?_
          refine xw_isub (pc := 50) C dX7_readCells_50 ?_
          refine xw_iconst (pc := 51) (v := 1) C dX7_readCells_51 xk_i_1 ?_
          refine xw_iadd (pc := 52) C dX7_readCells_52 ?_
          obtain ⟨_, q63, hm⟩ := xbind hm
          obtain ⟨h64, q65, hm⟩ := xbind hm
          refine xw_callV0 (pc := 53) (As := [.int ((v61 - (97 : Int32)) + (1 : Int32))]) (st := []) C dX7_readCells_53 (wX6_addCell q65) dd_X6_addCell lk_X7_69 dv_X6_addCell (xco_spec q63) rfl (Nat.le_of_ble_eq_true rfl) (Nat.le_of_ble_eq_true rfl) (Nat.le_of_ble_eq_true rfl) ⟨Nat.le_refl _, Nat.le_refl _⟩ hN ?_
          refine xw_aload_n (pc := 56) (i := 0) (x := x0) C dX7_readCells_56 rfl rfl ?_
          refine xw_dup (pc := 57) C dX7_readCells_57 rfl ?_
          obtain ⟨v66, q67, hm⟩ := xbind hm
          refine xw_getI (pc := 58) C dX7_readCells_58 fl_X7_26 q67 ?_
          refine xw_iconst (pc := 61) (v := 1) C dX7_readCells_61 xk_i_1 ?_
          refine xw_iadd (pc := 62) C dX7_readCells_62 ?_
          obtain ⟨h68, q69, hm⟩ := xbind hm
          refine xw_put (pc := 63) C dX7_readCells_63 fl_X7_26 q69 (fun _ => rfl) (fun _ => rfl) ?_
          refine xw_goto (pc := 66) (tgt := 0) C dX7_readCells_66 (by decide) ?_
          obtain rfl := Option.some.inj hm
          refine xw_sub (pc := 0) _ ?_ (hc _ rfl)
          exact ⟨Or.inr rfl, Or.inr rfl, trivial⟩
        · replace hm := xif_t q hm
          refine xw_iconst (pc := 40) (v := 0) C dX7_readCells_40 xk_i_0 ?_
          refine xw_goto (pc := 41) (tgt := 53) C dX7_readCells_41 (by decide) ?_
          obtain ⟨_, q70, hm⟩ := xbind hm
          obtain ⟨h71, q72, hm⟩ := xbind hm
          refine xw_callV0 (pc := 53) (As := [.int (0 : Int32)]) (st := []) C dX7_readCells_53 (wX6_addCell q72) dd_X6_addCell lk_X7_69 dv_X6_addCell (xco_spec q70) rfl (Nat.le_of_ble_eq_true rfl) (Nat.le_of_ble_eq_true rfl) (Nat.le_of_ble_eq_true rfl) ⟨Nat.le_refl _, Nat.le_refl _⟩ hN ?_
          refine xw_aload_n (pc := 56) (i := 0) (x := x0) C dX7_readCells_56 rfl rfl ?_
          refine xw_dup (pc := 57) C dX7_readCells_57 rfl ?_
          obtain ⟨v73, q74, hm⟩ := xbind hm
          refine xw_getI (pc := 58) C dX7_readCells_58 fl_X7_26 q74 ?_
          refine xw_iconst (pc := 61) (v := 1) C dX7_readCells_61 xk_i_1 ?_
          refine xw_iadd (pc := 62) C dX7_readCells_62 ?_
          obtain ⟨h75, q76, hm⟩ := xbind hm
          refine xw_put (pc := 63) C dX7_readCells_63 fl_X7_26 q76 (fun _ => rfl) (fun _ => rfl) ?_
          refine xw_goto (pc := 66) (tgt := 0) C dX7_readCells_66 (by decide) ?_
          obtain rfl := Option.some.inj hm
          refine xw_sub (pc := 0) _ ?_ (hc _ rfl)
          exact ⟨Or.inr rfl, Or.inr rfl, trivial⟩
set_option maxHeartbeats 4000000 in
set_option maxRecDepth 100000 in
theorem fX7_readCells_J53_w {X : XCtx} (C : XOK X RX7 cX7_readCells 2 "readCells" none 2 43) {n sl : Nat} (hN : XN X n sl)  {h : XH} {x0 : Nat} {x1 : Nat} {s0 : Nat} {s1 : Int32} {o : XH} (hm : fX7_readCells_J53 h x0 x1 s0 s1 = some o) (hX : XR X none o n sl) : XW X 53 [some (.ref x0), some (.ref x1)] [.int s1, .ref s0] h n sl := by
  unfold fX7_readCells_J53 at hm
  obtain ⟨_, q39, hm⟩ := xbind hm
  obtain ⟨h40, q41, hm⟩ := xbind hm
  refine xw_callV0 (pc := 53) (As := [.int s1]) (st := []) C dX7_readCells_53 (wX6_addCell q41) dd_X6_addCell lk_X7_69 dv_X6_addCell (xco_spec q39) rfl (Nat.le_of_ble_eq_true rfl) (Nat.le_of_ble_eq_true rfl) (Nat.le_of_ble_eq_true rfl) ⟨Nat.le_refl _, Nat.le_refl _⟩ hN ?_
  refine xw_aload_n (pc := 56) (i := 0) (x := x0) C dX7_readCells_56 rfl rfl ?_
  refine xw_dup (pc := 57) C dX7_readCells_57 rfl ?_
  obtain ⟨v42, q43, hm⟩ := xbind hm
  refine xw_getI (pc := 58) C dX7_readCells_58 fl_X7_26 q43 ?_
  refine xw_iconst (pc := 61) (v := 1) C dX7_readCells_61 xk_i_1 ?_
  refine xw_iadd (pc := 62) C dX7_readCells_62 ?_
  obtain ⟨h44, q45, hm⟩ := xbind hm
  refine xw_put (pc := 63) C dX7_readCells_63 fl_X7_26 q45 (fun _ => rfl) (fun _ => rfl) ?_
  refine xw_goto (pc := 66) (tgt := 0) C dX7_readCells_66 (by decide) ?_
  obtain ⟨e77, q78, hm⟩ := xbind hm
  refine xw_sub (pc := 0) [some (.ref x0), some (.ref x1)] ⟨Or.inr rfl, Or.inr rfl, trivial⟩ ?_
  refine xloop_walk (fX7_readCells_B0 x0 x1) (fX7_readCells_P0 X x0 x1 n sl) (fX7_readCells_E0 X x0 x1 n sl) (fun s' o' => fX7_readCells_B0_w C hN s' o') 5000 h44 e77 q78 ?_
  show XW X 69 [some (.ref x0), some (.ref x1)] [] e77 n sl
  refine xw_aload_n (pc := 69) (i := 1) (x := x1) C dX7_readCells_69 rfl rfl ?_
  obtain ⟨v79, q80, hm⟩ := xbind hm
  refine xw_getI (pc := 70) C dX7_readCells_70 fl_X7_60 q80 ?_
  refine xw_if_ne (pc := 73) (tgt := 85) C dX7_readCells_73 (by decide) (fun q => ?_) (fun q => ?_)
  · replace hm := xif_f q hm
    obtain rfl := Option.some.inj hm
    exact xw_return (pc := 85) C dX7_readCells_85 rfl hX
  · replace hm := xif_t q hm
    refine xw_aload_n (pc := 76) (i := 0) (x := x0) C dX7_readCells_76 rfl rfl ?_
    refine xw_iconst (pc := 77) (v := 1) C dX7_readCells_77 xk_i_1 ?_
    refine xw_aload_n (pc := 78) (i := 0) (x := x0) C dX7_readCells_78 rfl rfl ?_
    obtain ⟨v81, q82, hm⟩ := xbind hm
    refine xw_getI (pc := 79) C dX7_readCells_79 fl_X7_26 q82 ?_
    obtain ⟨_, q83, hm⟩ := xbind hm
    obtain ⟨h84, q85, hm⟩ := xbind hm
    refine xw_callV0 (pc := 82) (As := [.int (1 : Int32), .int v81]) (st := []) C dX7_readCells_82 (wX7_tellFault q85) dd_X7_tellFault lk_X7_56 dv_X7_tellFault (xco_spec q83) rfl (Nat.le_of_ble_eq_true rfl) (Nat.le_of_ble_eq_true rfl) (Nat.le_of_ble_eq_true rfl) ⟨Nat.le_refl _, Nat.le_refl _⟩ hN ?_
    obtain rfl := Option.some.inj hm
    exact xw_return (pc := 85) C dX7_readCells_85 rfl hX
set_option maxHeartbeats 4000000 in
set_option maxRecDepth 100000 in
theorem wX7_readCells {l : Launch} {n sl : Nat} {h : XH} {x0 : Nat} {x1 : Nat} {o : XH} (hm : fX7_readCells h x0 x1 = some o) : XM l yX7_readCells cX7_readCells 2 none 2 43 [.ref x0, .ref x1] h n sl none o n sl := by
  refine xm_of pnX7 [some (.ref x0), some (.ref x1)] 0 rfl (Nat.le_of_ble_eq_true rfl) ?_
  intro X hT C
  replace C : XOK X RX7 cX7_readCells 2 "readCells" none 2 43 := C
  obtain ⟨-, hN, hX⟩ := hT
  unfold fX7_readCells at hm
  refine xw_aload_n (pc := 0) (i := 0) (x := x0) C dX7_readCells_0 rfl rfl ?_
  obtain ⟨v1, q2, hm⟩ := xbind hm
  refine xw_getI (pc := 1) C dX7_readCells_1 fl_X7_26 q2 ?_
  refine xw_aload_n (pc := 4) (i := 0) (x := x0) C dX7_readCells_4 rfl rfl ?_
  obtain ⟨v3, q4, hm⟩ := xbind hm
  refine xw_getI (pc := 5) C dX7_readCells_5 fl_X7_19 q4 ?_
  refine xw_icmp_ge (pc := 8) (tgt := 69) C dX7_readCells_8 (by decide) (fun q => ?_) (fun q => ?_)
  · replace hm := xif_t q hm
    refine xw_aload_n (pc := 69) (i := 1) (x := x1) C dX7_readCells_69 rfl rfl ?_
    obtain ⟨v5, q6, hm⟩ := xbind hm
    refine xw_getI (pc := 70) C dX7_readCells_70 fl_X7_60 q6 ?_
    refine xw_if_ne (pc := 73) (tgt := 85) C dX7_readCells_73 (by decide) (fun q => ?_) (fun q => ?_)
    · replace hm := xif_f q hm
      obtain rfl := Option.some.inj hm
      exact xw_return (pc := 85) C dX7_readCells_85 rfl hX
    · replace hm := xif_t q hm
      refine xw_aload_n (pc := 76) (i := 0) (x := x0) C dX7_readCells_76 rfl rfl ?_
      refine xw_iconst (pc := 77) (v := 1) C dX7_readCells_77 xk_i_1 ?_
      refine xw_aload_n (pc := 78) (i := 0) (x := x0) C dX7_readCells_78 rfl rfl ?_
      obtain ⟨v7, q8, hm⟩ := xbind hm
      refine xw_getI (pc := 79) C dX7_readCells_79 fl_X7_26 q8 ?_
      obtain ⟨_, q9, hm⟩ := xbind hm
      obtain ⟨h10, q11, hm⟩ := xbind hm
      refine xw_callV0 (pc := 82) (As := [.int (1 : Int32), .int v7]) (st := []) C dX7_readCells_82 (wX7_tellFault q11) dd_X7_tellFault lk_X7_56 dv_X7_tellFault (xco_spec q9) rfl (Nat.le_of_ble_eq_true rfl) (Nat.le_of_ble_eq_true rfl) (Nat.le_of_ble_eq_true rfl) ⟨Nat.le_refl _, Nat.le_refl _⟩ hN ?_
      obtain rfl := Option.some.inj hm
      exact xw_return (pc := 85) C dX7_readCells_85 rfl hX
  · replace hm := xif_f q hm
    refine xw_aload_n (pc := 11) (i := 1) (x := x1) C dX7_readCells_11 rfl rfl ?_
    obtain ⟨v12, q13, hm⟩ := xbind hm
    refine xw_getI (pc := 12) C dX7_readCells_12 fl_X7_60 q13 ?_
    refine xw_bipush (pc := 15) (v := 60) C dX7_readCells_15 xk_b_60 ?_
    refine xw_icmp_ge (pc := 17) (tgt := 69) C dX7_readCells_17 (by decide) (fun q => ?_) (fun q => ?_)
    · replace hm := xif_t q hm
      refine xw_aload_n (pc := 69) (i := 1) (x := x1) C dX7_readCells_69 rfl rfl ?_
      obtain ⟨v14, q15, hm⟩ := xbind hm
      refine xw_getI (pc := 70) C dX7_readCells_70 fl_X7_60 q15 ?_
      refine xw_if_ne (pc := 73) (tgt := 85) C dX7_readCells_73 (by decide) (fun q => ?_) (fun q => ?_)
      · replace hm := xif_f q hm
        obtain rfl := Option.some.inj hm
        exact xw_return (pc := 85) C dX7_readCells_85 rfl hX
      · replace hm := xif_t q hm
        refine xw_aload_n (pc := 76) (i := 0) (x := x0) C dX7_readCells_76 rfl rfl ?_
        refine xw_iconst (pc := 77) (v := 1) C dX7_readCells_77 xk_i_1 ?_
        refine xw_aload_n (pc := 78) (i := 0) (x := x0) C dX7_readCells_78 rfl rfl ?_
        obtain ⟨v16, q17, hm⟩ := xbind hm
        refine xw_getI (pc := 79) C dX7_readCells_79 fl_X7_26 q17 ?_
        obtain ⟨_, q18, hm⟩ := xbind hm
        obtain ⟨h19, q20, hm⟩ := xbind hm
        refine xw_callV0 (pc := 82) (As := [.int (1 : Int32), .int v16]) (st := []) C dX7_readCells_82 (wX7_tellFault q20) dd_X7_tellFault lk_X7_56 dv_X7_tellFault (xco_spec q18) rfl (Nat.le_of_ble_eq_true rfl) (Nat.le_of_ble_eq_true rfl) (Nat.le_of_ble_eq_true rfl) ⟨Nat.le_refl _, Nat.le_refl _⟩ hN ?_
        obtain rfl := Option.some.inj hm
        exact xw_return (pc := 85) C dX7_readCells_85 rfl hX
    · replace hm := xif_f q hm
      refine xw_aload_n (pc := 20) (i := 0) (x := x0) C dX7_readCells_20 rfl rfl ?_
      obtain ⟨_, q21, hm⟩ := xbind hm
      obtain ⟨v22, q23, hm⟩ := xbind hm
      refine xw_callV1 (pc := 21) (As := []) (st := []) C dX7_readCells_21 (wX7_code q23) dd_X7_code lk_X7_63 dv_X7_code (xco_spec q21) rfl (Nat.le_of_ble_eq_true rfl) (Nat.le_of_ble_eq_true rfl) (Nat.le_of_ble_eq_true rfl) ⟨Nat.le_refl _, Nat.le_refl _⟩ hN ?_
      obtain ⟨v24, q25, hm⟩ := xbind hm
      refine xw_callS1 (pc := 24) (As := [.int v22]) (st := []) C dX7_readCells_24 (wX7_isCell q25) dd_X7_isCell lk_X7_66 ds_X7_isCell rfl (Nat.le_of_ble_eq_true rfl) (Nat.le_of_ble_eq_true rfl) (Nat.le_of_ble_eq_true rfl) ⟨Nat.le_refl _, Nat.le_refl _⟩ hN ?_
      refine xw_if_eqZ (pc := 27) (b := v24) (tgt := 69) C dX7_readCells_27 (by decide) (fun q => ?_) (fun q => ?_)
      · replace hm := xif_f q hm
        refine xw_aload_n (pc := 69) (i := 1) (x := x1) C dX7_readCells_69 rfl rfl ?_
        obtain ⟨v26, q27, hm⟩ := xbind hm
        refine xw_getI (pc := 70) C dX7_readCells_70 fl_X7_60 q27 ?_
        refine xw_if_ne (pc := 73) (tgt := 85) C dX7_readCells_73 (by decide) (fun q => ?_) (fun q => ?_)
        · replace hm := xif_f q hm
          obtain rfl := Option.some.inj hm
          exact xw_return (pc := 85) C dX7_readCells_85 rfl hX
        · replace hm := xif_t q hm
          refine xw_aload_n (pc := 76) (i := 0) (x := x0) C dX7_readCells_76 rfl rfl ?_
          refine xw_iconst (pc := 77) (v := 1) C dX7_readCells_77 xk_i_1 ?_
          refine xw_aload_n (pc := 78) (i := 0) (x := x0) C dX7_readCells_78 rfl rfl ?_
          obtain ⟨v28, q29, hm⟩ := xbind hm
          refine xw_getI (pc := 79) C dX7_readCells_79 fl_X7_26 q29 ?_
          obtain ⟨_, q30, hm⟩ := xbind hm
          obtain ⟨h31, q32, hm⟩ := xbind hm
          refine xw_callV0 (pc := 82) (As := [.int (1 : Int32), .int v28]) (st := []) C dX7_readCells_82 (wX7_tellFault q32) dd_X7_tellFault lk_X7_56 dv_X7_tellFault (xco_spec q30) rfl (Nat.le_of_ble_eq_true rfl) (Nat.le_of_ble_eq_true rfl) (Nat.le_of_ble_eq_true rfl) ⟨Nat.le_refl _, Nat.le_refl _⟩ hN ?_
          obtain rfl := Option.some.inj hm
          exact xw_return (pc := 85) C dX7_readCells_85 rfl hX
      · replace hm := xif_t q hm
        refine xw_aload_n (pc := 30) (i := 1) (x := x1) C dX7_readCells_30 rfl rfl ?_
        refine xw_aload_n (pc := 31) (i := 0) (x := x0) C dX7_readCells_31 rfl rfl ?_
        obtain ⟨_, q33, hm⟩ := xbind hm
        obtain ⟨v34, q35, hm⟩ := xbind hm
        refine xw_callV1 (pc := 32) (As := []) (st := [.ref x1]) C dX7_readCells_32 (wX7_code q35) dd_X7_code lk_X7_63 dv_X7_code (xco_spec q33) rfl (Nat.le_of_ble_eq_true rfl) (Nat.le_of_ble_eq_true rfl) (Nat.le_of_ble_eq_true rfl) ⟨Nat.le_refl _, Nat.le_refl _⟩ hN ?_
        refine xw_bipush (pc := 35) (v := 46) C dX7_readCells_35 xk_b_46 ?_
        refine xw_icmp_ne (pc := 37) (tgt := 44) C dX7_readCells_37 (by decide) (fun q => ?_) (fun q => ?_)
        · replace hm := xif_f q hm
          refine xw_aload_n (pc := 44) (i := 0) (x := x0) C dX7_readCells_44 rfl rfl ?_
          obtain ⟨_, q36, hm⟩ := xbind hm
          obtain ⟨v37, q38, hm⟩ := xbind hm
          refine xw_callV1 (pc := 45) (As := []) (st := [.ref x1]) C dX7_readCells_45 (wX7_code q38) dd_X7_code lk_X7_63 dv_X7_code (xco_spec q36) rfl (Nat.le_of_ble_eq_true rfl) (Nat.le_of_ble_eq_true rfl) (Nat.le_of_ble_eq_true rfl) ⟨Nat.le_refl _, Nat.le_refl _⟩ hN ?_
          refine xw_bipush (pc := 48) (v := 97) C dX7_readCells_48 xk_b_97 ?_
          refine xw_isub (pc := 50) C dX7_readCells_50 ?_
          refine xw_iconst (pc := 51) (v := 1) C dX7_readCells_51 xk_i_1 ?_
          refine xw_iadd (pc := 52) C dX7_readCells_52 ?_
          exact xw_sub (pc := 53) [some (.ref x0), some (.ref x1)] ⟨Or.inr rfl, Or.inr rfl, trivial⟩ (fX7_readCells_J53_w C hN hm hX)
        · replace hm := xif_t q hm
          refine xw_iconst (pc := 40) (v := 0) C dX7_readCells_40 xk_i_0 ?_
          refine xw_goto (pc := 41) (tgt := 53) C dX7_readCells_41 (by decide) ?_
          exact xw_sub (pc := 53) [some (.ref x0), some (.ref x1)] ⟨Or.inr rfl, Or.inr rfl, trivial⟩ (fX7_readCells_J53_w C hN hm hX)
set_option maxHeartbeats 4000000 in
set_option maxRecDepth 100000 in
theorem wX7_isDigit {l : Launch} {n sl : Nat} {h : XH} {x0 : Int32} {o : Bool} (hm : fX7_isDigit x0 = some o) : XM l yX7_isDigit cX7_isDigit 1 (some .boolean) 1 22 [.int x0] h n sl (some (.int (xbi o))) h n sl := by
  refine xm_of pnX7 [some (.int x0)] 0 rfl (Nat.le_of_ble_eq_true rfl) ?_
  intro X hT C
  replace C : XOK X RX7 cX7_isDigit 1 "isDigit" (some .boolean) 1 22 := C
  obtain ⟨-, hN, hX⟩ := hT
  unfold fX7_isDigit at hm
  refine xw_iload_n (pc := 0) (i := 0) (x := x0) C dX7_isDigit_0 rfl rfl ?_
  refine xw_bipush (pc := 1) (v := 48) C dX7_isDigit_1 xk_b_48 ?_
  refine xw_bipush (pc := 3) (v := 57) C dX7_isDigit_3 xk_b_57 ?_
  obtain ⟨v1, q2, hm⟩ := xbind hm
  refine xw_callSN1 (pc := 5) (As := [.int x0, .int (48 : Int32), .int (57 : Int32)]) (st := []) C dX7_isDigit_5 (wX8_within q2) dd_X8_within lk_X7_83 ds_X8_within rfl (Nat.le_of_ble_eq_true rfl) (Nat.le_of_ble_eq_true rfl) (Nat.le_of_ble_eq_true rfl) ⟨Nat.le_refl _, Nat.le_refl _⟩ hN ?_
  obtain rfl := Option.some.inj hm
  exact xw_zreturn (pc := 8) (v := xbi v1) C dX7_isDigit_8 rfl (xbi_nar _) hX
def fX7_readNumber_P8 (X : XCtx) (x0 : Nat) (x1 : Int32) (x2 : Int32) (x3 : Int32) (n sl : Nat) (s : (XH × Int32)) : Prop := XW X 8 [some (.ref x0), some (.int x1), some (.int x2), some (.int x3), some (.int s.2)] [] s.1 n sl
def fX7_readNumber_E8 (X : XCtx) (x0 : Nat) (x1 : Int32) (x2 : Int32) (x3 : Int32) (n sl : Nat) (e : (XH × Int32)) : Prop := XW X 56 [some (.ref x0), none, some (.int x2), some (.int x3), some (.int e.2)] [] e.1 n sl
set_option maxHeartbeats 4000000 in
set_option maxRecDepth 100000 in
theorem fX7_readNumber_B8_w {X : XCtx} (C : XOK X RX7 cX7_readNumber 5 "readNumber" (some .int) 2 42) {n sl : Nat} (hN : XN X n sl) {x0 : Nat} {x1 : Int32} {x2 : Int32} {x3 : Int32} (s : (XH × Int32)) (o : (XH × Int32) ⊕ (XH × Int32)) (hm : fX7_readNumber_B8 x0 x1 x2 x3 s = some o) (hc : ∀ s', o = .inl s' → fX7_readNumber_P8 X x0 x1 x2 x3 n sl s') (he : ∀ e', o = .inr e' → fX7_readNumber_E8 X x0 x1 x2 x3 n sl e') : fX7_readNumber_P8 X x0 x1 x2 x3 n sl s := by
  obtain ⟨h, x4⟩ := s
  show XW X 8 [some (.ref x0), some (.int x1), some (.int x2), some (.int x3), some (.int x4)] [] h n sl
  replace hm : fX7_readNumber_b8 x0 x1 x2 x3 h x4 = some o := hm
  unfold fX7_readNumber_b8 at hm
  refine xw_aload_n (pc := 8) (i := 0) (x := x0) C dX7_readNumber_8 rfl rfl ?_
  obtain ⟨_, q3, hm⟩ := xbind hm
  obtain ⟨v4, q5, hm⟩ := xbind hm
  refine xw_callV1 (pc := 9) (As := []) (st := []) C dX7_readNumber_9 (wX7_code q5) dd_X7_code lk_X7_63 dv_X7_code (xco_spec q3) rfl (Nat.le_of_ble_eq_true rfl) (Nat.le_of_ble_eq_true rfl) (Nat.le_of_ble_eq_true rfl) ⟨Nat.le_refl _, Nat.le_refl _⟩ hN ?_
  obtain ⟨v6, q7, hm⟩ := xbind hm
  refine xw_callS1 (pc := 12) (As := [.int v4]) (st := []) C dX7_readNumber_12 (wX7_isDigit q7) dd_X7_isDigit lk_X7_73 ds_X7_isDigit rfl (Nat.le_of_ble_eq_true rfl) (Nat.le_of_ble_eq_true rfl) (Nat.le_of_ble_eq_true rfl) ⟨Nat.le_refl _, Nat.le_refl _⟩ hN ?_
  refine xw_if_eqZ (pc := 15) (b := v6) (tgt := 56) C dX7_readNumber_15 (by decide) (fun q => ?_) (fun q => ?_)
  · replace hm := xif_f q hm
    obtain rfl := Option.some.inj hm
    refine xw_sub (pc := 56) _ ?_ (he _ rfl)
    exact ⟨Or.inr rfl, Or.inl rfl, Or.inr rfl, Or.inr rfl, Or.inr rfl, trivial⟩
  · replace hm := xif_t q hm
    refine xw_aload_n (pc := 18) (i := 0) (x := x0) C dX7_readNumber_18 rfl rfl ?_
    obtain ⟨v8, q9, hm⟩ := xbind hm
    refine xw_getI (pc := 19) C dX7_readNumber_19 fl_X7_26 q9 ?_
    refine xw_iload_n (pc := 22) (i := 3) (x := x3) C dX7_readNumber_22 rfl rfl ?_
    refine xw_isub (pc := 23) C dX7_readNumber_23 ?_
    refine xw_iload_n (pc := 24) (i := 1) (x := x1) C dX7_readNumber_24 rfl rfl ?_
    refine xw_icmp_ge (pc := 25) (tgt := 56) C dX7_readNumber_25 (by decide) (fun q => ?_) (fun q => ?_)
    · replace hm := xif_t q hm
      obtain rfl := Option.some.inj hm
      refine xw_sub (pc := 56) _ ?_ (he _ rfl)
      exact ⟨Or.inr rfl, Or.inl rfl, Or.inr rfl, Or.inr rfl, Or.inr rfl, trivial⟩
    · replace hm := xif_f q hm
      refine xw_bipush (pc := 28) (v := 10) C dX7_readNumber_28 xk_b_10 ?_
      refine xw_iload (pc := 30) (i := 4) (x := x4) C dX7_readNumber_30 rfl ?_
      refine xw_imul (pc := 32) C dX7_readNumber_32 ?_
      refine xw_aload_n (pc := 33) (i := 0) (x := x0) C dX7_readNumber_33 rfl rfl ?_
      obtain ⟨_, q10, hm⟩ := xbind hm
      obtain ⟨v11, q12, hm⟩ := xbind hm
      refine xw_callV1 (pc := 34) (As := []) (st := [.int ((10 : Int32) * x4)]) C dX7_readNumber_34 (wX7_code q12) dd_X7_code lk_X7_63 dv_X7_code (xco_spec q10) rfl (Nat.le_of_ble_eq_true rfl) (Nat.le_of_ble_eq_true rfl) (Nat.le_of_ble_eq_true rfl) ⟨Nat.le_refl _, Nat.le_refl _⟩ hN ?_
      refine xw_iadd (pc := 37) C dX7_readNumber_37 ?_
      refine xw_bipush (pc := 38) (v := 48) C dX7_readNumber_38 xk_b_48 ?_
      refine xw_isub (pc := 40) C dX7_readNumber_40 ?_
      obtain ⟨y13, ey13, hm⟩ := xlet_ex hm
      refine xw_topI ey13 ?_
      refine xw_istore (pc := 41) (i := 4) (x := y13) (L' := [some (.ref x0), some (.int x1), some (.int x2), some (.int x3), some (.int y13)]) C dX7_readNumber_41 (Nat.le_of_ble_eq_true rfl) rfl ?_
      refine xw_aload_n (pc := 43) (i := 0) (x := x0) C dX7_readNumber_43 rfl rfl ?_
      refine xw_dup (pc := 44) C dX7_readNumber_44 rfl ?_
      obtain ⟨v14, q15, hm⟩ := xbind hm
      refine xw_getI (pc := 45) C dX7_readNumber_45 fl_X7_26 q15 ?_
      refine xw_iconst (pc := 48) (v := 1) C dX7_readNumber_48 xk_i_1 ?_
      refine xw_iadd (pc := 49) C dX7_readNumber_49 ?_
      obtain ⟨h16, q17, hm⟩ := xbind hm
      refine xw_put (pc := 50) C dX7_readNumber_50 fl_X7_26 q17 (fun _ => rfl) (fun _ => rfl) ?_
      refine xw_goto (pc := 53) (tgt := 8) C dX7_readNumber_53 (by decide) ?_
      obtain rfl := Option.some.inj hm
      refine xw_sub (pc := 8) _ ?_ (hc _ rfl)
      exact ⟨Or.inr rfl, Or.inr rfl, Or.inr rfl, Or.inr rfl, Or.inr rfl, trivial⟩
set_option maxHeartbeats 4000000 in
set_option maxRecDepth 100000 in
theorem wX7_readNumber {l : Launch} {n sl : Nat} {h : XH} {x0 : Nat} {x1 : Int32} {x2 : Int32} {o : Int32 × XH} (hm : fX7_readNumber h x0 x1 x2 = some o) : XM l yX7_readNumber cX7_readNumber 5 (some .int) 2 42 [.ref x0, .int x1, .int x2] h n sl (some (.int o.1)) o.2 n sl := by
  refine xm_of pnX7 [some (.ref x0), some (.int x1), some (.int x2), none, none] 2 rfl (Nat.le_of_ble_eq_true rfl) ?_
  intro X hT C
  replace C : XOK X RX7 cX7_readNumber 5 "readNumber" (some .int) 2 42 := C
  obtain ⟨-, hN, hX⟩ := hT
  unfold fX7_readNumber at hm
  refine xw_aload_n (pc := 0) (i := 0) (x := x0) C dX7_readNumber_0 rfl rfl ?_
  obtain ⟨v1, q2, hm⟩ := xbind hm
  refine xw_getI (pc := 1) C dX7_readNumber_1 fl_X7_26 q2 ?_
  refine xw_istore_n (pc := 4) (i := 3) (x := v1) (L' := [some (.ref x0), some (.int x1), some (.int x2), some (.int v1), none]) C dX7_readNumber_4 rfl (Nat.le_of_ble_eq_true rfl) rfl ?_
  refine xw_iconst (pc := 5) (v := 0) C dX7_readNumber_5 xk_i_0 ?_
  refine xw_istore (pc := 6) (i := 4) (x := (0 : Int32)) (L' := [some (.ref x0), some (.int x1), some (.int x2), some (.int v1), some (.int (0 : Int32))]) C dX7_readNumber_6 (Nat.le_of_ble_eq_true rfl) rfl ?_
  obtain ⟨e18, q19, hm⟩ := xbind hm
  refine xw_sub (pc := 8) [some (.ref x0), some (.int x1), some (.int x2), some (.int v1), some (.int (0 : Int32))] ⟨Or.inr rfl, Or.inr rfl, Or.inr rfl, Or.inr rfl, Or.inr rfl, trivial⟩ ?_
  refine xloop_walk (fX7_readNumber_B8 x0 x1 x2 v1) (fX7_readNumber_P8 X x0 x1 x2 v1 n sl) (fX7_readNumber_E8 X x0 x1 x2 v1 n sl) (fun s' o' => fX7_readNumber_B8_w C hN s' o') 5000 (h, (0 : Int32)) e18 q19 ?_
  show XW X 56 [some (.ref x0), none, some (.int x2), some (.int v1), some (.int e18.2)] [] e18.1 n sl
  refine xw_aload_n (pc := 56) (i := 0) (x := x0) C dX7_readNumber_56 rfl rfl ?_
  obtain ⟨v20, q21, hm⟩ := xbind hm
  refine xw_getI (pc := 57) C dX7_readNumber_57 fl_X7_26 q21 ?_
  refine xw_iload_n (pc := 60) (i := 3) (x := v1) C dX7_readNumber_60 rfl rfl ?_
  refine xw_icmp_eq (pc := 61) (tgt := 74) C dX7_readNumber_61 (by decide) (fun q => ?_) (fun q => ?_)
  · replace hm := xif_t q hm
    refine xw_aload_n (pc := 74) (i := 0) (x := x0) C dX7_readNumber_74 rfl rfl ?_
    refine xw_iconst (pc := 75) (v := 1) C dX7_readNumber_75 xk_i_1 ?_
    refine xw_aload_n (pc := 76) (i := 0) (x := x0) C dX7_readNumber_76 rfl rfl ?_
    obtain ⟨v22, q23, hm⟩ := xbind hm
    refine xw_getI (pc := 77) C dX7_readNumber_77 fl_X7_26 q23 ?_
    obtain ⟨_, q24, hm⟩ := xbind hm
    obtain ⟨h25, q26, hm⟩ := xbind hm
    refine xw_callV0 (pc := 80) (As := [.int (1 : Int32), .int v22]) (st := []) C dX7_readNumber_80 (wX7_tellFault q26) dd_X7_tellFault lk_X7_56 dv_X7_tellFault (xco_spec q24) rfl (Nat.le_of_ble_eq_true rfl) (Nat.le_of_ble_eq_true rfl) (Nat.le_of_ble_eq_true rfl) ⟨Nat.le_refl _, Nat.le_refl _⟩ hN ?_
    refine xw_goto (pc := 83) (tgt := 98) C dX7_readNumber_83 (by decide) ?_
    refine xw_iload (pc := 98) (i := 4) (x := e18.2) C dX7_readNumber_98 rfl ?_
    obtain rfl := Option.some.inj hm
    exact xw_ireturn (pc := 100) C dX7_readNumber_100 rfl hX
  · replace hm := xif_f q hm
    refine xw_aload_n (pc := 64) (i := 0) (x := x0) C dX7_readNumber_64 rfl rfl ?_
    obtain ⟨_, q27, hm⟩ := xbind hm
    obtain ⟨v28, q29, hm⟩ := xbind hm
    refine xw_callV1 (pc := 65) (As := []) (st := []) C dX7_readNumber_65 (wX7_code q29) dd_X7_code lk_X7_63 dv_X7_code (xco_spec q27) rfl (Nat.le_of_ble_eq_true rfl) (Nat.le_of_ble_eq_true rfl) (Nat.le_of_ble_eq_true rfl) ⟨Nat.le_refl _, Nat.le_refl _⟩ hN ?_
    obtain ⟨v30, q31, hm⟩ := xbind hm
    refine xw_callS1 (pc := 68) (As := [.int v28]) (st := []) C dX7_readNumber_68 (wX7_isDigit q31) dd_X7_isDigit lk_X7_73 ds_X7_isDigit rfl (Nat.le_of_ble_eq_true rfl) (Nat.le_of_ble_eq_true rfl) (Nat.le_of_ble_eq_true rfl) ⟨Nat.le_refl _, Nat.le_refl _⟩ hN ?_
    refine xw_if_eqZ (pc := 71) (b := v30) (tgt := 86) C dX7_readNumber_71 (by decide) (fun q => ?_) (fun q => ?_)
    · replace hm := xif_f q hm
      refine xw_iload (pc := 86) (i := 4) (x := e18.2) C dX7_readNumber_86 rfl ?_
      refine xw_iload_n (pc := 88) (i := 2) (x := x2) C dX7_readNumber_88 rfl rfl ?_
      refine xw_icmp_le (pc := 89) (tgt := 98) C dX7_readNumber_89 (by decide) (fun q => ?_) (fun q => ?_)
      · replace hm := xif_t q hm
        refine xw_iload (pc := 98) (i := 4) (x := e18.2) C dX7_readNumber_98 rfl ?_
        obtain rfl := Option.some.inj hm
        exact xw_ireturn (pc := 100) C dX7_readNumber_100 rfl hX
      · replace hm := xif_f q hm
        refine xw_aload_n (pc := 92) (i := 0) (x := x0) C dX7_readNumber_92 rfl rfl ?_
        refine xw_iconst (pc := 93) (v := 2) C dX7_readNumber_93 xk_i_2 ?_
        refine xw_iload_n (pc := 94) (i := 3) (x := v1) C dX7_readNumber_94 rfl rfl ?_
        obtain ⟨_, q32, hm⟩ := xbind hm
        obtain ⟨h33, q34, hm⟩ := xbind hm
        refine xw_callV0 (pc := 95) (As := [.int (2 : Int32), .int v1]) (st := []) C dX7_readNumber_95 (wX7_tellFault q34) dd_X7_tellFault lk_X7_56 dv_X7_tellFault (xco_spec q32) rfl (Nat.le_of_ble_eq_true rfl) (Nat.le_of_ble_eq_true rfl) (Nat.le_of_ble_eq_true rfl) ⟨Nat.le_refl _, Nat.le_refl _⟩ hN ?_
        refine xw_iload (pc := 98) (i := 4) (x := e18.2) C dX7_readNumber_98 rfl ?_
        obtain rfl := Option.some.inj hm
        exact xw_ireturn (pc := 100) C dX7_readNumber_100 rfl hX
    · replace hm := xif_t q hm
      refine xw_aload_n (pc := 74) (i := 0) (x := x0) C dX7_readNumber_74 rfl rfl ?_
      refine xw_iconst (pc := 75) (v := 1) C dX7_readNumber_75 xk_i_1 ?_
      refine xw_aload_n (pc := 76) (i := 0) (x := x0) C dX7_readNumber_76 rfl rfl ?_
      obtain ⟨v35, q36, hm⟩ := xbind hm
      refine xw_getI (pc := 77) C dX7_readNumber_77 fl_X7_26 q36 ?_
      obtain ⟨_, q37, hm⟩ := xbind hm
      obtain ⟨h38, q39, hm⟩ := xbind hm
      refine xw_callV0 (pc := 80) (As := [.int (1 : Int32), .int v35]) (st := []) C dX7_readNumber_80 (wX7_tellFault q39) dd_X7_tellFault lk_X7_56 dv_X7_tellFault (xco_spec q37) rfl (Nat.le_of_ble_eq_true rfl) (Nat.le_of_ble_eq_true rfl) (Nat.le_of_ble_eq_true rfl) ⟨Nat.le_refl _, Nat.le_refl _⟩ hN ?_
      refine xw_goto (pc := 83) (tgt := 98) C dX7_readNumber_83 (by decide) ?_
      refine xw_iload (pc := 98) (i := 4) (x := e18.2) C dX7_readNumber_98 rfl ?_
      obtain rfl := Option.some.inj hm
      exact xw_ireturn (pc := 100) C dX7_readNumber_100 rfl hX
set_option maxHeartbeats 4000000 in
set_option maxRecDepth 100000 in
theorem wX7_takes {l : Launch} {n sl : Nat} {h : XH} {x0 : Nat} {x1 : Int32} {o : Bool × XH} (hm : fX7_takes h x0 x1 = some o) : XM l yX7_takes cX7_takes 2 (some .boolean) 2 41 [.ref x0, .int x1] h n sl (some (.int (xbi o.1))) o.2 n sl := by
  refine xm_of pnX7 [some (.ref x0), some (.int x1)] 0 rfl (Nat.le_of_ble_eq_true rfl) ?_
  intro X hT C
  replace C : XOK X RX7 cX7_takes 2 "takes" (some .boolean) 2 41 := C
  obtain ⟨-, hN, hX⟩ := hT
  unfold fX7_takes at hm
  refine xw_aload_n (pc := 0) (i := 0) (x := x0) C dX7_takes_0 rfl rfl ?_
  obtain ⟨_, q1, hm⟩ := xbind hm
  obtain ⟨v2, q3, hm⟩ := xbind hm
  refine xw_callV1 (pc := 1) (As := []) (st := []) C dX7_takes_1 (wX7_code q3) dd_X7_code lk_X7_63 dv_X7_code (xco_spec q1) rfl (Nat.le_of_ble_eq_true rfl) (Nat.le_of_ble_eq_true rfl) (Nat.le_of_ble_eq_true rfl) ⟨Nat.le_refl _, Nat.le_refl _⟩ hN ?_
  refine xw_iload_n (pc := 4) (i := 1) (x := x1) C dX7_takes_4 rfl rfl ?_
  refine xw_icmp_eq (pc := 5) (tgt := 10) C dX7_takes_5 (by decide) (fun q => ?_) (fun q => ?_)
  · replace hm := xif_t q hm
    refine xw_aload_n (pc := 10) (i := 0) (x := x0) C dX7_takes_10 rfl rfl ?_
    refine xw_dup (pc := 11) C dX7_takes_11 rfl ?_
    obtain ⟨v4, q5, hm⟩ := xbind hm
    refine xw_getI (pc := 12) C dX7_takes_12 fl_X7_26 q5 ?_
    refine xw_iconst (pc := 15) (v := 1) C dX7_takes_15 xk_i_1 ?_
    refine xw_iadd (pc := 16) C dX7_takes_16 ?_
    obtain ⟨h6, q7, hm⟩ := xbind hm
    refine xw_put (pc := 17) C dX7_takes_17 fl_X7_26 q7 (fun _ => rfl) (fun _ => rfl) ?_
    refine xw_iconst (pc := 20) (v := 1) C dX7_takes_20 xk_i_1 ?_
    obtain rfl := Option.some.inj hm
    exact xw_zreturn (pc := 21) (v := xbi true) C dX7_takes_21 rfl (xbi_nar _) hX
  · replace hm := xif_f q hm
    refine xw_iconst (pc := 8) (v := 0) C dX7_takes_8 xk_i_0 ?_
    obtain rfl := Option.some.inj hm
    exact xw_zreturn (pc := 9) (v := xbi false) C dX7_takes_9 rfl (xbi_nar _) hX
set_option maxHeartbeats 4000000 in
set_option maxRecDepth 100000 in
theorem wX7_readSpeed {l : Launch} {n sl : Nat} {h : XH} {x0 : Nat} {o : Int32 × XH} (hm : fX7_readSpeed h x0 = some o) : XM l yX7_readSpeed cX7_readSpeed 1 (some .int) 3 66 [.ref x0] h n sl (some (.int o.1)) o.2 n sl := by
  refine xm_of pnX7 [some (.ref x0)] 0 rfl (Nat.le_of_ble_eq_true rfl) ?_
  intro X hT C
  replace C : XOK X RX7 cX7_readSpeed 1 "readSpeed" (some .int) 3 66 := C
  obtain ⟨-, hN, hX⟩ := hT
  unfold fX7_readSpeed at hm
  refine xw_aload_n (pc := 0) (i := 0) (x := x0) C dX7_readSpeed_0 rfl rfl ?_
  refine xw_bipush (pc := 1) (v := 45) C dX7_readSpeed_1 xk_b_45 ?_
  obtain ⟨_, q1, hm⟩ := xbind hm
  obtain ⟨v2, q3, hm⟩ := xbind hm
  refine xw_callV1 (pc := 3) (As := [.int (45 : Int32)]) (st := []) C dX7_readSpeed_3 (wX7_takes q3) dd_X7_takes lk_X7_38 dv_X7_takes (xco_spec q1) rfl (Nat.le_of_ble_eq_true rfl) (Nat.le_of_ble_eq_true rfl) (Nat.le_of_ble_eq_true rfl) ⟨Nat.le_refl _, Nat.le_refl _⟩ hN ?_
  refine xw_if_eqZ (pc := 6) (b := v2.1) (tgt := 21) C dX7_readSpeed_6 (by decide) (fun q => ?_) (fun q => ?_)
  · replace hm := xif_f q hm
    refine xw_aload_n (pc := 21) (i := 0) (x := x0) C dX7_readSpeed_21 rfl rfl ?_
    refine xw_iconst (pc := 22) (v := 4) C dX7_readSpeed_22 xk_i_4 ?_
    refine xw_sipush (pc := 23) (v := 1000) C dX7_readSpeed_23 xk_s_1000 ?_
    obtain ⟨_, q4, hm⟩ := xbind hm
    obtain ⟨v5, q6, hm⟩ := xbind hm
    refine xw_callV1 (pc := 26) (As := [.int (4 : Int32), .int (1000 : Int32)]) (st := []) C dX7_readSpeed_26 (wX7_readNumber q6) dd_X7_readNumber lk_X7_42 dv_X7_readNumber (xco_spec q4) rfl (Nat.le_of_ble_eq_true rfl) (Nat.le_of_ble_eq_true rfl) (Nat.le_of_ble_eq_true rfl) ⟨Nat.le_refl _, Nat.le_refl _⟩ hN ?_
    obtain rfl := Option.some.inj hm
    exact xw_ireturn (pc := 29) C dX7_readSpeed_29 rfl hX
  · replace hm := xif_t q hm
    refine xw_aload_n (pc := 9) (i := 0) (x := x0) C dX7_readSpeed_9 rfl rfl ?_
    refine xw_iconst (pc := 10) (v := 4) C dX7_readSpeed_10 xk_i_4 ?_
    refine xw_sipush (pc := 11) (v := 1000) C dX7_readSpeed_11 xk_s_1000 ?_
    obtain ⟨_, q7, hm⟩ := xbind hm
    obtain ⟨v8, q9, hm⟩ := xbind hm
    refine xw_callV1 (pc := 14) (As := [.int (4 : Int32), .int (1000 : Int32)]) (st := []) C dX7_readSpeed_14 (wX7_readNumber q9) dd_X7_readNumber lk_X7_42 dv_X7_readNumber (xco_spec q7) rfl (Nat.le_of_ble_eq_true rfl) (Nat.le_of_ble_eq_true rfl) (Nat.le_of_ble_eq_true rfl) ⟨Nat.le_refl _, Nat.le_refl _⟩ hN ?_
    refine xw_ineg (pc := 17) C dX7_readSpeed_17 ?_
    refine xw_goto (pc := 18) (tgt := 29) C dX7_readSpeed_18 (by decide) ?_
    obtain rfl := Option.some.inj hm
    exact xw_ireturn (pc := 29) C dX7_readSpeed_29 rfl hX
set_option maxHeartbeats 4000000 in
set_option maxRecDepth 100000 in
theorem fX7_readInto_J97_w {X : XCtx} (C : XOK X RX7 cX7_readInto 2 "readInto" (some .boolean) 4 86) {n sl : Nat} (hN : XN X n sl)  {h : XH} {x0 : Nat} {o : Bool × XH} (hm : fX7_readInto_J97 h x0 = some o) (hX : XR X (some (.int (xbi o.1))) o.2 n sl) : XW X 97 [some (.ref x0), none] [] h n sl := by
  unfold fX7_readInto_J97 at hm
  refine xw_aload_n (pc := 97) (i := 0) (x := x0) C dX7_readInto_97 rfl rfl ?_
  obtain ⟨v17, q18, hm⟩ := xbind hm
  refine xw_getI (pc := 98) C dX7_readInto_98 fl_X7_15 q18 ?_
  refine xw_if_ne (pc := 101) (tgt := 108) C dX7_readInto_101 (by decide) (fun q => ?_) (fun q => ?_)
  · replace hm := xif_f q hm
    refine xw_iconst (pc := 108) (v := 0) C dX7_readInto_108 xk_i_0 ?_
    obtain rfl := Option.some.inj hm
    exact xw_zreturn (pc := 109) (v := xbi false) C dX7_readInto_109 rfl (xbi_nar _) hX
  · replace hm := xif_t q hm
    refine xw_iconst (pc := 104) (v := 1) C dX7_readInto_104 xk_i_1 ?_
    refine xw_goto (pc := 105) (tgt := 109) C dX7_readInto_105 (by decide) ?_
    obtain rfl := Option.some.inj hm
    exact xw_zreturn (pc := 109) (v := xbi true) C dX7_readInto_109 rfl (xbi_nar _) hX
set_option maxHeartbeats 4000000 in
set_option maxRecDepth 100000 in
theorem fX7_readInto_J70_w {X : XCtx} (C : XOK X RX7 cX7_readInto 2 "readInto" (some .boolean) 4 86) {n sl : Nat} (hN : XN X n sl)  {h : XH} {x0 : Nat} {o : Bool × XH} (hm : fX7_readInto_J70 h x0 = some o) (hX : XR X (some (.int (xbi o.1))) o.2 n sl) : XW X 70 [some (.ref x0), none] [] h n sl := by
  unfold fX7_readInto_J70 at hm
  refine xw_aload_n (pc := 70) (i := 0) (x := x0) C dX7_readInto_70 rfl rfl ?_
  obtain ⟨v15, q16, hm⟩ := xbind hm
  refine xw_getI (pc := 71) C dX7_readInto_71 fl_X7_15 q16 ?_
  refine xw_if_ne (pc := 74) (tgt := 97) C dX7_readInto_74 (by decide) (fun q => ?_) (fun q => ?_)
  · replace hm := xif_f q hm
    exact xw_sub (pc := 97) [some (.ref x0), none] ⟨Or.inr rfl, Or.inl rfl, trivial⟩ (fX7_readInto_J97_w C hN hm hX)
  · replace hm := xif_t q hm
    refine xw_aload_n (pc := 77) (i := 0) (x := x0) C dX7_readInto_77 rfl rfl ?_
    obtain ⟨v19, q20, hm⟩ := xbind hm
    refine xw_getI (pc := 78) C dX7_readInto_78 fl_X7_26 q20 ?_
    refine xw_aload_n (pc := 81) (i := 0) (x := x0) C dX7_readInto_81 rfl rfl ?_
    obtain ⟨v21, q22, hm⟩ := xbind hm
    refine xw_getI (pc := 82) C dX7_readInto_82 fl_X7_19 q22 ?_
    refine xw_icmp_ge (pc := 85) (tgt := 97) C dX7_readInto_85 (by decide) (fun q => ?_) (fun q => ?_)
    · replace hm := xif_t q hm
      exact xw_sub (pc := 97) [some (.ref x0), none] ⟨Or.inr rfl, Or.inl rfl, trivial⟩ (fX7_readInto_J97_w C hN hm hX)
    · replace hm := xif_f q hm
      refine xw_aload_n (pc := 88) (i := 0) (x := x0) C dX7_readInto_88 rfl rfl ?_
      refine xw_iconst (pc := 89) (v := 1) C dX7_readInto_89 xk_i_1 ?_
      refine xw_aload_n (pc := 90) (i := 0) (x := x0) C dX7_readInto_90 rfl rfl ?_
      obtain ⟨v23, q24, hm⟩ := xbind hm
      refine xw_getI (pc := 91) C dX7_readInto_91 fl_X7_26 q24 ?_
      obtain ⟨_, q25, hm⟩ := xbind hm
      obtain ⟨h26, q27, hm⟩ := xbind hm
      refine xw_callV0 (pc := 94) (As := [.int (1 : Int32), .int v23]) (st := []) C dX7_readInto_94 (wX7_tellFault q27) dd_X7_tellFault lk_X7_56 dv_X7_tellFault (xco_spec q25) rfl (Nat.le_of_ble_eq_true rfl) (Nat.le_of_ble_eq_true rfl) (Nat.le_of_ble_eq_true rfl) ⟨Nat.le_refl _, Nat.le_refl _⟩ hN ?_
      exact xw_sub (pc := 97) [some (.ref x0), none] ⟨Or.inr rfl, Or.inl rfl, trivial⟩ (fX7_readInto_J97_w C hN hm hX)
set_option maxHeartbeats 4000000 in
set_option maxRecDepth 100000 in
theorem fX7_readInto_J46_w {X : XCtx} (C : XOK X RX7 cX7_readInto 2 "readInto" (some .boolean) 4 86) {n sl : Nat} (hN : XN X n sl)  {h : XH} {x0 : Nat} {x1 : Nat} {o : Bool × XH} (hm : fX7_readInto_J46 h x0 x1 = some o) (hX : XR X (some (.int (xbi o.1))) o.2 n sl) : XW X 46 [some (.ref x0), some (.ref x1)] [] h n sl := by
  unfold fX7_readInto_J46 at hm
  refine xw_aload_n (pc := 46) (i := 0) (x := x0) C dX7_readInto_46 rfl rfl ?_
  obtain ⟨v13, q14, hm⟩ := xbind hm
  refine xw_getI (pc := 47) C dX7_readInto_47 fl_X7_15 q14 ?_
  refine xw_if_ne (pc := 50) (tgt := 70) C dX7_readInto_50 (by decide) (fun q => ?_) (fun q => ?_)
  · replace hm := xif_f q hm
    exact xw_sub (pc := 70) [some (.ref x0), none] ⟨Or.inr rfl, Or.inl rfl, trivial⟩ (fX7_readInto_J70_w C hN hm hX)
  · replace hm := xif_t q hm
    refine xw_aload_n (pc := 53) (i := 0) (x := x0) C dX7_readInto_53 rfl rfl ?_
    refine xw_bipush (pc := 54) (v := 42) C dX7_readInto_54 xk_b_42 ?_
    obtain ⟨_, q28, hm⟩ := xbind hm
    obtain ⟨v29, q30, hm⟩ := xbind hm
    refine xw_callV1 (pc := 56) (As := [.int (42 : Int32)]) (st := []) C dX7_readInto_56 (wX7_takes q30) dd_X7_takes lk_X7_38 dv_X7_takes (xco_spec q28) rfl (Nat.le_of_ble_eq_true rfl) (Nat.le_of_ble_eq_true rfl) (Nat.le_of_ble_eq_true rfl) ⟨Nat.le_refl _, Nat.le_refl _⟩ hN ?_
    refine xw_if_eqZ (pc := 59) (b := v29.1) (tgt := 70) C dX7_readInto_59 (by decide) (fun q => ?_) (fun q => ?_)
    · replace hm := xif_f q hm
      exact xw_sub (pc := 70) [some (.ref x0), none] ⟨Or.inr rfl, Or.inl rfl, trivial⟩ (fX7_readInto_J70_w C hN hm hX)
    · replace hm := xif_t q hm
      refine xw_aload_n (pc := 62) (i := 1) (x := x1) C dX7_readInto_62 rfl rfl ?_
      refine xw_aload_n (pc := 63) (i := 0) (x := x0) C dX7_readInto_63 rfl rfl ?_
      obtain ⟨_, q31, hm⟩ := xbind hm
      obtain ⟨v32, q33, hm⟩ := xbind hm
      refine xw_callV1 (pc := 64) (As := []) (st := [.ref x1]) C dX7_readInto_64 (wX7_readSpeed q33) dd_X7_readSpeed lk_X7_49 dv_X7_readSpeed (xco_spec q31) rfl (Nat.le_of_ble_eq_true rfl) (Nat.le_of_ble_eq_true rfl) (Nat.le_of_ble_eq_true rfl) ⟨Nat.le_refl _, Nat.le_refl _⟩ hN ?_
      obtain ⟨h34, q35, hm⟩ := xbind hm
      refine xw_put (pc := 67) C dX7_readInto_67 fl_X7_53 q35 (fun _ => rfl) (fun _ => rfl) ?_
      exact xw_sub (pc := 70) [some (.ref x0), none] ⟨Or.inr rfl, Or.inl rfl, trivial⟩ (fX7_readInto_J70_w C hN hm hX)
set_option maxHeartbeats 4000000 in
set_option maxRecDepth 100000 in
theorem wX7_readInto {l : Launch} {n sl : Nat} {h : XH} {x0 : Nat} {x1 : Nat} {o : Bool × XH} (hm : fX7_readInto h x0 x1 = some o) : XM l yX7_readInto cX7_readInto 2 (some .boolean) 4 86 [.ref x0, .ref x1] h n sl (some (.int (xbi o.1))) o.2 n sl := by
  refine xm_of pnX7 [some (.ref x0), some (.ref x1)] 0 rfl (Nat.le_of_ble_eq_true rfl) ?_
  intro X hT C
  replace C : XOK X RX7 cX7_readInto 2 "readInto" (some .boolean) 4 86 := C
  obtain ⟨-, hN, hX⟩ := hT
  unfold fX7_readInto at hm
  refine xw_aload_n (pc := 0) (i := 0) (x := x0) C dX7_readInto_0 rfl rfl ?_
  refine xw_iconst (pc := 1) (v := 0) C dX7_readInto_1 xk_i_0 ?_
  obtain ⟨h1, q2, hm⟩ := xbind hm
  refine xw_put (pc := 2) C dX7_readInto_2 fl_X7_26 q2 (fun _ => rfl) (fun _ => rfl) ?_
  refine xw_aload_n (pc := 5) (i := 0) (x := x0) C dX7_readInto_5 rfl rfl ?_
  refine xw_iconst (pc := 6) (v := 0) C dX7_readInto_6 xk_i_0 ?_
  obtain ⟨h3, q4, hm⟩ := xbind hm
  refine xw_put (pc := 7) C dX7_readInto_7 fl_X7_15 q4 (fun _ => rfl) (fun _ => rfl) ?_
  refine xw_aload_n (pc := 10) (i := 1) (x := x1) C dX7_readInto_10 rfl rfl ?_
  obtain ⟨_, q5, hm⟩ := xbind hm
  obtain ⟨h6, q7, hm⟩ := xbind hm
  refine xw_callV0 (pc := 11) (As := []) (st := []) C dX7_readInto_11 (wX6_empty q7) dd_X6_empty lk_X7_29 dv_X6_empty (xco_spec q5) rfl (Nat.le_of_ble_eq_true rfl) (Nat.le_of_ble_eq_true rfl) (Nat.le_of_ble_eq_true rfl) ⟨Nat.le_refl _, Nat.le_refl _⟩ hN ?_
  refine xw_aload_n (pc := 14) (i := 0) (x := x0) C dX7_readInto_14 rfl rfl ?_
  refine xw_aload_n (pc := 15) (i := 1) (x := x1) C dX7_readInto_15 rfl rfl ?_
  obtain ⟨_, q8, hm⟩ := xbind hm
  obtain ⟨h9, q10, hm⟩ := xbind hm
  refine xw_callV0 (pc := 16) (As := [.ref x1]) (st := []) C dX7_readInto_16 (wX7_readCells q10) dd_X7_readCells lk_X7_34 dv_X7_readCells (xco_spec q8) rfl (Nat.le_of_ble_eq_true rfl) (Nat.le_of_ble_eq_true rfl) (Nat.le_of_ble_eq_true rfl) ⟨Nat.le_refl _, Nat.le_refl _⟩ hN ?_
  refine xw_aload_n (pc := 19) (i := 0) (x := x0) C dX7_readInto_19 rfl rfl ?_
  obtain ⟨v11, q12, hm⟩ := xbind hm
  refine xw_getI (pc := 20) C dX7_readInto_20 fl_X7_15 q12 ?_
  refine xw_if_ne (pc := 23) (tgt := 46) C dX7_readInto_23 (by decide) (fun q => ?_) (fun q => ?_)
  · replace hm := xif_f q hm
    exact xw_sub (pc := 46) [some (.ref x0), some (.ref x1)] ⟨Or.inr rfl, Or.inr rfl, trivial⟩ (fX7_readInto_J46_w C hN hm hX)
  · replace hm := xif_t q hm
    refine xw_aload_n (pc := 26) (i := 0) (x := x0) C dX7_readInto_26 rfl rfl ?_
    refine xw_bipush (pc := 27) (v := 64) C dX7_readInto_27 xk_b_64 ?_
    obtain ⟨_, q36, hm⟩ := xbind hm
    obtain ⟨v37, q38, hm⟩ := xbind hm
    refine xw_callV1 (pc := 29) (As := [.int (64 : Int32)]) (st := []) C dX7_readInto_29 (wX7_takes q38) dd_X7_takes lk_X7_38 dv_X7_takes (xco_spec q36) rfl (Nat.le_of_ble_eq_true rfl) (Nat.le_of_ble_eq_true rfl) (Nat.le_of_ble_eq_true rfl) ⟨Nat.le_refl _, Nat.le_refl _⟩ hN ?_
    refine xw_if_eqZ (pc := 32) (b := v37.1) (tgt := 46) C dX7_readInto_32 (by decide) (fun q => ?_) (fun q => ?_)
    · replace hm := xif_f q hm
      exact xw_sub (pc := 46) [some (.ref x0), some (.ref x1)] ⟨Or.inr rfl, Or.inr rfl, trivial⟩ (fX7_readInto_J46_w C hN hm hX)
    · replace hm := xif_t q hm
      refine xw_aload_n (pc := 35) (i := 1) (x := x1) C dX7_readInto_35 rfl rfl ?_
      refine xw_aload_n (pc := 36) (i := 0) (x := x0) C dX7_readInto_36 rfl rfl ?_
      refine xw_iconst (pc := 37) (v := 2) C dX7_readInto_37 xk_i_2 ?_
      refine xw_bipush (pc := 38) (v := 59) C dX7_readInto_38 xk_b_59 ?_
      obtain ⟨_, q39, hm⟩ := xbind hm
      obtain ⟨v40, q41, hm⟩ := xbind hm
      refine xw_callV1 (pc := 40) (As := [.int (2 : Int32), .int (59 : Int32)]) (st := [.ref x1]) C dX7_readInto_40 (wX7_readNumber q41) dd_X7_readNumber lk_X7_42 dv_X7_readNumber (xco_spec q39) rfl (Nat.le_of_ble_eq_true rfl) (Nat.le_of_ble_eq_true rfl) (Nat.le_of_ble_eq_true rfl) ⟨Nat.le_refl _, Nat.le_refl _⟩ hN ?_
      obtain ⟨h42, q43, hm⟩ := xbind hm
      refine xw_put (pc := 43) C dX7_readInto_43 fl_X7_46 q43 (fun _ => rfl) (fun _ => rfl) ?_
      exact xw_sub (pc := 46) [some (.ref x0), some (.ref x1)] ⟨Or.inr rfl, Or.inr rfl, trivial⟩ (fX7_readInto_J46_w C hN hm hX)
set_option maxHeartbeats 4000000 in
set_option maxRecDepth 100000 in
theorem wX8_load {l : Launch} {n sl : Nat} {h : XH} {x0 : Nat} {o : Int32 × XH} (hm : fX8_load h x0 = some o) : XM l yX8_load cX8_load 1 (some .int) 5 107 [.ref x0] h n sl (some (.int o.1)) o.2 n sl := by
  refine xm_of pnX8 [some (.ref x0)] 0 rfl (Nat.le_of_ble_eq_true rfl) ?_
  intro X hT C
  replace C : XOK X RX8 cX8_load 1 "load" (some .int) 5 107 := C
  obtain ⟨-, hN, hX⟩ := hT
  unfold fX8_load at hm
  refine xw_aload_n (pc := 0) (i := 0) (x := x0) C dX8_load_0 rfl rfl ?_
  obtain ⟨v1, q2, hm⟩ := xbind hm
  refine xw_getR (pc := 1) C dX8_load_1 fl_X8_26 q2 ?_
  refine xw_aload_n (pc := 4) (i := 0) (x := x0) C dX8_load_4 rfl rfl ?_
  obtain ⟨v3, q4, hm⟩ := xbind hm
  refine xw_getR (pc := 5) C dX8_load_5 fl_X8_33 q4 ?_
  obtain ⟨_, q5, hm⟩ := xbind hm
  obtain ⟨v6, q7, hm⟩ := xbind hm
  refine xw_callV1 (pc := 8) (As := [.ref v3]) (st := []) C dX8_load_8 (wX7_readInto q7) dd_X7_readInto lk_X8_56 dv_X7_readInto (xco_spec q5) rfl (Nat.le_of_ble_eq_true rfl) (Nat.le_of_ble_eq_true rfl) (Nat.le_of_ble_eq_true rfl) ⟨Nat.le_refl _, Nat.le_refl _⟩ hN ?_
  refine xw_if_neZ (pc := 11) (b := v6.1) (tgt := 25) C dX8_load_11 (by decide) (fun q => ?_) (fun q => ?_)
  · replace hm := xif_t q hm
    refine xw_aload_n (pc := 25) (i := 0) (x := x0) C dX8_load_25 rfl rfl ?_
    obtain ⟨v8, q9, hm⟩ := xbind hm
    refine xw_getR (pc := 26) C dX8_load_26 fl_X8_19 q9 ?_
    refine xw_aload_n (pc := 29) (i := 0) (x := x0) C dX8_load_29 rfl rfl ?_
    obtain ⟨v10, q11, hm⟩ := xbind hm
    refine xw_getR (pc := 30) C dX8_load_30 fl_X8_10 q11 ?_
    obtain ⟨_, q12, hm⟩ := xbind hm
    obtain ⟨h13, q14, hm⟩ := xbind hm
    refine xw_callV0 (pc := 33) (As := [.ref v10]) (st := []) C dX8_load_33 (wX3_remember q14) dd_X3_remember lk_X8_63 dv_X3_remember (xco_spec q12) rfl (Nat.le_of_ble_eq_true rfl) (Nat.le_of_ble_eq_true rfl) (Nat.le_of_ble_eq_true rfl) ⟨Nat.le_refl _, Nat.le_refl _⟩ hN ?_
    refine xw_aload_n (pc := 36) (i := 0) (x := x0) C dX8_load_36 rfl rfl ?_
    obtain ⟨v15, q16, hm⟩ := xbind hm
    refine xw_getR (pc := 37) C dX8_load_37 fl_X8_10 q16 ?_
    obtain ⟨v17, q18, hm⟩ := xbind hm
    refine xw_getR (pc := 40) C dX8_load_40 fl_X8_67 q18 ?_
    refine xw_aload_n (pc := 43) (i := 0) (x := x0) C dX8_load_43 rfl rfl ?_
    obtain ⟨v19, q20, hm⟩ := xbind hm
    refine xw_getR (pc := 44) C dX8_load_44 fl_X8_33 q20 ?_
    obtain ⟨_, q21, hm⟩ := xbind hm
    obtain ⟨h22, q23, hm⟩ := xbind hm
    refine xw_callV0 (pc := 47) (As := [.ref v19]) (st := []) C dX8_load_47 (wX6_copyFrom q23) dd_X6_copyFrom lk_X8_70 dv_X6_copyFrom (xco_spec q21) rfl (Nat.le_of_ble_eq_true rfl) (Nat.le_of_ble_eq_true rfl) (Nat.le_of_ble_eq_true rfl) ⟨Nat.le_refl _, Nat.le_refl _⟩ hN ?_
    refine xw_aload_n (pc := 50) (i := 0) (x := x0) C dX8_load_50 rfl rfl ?_
    obtain ⟨v24, q25, hm⟩ := xbind hm
    refine xw_getR (pc := 51) C dX8_load_51 fl_X8_10 q25 ?_
    obtain ⟨v26, q27, hm⟩ := xbind hm
    refine xw_getR (pc := 54) C dX8_load_54 fl_X8_67 q27 ?_
    obtain ⟨v28, q29, hm⟩ := xbind hm
    refine xw_getI (pc := 57) C dX8_load_57 fl_X8_74 q29 ?_
    obtain rfl := Option.some.inj hm
    exact xw_ireturn (pc := 60) C dX8_load_60 rfl hX
  · replace hm := xif_f q hm
    refine xw_bipush (pc := 14) (v := -10) C dX8_load_14 xk_b_m10 ?_
    refine xw_aload_n (pc := 16) (i := 0) (x := x0) C dX8_load_16 rfl rfl ?_
    obtain ⟨v30, q31, hm⟩ := xbind hm
    refine xw_getR (pc := 17) C dX8_load_17 fl_X8_26 q31 ?_
    obtain ⟨v32, q33, hm⟩ := xbind hm
    refine xw_getI (pc := 20) C dX8_load_20 fl_X8_60 q33 ?_
    refine xw_isub (pc := 23) C dX8_load_23 ?_
    obtain rfl := Option.some.inj hm
    exact xw_ireturn (pc := 24) C dX8_load_24 rfl hX
set_option maxHeartbeats 4000000 in
set_option maxRecDepth 100000 in
theorem wX7_append {l : Launch} {n sl : Nat} {h : XH} {x0 : Nat} {x1 : Int32} {o : XH} (hm : fX7_append h x0 x1 = some o) : XM l yX7_append cX7_append 2 none 1 22 [.ref x0, .int x1] h n sl none o n sl := by
  refine xm_of pnX7 [some (.ref x0), some (.int x1)] 0 rfl (Nat.le_of_ble_eq_true rfl) ?_
  intro X hT C
  replace C : XOK X RX7 cX7_append 2 "append" none 1 22 := C
  obtain ⟨-, hN, hX⟩ := hT
  unfold fX7_append at hm
  refine xw_aload_n (pc := 0) (i := 0) (x := x0) C dX7_append_0 rfl rfl ?_
  obtain ⟨v1, q2, hm⟩ := xbind hm
  refine xw_getR (pc := 1) C dX7_append_1 fl_X7_9 q2 ?_
  refine xw_aload_n (pc := 4) (i := 0) (x := x0) C dX7_append_4 rfl rfl ?_
  obtain ⟨v3, q4, hm⟩ := xbind hm
  refine xw_getI (pc := 5) C dX7_append_5 fl_X7_19 q4 ?_
  refine xw_iload_n (pc := 8) (i := 1) (x := x1) C dX7_append_8 rfl rfl ?_
  obtain ⟨h5, q6, hm⟩ := xbind hm
  refine xw_callSN0 (pc := 9) (As := [.ref v1, .int v3, .int x1]) (st := []) C dX7_append_9 (wX8_put q6) dd_X8_put lk_X7_22 ds_X8_put rfl (Nat.le_of_ble_eq_true rfl) (Nat.le_of_ble_eq_true rfl) (Nat.le_of_ble_eq_true rfl) ⟨Nat.le_refl _, Nat.le_refl _⟩ hN ?_
  refine xw_aload_n (pc := 12) (i := 0) (x := x0) C dX7_append_12 rfl rfl ?_
  refine xw_dup (pc := 13) C dX7_append_13 rfl ?_
  obtain ⟨v7, q8, hm⟩ := xbind hm
  refine xw_getI (pc := 14) C dX7_append_14 fl_X7_19 q8 ?_
  refine xw_iconst (pc := 17) (v := 1) C dX7_append_17 xk_i_1 ?_
  refine xw_iadd (pc := 18) C dX7_append_18 ?_
  obtain ⟨h9, q10, hm⟩ := xbind hm
  refine xw_put (pc := 19) C dX7_append_19 fl_X7_19 q10 (fun _ => rfl) (fun _ => rfl) ?_
  obtain rfl := Option.some.inj hm
  exact xw_return (pc := 22) C dX7_append_22 rfl hX
set_option maxHeartbeats 4000000 in
set_option maxRecDepth 100000 in
theorem wX8_type {l : Launch} {n sl : Nat} {h : XH} {x0 : Nat} {x1 : Int32} {o : Int32 × XH} (hm : fX8_type h x0 x1 = some o) : XM l yX8_type cX8_type 2 (some .int) 2 43 [.ref x0, .int x1] h n sl (some (.int o.1)) o.2 n sl := by
  refine xm_of pnX8 [some (.ref x0), some (.int x1)] 0 rfl (Nat.le_of_ble_eq_true rfl) ?_
  intro X hT C
  replace C : XOK X RX8 cX8_type 2 "type" (some .int) 2 43 := C
  obtain ⟨-, hN, hX⟩ := hT
  unfold fX8_type at hm
  refine xw_iload_n (pc := 0) (i := 1) (x := x1) C dX8_type_0 rfl rfl ?_
  refine xw_bipush (pc := 1) (v := 32) C dX8_type_1 xk_b_32 ?_
  refine xw_bipush (pc := 3) (v := 126) C dX8_type_3 xk_b_126 ?_
  obtain ⟨v1, q2, hm⟩ := xbind hm
  refine xw_callS1 (pc := 5) (As := [.int x1, .int (32 : Int32), .int (126 : Int32)]) (st := []) C dX8_type_5 (wX8_within q2) dd_X8_within lk_X8_44 ds_X8_within rfl (Nat.le_of_ble_eq_true rfl) (Nat.le_of_ble_eq_true rfl) (Nat.le_of_ble_eq_true rfl) ⟨Nat.le_refl _, Nat.le_refl _⟩ hN ?_
  refine xw_if_neZ (pc := 8) (b := v1) (tgt := 15) C dX8_type_8 (by decide) (fun q => ?_) (fun q => ?_)
  · replace hm := xif_t q hm
    refine xw_aload_n (pc := 15) (i := 0) (x := x0) C dX8_type_15 rfl rfl ?_
    obtain ⟨v3, q4, hm⟩ := xbind hm
    refine xw_getR (pc := 16) C dX8_type_16 fl_X8_26 q4 ?_
    obtain ⟨v5, q6, hm⟩ := xbind hm
    refine xw_getI (pc := 19) C dX8_type_19 fl_X8_48 q6 ?_
    refine xw_bipush (pc := 22) (v := 80) C dX8_type_22 xk_b_80 ?_
    refine xw_icmp_lt (pc := 24) (tgt := 31) C dX8_type_24 (by decide) (fun q => ?_) (fun q => ?_)
    · replace hm := xif_t q hm
      refine xw_aload_n (pc := 31) (i := 0) (x := x0) C dX8_type_31 rfl rfl ?_
      obtain ⟨v7, q8, hm⟩ := xbind hm
      refine xw_getR (pc := 32) C dX8_type_32 fl_X8_26 q8 ?_
      refine xw_iload_n (pc := 35) (i := 1) (x := x1) C dX8_type_35 rfl rfl ?_
      obtain ⟨_, q9, hm⟩ := xbind hm
      obtain ⟨h10, q11, hm⟩ := xbind hm
      refine xw_callV0 (pc := 36) (As := [.int x1]) (st := []) C dX8_type_36 (wX7_append q11) dd_X7_append lk_X8_52 dv_X7_append (xco_spec q9) rfl (Nat.le_of_ble_eq_true rfl) (Nat.le_of_ble_eq_true rfl) (Nat.le_of_ble_eq_true rfl) ⟨Nat.le_refl _, Nat.le_refl _⟩ hN ?_
      refine xw_aload_n (pc := 39) (i := 0) (x := x0) C dX8_type_39 rfl rfl ?_
      obtain ⟨v12, q13, hm⟩ := xbind hm
      refine xw_getR (pc := 40) C dX8_type_40 fl_X8_26 q13 ?_
      obtain ⟨v14, q15, hm⟩ := xbind hm
      refine xw_getI (pc := 43) C dX8_type_43 fl_X8_48 q15 ?_
      obtain rfl := Option.some.inj hm
      exact xw_ireturn (pc := 46) C dX8_type_46 rfl hX
    · replace hm := xif_f q hm
      refine xw_sipush (pc := 27) (v := -1003) C dX8_type_27 xk_s_m1003 ?_
      obtain rfl := Option.some.inj hm
      exact xw_ireturn (pc := 30) C dX8_type_30 rfl hX
  · replace hm := xif_f q hm
    refine xw_sipush (pc := 11) (v := -1001) C dX8_type_11 xk_s_m1001 ?_
    obtain rfl := Option.some.inj hm
    exact xw_ireturn (pc := 14) C dX8_type_14 rfl hX
set_option maxHeartbeats 4000000 in
set_option maxRecDepth 100000 in
theorem wX0_init {l : Launch} {n sl : Nat} {h : XH} {x0 : Nat} {o : XH} (hm : fX0_init h n x0 = some o) : XM l yX0_init cX0_init 1 none 1 20 [.ref x0] h n sl none o (n + 2) (sl + 120) := by
  refine xm_of pnX0 [some (.ref x0)] 0 rfl (Nat.le_of_ble_eq_true rfl) ?_
  intro X hT C
  replace C : XOK X RX0 cX0_init 1 "<init>" none 1 20 := C
  obtain ⟨-, hN, hX⟩ := hT
  unfold fX0_init at hm
  refine xw_aload_n (pc := 0) (i := 0) (x := x0) C dX0_init_0 rfl rfl ?_
  refine xw_objInit (pc := 1) C dX0_init_1 lk_X0_3 oi_inst oi_code (Nat.le_of_ble_eq_true rfl) (Nat.le_of_ble_eq_true rfl) ?_
  refine xw_aload_n (pc := 4) (i := 0) (x := x0) C dX0_init_4 rfl rfl ?_
  refine xw_bipush (pc := 5) (v := 60) C dX0_init_5 xk_b_60 ?_
  obtain ⟨h1, q2, hm⟩ := xbind hm
  refine xw_newIB (pc := 7) (N := 60) C dX0_init_7 ar_int (by decide) (by decide) (Nat.le_of_ble_eq_true rfl) ⟨by have := hN.1; omega, by have := hN.2; omega⟩ q2 ?_
  obtain ⟨h3, q4, hm⟩ := xbind hm
  refine xw_putF (pc := 9) C dX0_init_9 fl_X0_9 q4 rfl rfl (fun _ => rfl) (fun _ => rfl) ?_
  refine xw_aload_n (pc := 12) (i := 0) (x := x0) C dX0_init_12 rfl rfl ?_
  refine xw_bipush (pc := 13) (v := 60) C dX0_init_13 xk_b_60 ?_
  obtain ⟨h5, q6, hm⟩ := xbind hm
  refine xw_newIB (pc := 15) (N := 60) C dX0_init_15 ar_int (by decide) (by decide) (Nat.le_of_ble_eq_true rfl) ⟨by have := hN.1; omega, by have := hN.2; omega⟩ q6 ?_
  obtain ⟨h7, q8, hm⟩ := xbind hm
  refine xw_putF (pc := 17) C dX0_init_17 fl_X0_15 q8 rfl rfl (fun _ => rfl) (fun _ => rfl) ?_
  obtain rfl := Option.some.inj hm
  exact xw_return (pc := 20) C dX0_init_20 rfl hX
set_option maxHeartbeats 4000000 in
set_option maxRecDepth 100000 in
theorem wX1_init {l : Launch} {n sl : Nat} {h : XH} {x0 : Nat} {o : XH} (hm : fX1_init h x0 = some o) : XM l yX1_init cX1_init 1 none 1 20 [.ref x0] h n sl none o n sl := by
  refine xm_of pnX1 [some (.ref x0)] 0 rfl (Nat.le_of_ble_eq_true rfl) ?_
  intro X hT C
  replace C : XOK X RX1 cX1_init 1 "<init>" none 1 20 := C
  obtain ⟨-, hN, hX⟩ := hT
  unfold fX1_init at hm
  refine xw_aload_n (pc := 0) (i := 0) (x := x0) C dX1_init_0 rfl rfl ?_
  refine xw_objInit (pc := 1) C dX1_init_1 lk_X1_3 oi_inst oi_code (Nat.le_of_ble_eq_true rfl) (Nat.le_of_ble_eq_true rfl) ?_
  refine xw_aload_n (pc := 4) (i := 0) (x := x0) C dX1_init_4 rfl rfl ?_
  refine xw_iconst (pc := 5) (v := 1) C dX1_init_5 xk_i_1 ?_
  obtain ⟨h1, q2, hm⟩ := xbind hm
  refine xw_put (pc := 6) C dX1_init_6 fl_X1_9 q2 (fun _ => rfl) (fun _ => rfl) ?_
  refine xw_aload_n (pc := 9) (i := 0) (x := x0) C dX1_init_9 rfl rfl ?_
  refine xw_iconst (pc := 10) (v := 1) C dX1_init_10 xk_i_1 ?_
  obtain ⟨h3, q4, hm⟩ := xbind hm
  refine xw_put (pc := 11) C dX1_init_11 fl_X1_15 q4 (fun _ => rfl) (fun _ => rfl) ?_
  obtain rfl := Option.some.inj hm
  exact xw_return (pc := 14) C dX1_init_14 rfl hX
set_option maxHeartbeats 4000000 in
set_option maxRecDepth 100000 in
theorem wX2_init {l : Launch} {n sl : Nat} {h : XH} {x0 : Nat} {o : XH} (hm : fX2_init h x0 = some o) : XM l yX2_init cX2_init 1 none 1 20 [.ref x0] h n sl none o n sl := by
  refine xm_of pnX2 [some (.ref x0)] 0 rfl (Nat.le_of_ble_eq_true rfl) ?_
  intro X hT C
  replace C : XOK X RX2 cX2_init 1 "<init>" none 1 20 := C
  obtain ⟨-, hN, hX⟩ := hT
  unfold fX2_init at hm
  refine xw_aload_n (pc := 0) (i := 0) (x := x0) C dX2_init_0 rfl rfl ?_
  refine xw_objInit (pc := 1) C dX2_init_1 lk_X2_3 oi_inst oi_code (Nat.le_of_ble_eq_true rfl) (Nat.le_of_ble_eq_true rfl) ?_
  refine xw_aload_n (pc := 4) (i := 0) (x := x0) C dX2_init_4 rfl rfl ?_
  refine xw_iconst (pc := 5) (v := 1) C dX2_init_5 xk_i_1 ?_
  obtain ⟨h1, q2, hm⟩ := xbind hm
  refine xw_put (pc := 6) C dX2_init_6 fl_X2_9 q2 (fun _ => rfl) (fun _ => rfl) ?_
  obtain rfl := Option.some.inj hm
  exact xw_return (pc := 9) C dX2_init_9 rfl hX
set_option maxHeartbeats 4000000 in
set_option maxRecDepth 100000 in
theorem wX4_init {l : Launch} {n sl : Nat} {h : XH} {x0 : Nat} {o : XH} (hm : fX4_init h n x0 = some o) : XM l yX4_init cX4_init 1 none 1 20 [.ref x0] h n sl none o (n + 2) (sl + 16) := by
  refine xm_of pnX4 [some (.ref x0)] 0 rfl (Nat.le_of_ble_eq_true rfl) ?_
  intro X hT C
  replace C : XOK X RX4 cX4_init 1 "<init>" none 1 20 := C
  obtain ⟨-, hN, hX⟩ := hT
  unfold fX4_init at hm
  refine xw_aload_n (pc := 0) (i := 0) (x := x0) C dX4_init_0 rfl rfl ?_
  refine xw_objInit (pc := 1) C dX4_init_1 lk_X4_3 oi_inst oi_code (Nat.le_of_ble_eq_true rfl) (Nat.le_of_ble_eq_true rfl) ?_
  refine xw_aload_n (pc := 4) (i := 0) (x := x0) C dX4_init_4 rfl rfl ?_
  refine xw_bipush (pc := 5) (v := 8) C dX4_init_5 xk_b_8 ?_
  obtain ⟨h1, q2, hm⟩ := xbind hm
  refine xw_newIB (pc := 7) (N := 8) C dX4_init_7 ar_int (by decide) (by decide) (Nat.le_of_ble_eq_true rfl) ⟨by have := hN.1; omega, by have := hN.2; omega⟩ q2 ?_
  obtain ⟨h3, q4, hm⟩ := xbind hm
  refine xw_putF (pc := 9) C dX4_init_9 fl_X4_9 q4 rfl rfl (fun _ => rfl) (fun _ => rfl) ?_
  refine xw_aload_n (pc := 12) (i := 0) (x := x0) C dX4_init_12 rfl rfl ?_
  refine xw_bipush (pc := 13) (v := 8) C dX4_init_13 xk_b_8 ?_
  obtain ⟨h5, q6, hm⟩ := xbind hm
  refine xw_newIB (pc := 15) (N := 8) C dX4_init_15 ar_int (by decide) (by decide) (Nat.le_of_ble_eq_true rfl) ⟨by have := hN.1; omega, by have := hN.2; omega⟩ q6 ?_
  obtain ⟨h7, q8, hm⟩ := xbind hm
  refine xw_putF (pc := 17) C dX4_init_17 fl_X4_15 q8 rfl rfl (fun _ => rfl) (fun _ => rfl) ?_
  refine xw_aload_n (pc := 20) (i := 0) (x := x0) C dX4_init_20 rfl rfl ?_
  refine xw_bipush (pc := 21) (v := 100) C dX4_init_21 xk_b_100 ?_
  obtain ⟨h9, q10, hm⟩ := xbind hm
  refine xw_put (pc := 23) C dX4_init_23 fl_X4_18 q10 (fun _ => rfl) (fun _ => rfl) ?_
  obtain rfl := Option.some.inj hm
  exact xw_return (pc := 26) C dX4_init_26 rfl hX
def fX6_init_P34 (X : XCtx) (x0 : Nat) (n sl : Nat) (s : (XH × Int32)) : Prop := XW X 34 [some (.ref x0), some (.int s.2)] [] s.1 n sl
def fX6_init_E34 (X : XCtx) (x0 : Nat) (n sl : Nat) (e : XH) : Prop := XW X 57 [none, none] [] e n sl
set_option maxHeartbeats 4000000 in
set_option maxRecDepth 100000 in
theorem fX6_init_B34_w {X : XCtx} (C : XOK X RX6 cX6_init 2 "<init>" none 1 22) {n sl : Nat} (hN : XN X n sl) {x0 : Nat} (s : (XH × Int32)) (o : (XH × Int32) ⊕ XH) (hm : fX6_init_B34 x0 s = some o) (hc : ∀ s', o = .inl s' → fX6_init_P34 X x0 n sl s') (he : ∀ e', o = .inr e' → fX6_init_E34 X x0 n sl e') : fX6_init_P34 X x0 n sl s := by
  obtain ⟨h, x1⟩ := s
  show XW X 34 [some (.ref x0), some (.int x1)] [] h n sl
  replace hm : fX6_init_b34 x0 h x1 = some o := hm
  unfold fX6_init_b34 at hm
  refine xw_iload_n (pc := 34) (i := 1) (x := x1) C dX6_init_34 rfl rfl ?_
  refine xw_aload_n (pc := 35) (i := 0) (x := x0) C dX6_init_35 rfl rfl ?_
  obtain ⟨v15, q16, hm⟩ := xbind hm
  refine xw_getI (pc := 36) C dX6_init_36 fl_X6_21 q16 ?_
  refine xw_icmp_ge (pc := 39) (tgt := 57) C dX6_init_39 (by decide) (fun q => ?_) (fun q => ?_)
  · replace hm := xif_t q hm
    obtain rfl := Option.some.inj hm
    refine xw_sub (pc := 57) _ ?_ (he _ rfl)
    exact ⟨Or.inl rfl, Or.inl rfl, trivial⟩
  · replace hm := xif_f q hm
    refine xw_aload_n (pc := 42) (i := 0) (x := x0) C dX6_init_42 rfl rfl ?_
    obtain ⟨v17, q18, hm⟩ := xbind hm
    refine xw_getR (pc := 43) C dX6_init_43 fl_X6_9 q18 ?_
    refine xw_iload_n (pc := 46) (i := 1) (x := x1) C dX6_init_46 rfl rfl ?_
    refine xw_iconst (pc := 47) (v := 1) C dX6_init_47 xk_i_1 ?_
    obtain ⟨h19, q20, hm⟩ := xbind hm
    refine xw_callSN0 (pc := 48) (As := [.ref v17, .int x1, .int (1 : Int32)]) (st := []) C dX6_init_48 (wX8_put q20) dd_X8_put lk_X6_25 ds_X8_put rfl (Nat.le_of_ble_eq_true rfl) (Nat.le_of_ble_eq_true rfl) (Nat.le_of_ble_eq_true rfl) ⟨Nat.le_refl _, Nat.le_refl _⟩ ⟨by have := hN.1; omega, by have := hN.2; omega⟩ ?_
    refine xw_iinc (pc := 51) (i := 1) (x := x1) (v := (x1 + (3 : Int32))) (L' := [some (.ref x0), some (.int (x1 + (3 : Int32)))]) C dX6_init_51 rfl (congrArg (HAdd.hAdd _) xk_i_3) (Nat.le_of_ble_eq_true rfl) rfl ?_
    refine xw_goto (pc := 54) (tgt := 34) C dX6_init_54 (by decide) ?_
    obtain rfl := Option.some.inj hm
    refine xw_sub (pc := 34) _ ?_ (hc _ rfl)
    exact ⟨Or.inr rfl, Or.inr rfl, trivial⟩
set_option maxHeartbeats 4000000 in
set_option maxRecDepth 100000 in
theorem wX6_init {l : Launch} {n sl : Nat} {h : XH} {x0 : Nat} {o : XH} (hm : fX6_init h n x0 = some o) : XM l yX6_init cX6_init 2 none 1 22 [.ref x0] h n sl none o (n + 3) (sl + 70) := by
  refine xm_of pnX6 [some (.ref x0), none] 1 rfl (Nat.le_of_ble_eq_true rfl) ?_
  intro X hT C
  replace C : XOK X RX6 cX6_init 2 "<init>" none 1 22 := C
  obtain ⟨-, hN, hX⟩ := hT
  unfold fX6_init at hm
  refine xw_aload_n (pc := 0) (i := 0) (x := x0) C dX6_init_0 rfl rfl ?_
  refine xw_objInit (pc := 1) C dX6_init_1 lk_X6_3 oi_inst oi_code (Nat.le_of_ble_eq_true rfl) (Nat.le_of_ble_eq_true rfl) ?_
  refine xw_aload_n (pc := 4) (i := 0) (x := x0) C dX6_init_4 rfl rfl ?_
  refine xw_bipush (pc := 5) (v := 60) C dX6_init_5 xk_b_60 ?_
  obtain ⟨h1, q2, hm⟩ := xbind hm
  refine xw_newIB (pc := 7) (N := 60) C dX6_init_7 ar_int (by decide) (by decide) (Nat.le_of_ble_eq_true rfl) ⟨by have := hN.1; omega, by have := hN.2; omega⟩ q2 ?_
  obtain ⟨h3, q4, hm⟩ := xbind hm
  refine xw_putF (pc := 9) C dX6_init_9 fl_X6_9 q4 rfl rfl (fun _ => rfl) (fun _ => rfl) ?_
  refine xw_aload_n (pc := 12) (i := 0) (x := x0) C dX6_init_12 rfl rfl ?_
  refine xw_iconst (pc := 13) (v := 5) C dX6_init_13 xk_i_5 ?_
  obtain ⟨h5, q6, hm⟩ := xbind hm
  refine xw_newIB (pc := 14) (N := 5) C dX6_init_14 ar_int (by decide) (by decide) (Nat.le_of_ble_eq_true rfl) ⟨by have := hN.1; omega, by have := hN.2; omega⟩ q6 ?_
  obtain ⟨h7, q8, hm⟩ := xbind hm
  refine xw_putF (pc := 16) C dX6_init_16 fl_X6_15 q8 rfl rfl (fun _ => rfl) (fun _ => rfl) ?_
  refine xw_aload_n (pc := 19) (i := 0) (x := x0) C dX6_init_19 rfl rfl ?_
  refine xw_iconst (pc := 20) (v := 5) C dX6_init_20 xk_i_5 ?_
  obtain ⟨h9, q10, hm⟩ := xbind hm
  refine xw_newIB (pc := 21) (N := 5) C dX6_init_21 ar_int (by decide) (by decide) (Nat.le_of_ble_eq_true rfl) ⟨by have := hN.1; omega, by have := hN.2; omega⟩ q10 ?_
  obtain ⟨h11, q12, hm⟩ := xbind hm
  refine xw_putF (pc := 23) C dX6_init_23 fl_X6_18 q12 rfl rfl (fun _ => rfl) (fun _ => rfl) ?_
  refine xw_aload_n (pc := 26) (i := 0) (x := x0) C dX6_init_26 rfl rfl ?_
  refine xw_bipush (pc := 27) (v := 12) C dX6_init_27 xk_b_12 ?_
  obtain ⟨h13, q14, hm⟩ := xbind hm
  refine xw_put (pc := 29) C dX6_init_29 fl_X6_21 q14 (fun _ => rfl) (fun _ => rfl) ?_
  refine xw_iconst (pc := 32) (v := 0) C dX6_init_32 xk_i_0 ?_
  refine xw_istore_n (pc := 33) (i := 1) (x := (0 : Int32)) (L' := [some (.ref x0), some (.int (0 : Int32))]) C dX6_init_33 rfl (Nat.le_of_ble_eq_true rfl) rfl ?_
  obtain ⟨e21, q22, hm⟩ := xbind hm
  refine xw_sub (pc := 34) [some (.ref x0), some (.int (0 : Int32))] ⟨Or.inr rfl, Or.inr rfl, trivial⟩ ?_
  refine xloop_walk (fX6_init_B34 x0) (fX6_init_P34 X x0 (n + 3) (sl + 70)) (fX6_init_E34 X x0 (n + 3) (sl + 70)) (fun s' o' => fX6_init_B34_w C (n := (n + 3)) (sl := (sl + 70)) ⟨by have := hN.1; omega, by have := hN.2; omega⟩ s' o') 5000 (h13, (0 : Int32)) e21 q22 ?_
  show XW X 57 [none, none] [] e21 (n + 3) (sl + 70)
  obtain rfl := Option.some.inj hm
  exact xw_return (pc := 57) C dX6_init_57 rfl hX
set_option maxHeartbeats 4000000 in
set_option maxRecDepth 100000 in
theorem wX5_init {l : Launch} {n sl : Nat} {h : XH} {x0 : Nat} {o : XH} (hm : fX5_init h n x0 = some o) : XM l yX5_init cX5_init 1 none 2 43 [.ref x0] h n sl none o (n + 9) (sl + 103) := by
  refine xm_of pnX5 [some (.ref x0)] 0 rfl (Nat.le_of_ble_eq_true rfl) ?_
  intro X hT C
  replace C : XOK X RX5 cX5_init 1 "<init>" none 2 43 := C
  obtain ⟨-, hN, hX⟩ := hT
  unfold fX5_init at hm
  refine xw_aload_n (pc := 0) (i := 0) (x := x0) C dX5_init_0 rfl rfl ?_
  refine xw_objInit (pc := 1) C dX5_init_1 lk_X5_1 oi_inst oi_code (Nat.le_of_ble_eq_true rfl) (Nat.le_of_ble_eq_true rfl) ?_
  refine xw_aload_n (pc := 4) (i := 0) (x := x0) C dX5_init_4 rfl rfl ?_
  obtain ⟨h1, q2, hm⟩ := xbind hm
  refine xw_newB (pc := 5) C dX5_init_5 cl_X5_7 nw_X6 ⟨by have := hN.1; omega, by have := hN.2; omega⟩ q2 ?_
  refine xw_dup (pc := 8) C dX5_init_8 rfl ?_
  obtain ⟨h3, q4, hm⟩ := xbind hm
  refine xw_callI0 (pc := 9) (As := []) (st := [.ref n, .ref x0]) C dX5_init_9 (wX6_init q4) dd_X6_init lk_X5_9 di_X6_init rfl rfl (Nat.le_of_ble_eq_true rfl) (Nat.le_of_ble_eq_true rfl) (Nat.le_of_ble_eq_true rfl) ⟨Nat.le_add_right _ _, Nat.le_add_right _ _⟩ ⟨by have := hN.1; omega, by have := hN.2; omega⟩ ?_
  obtain ⟨h5, q6, hm⟩ := xbind hm
  refine xw_putF (pc := 12) C dX5_init_12 fl_X5_10 q6 rfl rfl (fun _ => rfl) (fun _ => rfl) ?_
  refine xw_aload_n (pc := 15) (i := 0) (x := x0) C dX5_init_15 rfl rfl ?_
  obtain ⟨h7, q8, hm⟩ := xbind hm
  refine xw_newB (pc := 16) C dX5_init_16 cl_X5_16 nw_X2 ⟨by have := hN.1; omega, by have := hN.2; omega⟩ q8 ?_
  refine xw_dup (pc := 19) C dX5_init_19 rfl ?_
  obtain ⟨h9, q10, hm⟩ := xbind hm
  refine xw_callIN0 (pc := 20) (As := []) (st := [.ref (n + 4), .ref x0]) C dX5_init_20 (wX2_init q10) dd_X2_init lk_X5_18 di_X2_init rfl rfl (Nat.le_of_ble_eq_true rfl) (Nat.le_of_ble_eq_true rfl) (Nat.le_of_ble_eq_true rfl) ⟨Nat.le_refl _, Nat.le_refl _⟩ ⟨by have := hN.1; omega, by have := hN.2; omega⟩ ?_
  obtain ⟨h11, q12, hm⟩ := xbind hm
  refine xw_putF (pc := 23) C dX5_init_23 fl_X5_19 q12 rfl rfl (fun _ => rfl) (fun _ => rfl) ?_
  refine xw_aload_n (pc := 26) (i := 0) (x := x0) C dX5_init_26 rfl rfl ?_
  obtain ⟨h13, q14, hm⟩ := xbind hm
  refine xw_newB (pc := 27) C dX5_init_27 cl_X5_23 nw_X4 ⟨by have := hN.1; omega, by have := hN.2; omega⟩ q14 ?_
  refine xw_dup (pc := 30) C dX5_init_30 rfl ?_
  obtain ⟨h15, q16, hm⟩ := xbind hm
  refine xw_callIN0 (pc := 31) (As := []) (st := [.ref (n + 5), .ref x0]) C dX5_init_31 (wX4_init q16) dd_X4_init lk_X5_25 di_X4_init rfl rfl (Nat.le_of_ble_eq_true rfl) (Nat.le_of_ble_eq_true rfl) (Nat.le_of_ble_eq_true rfl) ⟨Nat.le_add_right _ _, Nat.le_add_right _ _⟩ ⟨by have := hN.1; omega, by have := hN.2; omega⟩ ?_
  obtain ⟨h17, q18, hm⟩ := xbind hm
  refine xw_putF (pc := 34) C dX5_init_34 fl_X5_26 q18 rfl rfl (fun _ => rfl) (fun _ => rfl) ?_
  refine xw_aload_n (pc := 37) (i := 0) (x := x0) C dX5_init_37 rfl rfl ?_
  obtain ⟨h19, q20, hm⟩ := xbind hm
  refine xw_newB (pc := 38) C dX5_init_38 cl_X5_30 nw_X1 ⟨by have := hN.1; omega, by have := hN.2; omega⟩ q20 ?_
  refine xw_dup (pc := 41) C dX5_init_41 rfl ?_
  obtain ⟨h21, q22, hm⟩ := xbind hm
  refine xw_callIN0 (pc := 42) (As := []) (st := [.ref (n + 8), .ref x0]) C dX5_init_42 (wX1_init q22) dd_X1_init lk_X5_32 di_X1_init rfl rfl (Nat.le_of_ble_eq_true rfl) (Nat.le_of_ble_eq_true rfl) (Nat.le_of_ble_eq_true rfl) ⟨Nat.le_refl _, Nat.le_refl _⟩ ⟨by have := hN.1; omega, by have := hN.2; omega⟩ ?_
  obtain ⟨h23, q24, hm⟩ := xbind hm
  refine xw_putF (pc := 45) C dX5_init_45 fl_X5_33 q24 rfl rfl (fun _ => rfl) (fun _ => rfl) ?_
  obtain rfl := Option.some.inj hm
  exact xw_return (pc := 48) C dX5_init_48 rfl hX
