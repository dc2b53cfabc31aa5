set_option maxHeartbeats 4000000 in
set_option maxRecDepth 100000 in
theorem wX3_init {l : Launch} {n sl : Nat} {h : XH} {x0 : Nat} {o : XH} (hm : fX3_init h n x0 = some o) : XM l yX3_init cX3_init 2 none 3 63 [.ref x0] h n sl none o (n + 81) (sl + 864) := by
  refine xm_of pnX3 [some (.ref x0), none] 1 rfl (Nat.le_of_ble_eq_true rfl) ?_
  intro X hT C
  replace C : XOK X RX3 cX3_init 2 "<init>" none 3 63 := C
  obtain ⟨-, hN, hX⟩ := hT
  unfold fX3_init at hm
  refine xw_aload_n (pc := 0) (i := 0) (x := x0) C dX3_init_0 rfl rfl ?_
  refine xw_objInit (pc := 1) C dX3_init_1 lk_X3_3 oi_inst oi_code (Nat.le_of_ble_eq_true rfl) (Nat.le_of_ble_eq_true rfl) ?_
  refine xw_aload_n (pc := 4) (i := 0) (x := x0) C dX3_init_4 rfl rfl ?_
  refine xw_bipush (pc := 5) (v := 8) C dX3_init_5 xk_b_8 ?_
  obtain ⟨h1, q2, hm⟩ := xbind hm
  refine xw_newQB (pc := 7) (N := 8) C dX3_init_7 cl_X3_9 (by decide) (by decide) (Nat.le_of_ble_eq_true rfl) ⟨by have := hN.1; omega, by have := hN.2; omega⟩ q2 ?_
  obtain ⟨h3, q4, hm⟩ := xbind hm
  refine xw_putF (pc := 10) C dX3_init_10 fl_X3_11 q4 rfl rfl (fun _ => rfl) (fun _ => rfl) ?_
  refine xw_iconst (pc := 13) (v := 0) C dX3_init_13 xk_i_0 ?_
  refine xw_istore_n (pc := 14) (i := 1) (x := (0 : Int32)) (L' := [some (.ref x0), some (.int (0 : Int32))]) C dX3_init_14 rfl (Nat.le_of_ble_eq_true rfl) rfl ?_
  refine xw_iload_n (pc := 15) (i := 1) (x := (0 : Int32)) C dX3_init_15 rfl rfl ?_
  refine xw_aload_n (pc := 16) (i := 0) (x := x0) C dX3_init_16 rfl rfl ?_
  obtain ⟨v5, q6, hm⟩ := xbind hm
  refine xw_getR (pc := 17) C dX3_init_17 fl_X3_11 q6 ?_
  obtain ⟨v7, q8, hm⟩ := xbind hm
  refine xw_alen (pc := 20) C dX3_init_20 q8 ?_
  refine xw_icmp_ge (pc := 21) (tgt := 43) C dX3_init_21 (by decide) (fun q => ?_) (fun q => ?_)
  · replace hm := xif_t q hm
    cases hm
  · replace hm := xif_f q hm
    refine xw_aload_n (pc := 24) (i := 0) (x := x0) C dX3_init_24 rfl rfl ?_
    obtain ⟨v9, q10, hm⟩ := xbind hm
    refine xw_getR (pc := 25) C dX3_init_25 fl_X3_11 q10 ?_
    refine xw_iload_n (pc := 28) (i := 1) (x := (0 : Int32)) C dX3_init_28 rfl rfl ?_
    obtain ⟨h11, q12, hm⟩ := xbind hm
    refine xw_newB (pc := 29) C dX3_init_29 cl_X3_9 nw_X5 ⟨by have := hN.1; omega, by have := hN.2; omega⟩ q12 ?_
    refine xw_dup (pc := 32) C dX3_init_32 rfl ?_
    obtain ⟨h13, q14, hm⟩ := xbind hm
    refine xw_callIN0 (pc := 33) (As := []) (st := [.ref (n + 1), .int (0 : Int32), .ref v9]) C dX3_init_33 (wX5_init q14) dd_X5_init lk_X3_17 di_X5_init rfl rfl (Nat.le_of_ble_eq_true rfl) (Nat.le_of_ble_eq_true rfl) (Nat.le_of_ble_eq_true rfl) ⟨Nat.le_add_right _ _, Nat.le_add_right _ _⟩ ⟨by have := hN.1; omega, by have := hN.2; omega⟩ ?_
    obtain ⟨h15, q16, hm⟩ := xbind hm
    refine xw_aastore (pc := 36) C dX3_init_36 q16 ?_
    refine xw_iinc (pc := 37) (i := 1) (x := (0 : Int32)) (v := (1 : Int32)) (L' := [some (.ref x0), some (.int (1 : Int32))]) C dX3_init_37 rfl (by decide) (Nat.le_of_ble_eq_true rfl) rfl ?_
    refine xw_goto (pc := 40) (tgt := 15) C dX3_init_40 (by decide) ?_
    refine xw_iload_n (pc := 15) (i := 1) (x := (1 : Int32)) C dX3_init_15 rfl rfl ?_
    refine xw_aload_n (pc := 16) (i := 0) (x := x0) C dX3_init_16 rfl rfl ?_
    obtain ⟨v17, q18, hm⟩ := xbind hm
    refine xw_getR (pc := 17) C dX3_init_17 fl_X3_11 q18 ?_
    obtain ⟨v19, q20, hm⟩ := xbind hm
    refine xw_alen (pc := 20) C dX3_init_20 q20 ?_
    refine xw_icmp_ge (pc := 21) (tgt := 43) C dX3_init_21 (by decide) (fun q => ?_) (fun q => ?_)
    · replace hm := xif_t q hm
      cases hm
    · replace hm := xif_f q hm
      refine xw_aload_n (pc := 24) (i := 0) (x := x0) C dX3_init_24 rfl rfl ?_
      obtain ⟨v21, q22, hm⟩ := xbind hm
      refine xw_getR (pc := 25) C dX3_init_25 fl_X3_11 q22 ?_
      refine xw_iload_n (pc := 28) (i := 1) (x := (1 : Int32)) C dX3_init_28 rfl rfl ?_
      obtain ⟨h23, q24, hm⟩ := xbind hm
      refine xw_newB (pc := 29) C dX3_init_29 cl_X3_9 nw_X5 ⟨by have := hN.1; omega, by have := hN.2; omega⟩ q24 ?_
      refine xw_dup (pc := 32) C dX3_init_32 rfl ?_
      obtain ⟨h25, q26, hm⟩ := xbind hm
      refine xw_callIN0 (pc := 33) (As := []) (st := [.ref (n + 11), .int (1 : Int32), .ref v21]) C dX3_init_33 (wX5_init q26) dd_X5_init lk_X3_17 di_X5_init rfl rfl (Nat.le_of_ble_eq_true rfl) (Nat.le_of_ble_eq_true rfl) (Nat.le_of_ble_eq_true rfl) ⟨Nat.le_add_right _ _, Nat.le_add_right _ _⟩ ⟨by have := hN.1; omega, by have := hN.2; omega⟩ ?_
      obtain ⟨h27, q28, hm⟩ := xbind hm
      refine xw_aastore (pc := 36) C dX3_init_36 q28 ?_
      refine xw_iinc (pc := 37) (i := 1) (x := (1 : Int32)) (v := (2 : Int32)) (L' := [some (.ref x0), some (.int (2 : Int32))]) C dX3_init_37 rfl (by decide) (Nat.le_of_ble_eq_true rfl) rfl ?_
      refine xw_goto (pc := 40) (tgt := 15) C dX3_init_40 (by decide) ?_
      refine xw_iload_n (pc := 15) (i := 1) (x := (2 : Int32)) C dX3_init_15 rfl rfl ?_
      refine xw_aload_n (pc := 16) (i := 0) (x := x0) C dX3_init_16 rfl rfl ?_
      obtain ⟨v29, q30, hm⟩ := xbind hm
      refine xw_getR (pc := 17) C dX3_init_17 fl_X3_11 q30 ?_
      obtain ⟨v31, q32, hm⟩ := xbind hm
      refine xw_alen (pc := 20) C dX3_init_20 q32 ?_
      refine xw_icmp_ge (pc := 21) (tgt := 43) C dX3_init_21 (by decide) (fun q => ?_) (fun q => ?_)
      · replace hm := xif_t q hm
        cases hm
      · replace hm := xif_f q hm
        refine xw_aload_n (pc := 24) (i := 0) (x := x0) C dX3_init_24 rfl rfl ?_
        obtain ⟨v33, q34, hm⟩ := xbind hm
        refine xw_getR (pc := 25) C dX3_init_25 fl_X3_11 q34 ?_
        refine xw_iload_n (pc := 28) (i := 1) (x := (2 : Int32)) C dX3_init_28 rfl rfl ?_
        obtain ⟨h35, q36, hm⟩ := xbind hm
        refine xw_newB (pc := 29) C dX3_init_29 cl_X3_9 nw_X5 ⟨by have := hN.1; omega, by have := hN.2; omega⟩ q36 ?_
        refine xw_dup (pc := 32) C dX3_init_32 rfl ?_
        obtain ⟨h37, q38, hm⟩ := xbind hm
        refine xw_callIN0 (pc := 33) (As := []) (st := [.ref (n + 21), .int (2 : Int32), .ref v33]) C dX3_init_33 (wX5_init q38) dd_X5_init lk_X3_17 di_X5_init rfl rfl (Nat.le_of_ble_eq_true rfl) (Nat.le_of_ble_eq_true rfl) (Nat.le_of_ble_eq_true rfl) ⟨Nat.le_add_right _ _, Nat.le_add_right _ _⟩ ⟨by have := hN.1; omega, by have := hN.2; omega⟩ ?_
        obtain ⟨h39, q40, hm⟩ := xbind hm
        refine xw_aastore (pc := 36) C dX3_init_36 q40 ?_
        refine xw_iinc (pc := 37) (i := 1) (x := (2 : Int32)) (v := (3 : Int32)) (L' := [some (.ref x0), some (.int (3 : Int32))]) C dX3_init_37 rfl (by decide) (Nat.le_of_ble_eq_true rfl) rfl ?_
        refine xw_goto (pc := 40) (tgt := 15) C dX3_init_40 (by decide) ?_
        refine xw_iload_n (pc := 15) (i := 1) (x := (3 : Int32)) C dX3_init_15 rfl rfl ?_
        refine xw_aload_n (pc := 16) (i := 0) (x := x0) C dX3_init_16 rfl rfl ?_
        obtain ⟨v41, q42, hm⟩ := xbind hm
        refine xw_getR (pc := 17) C dX3_init_17 fl_X3_11 q42 ?_
        obtain ⟨v43, q44, hm⟩ := xbind hm
        refine xw_alen (pc := 20) C dX3_init_20 q44 ?_
        refine xw_icmp_ge (pc := 21) (tgt := 43) C dX3_init_21 (by decide) (fun q => ?_) (fun q => ?_)
        · replace hm := xif_t q hm
          cases hm
        · replace hm := xif_f q hm
          refine xw_aload_n (pc := 24) (i := 0) (x := x0) C dX3_init_24 rfl rfl ?_
          obtain ⟨v45, q46, hm⟩ := xbind hm
          refine xw_getR (pc := 25) C dX3_init_25 fl_X3_11 q46 ?_
          refine xw_iload_n (pc := 28) (i := 1) (x := (3 : Int32)) C dX3_init_28 rfl rfl ?_
          obtain ⟨h47, q48, hm⟩ := xbind hm
          refine xw_newB (pc := 29) C dX3_init_29 cl_X3_9 nw_X5 ⟨by have := hN.1; omega, by have := hN.2; omega⟩ q48 ?_
          refine xw_dup (pc := 32) C dX3_init_32 rfl ?_
          obtain ⟨h49, q50, hm⟩ := xbind hm
          refine xw_callIN0 (pc := 33) (As := []) (st := [.ref (n + 31), .int (3 : Int32), .ref v45]) C dX3_init_33 (wX5_init q50) dd_X5_init lk_X3_17 di_X5_init rfl rfl (Nat.le_of_ble_eq_true rfl) (Nat.le_of_ble_eq_true rfl) (Nat.le_of_ble_eq_true rfl) ⟨Nat.le_add_right _ _, Nat.le_add_right _ _⟩ ⟨by have := hN.1; omega, by have := hN.2; omega⟩ ?_
          obtain ⟨h51, q52, hm⟩ := xbind hm
          refine xw_aastore (pc := 36) C dX3_init_36 q52 ?_
          refine xw_iinc (pc := 37) (i := 1) (x := (3 : Int32)) (v := (4 : Int32)) (L' := [some (.ref x0), some (.int (4 : Int32))]) C dX3_init_37 rfl (by decide) (Nat.le_of_ble_eq_true rfl) rfl ?_
          refine xw_goto (pc := 40) (tgt := 15) C dX3_init_40 (by decide) ?_
          refine xw_iload_n (pc := 15) (i := 1) (x := (4 : Int32)) C dX3_init_15 rfl rfl ?_
          refine xw_aload_n (pc := 16) (i := 0) (x := x0) C dX3_init_16 rfl rfl ?_
          obtain ⟨v53, q54, hm⟩ := xbind hm
          refine xw_getR (pc := 17) C dX3_init_17 fl_X3_11 q54 ?_
          obtain ⟨v55, q56, hm⟩ := xbind hm
          refine xw_alen (pc := 20) C dX3_init_20 q56 ?_
          refine xw_icmp_ge (pc := 21) (tgt := 43) C dX3_init_21 (by decide) (fun q => ?_) (fun q => ?_)
          · replace hm := xif_t q hm
            cases hm
          · replace hm := xif_f q hm
            refine xw_aload_n (pc := 24) (i := 0) (x := x0) C dX3_init_24 rfl rfl ?_
            obtain ⟨v57, q58, hm⟩ := xbind hm
            refine xw_getR (pc := 25) C dX3_init_25 fl_X3_11 q58 ?_
            refine xw_iload_n (pc := 28) (i := 1) (x := (4 : Int32)) C dX3_init_28 rfl rfl ?_
            obtain ⟨h59, q60, hm⟩ := xbind hm
            refine xw_newB (pc := 29) C dX3_init_29 cl_X3_9 nw_X5 ⟨by have := hN.1; omega, by have := hN.2; omega⟩ q60 ?_
            refine xw_dup (pc := 32) C dX3_init_32 rfl ?_
            obtain ⟨h61, q62, hm⟩ := xbind hm
            refine xw_callIN0 (pc := 33) (As := []) (st := [.ref (n + 41), .int (4 : Int32), .ref v57]) C dX3_init_33 (wX5_init q62) dd_X5_init lk_X3_17 di_X5_init rfl rfl (Nat.le_of_ble_eq_true rfl) (Nat.le_of_ble_eq_true rfl) (Nat.le_of_ble_eq_true rfl) ⟨Nat.le_add_right _ _, Nat.le_add_right _ _⟩ ⟨by have := hN.1; omega, by have := hN.2; omega⟩ ?_
            obtain ⟨h63, q64, hm⟩ := xbind hm
            refine xw_aastore (pc := 36) C dX3_init_36 q64 ?_
            refine xw_iinc (pc := 37) (i := 1) (x := (4 : Int32)) (v := (5 : Int32)) (L' := [some (.ref x0), some (.int (5 : Int32))]) C dX3_init_37 rfl (by decide) (Nat.le_of_ble_eq_true rfl) rfl ?_
            refine xw_goto (pc := 40) (tgt := 15) C dX3_init_40 (by decide) ?_
            refine xw_iload_n (pc := 15) (i := 1) (x := (5 : Int32)) C dX3_init_15 rfl rfl ?_
            refine xw_aload_n (pc := 16) (i := 0) (x := x0) C dX3_init_16 rfl rfl ?_
            obtain ⟨v65, q66, hm⟩ := xbind hm
            refine xw_getR (pc := 17) C dX3_init_17 fl_X3_11 q66 ?_
            obtain ⟨v67, q68, hm⟩ := xbind hm
            refine xw_alen (pc := 20) C dX3_init_20 q68 ?_
            refine xw_icmp_ge (pc := 21) (tgt := 43) C dX3_init_21 (by decide) (fun q => ?_) (fun q => ?_)
            · replace hm := xif_t q hm
              cases hm
            · replace hm := xif_f q hm
              refine xw_aload_n (pc := 24) (i := 0) (x := x0) C dX3_init_24 rfl rfl ?_
              obtain ⟨v69, q70, hm⟩ := xbind hm
              refine xw_getR (pc := 25) C dX3_init_25 fl_X3_11 q70 ?_
              refine xw_iload_n (pc := 28) (i := 1) (x := (5 : Int32)) C dX3_init_28 rfl rfl ?_
              obtain ⟨h71, q72, hm⟩ := xbind hm
              refine xw_newB (pc := 29) C dX3_init_29 cl_X3_9 nw_X5 ⟨by have := hN.1; omega, by have := hN.2; omega⟩ q72 ?_
              refine xw_dup (pc := 32) C dX3_init_32 rfl ?_
              obtain ⟨h73, q74, hm⟩ := xbind hm
              refine xw_callIN0 (pc := 33) (As := []) (st := [.ref (n + 51), .int (5 : Int32), .ref v69]) C dX3_init_33 (wX5_init q74) dd_X5_init lk_X3_17 di_X5_init rfl rfl (Nat.le_of_ble_eq_true rfl) (Nat.le_of_ble_eq_true rfl) (Nat.le_of_ble_eq_true rfl) ⟨Nat.le_add_right _ _, Nat.le_add_right _ _⟩ ⟨by have := hN.1; omega, by have := hN.2; omega⟩ ?_
              obtain ⟨h75, q76, hm⟩ := xbind hm
              refine xw_aastore (pc := 36) C dX3_init_36 q76 ?_
              refine xw_iinc (pc := 37) (i := 1) (x := (5 : Int32)) (v := (6 : Int32)) (L' := [some (.ref x0), some (.int (6 : Int32))]) C dX3_init_37 rfl (by decide) (Nat.le_of_ble_eq_true rfl) rfl ?_
              refine xw_goto (pc := 40) (tgt := 15) C dX3_init_40 (by decide) ?_
              refine xw_iload_n (pc := 15) (i := 1) (x := (6 : Int32)) C dX3_init_15 rfl rfl ?_
              refine xw_aload_n (pc := 16) (i := 0) (x := x0) C dX3_init_16 rfl rfl ?_
              obtain ⟨v77, q78, hm⟩ := xbind hm
              refine xw_getR (pc := 17) C dX3_init_17 fl_X3_11 q78 ?_
              obtain ⟨v79, q80, hm⟩ := xbind hm
              refine xw_alen (pc := 20) C dX3_init_20 q80 ?_
              refine xw_icmp_ge (pc := 21) (tgt := 43) C dX3_init_21 (by decide) (fun q => ?_) (fun q => ?_)
              · replace hm := xif_t q hm
                cases hm
              · replace hm := xif_f q hm
                refine xw_aload_n (pc := 24) (i := 0) (x := x0) C dX3_init_24 rfl rfl ?_
                obtain ⟨v81, q82, hm⟩ := xbind hm
                refine xw_getR (pc := 25) C dX3_init_25 fl_X3_11 q82 ?_
                refine xw_iload_n (pc := 28) (i := 1) (x := (6 : Int32)) C dX3_init_28 rfl rfl ?_
                obtain ⟨h83, q84, hm⟩ := xbind hm
                refine xw_newB (pc := 29) C dX3_init_29 cl_X3_9 nw_X5 ⟨by have := hN.1; omega, by have := hN.2; omega⟩ q84 ?_
                refine xw_dup (pc := 32) C dX3_init_32 rfl ?_
                obtain ⟨h85, q86, hm⟩ := xbind hm
                refine xw_callIN0 (pc := 33) (As := []) (st := [.ref (n + 61), .int (6 : Int32), .ref v81]) C dX3_init_33 (wX5_init q86) dd_X5_init lk_X3_17 di_X5_init rfl rfl (Nat.le_of_ble_eq_true rfl) (Nat.le_of_ble_eq_true rfl) (Nat.le_of_ble_eq_true rfl) ⟨Nat.le_add_right _ _, Nat.le_add_right _ _⟩ ⟨by have := hN.1; omega, by have := hN.2; omega⟩ ?_
                obtain ⟨h87, q88, hm⟩ := xbind hm
                refine xw_aastore (pc := 36) C dX3_init_36 q88 ?_
                refine xw_iinc (pc := 37) (i := 1) (x := (6 : Int32)) (v := (7 : Int32)) (L' := [some (.ref x0), some (.int (7 : Int32))]) C dX3_init_37 rfl (by decide) (Nat.le_of_ble_eq_true rfl) rfl ?_
                refine xw_goto (pc := 40) (tgt := 15) C dX3_init_40 (by decide) ?_
                refine xw_iload_n (pc := 15) (i := 1) (x := (7 : Int32)) C dX3_init_15 rfl rfl ?_
                refine xw_aload_n (pc := 16) (i := 0) (x := x0) C dX3_init_16 rfl rfl ?_
                obtain ⟨v89, q90, hm⟩ := xbind hm
                refine xw_getR (pc := 17) C dX3_init_17 fl_X3_11 q90 ?_
                obtain ⟨v91, q92, hm⟩ := xbind hm
                refine xw_alen (pc := 20) C dX3_init_20 q92 ?_
                refine xw_icmp_ge (pc := 21) (tgt := 43) C dX3_init_21 (by decide) (fun q => ?_) (fun q => ?_)
                · replace hm := xif_t q hm
                  cases hm
                · replace hm := xif_f q hm
                  refine xw_aload_n (pc := 24) (i := 0) (x := x0) C dX3_init_24 rfl rfl ?_
                  obtain ⟨v93, q94, hm⟩ := xbind hm
                  refine xw_getR (pc := 25) C dX3_init_25 fl_X3_11 q94 ?_
                  refine xw_iload_n (pc := 28) (i := 1) (x := (7 : Int32)) C dX3_init_28 rfl rfl ?_
                  obtain ⟨h95, q96, hm⟩ := xbind hm
                  refine xw_newB (pc := 29) C dX3_init_29 cl_X3_9 nw_X5 ⟨by have := hN.1; omega, by have := hN.2; omega⟩ q96 ?_
                  refine xw_dup (pc := 32) C dX3_init_32 rfl ?_
                  obtain ⟨h97, q98, hm⟩ := xbind hm
                  refine xw_callIN0 (pc := 33) (As := []) (st := [.ref (n + 71), .int (7 : Int32), .ref v93]) C dX3_init_33 (wX5_init q98) dd_X5_init lk_X3_17 di_X5_init rfl rfl (Nat.le_of_ble_eq_true rfl) (Nat.le_of_ble_eq_true rfl) (Nat.le_of_ble_eq_true rfl) ⟨Nat.le_add_right _ _, Nat.le_add_right _ _⟩ ⟨by have := hN.1; omega, by have := hN.2; omega⟩ ?_
                  obtain ⟨h99, q100, hm⟩ := xbind hm
                  refine xw_aastore (pc := 36) C dX3_init_36 q100 ?_
                  refine xw_iinc (pc := 37) (i := 1) (x := (7 : Int32)) (v := (8 : Int32)) (L' := [some (.ref x0), some (.int (8 : Int32))]) C dX3_init_37 rfl (by decide) (Nat.le_of_ble_eq_true rfl) rfl ?_
                  refine xw_goto (pc := 40) (tgt := 15) C dX3_init_40 (by decide) ?_
                  refine xw_iload_n (pc := 15) (i := 1) (x := (8 : Int32)) C dX3_init_15 rfl rfl ?_
                  refine xw_aload_n (pc := 16) (i := 0) (x := x0) C dX3_init_16 rfl rfl ?_
                  obtain ⟨v101, q102, hm⟩ := xbind hm
                  refine xw_getR (pc := 17) C dX3_init_17 fl_X3_11 q102 ?_
                  obtain ⟨v103, q104, hm⟩ := xbind hm
                  refine xw_alen (pc := 20) C dX3_init_20 q104 ?_
                  refine xw_icmp_ge (pc := 21) (tgt := 43) C dX3_init_21 (by decide) (fun q => ?_) (fun q => ?_)
                  · replace hm := xif_t q hm
                    obtain rfl := Option.some.inj hm
                    exact xw_return (pc := 43) C dX3_init_43 rfl hX
                  · replace hm := xif_f q hm
                    cases hm
set_option maxHeartbeats 4000000 in
set_option maxRecDepth 100000 in
theorem wX4_add {l : Launch} {n sl : Nat} {h : XH} {x0 : Nat} {x1 : Int32} {x2 : Int32} {o : XH} (hm : fX4_add h x0 x1 x2 = some o) : XM l yX4_add cX4_add 3 none 1 22 [.ref x0, .int x1, .int x2] h n sl none o n sl := by
  refine xm_of pnX4 [some (.ref x0), some (.int x1), some (.int x2)] 0 rfl (Nat.le_of_ble_eq_true rfl) ?_
  intro X hT C
  replace C : XOK X RX4 cX4_add 3 "add" none 1 22 := C
  obtain ⟨-, hN, hX⟩ := hT
  unfold fX4_add at hm
  refine xw_aload_n (pc := 0) (i := 0) (x := x0) C dX4_add_0 rfl rfl ?_
  obtain ⟨v1, q2, hm⟩ := xbind hm
  refine xw_getR (pc := 1) C dX4_add_1 fl_X4_9 q2 ?_
  refine xw_aload_n (pc := 4) (i := 0) (x := x0) C dX4_add_4 rfl rfl ?_
  obtain ⟨v3, q4, hm⟩ := xbind hm
  refine xw_getI (pc := 5) C dX4_add_5 fl_X4_26 q4 ?_
  refine xw_iload_n (pc := 8) (i := 1) (x := x1) C dX4_add_8 rfl rfl ?_
  obtain ⟨h5, q6, hm⟩ := xbind hm
  refine xw_callSN0 (pc := 9) (As := [.ref v1, .int v3, .int x1]) (st := []) C dX4_add_9 (wX8_put q6) dd_X8_put lk_X4_29 ds_X8_put rfl (Nat.le_of_ble_eq_true rfl) (Nat.le_of_ble_eq_true rfl) (Nat.le_of_ble_eq_true rfl) ⟨Nat.le_refl _, Nat.le_refl _⟩ hN ?_
  refine xw_aload_n (pc := 12) (i := 0) (x := x0) C dX4_add_12 rfl rfl ?_
  obtain ⟨v7, q8, hm⟩ := xbind hm
  refine xw_getR (pc := 13) C dX4_add_13 fl_X4_15 q8 ?_
  refine xw_aload_n (pc := 16) (i := 0) (x := x0) C dX4_add_16 rfl rfl ?_
  obtain ⟨v9, q10, hm⟩ := xbind hm
  refine xw_getI (pc := 17) C dX4_add_17 fl_X4_26 q10 ?_
  refine xw_iload_n (pc := 20) (i := 2) (x := x2) C dX4_add_20 rfl rfl ?_
  obtain ⟨h11, q12, hm⟩ := xbind hm
  refine xw_callSN0 (pc := 21) (As := [.ref v7, .int v9, .int x2]) (st := []) C dX4_add_21 (wX8_put q12) dd_X8_put lk_X4_29 ds_X8_put rfl (Nat.le_of_ble_eq_true rfl) (Nat.le_of_ble_eq_true rfl) (Nat.le_of_ble_eq_true rfl) ⟨Nat.le_refl _, Nat.le_refl _⟩ hN ?_
  refine xw_aload_n (pc := 24) (i := 0) (x := x0) C dX4_add_24 rfl rfl ?_
  refine xw_dup (pc := 25) C dX4_add_25 rfl ?_
  obtain ⟨v13, q14, hm⟩ := xbind hm
  refine xw_getI (pc := 26) C dX4_add_26 fl_X4_26 q14 ?_
  refine xw_iconst (pc := 29) (v := 1) C dX4_add_29 xk_i_1 ?_
  refine xw_iadd (pc := 30) C dX4_add_30 ?_
  obtain ⟨h15, q16, hm⟩ := xbind hm
  refine xw_put (pc := 31) C dX4_add_31 fl_X4_26 q16 (fun _ => rfl) (fun _ => rfl) ?_
  obtain rfl := Option.some.inj hm
  exact xw_return (pc := 34) C dX4_add_34 rfl hX
set_option maxHeartbeats 4000000 in
set_option maxRecDepth 100000 in
theorem wX7_init {l : Launch} {n sl : Nat} {h : XH} {x0 : Nat} {o : XH} (hm : fX7_init h n x0 = some o) : XM l yX7_init cX7_init 1 none 1 20 [.ref x0] h n sl none o (n + 1) (sl + 80) := by
  refine xm_of pnX7 [some (.ref x0)] 0 rfl (Nat.le_of_ble_eq_true rfl) ?_
  intro X hT C
  replace C : XOK X RX7 cX7_init 1 "<init>" none 1 20 := C
  obtain ⟨-, hN, hX⟩ := hT
  unfold fX7_init at hm
  refine xw_aload_n (pc := 0) (i := 0) (x := x0) C dX7_init_0 rfl rfl ?_
  refine xw_objInit (pc := 1) C dX7_init_1 lk_X7_3 oi_inst oi_code (Nat.le_of_ble_eq_true rfl) (Nat.le_of_ble_eq_true rfl) ?_
  refine xw_aload_n (pc := 4) (i := 0) (x := x0) C dX7_init_4 rfl rfl ?_
  refine xw_bipush (pc := 5) (v := 80) C dX7_init_5 xk_b_80 ?_
  obtain ⟨h1, q2, hm⟩ := xbind hm
  refine xw_newIB (pc := 7) (N := 80) C dX7_init_7 ar_int (by decide) (by decide) (Nat.le_of_ble_eq_true rfl) ⟨by have := hN.1; omega, by have := hN.2; omega⟩ q2 ?_
  obtain ⟨h3, q4, hm⟩ := xbind hm
  refine xw_putF (pc := 9) C dX7_init_9 fl_X7_9 q4 rfl rfl (fun _ => rfl) (fun _ => rfl) ?_
  refine xw_aload_n (pc := 12) (i := 0) (x := x0) C dX7_init_12 rfl rfl ?_
  refine xw_iconst (pc := 13) (v := 0) C dX7_init_13 xk_i_0 ?_
  obtain ⟨h5, q6, hm⟩ := xbind hm
  refine xw_put (pc := 14) C dX7_init_14 fl_X7_15 q6 (fun _ => rfl) (fun _ => rfl) ?_
  obtain rfl := Option.some.inj hm
  exact xw_return (pc := 17) C dX7_init_17 rfl hX
set_option maxHeartbeats 4000000 in
set_option maxRecDepth 100000 in
theorem wX8_addReading {l : Launch} {n sl : Nat} {h : XH} {x0 : Nat} {x1 : Int32} {x2 : Int32} {o : Int32 × XH} (hm : fX8_addReading h x0 x1 x2 = some o) : XM l yX8_addReading cX8_addReading 3 (some .int) 4 86 [.ref x0, .int x1, .int x2] h n sl (some (.int o.1)) o.2 n sl := by
  refine xm_of pnX8 [some (.ref x0), some (.int x1), some (.int x2)] 0 rfl (Nat.le_of_ble_eq_true rfl) ?_
  intro X hT C
  replace C : XOK X RX8 cX8_addReading 3 "addReading" (some .int) 4 86 := C
  obtain ⟨-, hN, hX⟩ := hT
  unfold fX8_addReading at hm
  refine xw_aload_n (pc := 0) (i := 0) (x := x0) C dX8_addReading_0 rfl rfl ?_
  obtain ⟨v1, q2, hm⟩ := xbind hm
  refine xw_getR (pc := 1) C dX8_addReading_1 fl_X8_10 q2 ?_
  obtain ⟨v3, q4, hm⟩ := xbind hm
  refine xw_getR (pc := 4) C dX8_addReading_4 fl_X8_181 q4 ?_
  obtain ⟨v5, q6, hm⟩ := xbind hm
  refine xw_getI (pc := 7) C dX8_addReading_7 fl_X8_190 q6 ?_
  refine xw_bipush (pc := 10) (v := 8) C dX8_addReading_10 xk_b_8 ?_
  refine xw_icmp_lt (pc := 12) (tgt := 19) C dX8_addReading_12 (by decide) (fun q => ?_) (fun q => ?_)
  · replace hm := xif_t q hm
    refine xw_aload_n (pc := 19) (i := 0) (x := x0) C dX8_addReading_19 rfl rfl ?_
    obtain ⟨v7, q8, hm⟩ := xbind hm
    refine xw_getR (pc := 20) C dX8_addReading_20 fl_X8_19 q8 ?_
    refine xw_aload_n (pc := 23) (i := 0) (x := x0) C dX8_addReading_23 rfl rfl ?_
    obtain ⟨v9, q10, hm⟩ := xbind hm
    refine xw_getR (pc := 24) C dX8_addReading_24 fl_X8_10 q10 ?_
    obtain ⟨_, q11, hm⟩ := xbind hm
    obtain ⟨h12, q13, hm⟩ := xbind hm
    refine xw_callV0 (pc := 27) (As := [.ref v9]) (st := []) C dX8_addReading_27 (wX3_remember q13) dd_X3_remember lk_X8_63 dv_X3_remember (xco_spec q11) rfl (Nat.le_of_ble_eq_true rfl) (Nat.le_of_ble_eq_true rfl) (Nat.le_of_ble_eq_true rfl) ⟨Nat.le_refl _, Nat.le_refl _⟩ hN ?_
    refine xw_aload_n (pc := 30) (i := 0) (x := x0) C dX8_addReading_30 rfl rfl ?_
    obtain ⟨v14, q15, hm⟩ := xbind hm
    refine xw_getR (pc := 31) C dX8_addReading_31 fl_X8_10 q15 ?_
    obtain ⟨v16, q17, hm⟩ := xbind hm
    refine xw_getR (pc := 34) C dX8_addReading_34 fl_X8_181 q17 ?_
    refine xw_iload_n (pc := 37) (i := 1) (x := x1) C dX8_addReading_37 rfl rfl ?_
    refine xw_iload_n (pc := 38) (i := 2) (x := x2) C dX8_addReading_38 rfl rfl ?_
    obtain ⟨_, q18, hm⟩ := xbind hm
    obtain ⟨h19, q20, hm⟩ := xbind hm
    refine xw_callV0 (pc := 39) (As := [.int x1, .int x2]) (st := []) C dX8_addReading_39 (wX4_add q20) dd_X4_add lk_X8_319 dv_X4_add (xco_spec q18) rfl (Nat.le_of_ble_eq_true rfl) (Nat.le_of_ble_eq_true rfl) (Nat.le_of_ble_eq_true rfl) ⟨Nat.le_refl _, Nat.le_refl _⟩ hN ?_
    refine xw_aload_n (pc := 42) (i := 0) (x := x0) C dX8_addReading_42 rfl rfl ?_
    obtain ⟨v21, q22, hm⟩ := xbind hm
    refine xw_getR (pc := 43) C dX8_addReading_43 fl_X8_10 q22 ?_
    obtain ⟨v23, q24, hm⟩ := xbind hm
    refine xw_getR (pc := 46) C dX8_addReading_46 fl_X8_181 q24 ?_
    obtain ⟨v25, q26, hm⟩ := xbind hm
    refine xw_getI (pc := 49) C dX8_addReading_49 fl_X8_190 q26 ?_
    refine xw_iconst (pc := 52) (v := 1) C dX8_addReading_52 xk_i_1 ?_
    refine xw_isub (pc := 53) C dX8_addReading_53 ?_
    obtain rfl := Option.some.inj hm
    exact xw_ireturn (pc := 54) C dX8_addReading_54 rfl hX
  · replace hm := xif_f q hm
    refine xw_sipush (pc := 15) (v := -1003) C dX8_addReading_15 xk_s_m1003 ?_
    obtain rfl := Option.some.inj hm
    exact xw_ireturn (pc := 18) C dX8_addReading_18 rfl hX
set_option maxHeartbeats 4000000 in
set_option maxRecDepth 100000 in
theorem wX8_init {l : Launch} {n sl : Nat} {h : XH} {x0 : Nat} {o : XH} (hm : fX8_init h n x0 = some o) : XM l yX8_init cX8_init 1 none 4 84 [.ref x0] h n sl none o (n + 101) (sl + 1261) := by
  refine xm_of pnX8 [some (.ref x0)] 0 rfl (Nat.le_of_ble_eq_true rfl) ?_
  intro X hT C
  replace C : XOK X RX8 cX8_init 1 "<init>" none 4 84 := C
  obtain ⟨-, hN, hX⟩ := hT
  unfold fX8_init at hm
  refine xw_aload_n (pc := 0) (i := 0) (x := x0) C dX8_init_0 rfl rfl ?_
  refine xw_objInit (pc := 1) C dX8_init_1 lk_X8_1 oi_inst oi_code (Nat.le_of_ble_eq_true rfl) (Nat.le_of_ble_eq_true rfl) ?_
  refine xw_aload_n (pc := 4) (i := 0) (x := x0) C dX8_init_4 rfl rfl ?_
  obtain ⟨h1, q2, hm⟩ := xbind hm
  refine xw_newB (pc := 5) C dX8_init_5 cl_X8_7 nw_X5 ⟨by have := hN.1; omega, by have := hN.2; omega⟩ q2 ?_
  refine xw_dup (pc := 8) C dX8_init_8 rfl ?_
  obtain ⟨h3, q4, hm⟩ := xbind hm
  refine xw_callIN0 (pc := 9) (As := []) (st := [.ref n, .ref x0]) C dX8_init_9 (wX5_init q4) dd_X5_init lk_X8_9 di_X5_init rfl rfl (Nat.le_of_ble_eq_true rfl) (Nat.le_of_ble_eq_true rfl) (Nat.le_of_ble_eq_true rfl) ⟨Nat.le_add_right _ _, Nat.le_add_right _ _⟩ ⟨by have := hN.1; omega, by have := hN.2; omega⟩ ?_
  obtain ⟨h5, q6, hm⟩ := xbind hm
  refine xw_putF (pc := 12) C dX8_init_12 fl_X8_10 q6 rfl rfl (fun _ => rfl) (fun _ => rfl) ?_
  refine xw_aload_n (pc := 15) (i := 0) (x := x0) C dX8_init_15 rfl rfl ?_
  obtain ⟨h7, q8, hm⟩ := xbind hm
  refine xw_newB (pc := 16) C dX8_init_16 cl_X8_16 nw_X3 ⟨by have := hN.1; omega, by have := hN.2; omega⟩ q8 ?_
  refine xw_dup (pc := 19) C dX8_init_19 rfl ?_
  obtain ⟨h9, q10, hm⟩ := xbind hm
  refine xw_callI0 (pc := 20) (As := []) (st := [.ref (n + 10), .ref x0]) C dX8_init_20 (wX3_init q10) dd_X3_init lk_X8_18 di_X3_init rfl rfl (Nat.le_of_ble_eq_true rfl) (Nat.le_of_ble_eq_true rfl) (Nat.le_of_ble_eq_true rfl) ⟨Nat.le_add_right _ _, Nat.le_add_right _ _⟩ ⟨by have := hN.1; omega, by have := hN.2; omega⟩ ?_
  obtain ⟨h11, q12, hm⟩ := xbind hm
  refine xw_putF (pc := 23) C dX8_init_23 fl_X8_19 q12 rfl rfl (fun _ => rfl) (fun _ => rfl) ?_
  refine xw_aload_n (pc := 26) (i := 0) (x := x0) C dX8_init_26 rfl rfl ?_
  obtain ⟨h13, q14, hm⟩ := xbind hm
  refine xw_newB (pc := 27) C dX8_init_27 cl_X8_23 nw_X7 ⟨by have := hN.1; omega, by have := hN.2; omega⟩ q14 ?_
  refine xw_dup (pc := 30) C dX8_init_30 rfl ?_
  obtain ⟨h15, q16, hm⟩ := xbind hm
  refine xw_callIN0 (pc := 31) (As := []) (st := [.ref (n + 92), .ref x0]) C dX8_init_31 (wX7_init q16) dd_X7_init lk_X8_25 di_X7_init rfl rfl (Nat.le_of_ble_eq_true rfl) (Nat.le_of_ble_eq_true rfl) (Nat.le_of_ble_eq_true rfl) ⟨Nat.le_add_right _ _, Nat.le_add_right _ _⟩ ⟨by have := hN.1; omega, by have := hN.2; omega⟩ ?_
  obtain ⟨h17, q18, hm⟩ := xbind hm
  refine xw_putF (pc := 34) C dX8_init_34 fl_X8_26 q18 rfl rfl (fun _ => rfl) (fun _ => rfl) ?_
  refine xw_aload_n (pc := 37) (i := 0) (x := x0) C dX8_init_37 rfl rfl ?_
  obtain ⟨h19, q20, hm⟩ := xbind hm
  refine xw_newB (pc := 38) C dX8_init_38 cl_X8_30 nw_X6 ⟨by have := hN.1; omega, by have := hN.2; omega⟩ q20 ?_
  refine xw_dup (pc := 41) C dX8_init_41 rfl ?_
  obtain ⟨h21, q22, hm⟩ := xbind hm
  refine xw_callI0 (pc := 42) (As := []) (st := [.ref (n + 94), .ref x0]) C dX8_init_42 (wX6_init q22) dd_X6_init lk_X8_32 di_X6_init rfl rfl (Nat.le_of_ble_eq_true rfl) (Nat.le_of_ble_eq_true rfl) (Nat.le_of_ble_eq_true rfl) ⟨Nat.le_add_right _ _, Nat.le_add_right _ _⟩ ⟨by have := hN.1; omega, by have := hN.2; omega⟩ ?_
  obtain ⟨h23, q24, hm⟩ := xbind hm
  refine xw_putF (pc := 45) C dX8_init_45 fl_X8_33 q24 rfl rfl (fun _ => rfl) (fun _ => rfl) ?_
  refine xw_aload_n (pc := 48) (i := 0) (x := x0) C dX8_init_48 rfl rfl ?_
  obtain ⟨h25, q26, hm⟩ := xbind hm
  refine xw_newB (pc := 49) C dX8_init_49 cl_X8_37 nw_X0 ⟨by have := hN.1; omega, by have := hN.2; omega⟩ q26 ?_
  refine xw_dup (pc := 52) C dX8_init_52 rfl ?_
  obtain ⟨h27, q28, hm⟩ := xbind hm
  refine xw_callIN0 (pc := 53) (As := []) (st := [.ref (n + 98), .ref x0]) C dX8_init_53 (wX0_init q28) dd_X0_init lk_X8_39 di_X0_init rfl rfl (Nat.le_of_ble_eq_true rfl) (Nat.le_of_ble_eq_true rfl) (Nat.le_of_ble_eq_true rfl) ⟨Nat.le_add_right _ _, Nat.le_add_right _ _⟩ ⟨by have := hN.1; omega, by have := hN.2; omega⟩ ?_
  obtain ⟨h29, q30, hm⟩ := xbind hm
  refine xw_putF (pc := 56) C dX8_init_56 fl_X8_40 q30 rfl rfl (fun _ => rfl) (fun _ => rfl) ?_
  obtain rfl := Option.some.inj hm
  exact xw_return (pc := 59) C dX8_init_59 rfl hX
set_option maxHeartbeats 4000000 in
set_option maxRecDepth 100000 in
theorem wX8_look {l : Launch} {n sl : Nat} {h : XH} {x0 : Nat} {x1 : Int32} {o : Int32 × XH} (hm : fX8_look h x0 x1 = some o) : XM l yX8_look cX8_look 2 (some .int) 5 115 [.ref x0, .int x1] h n sl (some (.int o.1)) o.2 n sl := by
  refine xm_of pnX8 [some (.ref x0), some (.int x1)] 0 rfl (Nat.le_of_ble_eq_true rfl) ?_
  intro X hT C
  replace C : XOK X RX8 cX8_look 2 "look" (some .int) 5 115 := C
  obtain ⟨-, hN, hX⟩ := hT
  unfold fX8_look at hm
  refine xw_aload_n (pc := 0) (i := 0) (x := x0) C dX8_look_0 rfl rfl ?_
  refine xw_iload_n (pc := 1) (i := 1) (x := x1) C dX8_look_1 rfl rfl ?_
  obtain ⟨_, q1, hm⟩ := xbind hm
  obtain ⟨v2, q3, hm⟩ := xbind hm
  refine xw_callV1 (pc := 2) (As := [.int x1]) (st := []) C dX8_look_2 (wX8_isFlash q3) dd_X8_isFlash lk_X8_141 dv_X8_isFlash (xco_spec q1) rfl (Nat.le_of_ble_eq_true rfl) (Nat.le_of_ble_eq_true rfl) (Nat.le_of_ble_eq_true rfl) ⟨Nat.le_refl _, Nat.le_refl _⟩ hN ?_
  refine xw_if_eqZ (pc := 5) (b := v2) (tgt := 24) C dX8_look_5 (by decide) (fun q => ?_) (fun q => ?_)
  · replace hm := xif_f q hm
    refine xw_sipush (pc := 24) (v := -1001) C dX8_look_24 xk_s_m1001 ?_
    obtain rfl := Option.some.inj hm
    exact xw_ireturn (pc := 27) C dX8_look_27 rfl hX
  · replace hm := xif_t q hm
    refine xw_iload_n (pc := 8) (i := 1) (x := x1) C dX8_look_8 rfl rfl ?_
    refine xw_aload_n (pc := 9) (i := 0) (x := x0) C dX8_look_9 rfl rfl ?_
    obtain ⟨v4, q5, hm⟩ := xbind hm
    refine xw_getR (pc := 10) C dX8_look_10 fl_X8_10 q5 ?_
    obtain ⟨v6, q7, hm⟩ := xbind hm
    refine xw_getR (pc := 13) C dX8_look_13 fl_X8_125 q7 ?_
    obtain ⟨_, q8, hm⟩ := xbind hm
    obtain ⟨v9, q10, hm⟩ := xbind hm
    refine xw_callV1 (pc := 16) (As := []) (st := [.int x1]) C dX8_look_16 (wX2_number q10) dd_X2_number lk_X8_137 dv_X2_number (xco_spec q8) rfl (Nat.le_of_ble_eq_true rfl) (Nat.le_of_ble_eq_true rfl) (Nat.le_of_ble_eq_true rfl) ⟨Nat.le_refl _, Nat.le_refl _⟩ hN ?_
    refine xw_iconst (pc := 19) (v := 1) C dX8_look_19 xk_i_1 ?_
    refine xw_isub (pc := 20) C dX8_look_20 ?_
    refine xw_icmp_ne (pc := 21) (tgt := 28) C dX8_look_21 (by decide) (fun q => ?_) (fun q => ?_)
    · replace hm := xif_f q hm
      refine xw_aload_n (pc := 28) (i := 0) (x := x0) C dX8_look_28 rfl rfl ?_
      refine xw_aload_n (pc := 29) (i := 0) (x := x0) C dX8_look_29 rfl rfl ?_
      obtain ⟨v11, q12, hm⟩ := xbind hm
      refine xw_getR (pc := 30) C dX8_look_30 fl_X8_10 q12 ?_
      obtain ⟨v13, q14, hm⟩ := xbind hm
      refine xw_getR (pc := 33) C dX8_look_33 fl_X8_125 q14 ?_
      obtain ⟨v15, q16, hm⟩ := xbind hm
      refine xw_getI (pc := 36) C dX8_look_36 fl_X8_134 q16 ?_
      refine xw_aload_n (pc := 39) (i := 0) (x := x0) C dX8_look_39 rfl rfl ?_
      refine xw_iload_n (pc := 40) (i := 1) (x := x1) C dX8_look_40 rfl rfl ?_
      refine xw_iconst (pc := 41) (v := 2) C dX8_look_41 xk_i_2 ?_
      obtain ⟨_, q17, hm⟩ := xbind hm
      obtain ⟨v18, q19, hm⟩ := xbind hm
      refine xw_callV1 (pc := 42) (As := [.int x1, .int (2 : Int32)]) (st := [.int v15, .ref x0]) C dX8_look_42 (wX8_flash q19) dd_X8_flash lk_X8_175 dv_X8_flash (xco_spec q17) rfl (Nat.le_of_ble_eq_true rfl) (Nat.le_of_ble_eq_true rfl) (Nat.le_of_ble_eq_true rfl) ⟨Nat.le_refl _, Nat.le_refl _⟩ hN ?_
      obtain ⟨_, q20, hm⟩ := xbind hm
      obtain ⟨v21, q22, hm⟩ := xbind hm
      refine xw_callV1 (pc := 45) (As := [.int v15, .int v18]) (st := []) C dX8_look_45 (wX8_addReading q22) dd_X8_addReading lk_X8_172 dv_X8_addReading (xco_spec q20) rfl (Nat.le_of_ble_eq_true rfl) (Nat.le_of_ble_eq_true rfl) (Nat.le_of_ble_eq_true rfl) ⟨Nat.le_refl _, Nat.le_refl _⟩ hN ?_
      obtain rfl := Option.some.inj hm
      exact xw_ireturn (pc := 48) C dX8_look_48 rfl hX
    · replace hm := xif_t q hm
      refine xw_sipush (pc := 24) (v := -1001) C dX8_look_24 xk_s_m1001 ?_
      obtain rfl := Option.some.inj hm
      exact xw_ireturn (pc := 27) C dX8_look_27 rfl hX
set_option maxHeartbeats 4000000 in
set_option maxRecDepth 100000 in
theorem wX8_read {l : Launch} {n sl : Nat} {h : XH} {x0 : Nat} {x1 : Int32} {x2 : Int32} {o : Int32 × XH} (hm : fX8_read h x0 x1 x2 = some o) : XM l yX8_read cX8_read 3 (some .int) 5 108 [.ref x0, .int x1, .int x2] h n sl (some (.int o.1)) o.2 n sl := by
  refine xm_of pnX8 [some (.ref x0), some (.int x1), some (.int x2)] 0 rfl (Nat.le_of_ble_eq_true rfl) ?_
  intro X hT C
  replace C : XOK X RX8 cX8_read 3 "read" (some .int) 5 108 := C
  obtain ⟨-, hN, hX⟩ := hT
  unfold fX8_read at hm
  refine xw_iload_n (pc := 0) (i := 1) (x := x1) C dX8_read_0 rfl rfl ?_
  refine xw_iconst (pc := 1) (v := 1) C dX8_read_1 xk_i_1 ?_
  refine xw_sipush (pc := 2) (v := 500) C dX8_read_2 xk_s_500 ?_
  obtain ⟨v1, q2, hm⟩ := xbind hm
  refine xw_callS1 (pc := 5) (As := [.int x1, .int (1 : Int32), .int (500 : Int32)]) (st := []) C dX8_read_5 (wX8_within q2) dd_X8_within lk_X8_44 ds_X8_within rfl (Nat.le_of_ble_eq_true rfl) (Nat.le_of_ble_eq_true rfl) (Nat.le_of_ble_eq_true rfl) ⟨Nat.le_refl _, Nat.le_refl _⟩ hN ?_
  refine xw_if_eqZ (pc := 8) (b := v1) (tgt := 22) C dX8_read_8 (by decide) (fun q => ?_) (fun q => ?_)
  · replace hm := xif_f q hm
    refine xw_sipush (pc := 22) (v := -1001) C dX8_read_22 xk_s_m1001 ?_
    obtain rfl := Option.some.inj hm
    exact xw_ireturn (pc := 25) C dX8_read_25 rfl hX
  · replace hm := xif_t q hm
    refine xw_iload_n (pc := 11) (i := 2) (x := x2) C dX8_read_11 rfl rfl ?_
    refine xw_bipush (pc := 12) (v := -30) C dX8_read_12 xk_b_m30 ?_
    refine xw_bipush (pc := 14) (v := 30) C dX8_read_14 xk_b_30 ?_
    obtain ⟨v3, q4, hm⟩ := xbind hm
    refine xw_callS1 (pc := 16) (As := [.int x2, .int (-30 : Int32), .int (30 : Int32)]) (st := []) C dX8_read_16 (wX8_within q4) dd_X8_within lk_X8_44 ds_X8_within rfl (Nat.le_of_ble_eq_true rfl) (Nat.le_of_ble_eq_true rfl) (Nat.le_of_ble_eq_true rfl) ⟨Nat.le_refl _, Nat.le_refl _⟩ hN ?_
    refine xw_if_neZ (pc := 19) (b := v3) (tgt := 26) C dX8_read_19 (by decide) (fun q => ?_) (fun q => ?_)
    · replace hm := xif_t q hm
      refine xw_aload_n (pc := 26) (i := 0) (x := x0) C dX8_read_26 rfl rfl ?_
      refine xw_iload_n (pc := 27) (i := 1) (x := x1) C dX8_read_27 rfl rfl ?_
      refine xw_iload_n (pc := 28) (i := 2) (x := x2) C dX8_read_28 rfl rfl ?_
      obtain ⟨_, q5, hm⟩ := xbind hm
      obtain ⟨v6, q7, hm⟩ := xbind hm
      refine xw_callV1 (pc := 29) (As := [.int x1, .int x2]) (st := []) C dX8_read_29 (wX8_addReading q7) dd_X8_addReading lk_X8_172 dv_X8_addReading (xco_spec q5) rfl (Nat.le_of_ble_eq_true rfl) (Nat.le_of_ble_eq_true rfl) (Nat.le_of_ble_eq_true rfl) ⟨Nat.le_refl _, Nat.le_refl _⟩ hN ?_
      obtain rfl := Option.some.inj hm
      exact xw_ireturn (pc := 32) C dX8_read_32 rfl hX
    · replace hm := xif_f q hm
      refine xw_sipush (pc := 22) (v := -1001) C dX8_read_22 xk_s_m1001 ?_
      obtain rfl := Option.some.inj hm
      exact xw_ireturn (pc := 25) C dX8_read_25 rfl hX
def fX8_stillPeriod_P40 (X : XCtx) (h : XH) (x0 : Nat) (x2 : Int32) (x3 : Int32) (n sl : Nat) (s : Int32) : Prop := XW X 40 [some (.ref x0), none, some (.int x2), some (.int x3), some (.int s)] [] h n sl
def fX8_stillPeriod_E40 (X : XCtx) (h : XH) (x0 : Nat) (x2 : Int32) (x3 : Int32) (n sl : Nat) (e : (Int32 ⊕ Unit)) : Prop := match e with
  | .inl e => XW X 66 [none, none, none, none, some (.int e)] [] h n sl
  | .inr e => XW X 75 [none, none, none, none, none] [] h n sl
set_option maxHeartbeats 4000000 in
set_option maxRecDepth 100000 in
theorem fX8_stillPeriod_B40_w {X : XCtx} (C : XOK X RX8 cX8_stillPeriod 5 "stillPeriod" (some .int) 3 64) {n sl : Nat} (hN : XN X n sl) {h : XH} {x0 : Nat} {x2 : Int32} {x3 : Int32} (s : Int32) (o : Int32 ⊕ (Int32 ⊕ Unit)) (hm : fX8_stillPeriod_B40 h x0 x2 x3 s = some o) (hc : ∀ s', o = .inl s' → fX8_stillPeriod_P40 X h x0 x2 x3 n sl s') (he : ∀ e', o = .inr e' → fX8_stillPeriod_E40 X h x0 x2 x3 n sl e') : fX8_stillPeriod_P40 X h x0 x2 x3 n sl s := by
  revert s; intro x4 hm
  show XW X 40 [some (.ref x0), none, some (.int x2), some (.int x3), some (.int x4)] [] h n sl
  replace hm : fX8_stillPeriod_b40 h x0 x2 x3 x4 = some o := hm
  unfold fX8_stillPeriod_b40 at hm
  refine xw_iload (pc := 40) (i := 4) (x := x4) C dX8_stillPeriod_40 rfl ?_
  refine xw_iload_n (pc := 42) (i := 2) (x := x2) C dX8_stillPeriod_42 rfl rfl ?_
  refine xw_icmp_gt (pc := 43) (tgt := 75) C dX8_stillPeriod_43 (by decide) (fun q => ?_) (fun q => ?_)
  · replace hm := xif_t q hm
    obtain rfl := Option.some.inj hm
    refine xw_sub (pc := 75) _ ?_ (he _ rfl)
    exact ⟨Or.inl rfl, Or.inl rfl, Or.inl rfl, Or.inl rfl, Or.inl rfl, trivial⟩
  · replace hm := xif_f q hm
    refine xw_aload_n (pc := 46) (i := 0) (x := x0) C dX8_stillPeriod_46 rfl rfl ?_
    obtain ⟨v12, q13, hm⟩ := xbind hm
    refine xw_getR (pc := 47) C dX8_stillPeriod_47 fl_X8_10 q13 ?_
    obtain ⟨v14, q15, hm⟩ := xbind hm
    refine xw_getR (pc := 50) C dX8_stillPeriod_50 fl_X8_67 q15 ?_
    obtain ⟨v16, q17, hm⟩ := xbind hm
    refine xw_getI (pc := 53) C dX8_stillPeriod_53 fl_X8_169 q17 ?_
    refine xw_iload (pc := 56) (i := 4) (x := x4) C dX8_stillPeriod_56 rfl ?_
    refine xw_imul (pc := 58) C dX8_stillPeriod_58 ?_
    refine xw_iload_n (pc := 59) (i := 3) (x := x3) C dX8_stillPeriod_59 rfl rfl ?_
    obtain ⟨v18, q19, hm⟩ := xbind hm
    refine xw_callS1 (pc := 60) (As := [.int (v16 * x4), .int x3]) (st := []) C dX8_stillPeriod_60 (wX8_mod q19) dd_X8_mod lk_X8_121 ds_X8_mod rfl (Nat.le_of_ble_eq_true rfl) (Nat.le_of_ble_eq_true rfl) (Nat.le_of_ble_eq_true rfl) ⟨Nat.le_refl _, Nat.le_refl _⟩ hN ?_
    refine xw_if_ne (pc := 63) (tgt := 69) C dX8_stillPeriod_63 (by decide) (fun q => ?_) (fun q => ?_)
    · replace hm := xif_f q hm
      refine xw_iinc (pc := 69) (i := 4) (x := x4) (v := (x4 + (1 : Int32))) (L' := [some (.ref x0), none, some (.int x2), some (.int x3), some (.int (x4 + (1 : Int32)))]) C dX8_stillPeriod_69 rfl (congrArg (HAdd.hAdd _) xk_i_1) (Nat.le_of_ble_eq_true rfl) rfl ?_
      refine xw_goto (pc := 72) (tgt := 40) C dX8_stillPeriod_72 (by decide) ?_
      obtain rfl := Option.some.inj hm
      refine xw_sub (pc := 40) _ ?_ (hc _ rfl)
      exact ⟨Or.inr rfl, Or.inl rfl, Or.inr rfl, Or.inr rfl, Or.inr rfl, trivial⟩
    · replace hm := xif_t q hm
      obtain rfl := Option.some.inj hm
      refine xw_sub (pc := 66) _ ?_ (he _ rfl)
      exact ⟨Or.inl rfl, Or.inl rfl, Or.inl rfl, Or.inl rfl, Or.inr rfl, trivial⟩
set_option maxHeartbeats 4000000 in
set_option maxRecDepth 100000 in
theorem wX8_stillPeriod {l : Launch} {n sl : Nat} {h : XH} {x0 : Nat} {x1 : Int32} {x2 : Int32} {o : Int32} (hm : fX8_stillPeriod h x0 x1 x2 = some o) : XM l yX8_stillPeriod cX8_stillPeriod 5 (some .int) 3 64 [.ref x0, .int x1, .int x2] h n sl (some (.int o)) h n sl := by
  refine xm_of pnX8 [some (.ref x0), some (.int x1), some (.int x2), none, none] 2 rfl (Nat.le_of_ble_eq_true rfl) ?_
  intro X hT C
  replace C : XOK X RX8 cX8_stillPeriod 5 "stillPeriod" (some .int) 3 64 := C
  obtain ⟨-, hN, hX⟩ := hT
  unfold fX8_stillPeriod at hm
  refine xw_iload_n (pc := 0) (i := 1) (x := x1) C dX8_stillPeriod_0 rfl rfl ?_
  refine xw_iconst (pc := 1) (v := 1) C dX8_stillPeriod_1 xk_i_1 ?_
  refine xw_sipush (pc := 2) (v := 500) C dX8_stillPeriod_2 xk_s_500 ?_
  obtain ⟨v1, q2, hm⟩ := xbind hm
  refine xw_callS1 (pc := 5) (As := [.int x1, .int (1 : Int32), .int (500 : Int32)]) (st := []) C dX8_stillPeriod_5 (wX8_within q2) dd_X8_within lk_X8_44 ds_X8_within rfl (Nat.le_of_ble_eq_true rfl) (Nat.le_of_ble_eq_true rfl) (Nat.le_of_ble_eq_true rfl) ⟨Nat.le_refl _, Nat.le_refl _⟩ hN ?_
  refine xw_if_eqZ (pc := 8) (b := v1) (tgt := 22) C dX8_stillPeriod_8 (by decide) (fun q => ?_) (fun q => ?_)
  · replace hm := xif_f q hm
    refine xw_sipush (pc := 22) (v := -1001) C dX8_stillPeriod_22 xk_s_m1001 ?_
    obtain rfl := Option.some.inj hm
    exact xw_ireturn (pc := 25) C dX8_stillPeriod_25 rfl hX
  · replace hm := xif_t q hm
    refine xw_iload_n (pc := 11) (i := 2) (x := x2) C dX8_stillPeriod_11 rfl rfl ?_
    refine xw_iload_n (pc := 12) (i := 1) (x := x1) C dX8_stillPeriod_12 rfl rfl ?_
    refine xw_sipush (pc := 13) (v := 500) C dX8_stillPeriod_13 xk_s_500 ?_
    obtain ⟨v3, q4, hm⟩ := xbind hm
    refine xw_callS1 (pc := 16) (As := [.int x2, .int x1, .int (500 : Int32)]) (st := []) C dX8_stillPeriod_16 (wX8_within q4) dd_X8_within lk_X8_44 ds_X8_within rfl (Nat.le_of_ble_eq_true rfl) (Nat.le_of_ble_eq_true rfl) (Nat.le_of_ble_eq_true rfl) ⟨Nat.le_refl _, Nat.le_refl _⟩ hN ?_
    refine xw_if_neZ (pc := 19) (b := v3) (tgt := 26) C dX8_stillPeriod_19 (by decide) (fun q => ?_) (fun q => ?_)
    · replace hm := xif_t q hm
      refine xw_aload_n (pc := 26) (i := 0) (x := x0) C dX8_stillPeriod_26 rfl rfl ?_
      obtain ⟨v5, q6, hm⟩ := xbind hm
      refine xw_getR (pc := 27) C dX8_stillPeriod_27 fl_X8_10 q6 ?_
      obtain ⟨v7, q8, hm⟩ := xbind hm
      refine xw_getR (pc := 30) C dX8_stillPeriod_30 fl_X8_67 q8 ?_
      obtain ⟨_, q9, hm⟩ := xbind hm
      obtain ⟨v10, q11, hm⟩ := xbind hm
      refine xw_callV1 (pc := 33) (As := []) (st := []) C dX8_stillPeriod_33 (wX6_measure q11) dd_X6_measure lk_X8_156 dv_X6_measure (xco_spec q9) rfl (Nat.le_of_ble_eq_true rfl) (Nat.le_of_ble_eq_true rfl) (Nat.le_of_ble_eq_true rfl) ⟨Nat.le_refl _, Nat.le_refl _⟩ hN ?_
      refine xw_istore_n (pc := 36) (i := 3) (x := v10) (L' := [some (.ref x0), some (.int x1), some (.int x2), some (.int v10), none]) C dX8_stillPeriod_36 rfl (Nat.le_of_ble_eq_true rfl) rfl ?_
      refine xw_iload_n (pc := 37) (i := 1) (x := x1) C dX8_stillPeriod_37 rfl rfl ?_
      refine xw_istore (pc := 38) (i := 4) (x := x1) (L' := [some (.ref x0), some (.int x1), some (.int x2), some (.int v10), some (.int x1)]) C dX8_stillPeriod_38 (Nat.le_of_ble_eq_true rfl) rfl ?_
      obtain ⟨e20, q21, hm⟩ := xbind hm
      refine xw_sub (pc := 40) [some (.ref x0), none, some (.int x2), some (.int v10), some (.int x1)] ⟨Or.inr rfl, Or.inl rfl, Or.inr rfl, Or.inr rfl, Or.inr rfl, trivial⟩ ?_
      refine xloop_walk (fX8_stillPeriod_B40 h x0 x2 v10) (fX8_stillPeriod_P40 X h x0 x2 v10 n sl) (fX8_stillPeriod_E40 X h x0 x2 v10 n sl) (fun s' o' => fX8_stillPeriod_B40_w C hN s' o') 5000 x1 e20 q21 ?_
      rcases e20 with e20 | e20
      · dsimp only at hm
        show XW X 66 [none, none, none, none, some (.int e20)] [] h n sl
        refine xw_iload (pc := 66) (i := 4) (x := e20) C dX8_stillPeriod_66 rfl ?_
        obtain rfl := Option.some.inj hm
        exact xw_ireturn (pc := 68) C dX8_stillPeriod_68 rfl hX
      · dsimp only at hm
        show XW X 75 [none, none, none, none, none] [] h n sl
        refine xw_sipush (pc := 75) (v := -1004) C dX8_stillPeriod_75 xk_s_m1004 ?_
        obtain rfl := Option.some.inj hm
        exact xw_ireturn (pc := 78) C dX8_stillPeriod_78 rfl hX
    · replace hm := xif_f q hm
      refine xw_sipush (pc := 22) (v := -1001) C dX8_stillPeriod_22 xk_s_m1001 ?_
      obtain rfl := Option.some.inj hm
      exact xw_ireturn (pc := 25) C dX8_stillPeriod_25 rfl hX
