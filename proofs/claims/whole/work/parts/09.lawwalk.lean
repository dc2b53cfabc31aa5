def fL_law_P18 (X : XCtx) (b : Nat) (x1 : Nat) (x2 : Nat) (n sl : Nat) (s : (XH × Int32)) : Prop := XW X 18 [some (.retAddr b), some (.ref x1), some (.ref x2), some (.int s.2)] [] s.1 n sl
def fL_law_E18 (X : XCtx) (b : Nat) (x1 : Nat) (x2 : Nat) (n sl : Nat) (e : XH) : Prop := XW X 1032 [none, none, none, none] [] e n sl
set_option maxHeartbeats 4000000 in
set_option maxRecDepth 100000 in
theorem fL_law_J813_w {X : XCtx} {nmL : String} (C : XOK X RL cL_law 4 nmL (some .boolean) 9 344) {n sl : Nat} (hN : XN X n sl) {b N0 : Nat} {xs : Nat → Int32} (hS : XSc X b N0 xs)  {h : XH} {x1 : Nat} {x2 : Nat} {x3 : Int32} {s0 : Int32} {s1 : Nat} {s2 : Int32} {s3 : Bool} {o : (XH × Int32) ⊕ XH} (hm : fL_law_J813 N0 xs h x1 x2 x3 s0 s1 s2 s3 = some o) (hc : ∀ s', o = .inl s' → fL_law_P18 X b x1 x2 n sl s') (he : ∀ e', o = .inr e' → fL_law_E18 X b x1 x2 n sl e') : XW X 813 [some (.retAddr b), some (.ref x1), some (.ref x2), some (.int x3)] [.int (xbi s3), .int s2, .ref s1, .int s0] h n sl := by
  unfold fL_law_J813 at hm
  obtain ⟨_, q311, hm⟩ := xbind hm
  obtain ⟨v312, q313, hm⟩ := xbind hm
  refine xw_callV1 (pc := 813) (As := [.int s2, .int (xbi s3)]) (st := [.int s0]) C dL_law_813 (wX9_bestPeriod q313) dd_X9_bestPeriod lk_L_116 dv_X9_bestPeriod (xco_spec q311) rfl (Nat.le_of_ble_eq_true rfl) (Nat.le_of_ble_eq_true rfl) (Nat.le_of_ble_eq_true rfl) ⟨Nat.le_refl _, Nat.le_refl _⟩ ⟨by have := hN.1; omega, by have := hN.2; omega⟩ ?_
  refine xw_icmp_eq (pc := 816) (tgt := 1026) C dL_law_816 (by decide) (fun q => ?_) (fun q => ?_)
  · replace hm := xif_t q hm
    refine xw_iinc (pc := 1026) (i := 3) (x := x3) (v := (x3 + (3 : Int32))) (L' := [some (.retAddr b), some (.ref x1), some (.ref x2), some (.int (x3 + (3 : Int32)))]) C dL_law_1026 rfl (congrArg (HAdd.hAdd _) xk_i_3) (Nat.le_of_ble_eq_true rfl) rfl ?_
    refine xw_goto (pc := 1029) (tgt := 18) C dL_law_1029 (by decide) ?_
    obtain rfl := Option.some.inj hm
    refine xw_sub (pc := 18) _ ?_ (hc _ rfl)
    exact ⟨Or.inr rfl, Or.inr rfl, Or.inr rfl, Or.inr rfl, trivial⟩
  · replace hm := xif_f q hm
    cases hm
set_option maxHeartbeats 4000000 in
set_option maxRecDepth 100000 in
theorem fL_law_J791_w {X : XCtx} {nmL : String} (C : XOK X RL cL_law 4 nmL (some .boolean) 9 344) {n sl : Nat} (hN : XN X n sl) {b N0 : Nat} {xs : Nat → Int32} (hS : XSc X b N0 xs)  {h : XH} {x1 : Nat} {x2 : Nat} {x3 : Int32} {s0 : Nat} {s1 : Int32} {s2 : Bool} {o : (XH × Int32) ⊕ XH} (hm : fL_law_J791 N0 xs h x1 x2 x3 s0 s1 s2 = some o) (hc : ∀ s', o = .inl s' → fL_law_P18 X b x1 x2 n sl s') (he : ∀ e', o = .inr e' → fL_law_E18 X b x1 x2 n sl e') : XW X 791 [some (.retAddr b), some (.ref x1), some (.ref x2), some (.int x3)] [.int (xbi s2), .int s1, .ref s0] h n sl := by
  unfold fL_law_J791 at hm
  obtain ⟨_, q304, hm⟩ := xbind hm
  obtain ⟨v305, q306, hm⟩ := xbind hm
  refine xw_callV1 (pc := 791) (As := [.int s1, .int (xbi s2)]) (st := []) C dL_law_791 (wX8_bestPeriod q306) dd_X8_bestPeriod lk_L_112 dv_X8_bestPeriod (xco_spec q304) rfl (Nat.le_of_ble_eq_true rfl) (Nat.le_of_ble_eq_true rfl) (Nat.le_of_ble_eq_true rfl) ⟨Nat.le_refl _, Nat.le_refl _⟩ ⟨by have := hN.1; omega, by have := hN.2; omega⟩ ?_
  refine xw_aload_n (pc := 794) (i := 2) (x := x2) C dL_law_794 rfl rfl ?_
  refine xw_aload_nS (pc := 795) (i := 0) (x := b) C dL_law_795 rfl rfl ?_
  refine xw_iload_n (pc := 796) (i := 3) (x := x3) C dL_law_796 rfl rfl ?_
  refine xw_iconst (pc := 797) (v := 1) C dL_law_797 xk_i_1 ?_
  refine xw_iadd (pc := 798) C dL_law_798 ?_
  obtain ⟨v307, q308, hm⟩ := xbind hm
  refine xw_siaload (pc := 799) C dL_law_799 hS q308 ?_
  refine xw_aload_nS (pc := 800) (i := 0) (x := b) C dL_law_800 rfl rfl ?_
  refine xw_iload_n (pc := 801) (i := 3) (x := x3) C dL_law_801 rfl rfl ?_
  refine xw_iconst (pc := 802) (v := 2) C dL_law_802 xk_i_2 ?_
  refine xw_iadd (pc := 803) C dL_law_803 ?_
  obtain ⟨v309, q310, hm⟩ := xbind hm
  refine xw_siaload (pc := 804) C dL_law_804 hS q310 ?_
  refine xw_if_eq (pc := 805) (tgt := 812) C dL_law_805 (by decide) (fun q => ?_) (fun q => ?_)
  · replace hm := xif_t q hm
    refine xw_iconst (pc := 812) (v := 0) C dL_law_812 xk_i_0 ?_
    exact xw_sub (pc := 813) [some (.retAddr b), some (.ref x1), some (.ref x2), some (.int x3)] ⟨Or.inr rfl, Or.inr rfl, Or.inr rfl, Or.inr rfl, trivial⟩ (fL_law_J813_w C hN hS hm hc he)
  · replace hm := xif_f q hm
    refine xw_iconst (pc := 808) (v := 1) C dL_law_808 xk_i_1 ?_
    refine xw_goto (pc := 809) (tgt := 813) C dL_law_809 (by decide) ?_
    exact xw_sub (pc := 813) [some (.retAddr b), some (.ref x1), some (.ref x2), some (.int x3)] ⟨Or.inr rfl, Or.inr rfl, Or.inr rfl, Or.inr rfl, trivial⟩ (fL_law_J813_w C hN hS hm hc he)
set_option maxHeartbeats 4000000 in
set_option maxRecDepth 100000 in
theorem fL_law_B18_w {X : XCtx} {nmL : String} (C : XOK X RL cL_law 4 nmL (some .boolean) 9 344) {n sl : Nat} (hN : XN X n sl) {b N0 : Nat} {xs : Nat → Int32} (hS : XSc X b N0 xs) {x1 : Nat} {x2 : Nat} (s : (XH × Int32)) (o : (XH × Int32) ⊕ XH) (hm : fL_law_B18 N0 xs x1 x2 s = some o) (hc : ∀ s', o = .inl s' → fL_law_P18 X b x1 x2 n sl s') (he : ∀ e', o = .inr e' → fL_law_E18 X b x1 x2 n sl e') : fL_law_P18 X b x1 x2 n sl s := by
  obtain ⟨h, x3⟩ := s
  show XW X 18 [some (.retAddr b), some (.ref x1), some (.ref x2), some (.int x3)] [] h n sl
  replace hm : fL_law_b18 N0 xs x1 x2 h x3 = some o := hm
  unfold fL_law_b18 at hm
  refine xw_iload_n (pc := 18) (i := 3) (x := x3) C dL_law_18 rfl rfl ?_
  refine xw_aload_nS (pc := 19) (i := 0) (x := b) C dL_law_19 rfl rfl ?_
  refine xw_salen (pc := 20) C dL_law_20 hS ?_
  refine xw_iconst (pc := 21) (v := 3) C dL_law_21 xk_i_3 ?_
  refine xw_isub (pc := 22) C dL_law_22 ?_
  refine xw_icmp_gt (pc := 23) (tgt := 1032) C dL_law_23 (by decide) (fun q => ?_) (fun q => ?_)
  · replace hm := xif_t q hm
    obtain rfl := Option.some.inj hm
    refine xw_sub (pc := 1032) _ ?_ (he _ rfl)
    exact ⟨Or.inl rfl, Or.inl rfl, Or.inl rfl, Or.inl rfl, trivial⟩
  · replace hm := xif_f q hm
    refine xw_aload_nS (pc := 26) (i := 0) (x := b) C dL_law_26 rfl rfl ?_
    refine xw_iload_n (pc := 27) (i := 3) (x := x3) C dL_law_27 rfl rfl ?_
    obtain ⟨v9, q10, hm⟩ := xbind hm
    refine xw_siaload (pc := 28) C dL_law_28 hS q10 ?_
    refine xw_bipush (pc := 29) (v := 63) C dL_law_29 xk_b_63 ?_
    refine xw_iand (pc := 31) C dL_law_31 ?_
    by_cases q11 : (v9 &&& (63 : Int32)) = 0
    · replace hm := xif_t q11 hm
      refine xw_tabIn (pc := 32) (v := 0) (off := 148) (tgt := 180) C dL_law_32 q11 (by decide) (by decide) (by decide) (by decide) ?_
      refine xw_aload_n (pc := 180) (i := 1) (x := x1) C dL_law_180 rfl rfl ?_
      refine xw_aload_nS (pc := 181) (i := 0) (x := b) C dL_law_181 rfl rfl ?_
      refine xw_iload_n (pc := 182) (i := 3) (x := x3) C dL_law_182 rfl rfl ?_
      refine xw_iconst (pc := 183) (v := 1) C dL_law_183 xk_i_1 ?_
      refine xw_iadd (pc := 184) C dL_law_184 ?_
      obtain ⟨v44, q45, hm⟩ := xbind hm
      refine xw_siaload (pc := 185) C dL_law_185 hS q45 ?_
      obtain ⟨_, q46, hm⟩ := xbind hm
      obtain ⟨v47, q48, hm⟩ := xbind hm
      refine xw_callV1 (pc := 186) (As := [.int v44]) (st := []) C dL_law_186 (wX8_type q48) dd_X8_type lk_L_13 dv_X8_type (xco_spec q46) rfl (Nat.le_of_ble_eq_true rfl) (Nat.le_of_ble_eq_true rfl) (Nat.le_of_ble_eq_true rfl) ⟨Nat.le_refl _, Nat.le_refl _⟩ ⟨by have := hN.1; omega, by have := hN.2; omega⟩ ?_
      refine xw_aload_n (pc := 189) (i := 2) (x := x2) C dL_law_189 rfl rfl ?_
      refine xw_aload_nS (pc := 190) (i := 0) (x := b) C dL_law_190 rfl rfl ?_
      refine xw_iload_n (pc := 191) (i := 3) (x := x3) C dL_law_191 rfl rfl ?_
      refine xw_iconst (pc := 192) (v := 1) C dL_law_192 xk_i_1 ?_
      refine xw_iadd (pc := 193) C dL_law_193 ?_
      obtain ⟨v49, q50, hm⟩ := xbind hm
      refine xw_siaload (pc := 194) C dL_law_194 hS q50 ?_
      obtain ⟨_, q51, hm⟩ := xbind hm
      obtain ⟨v52, q53, hm⟩ := xbind hm
      refine xw_callV1 (pc := 195) (As := [.int v49]) (st := [.int v47.1]) C dL_law_195 (wX9_type q53) dd_X9_type lk_L_17 dv_X9_type (xco_spec q51) rfl (Nat.le_of_ble_eq_true rfl) (Nat.le_of_ble_eq_true rfl) (Nat.le_of_ble_eq_true rfl) ⟨Nat.le_refl _, Nat.le_refl _⟩ ⟨by have := hN.1; omega, by have := hN.2; omega⟩ ?_
      refine xw_icmp_eq (pc := 198) (tgt := 1026) C dL_law_198 (by decide) (fun q => ?_) (fun q => ?_)
      · replace hm := xif_t q hm
        refine xw_iinc (pc := 1026) (i := 3) (x := x3) (v := (x3 + (3 : Int32))) (L' := [some (.retAddr b), some (.ref x1), some (.ref x2), some (.int (x3 + (3 : Int32)))]) C dL_law_1026 rfl (congrArg (HAdd.hAdd _) xk_i_3) (Nat.le_of_ble_eq_true rfl) rfl ?_
        refine xw_goto (pc := 1029) (tgt := 18) C dL_law_1029 (by decide) ?_
        obtain rfl := Option.some.inj hm
        refine xw_sub (pc := 18) _ ?_ (hc _ rfl)
        exact ⟨Or.inr rfl, Or.inr rfl, Or.inr rfl, Or.inr rfl, trivial⟩
      · replace hm := xif_f q hm
        cases hm
    · replace hm := xif_f q11 hm
      by_cases q12 : (v9 &&& (63 : Int32)) = 1
      · replace hm := xif_t q12 hm
        refine xw_tabIn (pc := 32) (v := 1) (off := 171) (tgt := 203) C dL_law_32 q12 (by decide) (by decide) (by decide) (by decide) ?_
        refine xw_aload_n (pc := 203) (i := 1) (x := x1) C dL_law_203 rfl rfl ?_
        obtain ⟨_, q54, hm⟩ := xbind hm
        obtain ⟨v55, q56, hm⟩ := xbind hm
        refine xw_callV1 (pc := 204) (As := []) (st := []) C dL_law_204 (wX8_clearText q56) dd_X8_clearText lk_L_18 dv_X8_clearText (xco_spec q54) rfl (Nat.le_of_ble_eq_true rfl) (Nat.le_of_ble_eq_true rfl) (Nat.le_of_ble_eq_true rfl) ⟨Nat.le_refl _, Nat.le_refl _⟩ ⟨by have := hN.1; omega, by have := hN.2; omega⟩ ?_
        refine xw_aload_n (pc := 207) (i := 2) (x := x2) C dL_law_207 rfl rfl ?_
        obtain ⟨_, q57, hm⟩ := xbind hm
        obtain ⟨v58, q59, hm⟩ := xbind hm
        refine xw_callV1 (pc := 208) (As := []) (st := [.int v55.1]) C dL_law_208 (wX9_clearText q59) dd_X9_clearText lk_L_22 dv_X9_clearText (xco_spec q57) rfl (Nat.le_of_ble_eq_true rfl) (Nat.le_of_ble_eq_true rfl) (Nat.le_of_ble_eq_true rfl) ⟨Nat.le_refl _, Nat.le_refl _⟩ ⟨by have := hN.1; omega, by have := hN.2; omega⟩ ?_
        refine xw_icmp_eq (pc := 211) (tgt := 1026) C dL_law_211 (by decide) (fun q => ?_) (fun q => ?_)
        · replace hm := xif_t q hm
          refine xw_iinc (pc := 1026) (i := 3) (x := x3) (v := (x3 + (3 : Int32))) (L' := [some (.retAddr b), some (.ref x1), some (.ref x2), some (.int (x3 + (3 : Int32)))]) C dL_law_1026 rfl (congrArg (HAdd.hAdd _) xk_i_3) (Nat.le_of_ble_eq_true rfl) rfl ?_
          refine xw_goto (pc := 1029) (tgt := 18) C dL_law_1029 (by decide) ?_
          obtain rfl := Option.some.inj hm
          refine xw_sub (pc := 18) _ ?_ (hc _ rfl)
          exact ⟨Or.inr rfl, Or.inr rfl, Or.inr rfl, Or.inr rfl, trivial⟩
        · replace hm := xif_f q hm
          cases hm
      · replace hm := xif_f q12 hm
        by_cases q13 : (v9 &&& (63 : Int32)) = 2
        · replace hm := xif_t q13 hm
          refine xw_tabIn (pc := 32) (v := 2) (off := 184) (tgt := 216) C dL_law_32 q13 (by decide) (by decide) (by decide) (by decide) ?_
          refine xw_aload_n (pc := 216) (i := 1) (x := x1) C dL_law_216 rfl rfl ?_
          obtain ⟨_, q60, hm⟩ := xbind hm
          obtain ⟨v61, q62, hm⟩ := xbind hm
          refine xw_callV1 (pc := 217) (As := []) (st := []) C dL_law_217 (wX8_load q62) dd_X8_load lk_L_23 dv_X8_load (xco_spec q60) rfl (Nat.le_of_ble_eq_true rfl) (Nat.le_of_ble_eq_true rfl) (Nat.le_of_ble_eq_true rfl) ⟨Nat.le_refl _, Nat.le_refl _⟩ ⟨by have := hN.1; omega, by have := hN.2; omega⟩ ?_
          refine xw_aload_n (pc := 220) (i := 2) (x := x2) C dL_law_220 rfl rfl ?_
          obtain ⟨_, q63, hm⟩ := xbind hm
          obtain ⟨v64, q65, hm⟩ := xbind hm
          refine xw_callV1 (pc := 221) (As := []) (st := [.int v61.1]) C dL_law_221 (wX9_load q65) dd_X9_load lk_L_26 dv_X9_load (xco_spec q63) rfl (Nat.le_of_ble_eq_true rfl) (Nat.le_of_ble_eq_true rfl) (Nat.le_of_ble_eq_true rfl) ⟨Nat.le_refl _, Nat.le_refl _⟩ ⟨by have := hN.1; omega, by have := hN.2; omega⟩ ?_
          refine xw_icmp_eq (pc := 224) (tgt := 1026) C dL_law_224 (by decide) (fun q => ?_) (fun q => ?_)
          · replace hm := xif_t q hm
            refine xw_iinc (pc := 1026) (i := 3) (x := x3) (v := (x3 + (3 : Int32))) (L' := [some (.retAddr b), some (.ref x1), some (.ref x2), some (.int (x3 + (3 : Int32)))]) C dL_law_1026 rfl (congrArg (HAdd.hAdd _) xk_i_3) (Nat.le_of_ble_eq_true rfl) rfl ?_
            refine xw_goto (pc := 1029) (tgt := 18) C dL_law_1029 (by decide) ?_
            obtain rfl := Option.some.inj hm
            refine xw_sub (pc := 18) _ ?_ (hc _ rfl)
            exact ⟨Or.inr rfl, Or.inr rfl, Or.inr rfl, Or.inr rfl, trivial⟩
          · replace hm := xif_f q hm
            cases hm
        · replace hm := xif_f q13 hm
          by_cases q14 : (v9 &&& (63 : Int32)) = 3
          · replace hm := xif_t q14 hm
            refine xw_tabIn (pc := 32) (v := 3) (off := 197) (tgt := 229) C dL_law_32 q14 (by decide) (by decide) (by decide) (by decide) ?_
            refine xw_aload_n (pc := 229) (i := 1) (x := x1) C dL_law_229 rfl rfl ?_
            obtain ⟨_, q66, hm⟩ := xbind hm
            obtain ⟨v67, q68, hm⟩ := xbind hm
            refine xw_callV1 (pc := 230) (As := []) (st := []) C dL_law_230 (wX8_faultKind q68) dd_X8_faultKind lk_L_27 dv_X8_faultKind (xco_spec q66) rfl (Nat.le_of_ble_eq_true rfl) (Nat.le_of_ble_eq_true rfl) (Nat.le_of_ble_eq_true rfl) ⟨Nat.le_refl _, Nat.le_refl _⟩ ⟨by have := hN.1; omega, by have := hN.2; omega⟩ ?_
            refine xw_aload_n (pc := 233) (i := 2) (x := x2) C dL_law_233 rfl rfl ?_
            obtain ⟨_, q69, hm⟩ := xbind hm
            obtain ⟨v70, q71, hm⟩ := xbind hm
            refine xw_callV1 (pc := 234) (As := []) (st := [.int v67]) C dL_law_234 (wX9_faultKind q71) dd_X9_faultKind lk_L_30 dv_X9_faultKind (xco_spec q69) rfl (Nat.le_of_ble_eq_true rfl) (Nat.le_of_ble_eq_true rfl) (Nat.le_of_ble_eq_true rfl) ⟨Nat.le_refl _, Nat.le_refl _⟩ ⟨by have := hN.1; omega, by have := hN.2; omega⟩ ?_
            refine xw_icmp_eq (pc := 237) (tgt := 1026) C dL_law_237 (by decide) (fun q => ?_) (fun q => ?_)
            · replace hm := xif_t q hm
              refine xw_iinc (pc := 1026) (i := 3) (x := x3) (v := (x3 + (3 : Int32))) (L' := [some (.retAddr b), some (.ref x1), some (.ref x2), some (.int (x3 + (3 : Int32)))]) C dL_law_1026 rfl (congrArg (HAdd.hAdd _) xk_i_3) (Nat.le_of_ble_eq_true rfl) rfl ?_
              refine xw_goto (pc := 1029) (tgt := 18) C dL_law_1029 (by decide) ?_
              obtain rfl := Option.some.inj hm
              refine xw_sub (pc := 18) _ ?_ (hc _ rfl)
              exact ⟨Or.inr rfl, Or.inr rfl, Or.inr rfl, Or.inr rfl, trivial⟩
            · replace hm := xif_f q hm
              cases hm
          · replace hm := xif_f q14 hm
            by_cases q15 : (v9 &&& (63 : Int32)) = 4
            · replace hm := xif_t q15 hm
              refine xw_tabIn (pc := 32) (v := 4) (off := 210) (tgt := 242) C dL_law_32 q15 (by decide) (by decide) (by decide) (by decide) ?_
              refine xw_aload_n (pc := 242) (i := 1) (x := x1) C dL_law_242 rfl rfl ?_
              refine xw_aload_nS (pc := 243) (i := 0) (x := b) C dL_law_243 rfl rfl ?_
              refine xw_iload_n (pc := 244) (i := 3) (x := x3) C dL_law_244 rfl rfl ?_
              refine xw_iconst (pc := 245) (v := 1) C dL_law_245 xk_i_1 ?_
              refine xw_iadd (pc := 246) C dL_law_246 ?_
              obtain ⟨v72, q73, hm⟩ := xbind hm
              refine xw_siaload (pc := 247) C dL_law_247 hS q73 ?_
              refine xw_aload_nS (pc := 248) (i := 0) (x := b) C dL_law_248 rfl rfl ?_
              refine xw_iload_n (pc := 249) (i := 3) (x := x3) C dL_law_249 rfl rfl ?_
              refine xw_iconst (pc := 250) (v := 2) C dL_law_250 xk_i_2 ?_
              refine xw_iadd (pc := 251) C dL_law_251 ?_
              obtain ⟨v74, q75, hm⟩ := xbind hm
              refine xw_siaload (pc := 252) C dL_law_252 hS q75 ?_
              obtain ⟨_, q76, hm⟩ := xbind hm
              obtain ⟨v77, q78, hm⟩ := xbind hm
              refine xw_callV1 (pc := 253) (As := [.int v72, .int v74]) (st := []) C dL_law_253 (wX8_setMark q78) dd_X8_setMark lk_L_31 dv_X8_setMark (xco_spec q76) rfl (Nat.le_of_ble_eq_true rfl) (Nat.le_of_ble_eq_true rfl) (Nat.le_of_ble_eq_true rfl) ⟨Nat.le_refl _, Nat.le_refl _⟩ ⟨by have := hN.1; omega, by have := hN.2; omega⟩ ?_
              refine xw_aload_n (pc := 256) (i := 2) (x := x2) C dL_law_256 rfl rfl ?_
              refine xw_aload_nS (pc := 257) (i := 0) (x := b) C dL_law_257 rfl rfl ?_
              refine xw_iload_n (pc := 258) (i := 3) (x := x3) C dL_law_258 rfl rfl ?_
              refine xw_iconst (pc := 259) (v := 1) C dL_law_259 xk_i_1 ?_
              refine xw_iadd (pc := 260) C dL_law_260 ?_
              obtain ⟨v79, q80, hm⟩ := xbind hm
              refine xw_siaload (pc := 261) C dL_law_261 hS q80 ?_
              refine xw_aload_nS (pc := 262) (i := 0) (x := b) C dL_law_262 rfl rfl ?_
              refine xw_iload_n (pc := 263) (i := 3) (x := x3) C dL_law_263 rfl rfl ?_
              refine xw_iconst (pc := 264) (v := 2) C dL_law_264 xk_i_2 ?_
              refine xw_iadd (pc := 265) C dL_law_265 ?_
              obtain ⟨v81, q82, hm⟩ := xbind hm
              refine xw_siaload (pc := 266) C dL_law_266 hS q82 ?_
              obtain ⟨_, q83, hm⟩ := xbind hm
              obtain ⟨v84, q85, hm⟩ := xbind hm
              refine xw_callV1 (pc := 267) (As := [.int v79, .int v81]) (st := [.int v77.1]) C dL_law_267 (wX9_setMark q85) dd_X9_setMark lk_L_35 dv_X9_setMark (xco_spec q83) rfl (Nat.le_of_ble_eq_true rfl) (Nat.le_of_ble_eq_true rfl) (Nat.le_of_ble_eq_true rfl) ⟨Nat.le_refl _, Nat.le_refl _⟩ ⟨by have := hN.1; omega, by have := hN.2; omega⟩ ?_
              refine xw_icmp_eq (pc := 270) (tgt := 1026) C dL_law_270 (by decide) (fun q => ?_) (fun q => ?_)
              · replace hm := xif_t q hm
                refine xw_iinc (pc := 1026) (i := 3) (x := x3) (v := (x3 + (3 : Int32))) (L' := [some (.retAddr b), some (.ref x1), some (.ref x2), some (.int (x3 + (3 : Int32)))]) C dL_law_1026 rfl (congrArg (HAdd.hAdd _) xk_i_3) (Nat.le_of_ble_eq_true rfl) rfl ?_
                refine xw_goto (pc := 1029) (tgt := 18) C dL_law_1029 (by decide) ?_
                obtain rfl := Option.some.inj hm
                refine xw_sub (pc := 18) _ ?_ (hc _ rfl)
                exact ⟨Or.inr rfl, Or.inr rfl, Or.inr rfl, Or.inr rfl, trivial⟩
              · replace hm := xif_f q hm
                cases hm
            · replace hm := xif_f q15 hm
              by_cases q16 : (v9 &&& (63 : Int32)) = 5
              · replace hm := xif_t q16 hm
                refine xw_tabIn (pc := 32) (v := 5) (off := 243) (tgt := 275) C dL_law_32 q16 (by decide) (by decide) (by decide) (by decide) ?_
                refine xw_aload_n (pc := 275) (i := 1) (x := x1) C dL_law_275 rfl rfl ?_
                refine xw_aload_nS (pc := 276) (i := 0) (x := b) C dL_law_276 rfl rfl ?_
                refine xw_iload_n (pc := 277) (i := 3) (x := x3) C dL_law_277 rfl rfl ?_
                refine xw_iconst (pc := 278) (v := 1) C dL_law_278 xk_i_1 ?_
                refine xw_iadd (pc := 279) C dL_law_279 ?_
                obtain ⟨v86, q87, hm⟩ := xbind hm
                refine xw_siaload (pc := 280) C dL_law_280 hS q87 ?_
                obtain ⟨_, q88, hm⟩ := xbind hm
                obtain ⟨v89, q90, hm⟩ := xbind hm
                refine xw_callV1 (pc := 281) (As := [.int v86]) (st := []) C dL_law_281 (wX8_setStart q90) dd_X8_setStart lk_L_36 dv_X8_setStart (xco_spec q88) rfl (Nat.le_of_ble_eq_true rfl) (Nat.le_of_ble_eq_true rfl) (Nat.le_of_ble_eq_true rfl) ⟨Nat.le_refl _, Nat.le_refl _⟩ ⟨by have := hN.1; omega, by have := hN.2; omega⟩ ?_
                refine xw_aload_n (pc := 284) (i := 2) (x := x2) C dL_law_284 rfl rfl ?_
                refine xw_aload_nS (pc := 285) (i := 0) (x := b) C dL_law_285 rfl rfl ?_
                refine xw_iload_n (pc := 286) (i := 3) (x := x3) C dL_law_286 rfl rfl ?_
                refine xw_iconst (pc := 287) (v := 1) C dL_law_287 xk_i_1 ?_
                refine xw_iadd (pc := 288) C dL_law_288 ?_
                obtain ⟨v91, q92, hm⟩ := xbind hm
                refine xw_siaload (pc := 289) C dL_law_289 hS q92 ?_
                obtain ⟨_, q93, hm⟩ := xbind hm
                obtain ⟨v94, q95, hm⟩ := xbind hm
                refine xw_callV1 (pc := 290) (As := [.int v91]) (st := [.int v89.1]) C dL_law_290 (wX9_setStart q95) dd_X9_setStart lk_L_39 dv_X9_setStart (xco_spec q93) rfl (Nat.le_of_ble_eq_true rfl) (Nat.le_of_ble_eq_true rfl) (Nat.le_of_ble_eq_true rfl) ⟨Nat.le_refl _, Nat.le_refl _⟩ ⟨by have := hN.1; omega, by have := hN.2; omega⟩ ?_
                refine xw_icmp_eq (pc := 293) (tgt := 1026) C dL_law_293 (by decide) (fun q => ?_) (fun q => ?_)
                · replace hm := xif_t q hm
                  refine xw_iinc (pc := 1026) (i := 3) (x := x3) (v := (x3 + (3 : Int32))) (L' := [some (.retAddr b), some (.ref x1), some (.ref x2), some (.int (x3 + (3 : Int32)))]) C dL_law_1026 rfl (congrArg (HAdd.hAdd _) xk_i_3) (Nat.le_of_ble_eq_true rfl) rfl ?_
                  refine xw_goto (pc := 1029) (tgt := 18) C dL_law_1029 (by decide) ?_
                  obtain rfl := Option.some.inj hm
                  refine xw_sub (pc := 18) _ ?_ (hc _ rfl)
                  exact ⟨Or.inr rfl, Or.inr rfl, Or.inr rfl, Or.inr rfl, trivial⟩
                · replace hm := xif_f q hm
                  cases hm
              · replace hm := xif_f q16 hm
                by_cases q17 : (v9 &&& (63 : Int32)) = 6
                · replace hm := xif_t q17 hm
                  refine xw_tabIn (pc := 32) (v := 6) (off := 266) (tgt := 298) C dL_law_32 q17 (by decide) (by decide) (by decide) (by decide) ?_
                  refine xw_aload_n (pc := 298) (i := 1) (x := x1) C dL_law_298 rfl rfl ?_
                  refine xw_aload_nS (pc := 299) (i := 0) (x := b) C dL_law_299 rfl rfl ?_
                  refine xw_iload_n (pc := 300) (i := 3) (x := x3) C dL_law_300 rfl rfl ?_
                  refine xw_iconst (pc := 301) (v := 1) C dL_law_301 xk_i_1 ?_
                  refine xw_iadd (pc := 302) C dL_law_302 ?_
                  obtain ⟨v96, q97, hm⟩ := xbind hm
                  refine xw_siaload (pc := 303) C dL_law_303 hS q97 ?_
                  refine xw_aload_nS (pc := 304) (i := 0) (x := b) C dL_law_304 rfl rfl ?_
                  refine xw_iload_n (pc := 305) (i := 3) (x := x3) C dL_law_305 rfl rfl ?_
                  refine xw_iconst (pc := 306) (v := 2) C dL_law_306 xk_i_2 ?_
                  refine xw_iadd (pc := 307) C dL_law_307 ?_
                  obtain ⟨v98, q99, hm⟩ := xbind hm
                  refine xw_siaload (pc := 308) C dL_law_308 hS q99 ?_
                  obtain ⟨_, q100, hm⟩ := xbind hm
                  obtain ⟨v101, q102, hm⟩ := xbind hm
                  refine xw_callV1 (pc := 309) (As := [.int v96, .int v98]) (st := []) C dL_law_309 (wX8_setSpeed q102) dd_X8_setSpeed lk_L_40 dv_X8_setSpeed (xco_spec q100) rfl (Nat.le_of_ble_eq_true rfl) (Nat.le_of_ble_eq_true rfl) (Nat.le_of_ble_eq_true rfl) ⟨Nat.le_refl _, Nat.le_refl _⟩ ⟨by have := hN.1; omega, by have := hN.2; omega⟩ ?_
                  refine xw_aload_n (pc := 312) (i := 2) (x := x2) C dL_law_312 rfl rfl ?_
                  refine xw_aload_nS (pc := 313) (i := 0) (x := b) C dL_law_313 rfl rfl ?_
                  refine xw_iload_n (pc := 314) (i := 3) (x := x3) C dL_law_314 rfl rfl ?_
                  refine xw_iconst (pc := 315) (v := 1) C dL_law_315 xk_i_1 ?_
                  refine xw_iadd (pc := 316) C dL_law_316 ?_
                  obtain ⟨v103, q104, hm⟩ := xbind hm
                  refine xw_siaload (pc := 317) C dL_law_317 hS q104 ?_
                  refine xw_aload_nS (pc := 318) (i := 0) (x := b) C dL_law_318 rfl rfl ?_
                  refine xw_iload_n (pc := 319) (i := 3) (x := x3) C dL_law_319 rfl rfl ?_
                  refine xw_iconst (pc := 320) (v := 2) C dL_law_320 xk_i_2 ?_
                  refine xw_iadd (pc := 321) C dL_law_321 ?_
                  obtain ⟨v105, q106, hm⟩ := xbind hm
                  refine xw_siaload (pc := 322) C dL_law_322 hS q106 ?_
                  obtain ⟨_, q107, hm⟩ := xbind hm
                  obtain ⟨v108, q109, hm⟩ := xbind hm
                  refine xw_callV1 (pc := 323) (As := [.int v103, .int v105]) (st := [.int v101.1]) C dL_law_323 (wX9_setSpeed q109) dd_X9_setSpeed lk_L_43 dv_X9_setSpeed (xco_spec q107) rfl (Nat.le_of_ble_eq_true rfl) (Nat.le_of_ble_eq_true rfl) (Nat.le_of_ble_eq_true rfl) ⟨Nat.le_refl _, Nat.le_refl _⟩ ⟨by have := hN.1; omega, by have := hN.2; omega⟩ ?_
                  refine xw_icmp_eq (pc := 326) (tgt := 1026) C dL_law_326 (by decide) (fun q => ?_) (fun q => ?_)
                  · replace hm := xif_t q hm
                    refine xw_iinc (pc := 1026) (i := 3) (x := x3) (v := (x3 + (3 : Int32))) (L' := [some (.retAddr b), some (.ref x1), some (.ref x2), some (.int (x3 + (3 : Int32)))]) C dL_law_1026 rfl (congrArg (HAdd.hAdd _) xk_i_3) (Nat.le_of_ble_eq_true rfl) rfl ?_
                    refine xw_goto (pc := 1029) (tgt := 18) C dL_law_1029 (by decide) ?_
                    obtain rfl := Option.some.inj hm
                    refine xw_sub (pc := 18) _ ?_ (hc _ rfl)
                    exact ⟨Or.inr rfl, Or.inr rfl, Or.inr rfl, Or.inr rfl, trivial⟩
                  · replace hm := xif_f q hm
                    cases hm
                · replace hm := xif_f q17 hm
                  by_cases q18 : (v9 &&& (63 : Int32)) = 7
                  · replace hm := xif_t q18 hm
                    refine xw_tabIn (pc := 32) (v := 7) (off := 299) (tgt := 331) C dL_law_32 q18 (by decide) (by decide) (by decide) (by decide) ?_
                    refine xw_aload_n (pc := 331) (i := 1) (x := x1) C dL_law_331 rfl rfl ?_
                    refine xw_aload_nS (pc := 332) (i := 0) (x := b) C dL_law_332 rfl rfl ?_
                    refine xw_iload_n (pc := 333) (i := 3) (x := x3) C dL_law_333 rfl rfl ?_
                    refine xw_iconst (pc := 334) (v := 1) C dL_law_334 xk_i_1 ?_
                    refine xw_iadd (pc := 335) C dL_law_335 ?_
                    obtain ⟨v110, q111, hm⟩ := xbind hm
                    refine xw_siaload (pc := 336) C dL_law_336 hS q111 ?_
                    obtain ⟨_, q112, hm⟩ := xbind hm
                    obtain ⟨v113, q114, hm⟩ := xbind hm
                    refine xw_callV1 (pc := 337) (As := [.int v110]) (st := []) C dL_law_337 (wX8_dropChange q114) dd_X8_dropChange lk_L_44 dv_X8_dropChange (xco_spec q112) rfl (Nat.le_of_ble_eq_true rfl) (Nat.le_of_ble_eq_true rfl) (Nat.le_of_ble_eq_true rfl) ⟨Nat.le_refl _, Nat.le_refl _⟩ ⟨by have := hN.1; omega, by have := hN.2; omega⟩ ?_
                    refine xw_aload_n (pc := 340) (i := 2) (x := x2) C dL_law_340 rfl rfl ?_
                    refine xw_aload_nS (pc := 341) (i := 0) (x := b) C dL_law_341 rfl rfl ?_
                    refine xw_iload_n (pc := 342) (i := 3) (x := x3) C dL_law_342 rfl rfl ?_
                    refine xw_iconst (pc := 343) (v := 1) C dL_law_343 xk_i_1 ?_
                    refine xw_iadd (pc := 344) C dL_law_344 ?_
                    obtain ⟨v115, q116, hm⟩ := xbind hm
                    refine xw_siaload (pc := 345) C dL_law_345 hS q116 ?_
                    obtain ⟨_, q117, hm⟩ := xbind hm
                    obtain ⟨v118, q119, hm⟩ := xbind hm
                    refine xw_callV1 (pc := 346) (As := [.int v115]) (st := [.int v113.1]) C dL_law_346 (wX9_dropChange q119) dd_X9_dropChange lk_L_47 dv_X9_dropChange (xco_spec q117) rfl (Nat.le_of_ble_eq_true rfl) (Nat.le_of_ble_eq_true rfl) (Nat.le_of_ble_eq_true rfl) ⟨Nat.le_refl _, Nat.le_refl _⟩ ⟨by have := hN.1; omega, by have := hN.2; omega⟩ ?_
                    refine xw_icmp_eq (pc := 349) (tgt := 1026) C dL_law_349 (by decide) (fun q => ?_) (fun q => ?_)
                    · replace hm := xif_t q hm
                      refine xw_iinc (pc := 1026) (i := 3) (x := x3) (v := (x3 + (3 : Int32))) (L' := [some (.retAddr b), some (.ref x1), some (.ref x2), some (.int (x3 + (3 : Int32)))]) C dL_law_1026 rfl (congrArg (HAdd.hAdd _) xk_i_3) (Nat.le_of_ble_eq_true rfl) rfl ?_
                      refine xw_goto (pc := 1029) (tgt := 18) C dL_law_1029 (by decide) ?_
                      obtain rfl := Option.some.inj hm
                      refine xw_sub (pc := 18) _ ?_ (hc _ rfl)
                      exact ⟨Or.inr rfl, Or.inr rfl, Or.inr rfl, Or.inr rfl, trivial⟩
                    · replace hm := xif_f q hm
                      cases hm
                  · replace hm := xif_f q18 hm
                    by_cases q19 : (v9 &&& (63 : Int32)) = 8
                    · replace hm := xif_t q19 hm
                      refine xw_tabIn (pc := 32) (v := 8) (off := 322) (tgt := 354) C dL_law_32 q19 (by decide) (by decide) (by decide) (by decide) ?_
                      refine xw_aload_n (pc := 354) (i := 1) (x := x1) C dL_law_354 rfl rfl ?_
                      refine xw_aload_nS (pc := 355) (i := 0) (x := b) C dL_law_355 rfl rfl ?_
                      refine xw_iload_n (pc := 356) (i := 3) (x := x3) C dL_law_356 rfl rfl ?_
                      refine xw_iconst (pc := 357) (v := 1) C dL_law_357 xk_i_1 ?_
                      refine xw_iadd (pc := 358) C dL_law_358 ?_
                      obtain ⟨v120, q121, hm⟩ := xbind hm
                      refine xw_siaload (pc := 359) C dL_law_359 hS q121 ?_
                      refine xw_aload_nS (pc := 360) (i := 0) (x := b) C dL_law_360 rfl rfl ?_
                      refine xw_iload_n (pc := 361) (i := 3) (x := x3) C dL_law_361 rfl rfl ?_
                      refine xw_iconst (pc := 362) (v := 2) C dL_law_362 xk_i_2 ?_
                      refine xw_iadd (pc := 363) C dL_law_363 ?_
                      obtain ⟨v122, q123, hm⟩ := xbind hm
                      refine xw_siaload (pc := 364) C dL_law_364 hS q123 ?_
                      obtain ⟨_, q124, hm⟩ := xbind hm
                      obtain ⟨v125, q126, hm⟩ := xbind hm
                      refine xw_callV1 (pc := 365) (As := [.int v120, .int v122]) (st := []) C dL_law_365 (wX8_markAt q126) dd_X8_markAt lk_L_48 dv_X8_markAt (xco_spec q124) rfl (Nat.le_of_ble_eq_true rfl) (Nat.le_of_ble_eq_true rfl) (Nat.le_of_ble_eq_true rfl) ⟨Nat.le_refl _, Nat.le_refl _⟩ ⟨by have := hN.1; omega, by have := hN.2; omega⟩ ?_
                      refine xw_aload_n (pc := 368) (i := 2) (x := x2) C dL_law_368 rfl rfl ?_
                      refine xw_aload_nS (pc := 369) (i := 0) (x := b) C dL_law_369 rfl rfl ?_
                      refine xw_iload_n (pc := 370) (i := 3) (x := x3) C dL_law_370 rfl rfl ?_
                      refine xw_iconst (pc := 371) (v := 1) C dL_law_371 xk_i_1 ?_
                      refine xw_iadd (pc := 372) C dL_law_372 ?_
                      obtain ⟨v127, q128, hm⟩ := xbind hm
                      refine xw_siaload (pc := 373) C dL_law_373 hS q128 ?_
                      refine xw_aload_nS (pc := 374) (i := 0) (x := b) C dL_law_374 rfl rfl ?_
                      refine xw_iload_n (pc := 375) (i := 3) (x := x3) C dL_law_375 rfl rfl ?_
                      refine xw_iconst (pc := 376) (v := 2) C dL_law_376 xk_i_2 ?_
                      refine xw_iadd (pc := 377) C dL_law_377 ?_
                      obtain ⟨v129, q130, hm⟩ := xbind hm
                      refine xw_siaload (pc := 378) C dL_law_378 hS q130 ?_
                      obtain ⟨_, q131, hm⟩ := xbind hm
                      obtain ⟨v132, q133, hm⟩ := xbind hm
                      refine xw_callV1 (pc := 379) (As := [.int v127, .int v129]) (st := [.int v125]) C dL_law_379 (wX9_markAt q133) dd_X9_markAt lk_L_51 dv_X9_markAt (xco_spec q131) rfl (Nat.le_of_ble_eq_true rfl) (Nat.le_of_ble_eq_true rfl) (Nat.le_of_ble_eq_true rfl) ⟨Nat.le_refl _, Nat.le_refl _⟩ ⟨by have := hN.1; omega, by have := hN.2; omega⟩ ?_
                      refine xw_icmp_eq (pc := 382) (tgt := 1026) C dL_law_382 (by decide) (fun q => ?_) (fun q => ?_)
                      · replace hm := xif_t q hm
                        refine xw_iinc (pc := 1026) (i := 3) (x := x3) (v := (x3 + (3 : Int32))) (L' := [some (.retAddr b), some (.ref x1), some (.ref x2), some (.int (x3 + (3 : Int32)))]) C dL_law_1026 rfl (congrArg (HAdd.hAdd _) xk_i_3) (Nat.le_of_ble_eq_true rfl) rfl ?_
                        refine xw_goto (pc := 1029) (tgt := 18) C dL_law_1029 (by decide) ?_
                        obtain rfl := Option.some.inj hm
                        refine xw_sub (pc := 18) _ ?_ (hc _ rfl)
                        exact ⟨Or.inr rfl, Or.inr rfl, Or.inr rfl, Or.inr rfl, trivial⟩
                      · replace hm := xif_f q hm
                        cases hm
                    · replace hm := xif_f q19 hm
                      by_cases q20 : (v9 &&& (63 : Int32)) = 9
                      · replace hm := xif_t q20 hm
                        refine xw_tabIn (pc := 32) (v := 9) (off := 355) (tgt := 387) C dL_law_32 q20 (by decide) (by decide) (by decide) (by decide) ?_
                        refine xw_aload_n (pc := 387) (i := 1) (x := x1) C dL_law_387 rfl rfl ?_
                        refine xw_aload_nS (pc := 388) (i := 0) (x := b) C dL_law_388 rfl rfl ?_
                        refine xw_iload_n (pc := 389) (i := 3) (x := x3) C dL_law_389 rfl rfl ?_
                        refine xw_iconst (pc := 390) (v := 1) C dL_law_390 xk_i_1 ?_
                        refine xw_iadd (pc := 391) C dL_law_391 ?_
                        obtain ⟨v134, q135, hm⟩ := xbind hm
                        refine xw_siaload (pc := 392) C dL_law_392 hS q135 ?_
                        obtain ⟨_, q136, hm⟩ := xbind hm
                        obtain ⟨v137, q138, hm⟩ := xbind hm
                        refine xw_callV1 (pc := 393) (As := [.int v134]) (st := []) C dL_law_393 (wX8_turn q138) dd_X8_turn lk_L_52 dv_X8_turn (xco_spec q136) rfl (Nat.le_of_ble_eq_true rfl) (Nat.le_of_ble_eq_true rfl) (Nat.le_of_ble_eq_true rfl) ⟨Nat.le_refl _, Nat.le_refl _⟩ ⟨by have := hN.1; omega, by have := hN.2; omega⟩ ?_
                        refine xw_aload_n (pc := 396) (i := 2) (x := x2) C dL_law_396 rfl rfl ?_
                        refine xw_aload_nS (pc := 397) (i := 0) (x := b) C dL_law_397 rfl rfl ?_
                        refine xw_iload_n (pc := 398) (i := 3) (x := x3) C dL_law_398 rfl rfl ?_
                        refine xw_iconst (pc := 399) (v := 1) C dL_law_399 xk_i_1 ?_
                        refine xw_iadd (pc := 400) C dL_law_400 ?_
                        obtain ⟨v139, q140, hm⟩ := xbind hm
                        refine xw_siaload (pc := 401) C dL_law_401 hS q140 ?_
                        obtain ⟨_, q141, hm⟩ := xbind hm
                        obtain ⟨v142, q143, hm⟩ := xbind hm
                        refine xw_callV1 (pc := 402) (As := [.int v139]) (st := [.int v137]) C dL_law_402 (wX9_turn q143) dd_X9_turn lk_L_55 dv_X9_turn (xco_spec q141) rfl (Nat.le_of_ble_eq_true rfl) (Nat.le_of_ble_eq_true rfl) (Nat.le_of_ble_eq_true rfl) ⟨Nat.le_refl _, Nat.le_refl _⟩ ⟨by have := hN.1; omega, by have := hN.2; omega⟩ ?_
                        refine xw_icmp_eq (pc := 405) (tgt := 1026) C dL_law_405 (by decide) (fun q => ?_) (fun q => ?_)
                        · replace hm := xif_t q hm
                          refine xw_iinc (pc := 1026) (i := 3) (x := x3) (v := (x3 + (3 : Int32))) (L' := [some (.retAddr b), some (.ref x1), some (.ref x2), some (.int (x3 + (3 : Int32)))]) C dL_law_1026 rfl (congrArg (HAdd.hAdd _) xk_i_3) (Nat.le_of_ble_eq_true rfl) rfl ?_
                          refine xw_goto (pc := 1029) (tgt := 18) C dL_law_1029 (by decide) ?_
                          obtain rfl := Option.some.inj hm
                          refine xw_sub (pc := 18) _ ?_ (hc _ rfl)
                          exact ⟨Or.inr rfl, Or.inr rfl, Or.inr rfl, Or.inr rfl, trivial⟩
                        · replace hm := xif_f q hm
                          cases hm
                      · replace hm := xif_f q20 hm
                        by_cases q21 : (v9 &&& (63 : Int32)) = 10
                        · replace hm := xif_t q21 hm
                          refine xw_tabIn (pc := 32) (v := 10) (off := 378) (tgt := 410) C dL_law_32 q21 (by decide) (by decide) (by decide) (by decide) ?_
                          refine xw_aload_n (pc := 410) (i := 1) (x := x1) C dL_law_410 rfl rfl ?_
                          refine xw_aload_nS (pc := 411) (i := 0) (x := b) C dL_law_411 rfl rfl ?_
                          refine xw_iload_n (pc := 412) (i := 3) (x := x3) C dL_law_412 rfl rfl ?_
                          refine xw_iconst (pc := 413) (v := 1) C dL_law_413 xk_i_1 ?_
                          refine xw_iadd (pc := 414) C dL_law_414 ?_
                          obtain ⟨v144, q145, hm⟩ := xbind hm
                          refine xw_siaload (pc := 415) C dL_law_415 hS q145 ?_
                          refine xw_aload_nS (pc := 416) (i := 0) (x := b) C dL_law_416 rfl rfl ?_
                          refine xw_iload_n (pc := 417) (i := 3) (x := x3) C dL_law_417 rfl rfl ?_
                          refine xw_iconst (pc := 418) (v := 2) C dL_law_418 xk_i_2 ?_
                          refine xw_iadd (pc := 419) C dL_law_419 ?_
                          obtain ⟨v146, q147, hm⟩ := xbind hm
                          refine xw_siaload (pc := 420) C dL_law_420 hS q147 ?_
                          obtain ⟨_, q148, hm⟩ := xbind hm
                          obtain ⟨v149, q150, hm⟩ := xbind hm
                          refine xw_callV1 (pc := 421) (As := [.int v144, .int v146]) (st := []) C dL_law_421 (wX8_setFlash q150) dd_X8_setFlash lk_L_56 dv_X8_setFlash (xco_spec q148) rfl (Nat.le_of_ble_eq_true rfl) (Nat.le_of_ble_eq_true rfl) (Nat.le_of_ble_eq_true rfl) ⟨Nat.le_refl _, Nat.le_refl _⟩ ⟨by have := hN.1; omega, by have := hN.2; omega⟩ ?_
                          refine xw_aload_n (pc := 424) (i := 2) (x := x2) C dL_law_424 rfl rfl ?_
                          refine xw_aload_nS (pc := 425) (i := 0) (x := b) C dL_law_425 rfl rfl ?_
                          refine xw_iload_n (pc := 426) (i := 3) (x := x3) C dL_law_426 rfl rfl ?_
                          refine xw_iconst (pc := 427) (v := 1) C dL_law_427 xk_i_1 ?_
                          refine xw_iadd (pc := 428) C dL_law_428 ?_
                          obtain ⟨v151, q152, hm⟩ := xbind hm
                          refine xw_siaload (pc := 429) C dL_law_429 hS q152 ?_
                          refine xw_aload_nS (pc := 430) (i := 0) (x := b) C dL_law_430 rfl rfl ?_
                          refine xw_iload_n (pc := 431) (i := 3) (x := x3) C dL_law_431 rfl rfl ?_
                          refine xw_iconst (pc := 432) (v := 2) C dL_law_432 xk_i_2 ?_
                          refine xw_iadd (pc := 433) C dL_law_433 ?_
                          obtain ⟨v153, q154, hm⟩ := xbind hm
                          refine xw_siaload (pc := 434) C dL_law_434 hS q154 ?_
                          obtain ⟨_, q155, hm⟩ := xbind hm
                          obtain ⟨v156, q157, hm⟩ := xbind hm
                          refine xw_callV1 (pc := 435) (As := [.int v151, .int v153]) (st := [.int v149.1]) C dL_law_435 (wX9_setFlash q157) dd_X9_setFlash lk_L_59 dv_X9_setFlash (xco_spec q155) rfl (Nat.le_of_ble_eq_true rfl) (Nat.le_of_ble_eq_true rfl) (Nat.le_of_ble_eq_true rfl) ⟨Nat.le_refl _, Nat.le_refl _⟩ ⟨by have := hN.1; omega, by have := hN.2; omega⟩ ?_
                          refine xw_icmp_eq (pc := 438) (tgt := 1026) C dL_law_438 (by decide) (fun q => ?_) (fun q => ?_)
                          · replace hm := xif_t q hm
                            refine xw_iinc (pc := 1026) (i := 3) (x := x3) (v := (x3 + (3 : Int32))) (L' := [some (.retAddr b), some (.ref x1), some (.ref x2), some (.int (x3 + (3 : Int32)))]) C dL_law_1026 rfl (congrArg (HAdd.hAdd _) xk_i_3) (Nat.le_of_ble_eq_true rfl) rfl ?_
                            refine xw_goto (pc := 1029) (tgt := 18) C dL_law_1029 (by decide) ?_
                            obtain rfl := Option.some.inj hm
                            refine xw_sub (pc := 18) _ ?_ (hc _ rfl)
                            exact ⟨Or.inr rfl, Or.inr rfl, Or.inr rfl, Or.inr rfl, trivial⟩
                          · replace hm := xif_f q hm
                            cases hm
                        · replace hm := xif_f q21 hm
                          by_cases q22 : (v9 &&& (63 : Int32)) = 11
                          · replace hm := xif_t q22 hm
                            refine xw_tabIn (pc := 32) (v := 11) (off := 411) (tgt := 443) C dL_law_32 q22 (by decide) (by decide) (by decide) (by decide) ?_
                            refine xw_aload_n (pc := 443) (i := 1) (x := x1) C dL_law_443 rfl rfl ?_
                            refine xw_aload_nS (pc := 444) (i := 0) (x := b) C dL_law_444 rfl rfl ?_
                            refine xw_iload_n (pc := 445) (i := 3) (x := x3) C dL_law_445 rfl rfl ?_
                            refine xw_iconst (pc := 446) (v := 1) C dL_law_446 xk_i_1 ?_
                            refine xw_iadd (pc := 447) C dL_law_447 ?_
                            obtain ⟨v158, q159, hm⟩ := xbind hm
                            refine xw_siaload (pc := 448) C dL_law_448 hS q159 ?_
                            refine xw_aload_nS (pc := 449) (i := 0) (x := b) C dL_law_449 rfl rfl ?_
                            refine xw_iload_n (pc := 450) (i := 3) (x := x3) C dL_law_450 rfl rfl ?_
                            refine xw_iconst (pc := 451) (v := 2) C dL_law_451 xk_i_2 ?_
                            refine xw_iadd (pc := 452) C dL_law_452 ?_
                            obtain ⟨v160, q161, hm⟩ := xbind hm
                            refine xw_siaload (pc := 453) C dL_law_453 hS q161 ?_
                            obtain ⟨_, q162, hm⟩ := xbind hm
                            obtain ⟨v163, q164, hm⟩ := xbind hm
                            refine xw_callV1 (pc := 454) (As := [.int v158, .int v160]) (st := []) C dL_law_454 (wX8_flash q164) dd_X8_flash lk_L_60 dv_X8_flash (xco_spec q162) rfl (Nat.le_of_ble_eq_true rfl) (Nat.le_of_ble_eq_true rfl) (Nat.le_of_ble_eq_true rfl) ⟨Nat.le_refl _, Nat.le_refl _⟩ ⟨by have := hN.1; omega, by have := hN.2; omega⟩ ?_
                            refine xw_aload_n (pc := 457) (i := 2) (x := x2) C dL_law_457 rfl rfl ?_
                            refine xw_aload_nS (pc := 458) (i := 0) (x := b) C dL_law_458 rfl rfl ?_
                            refine xw_iload_n (pc := 459) (i := 3) (x := x3) C dL_law_459 rfl rfl ?_
                            refine xw_iconst (pc := 460) (v := 1) C dL_law_460 xk_i_1 ?_
                            refine xw_iadd (pc := 461) C dL_law_461 ?_
                            obtain ⟨v165, q166, hm⟩ := xbind hm
                            refine xw_siaload (pc := 462) C dL_law_462 hS q166 ?_
                            refine xw_aload_nS (pc := 463) (i := 0) (x := b) C dL_law_463 rfl rfl ?_
                            refine xw_iload_n (pc := 464) (i := 3) (x := x3) C dL_law_464 rfl rfl ?_
                            refine xw_iconst (pc := 465) (v := 2) C dL_law_465 xk_i_2 ?_
                            refine xw_iadd (pc := 466) C dL_law_466 ?_
                            obtain ⟨v167, q168, hm⟩ := xbind hm
                            refine xw_siaload (pc := 467) C dL_law_467 hS q168 ?_
                            obtain ⟨_, q169, hm⟩ := xbind hm
                            obtain ⟨v170, q171, hm⟩ := xbind hm
                            refine xw_callV1 (pc := 468) (As := [.int v165, .int v167]) (st := [.int v163]) C dL_law_468 (wX9_flash q171) dd_X9_flash lk_L_63 dv_X9_flash (xco_spec q169) rfl (Nat.le_of_ble_eq_true rfl) (Nat.le_of_ble_eq_true rfl) (Nat.le_of_ble_eq_true rfl) ⟨Nat.le_refl _, Nat.le_refl _⟩ ⟨by have := hN.1; omega, by have := hN.2; omega⟩ ?_
                            refine xw_icmp_eq (pc := 471) (tgt := 1026) C dL_law_471 (by decide) (fun q => ?_) (fun q => ?_)
                            · replace hm := xif_t q hm
                              refine xw_iinc (pc := 1026) (i := 3) (x := x3) (v := (x3 + (3 : Int32))) (L' := [some (.retAddr b), some (.ref x1), some (.ref x2), some (.int (x3 + (3 : Int32)))]) C dL_law_1026 rfl (congrArg (HAdd.hAdd _) xk_i_3) (Nat.le_of_ble_eq_true rfl) rfl ?_
                              refine xw_goto (pc := 1029) (tgt := 18) C dL_law_1029 (by decide) ?_
                              obtain rfl := Option.some.inj hm
                              refine xw_sub (pc := 18) _ ?_ (hc _ rfl)
                              exact ⟨Or.inr rfl, Or.inr rfl, Or.inr rfl, Or.inr rfl, trivial⟩
                            · replace hm := xif_f q hm
                              cases hm
                          · replace hm := xif_f q22 hm
                            by_cases q23 : (v9 &&& (63 : Int32)) = 12
                            · replace hm := xif_t q23 hm
                              refine xw_tabIn (pc := 32) (v := 12) (off := 444) (tgt := 476) C dL_law_32 q23 (by decide) (by decide) (by decide) (by decide) ?_
                              refine xw_aload_n (pc := 476) (i := 1) (x := x1) C dL_law_476 rfl rfl ?_
                              refine xw_aload_nS (pc := 477) (i := 0) (x := b) C dL_law_477 rfl rfl ?_
                              refine xw_iload_n (pc := 478) (i := 3) (x := x3) C dL_law_478 rfl rfl ?_
                              refine xw_iconst (pc := 479) (v := 1) C dL_law_479 xk_i_1 ?_
                              refine xw_iadd (pc := 480) C dL_law_480 ?_
                              obtain ⟨v172, q173, hm⟩ := xbind hm
                              refine xw_siaload (pc := 481) C dL_law_481 hS q173 ?_
                              refine xw_aload_nS (pc := 482) (i := 0) (x := b) C dL_law_482 rfl rfl ?_
                              refine xw_iload_n (pc := 483) (i := 3) (x := x3) C dL_law_483 rfl rfl ?_
                              refine xw_iconst (pc := 484) (v := 2) C dL_law_484 xk_i_2 ?_
                              refine xw_iadd (pc := 485) C dL_law_485 ?_
                              obtain ⟨v174, q175, hm⟩ := xbind hm
                              refine xw_siaload (pc := 486) C dL_law_486 hS q175 ?_
                              obtain ⟨_, q176, hm⟩ := xbind hm
                              obtain ⟨v177, q178, hm⟩ := xbind hm
                              refine xw_callV1 (pc := 487) (As := [.int v172, .int v174]) (st := []) C dL_law_487 (wX8_step q178) dd_X8_step lk_L_64 dv_X8_step (xco_spec q176) rfl (Nat.le_of_ble_eq_true rfl) (Nat.le_of_ble_eq_true rfl) (Nat.le_of_ble_eq_true rfl) ⟨Nat.le_refl _, Nat.le_refl _⟩ ⟨by have := hN.1; omega, by have := hN.2; omega⟩ ?_
                              refine xw_aload_n (pc := 490) (i := 2) (x := x2) C dL_law_490 rfl rfl ?_
                              refine xw_aload_nS (pc := 491) (i := 0) (x := b) C dL_law_491 rfl rfl ?_
                              refine xw_iload_n (pc := 492) (i := 3) (x := x3) C dL_law_492 rfl rfl ?_
                              refine xw_iconst (pc := 493) (v := 1) C dL_law_493 xk_i_1 ?_
                              refine xw_iadd (pc := 494) C dL_law_494 ?_
                              obtain ⟨v179, q180, hm⟩ := xbind hm
                              refine xw_siaload (pc := 495) C dL_law_495 hS q180 ?_
                              refine xw_aload_nS (pc := 496) (i := 0) (x := b) C dL_law_496 rfl rfl ?_
                              refine xw_iload_n (pc := 497) (i := 3) (x := x3) C dL_law_497 rfl rfl ?_
                              refine xw_iconst (pc := 498) (v := 2) C dL_law_498 xk_i_2 ?_
                              refine xw_iadd (pc := 499) C dL_law_499 ?_
                              obtain ⟨v181, q182, hm⟩ := xbind hm
                              refine xw_siaload (pc := 500) C dL_law_500 hS q182 ?_
                              obtain ⟨_, q183, hm⟩ := xbind hm
                              obtain ⟨v184, q185, hm⟩ := xbind hm
                              refine xw_callV1 (pc := 501) (As := [.int v179, .int v181]) (st := [.int v177]) C dL_law_501 (wX9_step q185) dd_X9_step lk_L_67 dv_X9_step (xco_spec q183) rfl (Nat.le_of_ble_eq_true rfl) (Nat.le_of_ble_eq_true rfl) (Nat.le_of_ble_eq_true rfl) ⟨Nat.le_refl _, Nat.le_refl _⟩ ⟨by have := hN.1; omega, by have := hN.2; omega⟩ ?_
                              refine xw_icmp_eq (pc := 504) (tgt := 1026) C dL_law_504 (by decide) (fun q => ?_) (fun q => ?_)
                              · replace hm := xif_t q hm
                                refine xw_iinc (pc := 1026) (i := 3) (x := x3) (v := (x3 + (3 : Int32))) (L' := [some (.retAddr b), some (.ref x1), some (.ref x2), some (.int (x3 + (3 : Int32)))]) C dL_law_1026 rfl (congrArg (HAdd.hAdd _) xk_i_3) (Nat.le_of_ble_eq_true rfl) rfl ?_
                                refine xw_goto (pc := 1029) (tgt := 18) C dL_law_1029 (by decide) ?_
                                obtain rfl := Option.some.inj hm
                                refine xw_sub (pc := 18) _ ?_ (hc _ rfl)
                                exact ⟨Or.inr rfl, Or.inr rfl, Or.inr rfl, Or.inr rfl, trivial⟩
                              · replace hm := xif_f q hm
                                cases hm
                            · replace hm := xif_f q23 hm
                              by_cases q24 : (v9 &&& (63 : Int32)) = 13
                              · replace hm := xif_t q24 hm
                                refine xw_tabIn (pc := 32) (v := 13) (off := 477) (tgt := 509) C dL_law_32 q24 (by decide) (by decide) (by decide) (by decide) ?_
                                refine xw_aload_n (pc := 509) (i := 1) (x := x1) C dL_law_509 rfl rfl ?_
                                refine xw_aload_nS (pc := 510) (i := 0) (x := b) C dL_law_510 rfl rfl ?_
                                refine xw_iload_n (pc := 511) (i := 3) (x := x3) C dL_law_511 rfl rfl ?_
                                refine xw_iconst (pc := 512) (v := 1) C dL_law_512 xk_i_1 ?_
                                refine xw_iadd (pc := 513) C dL_law_513 ?_
                                obtain ⟨v186, q187, hm⟩ := xbind hm
                                refine xw_siaload (pc := 514) C dL_law_514 hS q187 ?_
                                obtain ⟨_, q188, hm⟩ := xbind hm
                                obtain ⟨v189, q190, hm⟩ := xbind hm
                                refine xw_callV1 (pc := 515) (As := [.int v186]) (st := []) C dL_law_515 (wX8_seems q190) dd_X8_seems lk_L_68 dv_X8_seems (xco_spec q188) rfl (Nat.le_of_ble_eq_true rfl) (Nat.le_of_ble_eq_true rfl) (Nat.le_of_ble_eq_true rfl) ⟨Nat.le_refl _, Nat.le_refl _⟩ ⟨by have := hN.1; omega, by have := hN.2; omega⟩ ?_
                                refine xw_aload_n (pc := 518) (i := 2) (x := x2) C dL_law_518 rfl rfl ?_
                                refine xw_aload_nS (pc := 519) (i := 0) (x := b) C dL_law_519 rfl rfl ?_
                                refine xw_iload_n (pc := 520) (i := 3) (x := x3) C dL_law_520 rfl rfl ?_
                                refine xw_iconst (pc := 521) (v := 1) C dL_law_521 xk_i_1 ?_
                                refine xw_iadd (pc := 522) C dL_law_522 ?_
                                obtain ⟨v191, q192, hm⟩ := xbind hm
                                refine xw_siaload (pc := 523) C dL_law_523 hS q192 ?_
                                obtain ⟨_, q193, hm⟩ := xbind hm
                                obtain ⟨v194, q195, hm⟩ := xbind hm
                                refine xw_callV1 (pc := 524) (As := [.int v191]) (st := [.int v189]) C dL_law_524 (wX9_seems q195) dd_X9_seems lk_L_71 dv_X9_seems (xco_spec q193) rfl (Nat.le_of_ble_eq_true rfl) (Nat.le_of_ble_eq_true rfl) (Nat.le_of_ble_eq_true rfl) ⟨Nat.le_refl _, Nat.le_refl _⟩ ⟨by have := hN.1; omega, by have := hN.2; omega⟩ ?_
                                refine xw_icmp_eq (pc := 527) (tgt := 1026) C dL_law_527 (by decide) (fun q => ?_) (fun q => ?_)
                                · replace hm := xif_t q hm
                                  refine xw_iinc (pc := 1026) (i := 3) (x := x3) (v := (x3 + (3 : Int32))) (L' := [some (.retAddr b), some (.ref x1), some (.ref x2), some (.int (x3 + (3 : Int32)))]) C dL_law_1026 rfl (congrArg (HAdd.hAdd _) xk_i_3) (Nat.le_of_ble_eq_true rfl) rfl ?_
                                  refine xw_goto (pc := 1029) (tgt := 18) C dL_law_1029 (by decide) ?_
                                  obtain rfl := Option.some.inj hm
                                  refine xw_sub (pc := 18) _ ?_ (hc _ rfl)
                                  exact ⟨Or.inr rfl, Or.inr rfl, Or.inr rfl, Or.inr rfl, trivial⟩
                                · replace hm := xif_f q hm
                                  cases hm
                              · replace hm := xif_f q24 hm
                                by_cases q25 : (v9 &&& (63 : Int32)) = 14
                                · replace hm := xif_t q25 hm
                                  refine xw_tabIn (pc := 32) (v := 14) (off := 500) (tgt := 532) C dL_law_32 q25 (by decide) (by decide) (by decide) (by decide) ?_
                                  refine xw_aload_n (pc := 532) (i := 1) (x := x1) C dL_law_532 rfl rfl ?_
                                  refine xw_aload_nS (pc := 533) (i := 0) (x := b) C dL_law_533 rfl rfl ?_
                                  refine xw_iload_n (pc := 534) (i := 3) (x := x3) C dL_law_534 rfl rfl ?_
                                  refine xw_iconst (pc := 535) (v := 1) C dL_law_535 xk_i_1 ?_
                                  refine xw_iadd (pc := 536) C dL_law_536 ?_
                                  obtain ⟨v196, q197, hm⟩ := xbind hm
                                  refine xw_siaload (pc := 537) C dL_law_537 hS q197 ?_
                                  refine xw_aload_nS (pc := 538) (i := 0) (x := b) C dL_law_538 rfl rfl ?_
                                  refine xw_iload_n (pc := 539) (i := 3) (x := x3) C dL_law_539 rfl rfl ?_
                                  refine xw_iconst (pc := 540) (v := 2) C dL_law_540 xk_i_2 ?_
                                  refine xw_iadd (pc := 541) C dL_law_541 ?_
                                  obtain ⟨v198, q199, hm⟩ := xbind hm
                                  refine xw_siaload (pc := 542) C dL_law_542 hS q199 ?_
                                  obtain ⟨_, q200, hm⟩ := xbind hm
                                  obtain ⟨v201, q202, hm⟩ := xbind hm
                                  refine xw_callV1 (pc := 543) (As := [.int v196, .int v198]) (st := []) C dL_law_543 (wX8_stillPeriod q202) dd_X8_stillPeriod lk_L_72 dv_X8_stillPeriod (xco_spec q200) rfl (Nat.le_of_ble_eq_true rfl) (Nat.le_of_ble_eq_true rfl) (Nat.le_of_ble_eq_true rfl) ⟨Nat.le_refl _, Nat.le_refl _⟩ ⟨by have := hN.1; omega, by have := hN.2; omega⟩ ?_
                                  refine xw_aload_n (pc := 546) (i := 2) (x := x2) C dL_law_546 rfl rfl ?_
                                  refine xw_aload_nS (pc := 547) (i := 0) (x := b) C dL_law_547 rfl rfl ?_
                                  refine xw_iload_n (pc := 548) (i := 3) (x := x3) C dL_law_548 rfl rfl ?_
                                  refine xw_iconst (pc := 549) (v := 1) C dL_law_549 xk_i_1 ?_
                                  refine xw_iadd (pc := 550) C dL_law_550 ?_
                                  obtain ⟨v203, q204, hm⟩ := xbind hm
                                  refine xw_siaload (pc := 551) C dL_law_551 hS q204 ?_
                                  refine xw_aload_nS (pc := 552) (i := 0) (x := b) C dL_law_552 rfl rfl ?_
                                  refine xw_iload_n (pc := 553) (i := 3) (x := x3) C dL_law_553 rfl rfl ?_
                                  refine xw_iconst (pc := 554) (v := 2) C dL_law_554 xk_i_2 ?_
                                  refine xw_iadd (pc := 555) C dL_law_555 ?_
                                  obtain ⟨v205, q206, hm⟩ := xbind hm
                                  refine xw_siaload (pc := 556) C dL_law_556 hS q206 ?_
                                  obtain ⟨_, q207, hm⟩ := xbind hm
                                  obtain ⟨v208, q209, hm⟩ := xbind hm
                                  refine xw_callV1 (pc := 557) (As := [.int v203, .int v205]) (st := [.int v201]) C dL_law_557 (wX9_stillPeriod q209) dd_X9_stillPeriod lk_L_75 dv_X9_stillPeriod (xco_spec q207) rfl (Nat.le_of_ble_eq_true rfl) (Nat.le_of_ble_eq_true rfl) (Nat.le_of_ble_eq_true rfl) ⟨Nat.le_refl _, Nat.le_refl _⟩ ⟨by have := hN.1; omega, by have := hN.2; omega⟩ ?_
                                  refine xw_icmp_eq (pc := 560) (tgt := 1026) C dL_law_560 (by decide) (fun q => ?_) (fun q => ?_)
                                  · replace hm := xif_t q hm
                                    refine xw_iinc (pc := 1026) (i := 3) (x := x3) (v := (x3 + (3 : Int32))) (L' := [some (.retAddr b), some (.ref x1), some (.ref x2), some (.int (x3 + (3 : Int32)))]) C dL_law_1026 rfl (congrArg (HAdd.hAdd _) xk_i_3) (Nat.le_of_ble_eq_true rfl) rfl ?_
                                    refine xw_goto (pc := 1029) (tgt := 18) C dL_law_1029 (by decide) ?_
                                    obtain rfl := Option.some.inj hm
                                    refine xw_sub (pc := 18) _ ?_ (hc _ rfl)
                                    exact ⟨Or.inr rfl, Or.inr rfl, Or.inr rfl, Or.inr rfl, trivial⟩
                                  · replace hm := xif_f q hm
                                    cases hm
                                · replace hm := xif_f q25 hm
                                  by_cases q26 : (v9 &&& (63 : Int32)) = 15
                                  · replace hm := xif_t q26 hm
                                    refine xw_tabIn (pc := 32) (v := 15) (off := 533) (tgt := 565) C dL_law_32 q26 (by decide) (by decide) (by decide) (by decide) ?_
                                    refine xw_aload_n (pc := 565) (i := 1) (x := x1) C dL_law_565 rfl rfl ?_
                                    refine xw_aload_nS (pc := 566) (i := 0) (x := b) C dL_law_566 rfl rfl ?_
                                    refine xw_iload_n (pc := 567) (i := 3) (x := x3) C dL_law_567 rfl rfl ?_
                                    refine xw_iconst (pc := 568) (v := 1) C dL_law_568 xk_i_1 ?_
                                    refine xw_iadd (pc := 569) C dL_law_569 ?_
                                    obtain ⟨v210, q211, hm⟩ := xbind hm
                                    refine xw_siaload (pc := 570) C dL_law_570 hS q211 ?_
                                    refine xw_aload_nS (pc := 571) (i := 0) (x := b) C dL_law_571 rfl rfl ?_
                                    refine xw_iload_n (pc := 572) (i := 3) (x := x3) C dL_law_572 rfl rfl ?_
                                    refine xw_iconst (pc := 573) (v := 2) C dL_law_573 xk_i_2 ?_
                                    refine xw_iadd (pc := 574) C dL_law_574 ?_
                                    obtain ⟨v212, q213, hm⟩ := xbind hm
                                    refine xw_siaload (pc := 575) C dL_law_575 hS q213 ?_
                                    obtain ⟨_, q214, hm⟩ := xbind hm
                                    obtain ⟨v215, q216, hm⟩ := xbind hm
                                    refine xw_callV1 (pc := 576) (As := [.int v210, .int v212]) (st := []) C dL_law_576 (wX8_read q216) dd_X8_read lk_L_76 dv_X8_read (xco_spec q214) rfl (Nat.le_of_ble_eq_true rfl) (Nat.le_of_ble_eq_true rfl) (Nat.le_of_ble_eq_true rfl) ⟨Nat.le_refl _, Nat.le_refl _⟩ ⟨by have := hN.1; omega, by have := hN.2; omega⟩ ?_
                                    refine xw_aload_n (pc := 579) (i := 2) (x := x2) C dL_law_579 rfl rfl ?_
                                    refine xw_aload_nS (pc := 580) (i := 0) (x := b) C dL_law_580 rfl rfl ?_
                                    refine xw_iload_n (pc := 581) (i := 3) (x := x3) C dL_law_581 rfl rfl ?_
                                    refine xw_iconst (pc := 582) (v := 1) C dL_law_582 xk_i_1 ?_
                                    refine xw_iadd (pc := 583) C dL_law_583 ?_
                                    obtain ⟨v217, q218, hm⟩ := xbind hm
                                    refine xw_siaload (pc := 584) C dL_law_584 hS q218 ?_
                                    refine xw_aload_nS (pc := 585) (i := 0) (x := b) C dL_law_585 rfl rfl ?_
                                    refine xw_iload_n (pc := 586) (i := 3) (x := x3) C dL_law_586 rfl rfl ?_
                                    refine xw_iconst (pc := 587) (v := 2) C dL_law_587 xk_i_2 ?_
                                    refine xw_iadd (pc := 588) C dL_law_588 ?_
                                    obtain ⟨v219, q220, hm⟩ := xbind hm
                                    refine xw_siaload (pc := 589) C dL_law_589 hS q220 ?_
                                    obtain ⟨_, q221, hm⟩ := xbind hm
                                    obtain ⟨v222, q223, hm⟩ := xbind hm
                                    refine xw_callV1 (pc := 590) (As := [.int v217, .int v219]) (st := [.int v215.1]) C dL_law_590 (wX9_read q223) dd_X9_read lk_L_79 dv_X9_read (xco_spec q221) rfl (Nat.le_of_ble_eq_true rfl) (Nat.le_of_ble_eq_true rfl) (Nat.le_of_ble_eq_true rfl) ⟨Nat.le_refl _, Nat.le_refl _⟩ ⟨by have := hN.1; omega, by have := hN.2; omega⟩ ?_
                                    refine xw_icmp_eq (pc := 593) (tgt := 1026) C dL_law_593 (by decide) (fun q => ?_) (fun q => ?_)
                                    · replace hm := xif_t q hm
                                      refine xw_iinc (pc := 1026) (i := 3) (x := x3) (v := (x3 + (3 : Int32))) (L' := [some (.retAddr b), some (.ref x1), some (.ref x2), some (.int (x3 + (3 : Int32)))]) C dL_law_1026 rfl (congrArg (HAdd.hAdd _) xk_i_3) (Nat.le_of_ble_eq_true rfl) rfl ?_
                                      refine xw_goto (pc := 1029) (tgt := 18) C dL_law_1029 (by decide) ?_
                                      obtain rfl := Option.some.inj hm
                                      refine xw_sub (pc := 18) _ ?_ (hc _ rfl)
                                      exact ⟨Or.inr rfl, Or.inr rfl, Or.inr rfl, Or.inr rfl, trivial⟩
                                    · replace hm := xif_f q hm
                                      cases hm
                                  · replace hm := xif_f q26 hm
                                    by_cases q27 : (v9 &&& (63 : Int32)) = 16
                                    · replace hm := xif_t q27 hm
                                      refine xw_tabIn (pc := 32) (v := 16) (off := 566) (tgt := 598) C dL_law_32 q27 (by decide) (by decide) (by decide) (by decide) ?_
                                      refine xw_aload_n (pc := 598) (i := 1) (x := x1) C dL_law_598 rfl rfl ?_
                                      refine xw_aload_nS (pc := 599) (i := 0) (x := b) C dL_law_599 rfl rfl ?_
                                      refine xw_iload_n (pc := 600) (i := 3) (x := x3) C dL_law_600 rfl rfl ?_
                                      refine xw_iconst (pc := 601) (v := 1) C dL_law_601 xk_i_1 ?_
                                      refine xw_iadd (pc := 602) C dL_law_602 ?_
                                      obtain ⟨v224, q225, hm⟩ := xbind hm
                                      refine xw_siaload (pc := 603) C dL_law_603 hS q225 ?_
                                      obtain ⟨_, q226, hm⟩ := xbind hm
                                      obtain ⟨v227, q228, hm⟩ := xbind hm
                                      refine xw_callV1 (pc := 604) (As := [.int v224]) (st := []) C dL_law_604 (wX8_look q228) dd_X8_look lk_L_80 dv_X8_look (xco_spec q226) rfl (Nat.le_of_ble_eq_true rfl) (Nat.le_of_ble_eq_true rfl) (Nat.le_of_ble_eq_true rfl) ⟨Nat.le_refl _, Nat.le_refl _⟩ ⟨by have := hN.1; omega, by have := hN.2; omega⟩ ?_
                                      refine xw_aload_n (pc := 607) (i := 2) (x := x2) C dL_law_607 rfl rfl ?_
                                      refine xw_aload_nS (pc := 608) (i := 0) (x := b) C dL_law_608 rfl rfl ?_
                                      refine xw_iload_n (pc := 609) (i := 3) (x := x3) C dL_law_609 rfl rfl ?_
                                      refine xw_iconst (pc := 610) (v := 1) C dL_law_610 xk_i_1 ?_
                                      refine xw_iadd (pc := 611) C dL_law_611 ?_
                                      obtain ⟨v229, q230, hm⟩ := xbind hm
                                      refine xw_siaload (pc := 612) C dL_law_612 hS q230 ?_
                                      obtain ⟨_, q231, hm⟩ := xbind hm
                                      obtain ⟨v232, q233, hm⟩ := xbind hm
                                      refine xw_callV1 (pc := 613) (As := [.int v229]) (st := [.int v227.1]) C dL_law_613 (wX9_look q233) dd_X9_look lk_L_83 dv_X9_look (xco_spec q231) rfl (Nat.le_of_ble_eq_true rfl) (Nat.le_of_ble_eq_true rfl) (Nat.le_of_ble_eq_true rfl) ⟨Nat.le_refl _, Nat.le_refl _⟩ ⟨by have := hN.1; omega, by have := hN.2; omega⟩ ?_
                                      refine xw_icmp_eq (pc := 616) (tgt := 1026) C dL_law_616 (by decide) (fun q => ?_) (fun q => ?_)
                                      · replace hm := xif_t q hm
                                        refine xw_iinc (pc := 1026) (i := 3) (x := x3) (v := (x3 + (3 : Int32))) (L' := [some (.retAddr b), some (.ref x1), some (.ref x2), some (.int (x3 + (3 : Int32)))]) C dL_law_1026 rfl (congrArg (HAdd.hAdd _) xk_i_3) (Nat.le_of_ble_eq_true rfl) rfl ?_
                                        refine xw_goto (pc := 1029) (tgt := 18) C dL_law_1029 (by decide) ?_
                                        obtain rfl := Option.some.inj hm
                                        refine xw_sub (pc := 18) _ ?_ (hc _ rfl)
                                        exact ⟨Or.inr rfl, Or.inr rfl, Or.inr rfl, Or.inr rfl, trivial⟩
                                      · replace hm := xif_f q hm
                                        cases hm
                                    · replace hm := xif_f q27 hm
                                      by_cases q28 : (v9 &&& (63 : Int32)) = 17
                                      · replace hm := xif_t q28 hm
                                        refine xw_tabIn (pc := 32) (v := 17) (off := 589) (tgt := 621) C dL_law_32 q28 (by decide) (by decide) (by decide) (by decide) ?_
                                        refine xw_aload_n (pc := 621) (i := 1) (x := x1) C dL_law_621 rfl rfl ?_
                                        refine xw_aload_nS (pc := 622) (i := 0) (x := b) C dL_law_622 rfl rfl ?_
                                        refine xw_iload_n (pc := 623) (i := 3) (x := x3) C dL_law_623 rfl rfl ?_
                                        refine xw_iconst (pc := 624) (v := 1) C dL_law_624 xk_i_1 ?_
                                        refine xw_iadd (pc := 625) C dL_law_625 ?_
                                        obtain ⟨v234, q235, hm⟩ := xbind hm
                                        refine xw_siaload (pc := 626) C dL_law_626 hS q235 ?_
                                        obtain ⟨_, q236, hm⟩ := xbind hm
                                        obtain ⟨v237, q238, hm⟩ := xbind hm
                                        refine xw_callV1 (pc := 627) (As := [.int v234]) (st := []) C dL_law_627 (wX8_dropReading q238) dd_X8_dropReading lk_L_84 dv_X8_dropReading (xco_spec q236) rfl (Nat.le_of_ble_eq_true rfl) (Nat.le_of_ble_eq_true rfl) (Nat.le_of_ble_eq_true rfl) ⟨Nat.le_refl _, Nat.le_refl _⟩ ⟨by have := hN.1; omega, by have := hN.2; omega⟩ ?_
                                        refine xw_aload_n (pc := 630) (i := 2) (x := x2) C dL_law_630 rfl rfl ?_
                                        refine xw_aload_nS (pc := 631) (i := 0) (x := b) C dL_law_631 rfl rfl ?_
                                        refine xw_iload_n (pc := 632) (i := 3) (x := x3) C dL_law_632 rfl rfl ?_
                                        refine xw_iconst (pc := 633) (v := 1) C dL_law_633 xk_i_1 ?_
                                        refine xw_iadd (pc := 634) C dL_law_634 ?_
                                        obtain ⟨v239, q240, hm⟩ := xbind hm
                                        refine xw_siaload (pc := 635) C dL_law_635 hS q240 ?_
                                        obtain ⟨_, q241, hm⟩ := xbind hm
                                        obtain ⟨v242, q243, hm⟩ := xbind hm
                                        refine xw_callV1 (pc := 636) (As := [.int v239]) (st := [.int v237.1]) C dL_law_636 (wX9_dropReading q243) dd_X9_dropReading lk_L_87 dv_X9_dropReading (xco_spec q241) rfl (Nat.le_of_ble_eq_true rfl) (Nat.le_of_ble_eq_true rfl) (Nat.le_of_ble_eq_true rfl) ⟨Nat.le_refl _, Nat.le_refl _⟩ ⟨by have := hN.1; omega, by have := hN.2; omega⟩ ?_
                                        refine xw_icmp_eq (pc := 639) (tgt := 1026) C dL_law_639 (by decide) (fun q => ?_) (fun q => ?_)
                                        · replace hm := xif_t q hm
                                          refine xw_iinc (pc := 1026) (i := 3) (x := x3) (v := (x3 + (3 : Int32))) (L' := [some (.retAddr b), some (.ref x1), some (.ref x2), some (.int (x3 + (3 : Int32)))]) C dL_law_1026 rfl (congrArg (HAdd.hAdd _) xk_i_3) (Nat.le_of_ble_eq_true rfl) rfl ?_
                                          refine xw_goto (pc := 1029) (tgt := 18) C dL_law_1029 (by decide) ?_
                                          obtain rfl := Option.some.inj hm
                                          refine xw_sub (pc := 18) _ ?_ (hc _ rfl)
                                          exact ⟨Or.inr rfl, Or.inr rfl, Or.inr rfl, Or.inr rfl, trivial⟩
                                        · replace hm := xif_f q hm
                                          cases hm
                                      · replace hm := xif_f q28 hm
                                        by_cases q29 : (v9 &&& (63 : Int32)) = 18
                                        · replace hm := xif_t q29 hm
                                          refine xw_tabIn (pc := 32) (v := 18) (off := 612) (tgt := 644) C dL_law_32 q29 (by decide) (by decide) (by decide) (by decide) ?_
                                          refine xw_aload_n (pc := 644) (i := 1) (x := x1) C dL_law_644 rfl rfl ?_
                                          refine xw_aload_nS (pc := 645) (i := 0) (x := b) C dL_law_645 rfl rfl ?_
                                          refine xw_iload_n (pc := 646) (i := 3) (x := x3) C dL_law_646 rfl rfl ?_
                                          refine xw_iconst (pc := 647) (v := 1) C dL_law_647 xk_i_1 ?_
                                          refine xw_iadd (pc := 648) C dL_law_648 ?_
                                          obtain ⟨v244, q245, hm⟩ := xbind hm
                                          refine xw_siaload (pc := 649) C dL_law_649 hS q245 ?_
                                          refine xw_aload_nS (pc := 650) (i := 0) (x := b) C dL_law_650 rfl rfl ?_
                                          refine xw_iload_n (pc := 651) (i := 3) (x := x3) C dL_law_651 rfl rfl ?_
                                          refine xw_iconst (pc := 652) (v := 2) C dL_law_652 xk_i_2 ?_
                                          refine xw_iadd (pc := 653) C dL_law_653 ?_
                                          obtain ⟨v246, q247, hm⟩ := xbind hm
                                          refine xw_siaload (pc := 654) C dL_law_654 hS q247 ?_
                                          obtain ⟨_, q248, hm⟩ := xbind hm
                                          obtain ⟨v249, q250, hm⟩ := xbind hm
                                          refine xw_callV1 (pc := 655) (As := [.int v244, .int v246]) (st := []) C dL_law_655 (wX8_reading q250) dd_X8_reading lk_L_88 dv_X8_reading (xco_spec q248) rfl (Nat.le_of_ble_eq_true rfl) (Nat.le_of_ble_eq_true rfl) (Nat.le_of_ble_eq_true rfl) ⟨Nat.le_refl _, Nat.le_refl _⟩ ⟨by have := hN.1; omega, by have := hN.2; omega⟩ ?_
                                          refine xw_aload_n (pc := 658) (i := 2) (x := x2) C dL_law_658 rfl rfl ?_
                                          refine xw_aload_nS (pc := 659) (i := 0) (x := b) C dL_law_659 rfl rfl ?_
                                          refine xw_iload_n (pc := 660) (i := 3) (x := x3) C dL_law_660 rfl rfl ?_
                                          refine xw_iconst (pc := 661) (v := 1) C dL_law_661 xk_i_1 ?_
                                          refine xw_iadd (pc := 662) C dL_law_662 ?_
                                          obtain ⟨v251, q252, hm⟩ := xbind hm
                                          refine xw_siaload (pc := 663) C dL_law_663 hS q252 ?_
                                          refine xw_aload_nS (pc := 664) (i := 0) (x := b) C dL_law_664 rfl rfl ?_
                                          refine xw_iload_n (pc := 665) (i := 3) (x := x3) C dL_law_665 rfl rfl ?_
                                          refine xw_iconst (pc := 666) (v := 2) C dL_law_666 xk_i_2 ?_
                                          refine xw_iadd (pc := 667) C dL_law_667 ?_
                                          obtain ⟨v253, q254, hm⟩ := xbind hm
                                          refine xw_siaload (pc := 668) C dL_law_668 hS q254 ?_
                                          obtain ⟨_, q255, hm⟩ := xbind hm
                                          obtain ⟨v256, q257, hm⟩ := xbind hm
                                          refine xw_callV1 (pc := 669) (As := [.int v251, .int v253]) (st := [.int v249.1]) C dL_law_669 (wX9_reading q257) dd_X9_reading lk_L_91 dv_X9_reading (xco_spec q255) rfl (Nat.le_of_ble_eq_true rfl) (Nat.le_of_ble_eq_true rfl) (Nat.le_of_ble_eq_true rfl) ⟨Nat.le_refl _, Nat.le_refl _⟩ ⟨by have := hN.1; omega, by have := hN.2; omega⟩ ?_
                                          refine xw_icmp_eq (pc := 672) (tgt := 1026) C dL_law_672 (by decide) (fun q => ?_) (fun q => ?_)
                                          · replace hm := xif_t q hm
                                            refine xw_iinc (pc := 1026) (i := 3) (x := x3) (v := (x3 + (3 : Int32))) (L' := [some (.retAddr b), some (.ref x1), some (.ref x2), some (.int (x3 + (3 : Int32)))]) C dL_law_1026 rfl (congrArg (HAdd.hAdd _) xk_i_3) (Nat.le_of_ble_eq_true rfl) rfl ?_
                                            refine xw_goto (pc := 1029) (tgt := 18) C dL_law_1029 (by decide) ?_
                                            obtain rfl := Option.some.inj hm
                                            refine xw_sub (pc := 18) _ ?_ (hc _ rfl)
                                            exact ⟨Or.inr rfl, Or.inr rfl, Or.inr rfl, Or.inr rfl, trivial⟩
                                          · replace hm := xif_f q hm
                                            cases hm
                                        · replace hm := xif_f q29 hm
                                          by_cases q30 : (v9 &&& (63 : Int32)) = 19
                                          · replace hm := xif_t q30 hm
                                            refine xw_tabIn (pc := 32) (v := 19) (off := 645) (tgt := 677) C dL_law_32 q30 (by decide) (by decide) (by decide) (by decide) ?_
                                            refine xw_aload_n (pc := 677) (i := 1) (x := x1) C dL_law_677 rfl rfl ?_
                                            refine xw_aload_nS (pc := 678) (i := 0) (x := b) C dL_law_678 rfl rfl ?_
                                            refine xw_iload_n (pc := 679) (i := 3) (x := x3) C dL_law_679 rfl rfl ?_
                                            refine xw_iconst (pc := 680) (v := 1) C dL_law_680 xk_i_1 ?_
                                            refine xw_iadd (pc := 681) C dL_law_681 ?_
                                            obtain ⟨v258, q259, hm⟩ := xbind hm
                                            refine xw_siaload (pc := 682) C dL_law_682 hS q259 ?_
                                            obtain ⟨_, q260, hm⟩ := xbind hm
                                            obtain ⟨v261, q262, hm⟩ := xbind hm
                                            refine xw_callV1 (pc := 683) (As := [.int v258]) (st := []) C dL_law_683 (wX8_setLimit q262) dd_X8_setLimit lk_L_92 dv_X8_setLimit (xco_spec q260) rfl (Nat.le_of_ble_eq_true rfl) (Nat.le_of_ble_eq_true rfl) (Nat.le_of_ble_eq_true rfl) ⟨Nat.le_refl _, Nat.le_refl _⟩ ⟨by have := hN.1; omega, by have := hN.2; omega⟩ ?_
                                            refine xw_aload_n (pc := 686) (i := 2) (x := x2) C dL_law_686 rfl rfl ?_
                                            refine xw_aload_nS (pc := 687) (i := 0) (x := b) C dL_law_687 rfl rfl ?_
                                            refine xw_iload_n (pc := 688) (i := 3) (x := x3) C dL_law_688 rfl rfl ?_
                                            refine xw_iconst (pc := 689) (v := 1) C dL_law_689 xk_i_1 ?_
                                            refine xw_iadd (pc := 690) C dL_law_690 ?_
                                            obtain ⟨v263, q264, hm⟩ := xbind hm
                                            refine xw_siaload (pc := 691) C dL_law_691 hS q264 ?_
                                            obtain ⟨_, q265, hm⟩ := xbind hm
                                            obtain ⟨v266, q267, hm⟩ := xbind hm
                                            refine xw_callV1 (pc := 692) (As := [.int v263]) (st := [.int v261.1]) C dL_law_692 (wX9_setLimit q267) dd_X9_setLimit lk_L_95 dv_X9_setLimit (xco_spec q265) rfl (Nat.le_of_ble_eq_true rfl) (Nat.le_of_ble_eq_true rfl) (Nat.le_of_ble_eq_true rfl) ⟨Nat.le_refl _, Nat.le_refl _⟩ ⟨by have := hN.1; omega, by have := hN.2; omega⟩ ?_
                                            refine xw_icmp_eq (pc := 695) (tgt := 1026) C dL_law_695 (by decide) (fun q => ?_) (fun q => ?_)
                                            · replace hm := xif_t q hm
                                              refine xw_iinc (pc := 1026) (i := 3) (x := x3) (v := (x3 + (3 : Int32))) (L' := [some (.retAddr b), some (.ref x1), some (.ref x2), some (.int (x3 + (3 : Int32)))]) C dL_law_1026 rfl (congrArg (HAdd.hAdd _) xk_i_3) (Nat.le_of_ble_eq_true rfl) rfl ?_
                                              refine xw_goto (pc := 1029) (tgt := 18) C dL_law_1029 (by decide) ?_
                                              obtain rfl := Option.some.inj hm
                                              refine xw_sub (pc := 18) _ ?_ (hc _ rfl)
                                              exact ⟨Or.inr rfl, Or.inr rfl, Or.inr rfl, Or.inr rfl, trivial⟩
                                            · replace hm := xif_f q hm
                                              cases hm
                                          · replace hm := xif_f q30 hm
                                            by_cases q31 : (v9 &&& (63 : Int32)) = 20
                                            · replace hm := xif_t q31 hm
                                              refine xw_tabIn (pc := 32) (v := 20) (off := 668) (tgt := 700) C dL_law_32 q31 (by decide) (by decide) (by decide) (by decide) ?_
                                              refine xw_aload_n (pc := 700) (i := 1) (x := x1) C dL_law_700 rfl rfl ?_
                                              obtain ⟨_, q268, hm⟩ := xbind hm
                                              obtain ⟨v269, q270, hm⟩ := xbind hm
                                              refine xw_callV1 (pc := 701) (As := []) (st := []) C dL_law_701 (wX8_candidates q270) dd_X8_candidates lk_L_96 dv_X8_candidates (xco_spec q268) rfl (Nat.le_of_ble_eq_true rfl) (Nat.le_of_ble_eq_true rfl) (Nat.le_of_ble_eq_true rfl) ⟨Nat.le_refl _, Nat.le_refl _⟩ ⟨by have := hN.1; omega, by have := hN.2; omega⟩ ?_
                                              refine xw_aload_n (pc := 704) (i := 2) (x := x2) C dL_law_704 rfl rfl ?_
                                              obtain ⟨_, q271, hm⟩ := xbind hm
                                              obtain ⟨v272, q273, hm⟩ := xbind hm
                                              refine xw_callV1 (pc := 705) (As := []) (st := [.int v269.1]) C dL_law_705 (wX9_candidates q273) dd_X9_candidates lk_L_99 dv_X9_candidates (xco_spec q271) rfl (Nat.le_of_ble_eq_true rfl) (Nat.le_of_ble_eq_true rfl) (Nat.le_of_ble_eq_true rfl) ⟨Nat.le_refl _, Nat.le_refl _⟩ ⟨by have := hN.1; omega, by have := hN.2; omega⟩ ?_
                                              refine xw_icmp_eq (pc := 708) (tgt := 1026) C dL_law_708 (by decide) (fun q => ?_) (fun q => ?_)
                                              · replace hm := xif_t q hm
                                                refine xw_iinc (pc := 1026) (i := 3) (x := x3) (v := (x3 + (3 : Int32))) (L' := [some (.retAddr b), some (.ref x1), some (.ref x2), some (.int (x3 + (3 : Int32)))]) C dL_law_1026 rfl (congrArg (HAdd.hAdd _) xk_i_3) (Nat.le_of_ble_eq_true rfl) rfl ?_
                                                refine xw_goto (pc := 1029) (tgt := 18) C dL_law_1029 (by decide) ?_
                                                obtain rfl := Option.some.inj hm
                                                refine xw_sub (pc := 18) _ ?_ (hc _ rfl)
                                                exact ⟨Or.inr rfl, Or.inr rfl, Or.inr rfl, Or.inr rfl, trivial⟩
                                              · replace hm := xif_f q hm
                                                cases hm
                                            · replace hm := xif_f q31 hm
                                              by_cases q32 : (v9 &&& (63 : Int32)) = 21
                                              · replace hm := xif_t q32 hm
                                                refine xw_tabIn (pc := 32) (v := 21) (off := 681) (tgt := 713) C dL_law_32 q32 (by decide) (by decide) (by decide) (by decide) ?_
                                                refine xw_aload_n (pc := 713) (i := 1) (x := x1) C dL_law_713 rfl rfl ?_
                                                refine xw_aload_nS (pc := 714) (i := 0) (x := b) C dL_law_714 rfl rfl ?_
                                                refine xw_iload_n (pc := 715) (i := 3) (x := x3) C dL_law_715 rfl rfl ?_
                                                refine xw_iconst (pc := 716) (v := 1) C dL_law_716 xk_i_1 ?_
                                                refine xw_iadd (pc := 717) C dL_law_717 ?_
                                                obtain ⟨v274, q275, hm⟩ := xbind hm
                                                refine xw_siaload (pc := 718) C dL_law_718 hS q275 ?_
                                                obtain ⟨_, q276, hm⟩ := xbind hm
                                                obtain ⟨v277, q278, hm⟩ := xbind hm
                                                refine xw_callV1 (pc := 719) (As := [.int v274]) (st := []) C dL_law_719 (wX8_candidate q278) dd_X8_candidate lk_L_100 dv_X8_candidate (xco_spec q276) rfl (Nat.le_of_ble_eq_true rfl) (Nat.le_of_ble_eq_true rfl) (Nat.le_of_ble_eq_true rfl) ⟨Nat.le_refl _, Nat.le_refl _⟩ ⟨by have := hN.1; omega, by have := hN.2; omega⟩ ?_
                                                refine xw_aload_n (pc := 722) (i := 2) (x := x2) C dL_law_722 rfl rfl ?_
                                                refine xw_aload_nS (pc := 723) (i := 0) (x := b) C dL_law_723 rfl rfl ?_
                                                refine xw_iload_n (pc := 724) (i := 3) (x := x3) C dL_law_724 rfl rfl ?_
                                                refine xw_iconst (pc := 725) (v := 1) C dL_law_725 xk_i_1 ?_
                                                refine xw_iadd (pc := 726) C dL_law_726 ?_
                                                obtain ⟨v279, q280, hm⟩ := xbind hm
                                                refine xw_siaload (pc := 727) C dL_law_727 hS q280 ?_
                                                obtain ⟨_, q281, hm⟩ := xbind hm
                                                obtain ⟨v282, q283, hm⟩ := xbind hm
                                                refine xw_callV1 (pc := 728) (As := [.int v279]) (st := [.int v277.1]) C dL_law_728 (wX9_candidate q283) dd_X9_candidate lk_L_103 dv_X9_candidate (xco_spec q281) rfl (Nat.le_of_ble_eq_true rfl) (Nat.le_of_ble_eq_true rfl) (Nat.le_of_ble_eq_true rfl) ⟨Nat.le_refl _, Nat.le_refl _⟩ ⟨by have := hN.1; omega, by have := hN.2; omega⟩ ?_
                                                refine xw_icmp_eq (pc := 731) (tgt := 1026) C dL_law_731 (by decide) (fun q => ?_) (fun q => ?_)
                                                · replace hm := xif_t q hm
                                                  refine xw_iinc (pc := 1026) (i := 3) (x := x3) (v := (x3 + (3 : Int32))) (L' := [some (.retAddr b), some (.ref x1), some (.ref x2), some (.int (x3 + (3 : Int32)))]) C dL_law_1026 rfl (congrArg (HAdd.hAdd _) xk_i_3) (Nat.le_of_ble_eq_true rfl) rfl ?_
                                                  refine xw_goto (pc := 1029) (tgt := 18) C dL_law_1029 (by decide) ?_
                                                  obtain rfl := Option.some.inj hm
                                                  refine xw_sub (pc := 18) _ ?_ (hc _ rfl)
                                                  exact ⟨Or.inr rfl, Or.inr rfl, Or.inr rfl, Or.inr rfl, trivial⟩
                                                · replace hm := xif_f q hm
                                                  cases hm
                                              · replace hm := xif_f q32 hm
                                                by_cases q33 : (v9 &&& (63 : Int32)) = 22
                                                · replace hm := xif_t q33 hm
                                                  refine xw_tabIn (pc := 32) (v := 22) (off := 704) (tgt := 736) C dL_law_32 q33 (by decide) (by decide) (by decide) (by decide) ?_
                                                  refine xw_aload_n (pc := 736) (i := 1) (x := x1) C dL_law_736 rfl rfl ?_
                                                  refine xw_aload_nS (pc := 737) (i := 0) (x := b) C dL_law_737 rfl rfl ?_
                                                  refine xw_iload_n (pc := 738) (i := 3) (x := x3) C dL_law_738 rfl rfl ?_
                                                  refine xw_iconst (pc := 739) (v := 1) C dL_law_739 xk_i_1 ?_
                                                  refine xw_iadd (pc := 740) C dL_law_740 ?_
                                                  obtain ⟨v284, q285, hm⟩ := xbind hm
                                                  refine xw_siaload (pc := 741) C dL_law_741 hS q285 ?_
                                                  obtain ⟨_, q286, hm⟩ := xbind hm
                                                  obtain ⟨v287, q288, hm⟩ := xbind hm
                                                  refine xw_callV1 (pc := 742) (As := [.int v284]) (st := []) C dL_law_742 (wX8_nearest q288) dd_X8_nearest lk_L_104 dv_X8_nearest (xco_spec q286) rfl (Nat.le_of_ble_eq_true rfl) (Nat.le_of_ble_eq_true rfl) (Nat.le_of_ble_eq_true rfl) ⟨Nat.le_refl _, Nat.le_refl _⟩ ⟨by have := hN.1; omega, by have := hN.2; omega⟩ ?_
                                                  refine xw_aload_n (pc := 745) (i := 2) (x := x2) C dL_law_745 rfl rfl ?_
                                                  refine xw_aload_nS (pc := 746) (i := 0) (x := b) C dL_law_746 rfl rfl ?_
                                                  refine xw_iload_n (pc := 747) (i := 3) (x := x3) C dL_law_747 rfl rfl ?_
                                                  refine xw_iconst (pc := 748) (v := 1) C dL_law_748 xk_i_1 ?_
                                                  refine xw_iadd (pc := 749) C dL_law_749 ?_
                                                  obtain ⟨v289, q290, hm⟩ := xbind hm
                                                  refine xw_siaload (pc := 750) C dL_law_750 hS q290 ?_
                                                  obtain ⟨_, q291, hm⟩ := xbind hm
                                                  obtain ⟨v292, q293, hm⟩ := xbind hm
                                                  refine xw_callV1 (pc := 751) (As := [.int v289]) (st := [.int v287.1]) C dL_law_751 (wX9_nearest q293) dd_X9_nearest lk_L_107 dv_X9_nearest (xco_spec q291) rfl (Nat.le_of_ble_eq_true rfl) (Nat.le_of_ble_eq_true rfl) (Nat.le_of_ble_eq_true rfl) ⟨Nat.le_refl _, Nat.le_refl _⟩ ⟨by have := hN.1; omega, by have := hN.2; omega⟩ ?_
                                                  refine xw_icmp_eq (pc := 754) (tgt := 1026) C dL_law_754 (by decide) (fun q => ?_) (fun q => ?_)
                                                  · replace hm := xif_t q hm
                                                    refine xw_iinc (pc := 1026) (i := 3) (x := x3) (v := (x3 + (3 : Int32))) (L' := [some (.retAddr b), some (.ref x1), some (.ref x2), some (.int (x3 + (3 : Int32)))]) C dL_law_1026 rfl (congrArg (HAdd.hAdd _) xk_i_3) (Nat.le_of_ble_eq_true rfl) rfl ?_
                                                    refine xw_goto (pc := 1029) (tgt := 18) C dL_law_1029 (by decide) ?_
                                                    obtain rfl := Option.some.inj hm
                                                    refine xw_sub (pc := 18) _ ?_ (hc _ rfl)
                                                    exact ⟨Or.inr rfl, Or.inr rfl, Or.inr rfl, Or.inr rfl, trivial⟩
                                                  · replace hm := xif_f q hm
                                                    cases hm
                                                · replace hm := xif_f q33 hm
                                                  by_cases q34 : (v9 &&& (63 : Int32)) = 23
                                                  · replace hm := xif_t q34 hm
                                                    refine xw_tabIn (pc := 32) (v := 23) (off := 727) (tgt := 759) C dL_law_32 q34 (by decide) (by decide) (by decide) (by decide) ?_
                                                    refine xw_aload_n (pc := 759) (i := 1) (x := x1) C dL_law_759 rfl rfl ?_
                                                    obtain ⟨_, q294, hm⟩ := xbind hm
                                                    obtain ⟨v295, q296, hm⟩ := xbind hm
                                                    refine xw_callV1 (pc := 760) (As := []) (st := []) C dL_law_760 (wX8_odd q296) dd_X8_odd lk_L_108 dv_X8_odd (xco_spec q294) rfl (Nat.le_of_ble_eq_true rfl) (Nat.le_of_ble_eq_true rfl) (Nat.le_of_ble_eq_true rfl) ⟨Nat.le_refl _, Nat.le_refl _⟩ ⟨by have := hN.1; omega, by have := hN.2; omega⟩ ?_
                                                    refine xw_aload_n (pc := 763) (i := 2) (x := x2) C dL_law_763 rfl rfl ?_
                                                    obtain ⟨_, q297, hm⟩ := xbind hm
                                                    obtain ⟨v298, q299, hm⟩ := xbind hm
                                                    refine xw_callV1 (pc := 764) (As := []) (st := [.int v295.1]) C dL_law_764 (wX9_odd q299) dd_X9_odd lk_L_111 dv_X9_odd (xco_spec q297) rfl (Nat.le_of_ble_eq_true rfl) (Nat.le_of_ble_eq_true rfl) (Nat.le_of_ble_eq_true rfl) ⟨Nat.le_refl _, Nat.le_refl _⟩ ⟨by have := hN.1; omega, by have := hN.2; omega⟩ ?_
                                                    refine xw_icmp_eq (pc := 767) (tgt := 1026) C dL_law_767 (by decide) (fun q => ?_) (fun q => ?_)
                                                    · replace hm := xif_t q hm
                                                      refine xw_iinc (pc := 1026) (i := 3) (x := x3) (v := (x3 + (3 : Int32))) (L' := [some (.retAddr b), some (.ref x1), some (.ref x2), some (.int (x3 + (3 : Int32)))]) C dL_law_1026 rfl (congrArg (HAdd.hAdd _) xk_i_3) (Nat.le_of_ble_eq_true rfl) rfl ?_
                                                      refine xw_goto (pc := 1029) (tgt := 18) C dL_law_1029 (by decide) ?_
                                                      obtain rfl := Option.some.inj hm
                                                      refine xw_sub (pc := 18) _ ?_ (hc _ rfl)
                                                      exact ⟨Or.inr rfl, Or.inr rfl, Or.inr rfl, Or.inr rfl, trivial⟩
                                                    · replace hm := xif_f q hm
                                                      cases hm
                                                  · replace hm := xif_f q34 hm
                                                    by_cases q35 : (v9 &&& (63 : Int32)) = 24
                                                    · replace hm := xif_t q35 hm
                                                      refine xw_tabIn (pc := 32) (v := 24) (off := 740) (tgt := 772) C dL_law_32 q35 (by decide) (by decide) (by decide) (by decide) ?_
                                                      refine xw_aload_n (pc := 772) (i := 1) (x := x1) C dL_law_772 rfl rfl ?_
                                                      refine xw_aload_nS (pc := 773) (i := 0) (x := b) C dL_law_773 rfl rfl ?_
                                                      refine xw_iload_n (pc := 774) (i := 3) (x := x3) C dL_law_774 rfl rfl ?_
                                                      refine xw_iconst (pc := 775) (v := 1) C dL_law_775 xk_i_1 ?_
                                                      refine xw_iadd (pc := 776) C dL_law_776 ?_
                                                      obtain ⟨v300, q301, hm⟩ := xbind hm
                                                      refine xw_siaload (pc := 777) C dL_law_777 hS q301 ?_
                                                      refine xw_aload_nS (pc := 778) (i := 0) (x := b) C dL_law_778 rfl rfl ?_
                                                      refine xw_iload_n (pc := 779) (i := 3) (x := x3) C dL_law_779 rfl rfl ?_
                                                      refine xw_iconst (pc := 780) (v := 2) C dL_law_780 xk_i_2 ?_
                                                      refine xw_iadd (pc := 781) C dL_law_781 ?_
                                                      obtain ⟨v302, q303, hm⟩ := xbind hm
                                                      refine xw_siaload (pc := 782) C dL_law_782 hS q303 ?_
                                                      refine xw_if_eq (pc := 783) (tgt := 790) C dL_law_783 (by decide) (fun q => ?_) (fun q => ?_)
                                                      · replace hm := xif_t q hm
                                                        refine xw_iconst (pc := 790) (v := 0) C dL_law_790 xk_i_0 ?_
                                                        exact xw_sub (pc := 791) [some (.retAddr b), some (.ref x1), some (.ref x2), some (.int x3)] ⟨Or.inr rfl, Or.inr rfl, Or.inr rfl, Or.inr rfl, trivial⟩ (fL_law_J791_w C hN hS hm hc he)
                                                      · replace hm := xif_f q hm
                                                        refine xw_iconst (pc := 786) (v := 1) C dL_law_786 xk_i_1 ?_
                                                        refine xw_goto (pc := 787) (tgt := 791) C dL_law_787 (by decide) ?_
                                                        exact xw_sub (pc := 791) [some (.retAddr b), some (.ref x1), some (.ref x2), some (.int x3)] ⟨Or.inr rfl, Or.inr rfl, Or.inr rfl, Or.inr rfl, trivial⟩ (fL_law_J791_w C hN hS hm hc he)
                                                    · replace hm := xif_f q35 hm
                                                      by_cases q36 : (v9 &&& (63 : Int32)) = 25
                                                      · replace hm := xif_t q36 hm
                                                        refine xw_tabIn (pc := 32) (v := 25) (off := 789) (tgt := 821) C dL_law_32 q36 (by decide) (by decide) (by decide) (by decide) ?_
                                                        refine xw_aload_n (pc := 821) (i := 1) (x := x1) C dL_law_821 rfl rfl ?_
                                                        refine xw_aload_nS (pc := 822) (i := 0) (x := b) C dL_law_822 rfl rfl ?_
                                                        refine xw_iload_n (pc := 823) (i := 3) (x := x3) C dL_law_823 rfl rfl ?_
                                                        refine xw_iconst (pc := 824) (v := 1) C dL_law_824 xk_i_1 ?_
                                                        refine xw_iadd (pc := 825) C dL_law_825 ?_
                                                        obtain ⟨v314, q315, hm⟩ := xbind hm
                                                        refine xw_siaload (pc := 826) C dL_law_826 hS q315 ?_
                                                        refine xw_aload_nS (pc := 827) (i := 0) (x := b) C dL_law_827 rfl rfl ?_
                                                        refine xw_iload_n (pc := 828) (i := 3) (x := x3) C dL_law_828 rfl rfl ?_
                                                        refine xw_iconst (pc := 829) (v := 2) C dL_law_829 xk_i_2 ?_
                                                        refine xw_iadd (pc := 830) C dL_law_830 ?_
                                                        obtain ⟨v316, q317, hm⟩ := xbind hm
                                                        refine xw_siaload (pc := 831) C dL_law_831 hS q317 ?_
                                                        obtain ⟨_, q318, hm⟩ := xbind hm
                                                        obtain ⟨v319, q320, hm⟩ := xbind hm
                                                        refine xw_callV1 (pc := 832) (As := [.int v314, .int v316]) (st := []) C dL_law_832 (wX8_setDisc q320) dd_X8_setDisc lk_L_117 dv_X8_setDisc (xco_spec q318) rfl (Nat.le_of_ble_eq_true rfl) (Nat.le_of_ble_eq_true rfl) (Nat.le_of_ble_eq_true rfl) ⟨Nat.le_refl _, Nat.le_refl _⟩ ⟨by have := hN.1; omega, by have := hN.2; omega⟩ ?_
                                                        refine xw_aload_n (pc := 835) (i := 2) (x := x2) C dL_law_835 rfl rfl ?_
                                                        refine xw_aload_nS (pc := 836) (i := 0) (x := b) C dL_law_836 rfl rfl ?_
                                                        refine xw_iload_n (pc := 837) (i := 3) (x := x3) C dL_law_837 rfl rfl ?_
                                                        refine xw_iconst (pc := 838) (v := 1) C dL_law_838 xk_i_1 ?_
                                                        refine xw_iadd (pc := 839) C dL_law_839 ?_
                                                        obtain ⟨v321, q322, hm⟩ := xbind hm
                                                        refine xw_siaload (pc := 840) C dL_law_840 hS q322 ?_
                                                        refine xw_aload_nS (pc := 841) (i := 0) (x := b) C dL_law_841 rfl rfl ?_
                                                        refine xw_iload_n (pc := 842) (i := 3) (x := x3) C dL_law_842 rfl rfl ?_
                                                        refine xw_iconst (pc := 843) (v := 2) C dL_law_843 xk_i_2 ?_
                                                        refine xw_iadd (pc := 844) C dL_law_844 ?_
                                                        obtain ⟨v323, q324, hm⟩ := xbind hm
                                                        refine xw_siaload (pc := 845) C dL_law_845 hS q324 ?_
                                                        obtain ⟨_, q325, hm⟩ := xbind hm
                                                        obtain ⟨v326, q327, hm⟩ := xbind hm
                                                        refine xw_callV1 (pc := 846) (As := [.int v321, .int v323]) (st := [.int v319.1]) C dL_law_846 (wX9_setDisc q327) dd_X9_setDisc lk_L_120 dv_X9_setDisc (xco_spec q325) rfl (Nat.le_of_ble_eq_true rfl) (Nat.le_of_ble_eq_true rfl) (Nat.le_of_ble_eq_true rfl) ⟨Nat.le_refl _, Nat.le_refl _⟩ ⟨by have := hN.1; omega, by have := hN.2; omega⟩ ?_
                                                        refine xw_icmp_eq (pc := 849) (tgt := 1026) C dL_law_849 (by decide) (fun q => ?_) (fun q => ?_)
                                                        · replace hm := xif_t q hm
                                                          refine xw_iinc (pc := 1026) (i := 3) (x := x3) (v := (x3 + (3 : Int32))) (L' := [some (.retAddr b), some (.ref x1), some (.ref x2), some (.int (x3 + (3 : Int32)))]) C dL_law_1026 rfl (congrArg (HAdd.hAdd _) xk_i_3) (Nat.le_of_ble_eq_true rfl) rfl ?_
                                                          refine xw_goto (pc := 1029) (tgt := 18) C dL_law_1029 (by decide) ?_
                                                          obtain rfl := Option.some.inj hm
                                                          refine xw_sub (pc := 18) _ ?_ (hc _ rfl)
                                                          exact ⟨Or.inr rfl, Or.inr rfl, Or.inr rfl, Or.inr rfl, trivial⟩
                                                        · replace hm := xif_f q hm
                                                          cases hm
                                                      · replace hm := xif_f q36 hm
                                                        by_cases q37 : (v9 &&& (63 : Int32)) = 26
                                                        · replace hm := xif_t q37 hm
                                                          refine xw_tabIn (pc := 32) (v := 26) (off := 822) (tgt := 854) C dL_law_32 q37 (by decide) (by decide) (by decide) (by decide) ?_
                                                          refine xw_aload_n (pc := 854) (i := 1) (x := x1) C dL_law_854 rfl rfl ?_
                                                          refine xw_aload_nS (pc := 855) (i := 0) (x := b) C dL_law_855 rfl rfl ?_
                                                          refine xw_iload_n (pc := 856) (i := 3) (x := x3) C dL_law_856 rfl rfl ?_
                                                          refine xw_iconst (pc := 857) (v := 1) C dL_law_857 xk_i_1 ?_
                                                          refine xw_iadd (pc := 858) C dL_law_858 ?_
                                                          obtain ⟨v328, q329, hm⟩ := xbind hm
                                                          refine xw_siaload (pc := 859) C dL_law_859 hS q329 ?_
                                                          refine xw_aload_nS (pc := 860) (i := 0) (x := b) C dL_law_860 rfl rfl ?_
                                                          refine xw_iload_n (pc := 861) (i := 3) (x := x3) C dL_law_861 rfl rfl ?_
                                                          refine xw_iconst (pc := 862) (v := 2) C dL_law_862 xk_i_2 ?_
                                                          refine xw_iadd (pc := 863) C dL_law_863 ?_
                                                          obtain ⟨v330, q331, hm⟩ := xbind hm
                                                          refine xw_siaload (pc := 864) C dL_law_864 hS q331 ?_
                                                          obtain ⟨_, q332, hm⟩ := xbind hm
                                                          obtain ⟨v333, q334, hm⟩ := xbind hm
                                                          refine xw_callV1 (pc := 865) (As := [.int v328, .int v330]) (st := []) C dL_law_865 (wX8_turnDisc q334) dd_X8_turnDisc lk_L_121 dv_X8_turnDisc (xco_spec q332) rfl (Nat.le_of_ble_eq_true rfl) (Nat.le_of_ble_eq_true rfl) (Nat.le_of_ble_eq_true rfl) ⟨Nat.le_refl _, Nat.le_refl _⟩ ⟨by have := hN.1; omega, by have := hN.2; omega⟩ ?_
                                                          refine xw_aload_n (pc := 868) (i := 2) (x := x2) C dL_law_868 rfl rfl ?_
                                                          refine xw_aload_nS (pc := 869) (i := 0) (x := b) C dL_law_869 rfl rfl ?_
                                                          refine xw_iload_n (pc := 870) (i := 3) (x := x3) C dL_law_870 rfl rfl ?_
                                                          refine xw_iconst (pc := 871) (v := 1) C dL_law_871 xk_i_1 ?_
                                                          refine xw_iadd (pc := 872) C dL_law_872 ?_
                                                          obtain ⟨v335, q336, hm⟩ := xbind hm
                                                          refine xw_siaload (pc := 873) C dL_law_873 hS q336 ?_
                                                          refine xw_aload_nS (pc := 874) (i := 0) (x := b) C dL_law_874 rfl rfl ?_
                                                          refine xw_iload_n (pc := 875) (i := 3) (x := x3) C dL_law_875 rfl rfl ?_
                                                          refine xw_iconst (pc := 876) (v := 2) C dL_law_876 xk_i_2 ?_
                                                          refine xw_iadd (pc := 877) C dL_law_877 ?_
                                                          obtain ⟨v337, q338, hm⟩ := xbind hm
                                                          refine xw_siaload (pc := 878) C dL_law_878 hS q338 ?_
                                                          obtain ⟨_, q339, hm⟩ := xbind hm
                                                          obtain ⟨v340, q341, hm⟩ := xbind hm
                                                          refine xw_callV1 (pc := 879) (As := [.int v335, .int v337]) (st := [.int v333.1]) C dL_law_879 (wX9_turnDisc q341) dd_X9_turnDisc lk_L_124 dv_X9_turnDisc (xco_spec q339) rfl (Nat.le_of_ble_eq_true rfl) (Nat.le_of_ble_eq_true rfl) (Nat.le_of_ble_eq_true rfl) ⟨Nat.le_refl _, Nat.le_refl _⟩ ⟨by have := hN.1; omega, by have := hN.2; omega⟩ ?_
                                                          refine xw_icmp_eq (pc := 882) (tgt := 1026) C dL_law_882 (by decide) (fun q => ?_) (fun q => ?_)
                                                          · replace hm := xif_t q hm
                                                            refine xw_iinc (pc := 1026) (i := 3) (x := x3) (v := (x3 + (3 : Int32))) (L' := [some (.retAddr b), some (.ref x1), some (.ref x2), some (.int (x3 + (3 : Int32)))]) C dL_law_1026 rfl (congrArg (HAdd.hAdd _) xk_i_3) (Nat.le_of_ble_eq_true rfl) rfl ?_
                                                            refine xw_goto (pc := 1029) (tgt := 18) C dL_law_1029 (by decide) ?_
                                                            obtain rfl := Option.some.inj hm
                                                            refine xw_sub (pc := 18) _ ?_ (hc _ rfl)
                                                            exact ⟨Or.inr rfl, Or.inr rfl, Or.inr rfl, Or.inr rfl, trivial⟩
                                                          · replace hm := xif_f q hm
                                                            cases hm
                                                        · replace hm := xif_f q37 hm
                                                          by_cases q38 : (v9 &&& (63 : Int32)) = 27
                                                          · replace hm := xif_t q38 hm
                                                            refine xw_tabIn (pc := 32) (v := 27) (off := 855) (tgt := 887) C dL_law_32 q38 (by decide) (by decide) (by decide) (by decide) ?_
                                                            refine xw_aload_n (pc := 887) (i := 1) (x := x1) C dL_law_887 rfl rfl ?_
                                                            refine xw_aload_nS (pc := 888) (i := 0) (x := b) C dL_law_888 rfl rfl ?_
                                                            refine xw_iload_n (pc := 889) (i := 3) (x := x3) C dL_law_889 rfl rfl ?_
                                                            refine xw_iconst (pc := 890) (v := 1) C dL_law_890 xk_i_1 ?_
                                                            refine xw_iadd (pc := 891) C dL_law_891 ?_
                                                            obtain ⟨v342, q343, hm⟩ := xbind hm
                                                            refine xw_siaload (pc := 892) C dL_law_892 hS q343 ?_
                                                            obtain ⟨_, q344, hm⟩ := xbind hm
                                                            obtain ⟨v345, q346, hm⟩ := xbind hm
                                                            refine xw_callV1 (pc := 893) (As := [.int v342]) (st := []) C dL_law_893 (wX8_isSeen q346) dd_X8_isSeen lk_L_125 dv_X8_isSeen (xco_spec q344) rfl (Nat.le_of_ble_eq_true rfl) (Nat.le_of_ble_eq_true rfl) (Nat.le_of_ble_eq_true rfl) ⟨Nat.le_refl _, Nat.le_refl _⟩ ⟨by have := hN.1; omega, by have := hN.2; omega⟩ ?_
                                                            refine xw_aload_n (pc := 896) (i := 2) (x := x2) C dL_law_896 rfl rfl ?_
                                                            refine xw_aload_nS (pc := 897) (i := 0) (x := b) C dL_law_897 rfl rfl ?_
                                                            refine xw_iload_n (pc := 898) (i := 3) (x := x3) C dL_law_898 rfl rfl ?_
                                                            refine xw_iconst (pc := 899) (v := 1) C dL_law_899 xk_i_1 ?_
                                                            refine xw_iadd (pc := 900) C dL_law_900 ?_
                                                            obtain ⟨v347, q348, hm⟩ := xbind hm
                                                            refine xw_siaload (pc := 901) C dL_law_901 hS q348 ?_
                                                            obtain ⟨_, q349, hm⟩ := xbind hm
                                                            obtain ⟨v350, q351, hm⟩ := xbind hm
                                                            refine xw_callV1 (pc := 902) (As := [.int v347]) (st := [.int v345]) C dL_law_902 (wX9_isSeen q351) dd_X9_isSeen lk_L_128 dv_X9_isSeen (xco_spec q349) rfl (Nat.le_of_ble_eq_true rfl) (Nat.le_of_ble_eq_true rfl) (Nat.le_of_ble_eq_true rfl) ⟨Nat.le_refl _, Nat.le_refl _⟩ ⟨by have := hN.1; omega, by have := hN.2; omega⟩ ?_
                                                            refine xw_icmp_eq (pc := 905) (tgt := 1026) C dL_law_905 (by decide) (fun q => ?_) (fun q => ?_)
                                                            · replace hm := xif_t q hm
                                                              refine xw_iinc (pc := 1026) (i := 3) (x := x3) (v := (x3 + (3 : Int32))) (L' := [some (.retAddr b), some (.ref x1), some (.ref x2), some (.int (x3 + (3 : Int32)))]) C dL_law_1026 rfl (congrArg (HAdd.hAdd _) xk_i_3) (Nat.le_of_ble_eq_true rfl) rfl ?_
                                                              refine xw_goto (pc := 1029) (tgt := 18) C dL_law_1029 (by decide) ?_
                                                              obtain rfl := Option.some.inj hm
                                                              refine xw_sub (pc := 18) _ ?_ (hc _ rfl)
                                                              exact ⟨Or.inr rfl, Or.inr rfl, Or.inr rfl, Or.inr rfl, trivial⟩
                                                            · replace hm := xif_f q hm
                                                              cases hm
                                                          · replace hm := xif_f q38 hm
                                                            by_cases q39 : (v9 &&& (63 : Int32)) = 28
                                                            · replace hm := xif_t q39 hm
                                                              refine xw_tabIn (pc := 32) (v := 28) (off := 878) (tgt := 910) C dL_law_32 q39 (by decide) (by decide) (by decide) (by decide) ?_
                                                              refine xw_aload_n (pc := 910) (i := 1) (x := x1) C dL_law_910 rfl rfl ?_
                                                              refine xw_aload_nS (pc := 911) (i := 0) (x := b) C dL_law_911 rfl rfl ?_
                                                              refine xw_iload_n (pc := 912) (i := 3) (x := x3) C dL_law_912 rfl rfl ?_
                                                              refine xw_iconst (pc := 913) (v := 1) C dL_law_913 xk_i_1 ?_
                                                              refine xw_iadd (pc := 914) C dL_law_914 ?_
                                                              obtain ⟨v352, q353, hm⟩ := xbind hm
                                                              refine xw_siaload (pc := 915) C dL_law_915 hS q353 ?_
                                                              refine xw_aload_nS (pc := 916) (i := 0) (x := b) C dL_law_916 rfl rfl ?_
                                                              refine xw_iload_n (pc := 917) (i := 3) (x := x3) C dL_law_917 rfl rfl ?_
                                                              refine xw_iconst (pc := 918) (v := 2) C dL_law_918 xk_i_2 ?_
                                                              refine xw_iadd (pc := 919) C dL_law_919 ?_
                                                              obtain ⟨v354, q355, hm⟩ := xbind hm
                                                              refine xw_siaload (pc := 920) C dL_law_920 hS q355 ?_
                                                              obtain ⟨_, q356, hm⟩ := xbind hm
                                                              obtain ⟨v357, q358, hm⟩ := xbind hm
                                                              refine xw_callV1 (pc := 921) (As := [.int v352, .int v354]) (st := []) C dL_law_921 (wX8_opening q358) dd_X8_opening lk_L_129 dv_X8_opening (xco_spec q356) rfl (Nat.le_of_ble_eq_true rfl) (Nat.le_of_ble_eq_true rfl) (Nat.le_of_ble_eq_true rfl) ⟨Nat.le_refl _, Nat.le_refl _⟩ ⟨by have := hN.1; omega, by have := hN.2; omega⟩ ?_
                                                              refine xw_aload_n (pc := 924) (i := 2) (x := x2) C dL_law_924 rfl rfl ?_
                                                              refine xw_aload_nS (pc := 925) (i := 0) (x := b) C dL_law_925 rfl rfl ?_
                                                              refine xw_iload_n (pc := 926) (i := 3) (x := x3) C dL_law_926 rfl rfl ?_
                                                              refine xw_iconst (pc := 927) (v := 1) C dL_law_927 xk_i_1 ?_
                                                              refine xw_iadd (pc := 928) C dL_law_928 ?_
                                                              obtain ⟨v359, q360, hm⟩ := xbind hm
                                                              refine xw_siaload (pc := 929) C dL_law_929 hS q360 ?_
                                                              refine xw_aload_nS (pc := 930) (i := 0) (x := b) C dL_law_930 rfl rfl ?_
                                                              refine xw_iload_n (pc := 931) (i := 3) (x := x3) C dL_law_931 rfl rfl ?_
                                                              refine xw_iconst (pc := 932) (v := 2) C dL_law_932 xk_i_2 ?_
                                                              refine xw_iadd (pc := 933) C dL_law_933 ?_
                                                              obtain ⟨v361, q362, hm⟩ := xbind hm
                                                              refine xw_siaload (pc := 934) C dL_law_934 hS q362 ?_
                                                              obtain ⟨_, q363, hm⟩ := xbind hm
                                                              obtain ⟨v364, q365, hm⟩ := xbind hm
                                                              refine xw_callV1 (pc := 935) (As := [.int v359, .int v361]) (st := [.int v357]) C dL_law_935 (wX9_opening q365) dd_X9_opening lk_L_132 dv_X9_opening (xco_spec q363) rfl (Nat.le_of_ble_eq_true rfl) (Nat.le_of_ble_eq_true rfl) (Nat.le_of_ble_eq_true rfl) ⟨Nat.le_refl _, Nat.le_refl _⟩ ⟨by have := hN.1; omega, by have := hN.2; omega⟩ ?_
                                                              refine xw_icmp_eq (pc := 938) (tgt := 1026) C dL_law_938 (by decide) (fun q => ?_) (fun q => ?_)
                                                              · replace hm := xif_t q hm
                                                                refine xw_iinc (pc := 1026) (i := 3) (x := x3) (v := (x3 + (3 : Int32))) (L' := [some (.retAddr b), some (.ref x1), some (.ref x2), some (.int (x3 + (3 : Int32)))]) C dL_law_1026 rfl (congrArg (HAdd.hAdd _) xk_i_3) (Nat.le_of_ble_eq_true rfl) rfl ?_
                                                                refine xw_goto (pc := 1029) (tgt := 18) C dL_law_1029 (by decide) ?_
                                                                obtain rfl := Option.some.inj hm
                                                                refine xw_sub (pc := 18) _ ?_ (hc _ rfl)
                                                                exact ⟨Or.inr rfl, Or.inr rfl, Or.inr rfl, Or.inr rfl, trivial⟩
                                                              · replace hm := xif_f q hm
                                                                cases hm
                                                            · replace hm := xif_f q39 hm
                                                              by_cases q40 : (v9 &&& (63 : Int32)) = 29
                                                              · replace hm := xif_t q40 hm
                                                                refine xw_tabIn (pc := 32) (v := 29) (off := 911) (tgt := 943) C dL_law_32 q40 (by decide) (by decide) (by decide) (by decide) ?_
                                                                refine xw_aload_n (pc := 943) (i := 1) (x := x1) C dL_law_943 rfl rfl ?_
                                                                refine xw_aload_nS (pc := 944) (i := 0) (x := b) C dL_law_944 rfl rfl ?_
                                                                refine xw_iload_n (pc := 945) (i := 3) (x := x3) C dL_law_945 rfl rfl ?_
                                                                refine xw_iconst (pc := 946) (v := 1) C dL_law_946 xk_i_1 ?_
                                                                refine xw_iadd (pc := 947) C dL_law_947 ?_
                                                                obtain ⟨v366, q367, hm⟩ := xbind hm
                                                                refine xw_siaload (pc := 948) C dL_law_948 hS q367 ?_
                                                                refine xw_aload_nS (pc := 949) (i := 0) (x := b) C dL_law_949 rfl rfl ?_
                                                                refine xw_iload_n (pc := 950) (i := 3) (x := x3) C dL_law_950 rfl rfl ?_
                                                                refine xw_iconst (pc := 951) (v := 2) C dL_law_951 xk_i_2 ?_
                                                                refine xw_iadd (pc := 952) C dL_law_952 ?_
                                                                obtain ⟨v368, q369, hm⟩ := xbind hm
                                                                refine xw_siaload (pc := 953) C dL_law_953 hS q369 ?_
                                                                obtain ⟨_, q370, hm⟩ := xbind hm
                                                                obtain ⟨v371, q372, hm⟩ := xbind hm
                                                                refine xw_callV1 (pc := 954) (As := [.int v366, .int v368]) (st := []) C dL_law_954 (wX8_smear q372) dd_X8_smear lk_L_133 dv_X8_smear (xco_spec q370) rfl (Nat.le_of_ble_eq_true rfl) (Nat.le_of_ble_eq_true rfl) (Nat.le_of_ble_eq_true rfl) ⟨Nat.le_refl _, Nat.le_refl _⟩ ⟨by have := hN.1; omega, by have := hN.2; omega⟩ ?_
                                                                refine xw_aload_n (pc := 957) (i := 2) (x := x2) C dL_law_957 rfl rfl ?_
                                                                refine xw_aload_nS (pc := 958) (i := 0) (x := b) C dL_law_958 rfl rfl ?_
                                                                refine xw_iload_n (pc := 959) (i := 3) (x := x3) C dL_law_959 rfl rfl ?_
                                                                refine xw_iconst (pc := 960) (v := 1) C dL_law_960 xk_i_1 ?_
                                                                refine xw_iadd (pc := 961) C dL_law_961 ?_
                                                                obtain ⟨v373, q374, hm⟩ := xbind hm
                                                                refine xw_siaload (pc := 962) C dL_law_962 hS q374 ?_
                                                                refine xw_aload_nS (pc := 963) (i := 0) (x := b) C dL_law_963 rfl rfl ?_
                                                                refine xw_iload_n (pc := 964) (i := 3) (x := x3) C dL_law_964 rfl rfl ?_
                                                                refine xw_iconst (pc := 965) (v := 2) C dL_law_965 xk_i_2 ?_
                                                                refine xw_iadd (pc := 966) C dL_law_966 ?_
                                                                obtain ⟨v375, q376, hm⟩ := xbind hm
                                                                refine xw_siaload (pc := 967) C dL_law_967 hS q376 ?_
                                                                obtain ⟨_, q377, hm⟩ := xbind hm
                                                                obtain ⟨v378, q379, hm⟩ := xbind hm
                                                                refine xw_callV1 (pc := 968) (As := [.int v373, .int v375]) (st := [.int v371]) C dL_law_968 (wX9_smear q379) dd_X9_smear lk_L_136 dv_X9_smear (xco_spec q377) rfl (Nat.le_of_ble_eq_true rfl) (Nat.le_of_ble_eq_true rfl) (Nat.le_of_ble_eq_true rfl) ⟨Nat.le_refl _, Nat.le_refl _⟩ ⟨by have := hN.1; omega, by have := hN.2; omega⟩ ?_
                                                                refine xw_icmp_eq (pc := 971) (tgt := 1026) C dL_law_971 (by decide) (fun q => ?_) (fun q => ?_)
                                                                · replace hm := xif_t q hm
                                                                  refine xw_iinc (pc := 1026) (i := 3) (x := x3) (v := (x3 + (3 : Int32))) (L' := [some (.retAddr b), some (.ref x1), some (.ref x2), some (.int (x3 + (3 : Int32)))]) C dL_law_1026 rfl (congrArg (HAdd.hAdd _) xk_i_3) (Nat.le_of_ble_eq_true rfl) rfl ?_
                                                                  refine xw_goto (pc := 1029) (tgt := 18) C dL_law_1029 (by decide) ?_
                                                                  obtain rfl := Option.some.inj hm
                                                                  refine xw_sub (pc := 18) _ ?_ (hc _ rfl)
                                                                  exact ⟨Or.inr rfl, Or.inr rfl, Or.inr rfl, Or.inr rfl, trivial⟩
                                                                · replace hm := xif_f q hm
                                                                  cases hm
                                                              · replace hm := xif_f q40 hm
                                                                by_cases q41 : (v9 &&& (63 : Int32)) = 30
                                                                · replace hm := xif_t q41 hm
                                                                  refine xw_tabIn (pc := 32) (v := 30) (off := 944) (tgt := 976) C dL_law_32 q41 (by decide) (by decide) (by decide) (by decide) ?_
                                                                  refine xw_aload_n (pc := 976) (i := 1) (x := x1) C dL_law_976 rfl rfl ?_
                                                                  obtain ⟨_, q380, hm⟩ := xbind hm
                                                                  obtain ⟨v381, q382, hm⟩ := xbind hm
                                                                  refine xw_callV1 (pc := 977) (As := []) (st := []) C dL_law_977 (wX8_undo q382) dd_X8_undo lk_L_137 dv_X8_undo (xco_spec q380) rfl (Nat.le_of_ble_eq_true rfl) (Nat.le_of_ble_eq_true rfl) (Nat.le_of_ble_eq_true rfl) ⟨Nat.le_refl _, Nat.le_refl _⟩ ⟨by have := hN.1; omega, by have := hN.2; omega⟩ ?_
                                                                  refine xw_aload_n (pc := 980) (i := 2) (x := x2) C dL_law_980 rfl rfl ?_
                                                                  obtain ⟨_, q383, hm⟩ := xbind hm
                                                                  obtain ⟨v384, q385, hm⟩ := xbind hm
                                                                  refine xw_callV1 (pc := 981) (As := []) (st := [.int v381.1]) C dL_law_981 (wX9_undo q385) dd_X9_undo lk_L_140 dv_X9_undo (xco_spec q383) rfl (Nat.le_of_ble_eq_true rfl) (Nat.le_of_ble_eq_true rfl) (Nat.le_of_ble_eq_true rfl) ⟨Nat.le_refl _, Nat.le_refl _⟩ ⟨by have := hN.1; omega, by have := hN.2; omega⟩ ?_
                                                                  refine xw_icmp_eq (pc := 984) (tgt := 1026) C dL_law_984 (by decide) (fun q => ?_) (fun q => ?_)
                                                                  · replace hm := xif_t q hm
                                                                    refine xw_iinc (pc := 1026) (i := 3) (x := x3) (v := (x3 + (3 : Int32))) (L' := [some (.retAddr b), some (.ref x1), some (.ref x2), some (.int (x3 + (3 : Int32)))]) C dL_law_1026 rfl (congrArg (HAdd.hAdd _) xk_i_3) (Nat.le_of_ble_eq_true rfl) rfl ?_
                                                                    refine xw_goto (pc := 1029) (tgt := 18) C dL_law_1029 (by decide) ?_
                                                                    obtain rfl := Option.some.inj hm
                                                                    refine xw_sub (pc := 18) _ ?_ (hc _ rfl)
                                                                    exact ⟨Or.inr rfl, Or.inr rfl, Or.inr rfl, Or.inr rfl, trivial⟩
                                                                  · replace hm := xif_f q hm
                                                                    cases hm
                                                                · replace hm := xif_f q41 hm
                                                                  by_cases q42 : (v9 &&& (63 : Int32)) = 31
                                                                  · replace hm := xif_t q42 hm
                                                                    refine xw_tabIn (pc := 32) (v := 31) (off := 957) (tgt := 989) C dL_law_32 q42 (by decide) (by decide) (by decide) (by decide) ?_
                                                                    refine xw_aload_n (pc := 989) (i := 1) (x := x1) C dL_law_989 rfl rfl ?_
                                                                    refine xw_aload_nS (pc := 990) (i := 0) (x := b) C dL_law_990 rfl rfl ?_
                                                                    refine xw_iload_n (pc := 991) (i := 3) (x := x3) C dL_law_991 rfl rfl ?_
                                                                    refine xw_iconst (pc := 992) (v := 1) C dL_law_992 xk_i_1 ?_
                                                                    refine xw_iadd (pc := 993) C dL_law_993 ?_
                                                                    obtain ⟨v386, q387, hm⟩ := xbind hm
                                                                    refine xw_siaload (pc := 994) C dL_law_994 hS q387 ?_
                                                                    obtain ⟨_, q388, hm⟩ := xbind hm
                                                                    obtain ⟨v389, q390, hm⟩ := xbind hm
                                                                    refine xw_callV1 (pc := 995) (As := [.int v386]) (st := []) C dL_law_995 (wX8_count q390) dd_X8_count lk_L_141 dv_X8_count (xco_spec q388) rfl (Nat.le_of_ble_eq_true rfl) (Nat.le_of_ble_eq_true rfl) (Nat.le_of_ble_eq_true rfl) ⟨Nat.le_refl _, Nat.le_refl _⟩ ⟨by have := hN.1; omega, by have := hN.2; omega⟩ ?_
                                                                    refine xw_aload_n (pc := 998) (i := 2) (x := x2) C dL_law_998 rfl rfl ?_
                                                                    refine xw_aload_nS (pc := 999) (i := 0) (x := b) C dL_law_999 rfl rfl ?_
                                                                    refine xw_iload_n (pc := 1000) (i := 3) (x := x3) C dL_law_1000 rfl rfl ?_
                                                                    refine xw_iconst (pc := 1001) (v := 1) C dL_law_1001 xk_i_1 ?_
                                                                    refine xw_iadd (pc := 1002) C dL_law_1002 ?_
                                                                    obtain ⟨v391, q392, hm⟩ := xbind hm
                                                                    refine xw_siaload (pc := 1003) C dL_law_1003 hS q392 ?_
                                                                    obtain ⟨_, q393, hm⟩ := xbind hm
                                                                    obtain ⟨v394, q395, hm⟩ := xbind hm
                                                                    refine xw_callV1 (pc := 1004) (As := [.int v391]) (st := [.int v389]) C dL_law_1004 (wX9_count q395) dd_X9_count lk_L_144 dv_X9_count (xco_spec q393) rfl (Nat.le_of_ble_eq_true rfl) (Nat.le_of_ble_eq_true rfl) (Nat.le_of_ble_eq_true rfl) ⟨Nat.le_refl _, Nat.le_refl _⟩ ⟨by have := hN.1; omega, by have := hN.2; omega⟩ ?_
                                                                    refine xw_icmp_eq (pc := 1007) (tgt := 1026) C dL_law_1007 (by decide) (fun q => ?_) (fun q => ?_)
                                                                    · replace hm := xif_t q hm
                                                                      refine xw_iinc (pc := 1026) (i := 3) (x := x3) (v := (x3 + (3 : Int32))) (L' := [some (.retAddr b), some (.ref x1), some (.ref x2), some (.int (x3 + (3 : Int32)))]) C dL_law_1026 rfl (congrArg (HAdd.hAdd _) xk_i_3) (Nat.le_of_ble_eq_true rfl) rfl ?_
                                                                      refine xw_goto (pc := 1029) (tgt := 18) C dL_law_1029 (by decide) ?_
                                                                      obtain rfl := Option.some.inj hm
                                                                      refine xw_sub (pc := 18) _ ?_ (hc _ rfl)
                                                                      exact ⟨Or.inr rfl, Or.inr rfl, Or.inr rfl, Or.inr rfl, trivial⟩
                                                                    · replace hm := xif_f q hm
                                                                      cases hm
                                                                  · replace hm := xif_f q42 hm
                                                                    by_cases q43 : (v9 &&& (63 : Int32)) = 32
                                                                    · replace hm := xif_t q43 hm
                                                                      refine xw_tabIn (pc := 32) (v := 32) (off := 980) (tgt := 1012) C dL_law_32 q43 (by decide) (by decide) (by decide) (by decide) ?_
                                                                      refine xw_aload_n (pc := 1012) (i := 1) (x := x1) C dL_law_1012 rfl rfl ?_
                                                                      obtain ⟨_, q396, hm⟩ := xbind hm
                                                                      obtain ⟨v397, q398, hm⟩ := xbind hm
                                                                      refine xw_callV1 (pc := 1013) (As := []) (st := []) C dL_law_1013 (wX8_digest q398) dd_X8_digest lk_L_145 dv_X8_digest (xco_spec q396) rfl (Nat.le_of_ble_eq_true rfl) (Nat.le_of_ble_eq_true rfl) (Nat.le_of_ble_eq_true rfl) ⟨Nat.le_refl _, Nat.le_refl _⟩ ⟨by have := hN.1; omega, by have := hN.2; omega⟩ ?_
                                                                      refine xw_aload_n (pc := 1016) (i := 2) (x := x2) C dL_law_1016 rfl rfl ?_
                                                                      obtain ⟨_, q399, hm⟩ := xbind hm
                                                                      obtain ⟨v400, q401, hm⟩ := xbind hm
                                                                      refine xw_callV1 (pc := 1017) (As := []) (st := [.long v397.1]) C dL_law_1017 (wX9_digest q401) dd_X9_digest lk_L_149 dv_X9_digest (xco_spec q399) rfl (Nat.le_of_ble_eq_true rfl) (Nat.le_of_ble_eq_true rfl) (Nat.le_of_ble_eq_true rfl) ⟨Nat.le_refl _, Nat.le_refl _⟩ ⟨by have := hN.1; omega, by have := hN.2; omega⟩ ?_
                                                                      refine xw_lcmp (pc := 1020) C dL_law_1020 ?_
                                                                      refine xw_if_eq (pc := 1021) (tgt := 1026) C dL_law_1021 (by decide) (fun q => ?_) (fun q => ?_)
                                                                      · replace hm := xif_t q hm
                                                                        refine xw_iinc (pc := 1026) (i := 3) (x := x3) (v := (x3 + (3 : Int32))) (L' := [some (.retAddr b), some (.ref x1), some (.ref x2), some (.int (x3 + (3 : Int32)))]) C dL_law_1026 rfl (congrArg (HAdd.hAdd _) xk_i_3) (Nat.le_of_ble_eq_true rfl) rfl ?_
                                                                        refine xw_goto (pc := 1029) (tgt := 18) C dL_law_1029 (by decide) ?_
                                                                        obtain rfl := Option.some.inj hm
                                                                        refine xw_sub (pc := 18) _ ?_ (hc _ rfl)
                                                                        exact ⟨Or.inr rfl, Or.inr rfl, Or.inr rfl, Or.inr rfl, trivial⟩
                                                                      · replace hm := xif_f q hm
                                                                        cases hm
                                                                    · replace hm := xif_f q43 hm
                                                                      refine xw_tabOut (pc := 32) (tgt := 1026) C dL_law_32 (by have := lv_neT q11 (a := 0) (by decide); have := lv_neT q12 (a := 1) (by decide); have := lv_neT q13 (a := 2) (by decide); have := lv_neT q14 (a := 3) (by decide); have := lv_neT q15 (a := 4) (by decide); have := lv_neT q16 (a := 5) (by decide); have := lv_neT q17 (a := 6) (by decide); have := lv_neT q18 (a := 7) (by decide); have := lv_neT q19 (a := 8) (by decide); have := lv_neT q20 (a := 9) (by decide); have := lv_neT q21 (a := 10) (by decide); have := lv_neT q22 (a := 11) (by decide); have := lv_neT q23 (a := 12) (by decide); have := lv_neT q24 (a := 13) (by decide); have := lv_neT q25 (a := 14) (by decide); have := lv_neT q26 (a := 15) (by decide); have := lv_neT q27 (a := 16) (by decide); have := lv_neT q28 (a := 17) (by decide); have := lv_neT q29 (a := 18) (by decide); have := lv_neT q30 (a := 19) (by decide); have := lv_neT q31 (a := 20) (by decide); have := lv_neT q32 (a := 21) (by decide); have := lv_neT q33 (a := 22) (by decide); have := lv_neT q34 (a := 23) (by decide); have := lv_neT q35 (a := 24) (by decide); have := lv_neT q36 (a := 25) (by decide); have := lv_neT q37 (a := 26) (by decide); have := lv_neT q38 (a := 27) (by decide); have := lv_neT q39 (a := 28) (by decide); have := lv_neT q40 (a := 29) (by decide); have := lv_neT q41 (a := 30) (by decide); have := lv_neT q42 (a := 31) (by decide); have := lv_neT q43 (a := 32) (by decide); omega) (by decide) ?_
                                                                      refine xw_iinc (pc := 1026) (i := 3) (x := x3) (v := (x3 + (3 : Int32))) (L' := [some (.retAddr b), some (.ref x1), some (.ref x2), some (.int (x3 + (3 : Int32)))]) C dL_law_1026 rfl (congrArg (HAdd.hAdd _) xk_i_3) (Nat.le_of_ble_eq_true rfl) rfl ?_
                                                                      refine xw_goto (pc := 1029) (tgt := 18) C dL_law_1029 (by decide) ?_
                                                                      obtain rfl := Option.some.inj hm
                                                                      refine xw_sub (pc := 18) _ ?_ (hc _ rfl)
                                                                      exact ⟨Or.inr rfl, Or.inr rfl, Or.inr rfl, Or.inr rfl, trivial⟩
set_option maxHeartbeats 4000000 in
set_option maxRecDepth 100000 in
theorem wL_law {X : XCtx} {nmL : String} (C : XOK X RL cL_law 4 nmL (some .boolean) 9 344) {n sl : Nat} (hN : XN X (n + 109) (sl + 5465)) {b N0 : Nat} {xs : Nat → Int32} (hS : XSc X b N0 xs) (hE : ∀ {pc : Nat} {L : List (Option Value)} {h : XH} {n sl : Nat}, decode cL_law pc = .ok (.ireturn, 1) → XN X n sl → XW X pc L [.int 1] h n sl) {h : XH} (hm : fL_law N0 xs h n = some ()) : XW X 0 [some (.retAddr b), none, none, none] [] h n sl := by
  unfold fL_law at hm
  obtain ⟨h1, q2, hm⟩ := xbind hm
  refine xw_newB (pc := 0) C dL_law_0 cl_L_7 nw_X8 ⟨by have := hN.1; omega, by have := hN.2; omega⟩ q2 ?_
  refine xw_dup (pc := 3) C dL_law_3 rfl ?_
  obtain ⟨h3, q4, hm⟩ := xbind hm
  refine xw_callI0 (pc := 4) (As := []) (st := [.ref n]) C dL_law_4 (wX8_init q4) dd_X8_init lk_L_9 di_X8_init rfl rfl (Nat.le_of_ble_eq_true rfl) (Nat.le_of_ble_eq_true rfl) (Nat.le_of_ble_eq_true rfl) ⟨Nat.le_add_right _ _, Nat.le_add_right _ _⟩ ⟨by have := hN.1; omega, by have := hN.2; omega⟩ ?_
  refine xw_astore_n (pc := 7) (i := 1) (x := n) (L' := [some (.retAddr b), some (.ref n), none, none]) C dL_law_7 rfl (Nat.le_of_ble_eq_true rfl) rfl ?_
  obtain ⟨h5, q6, hm⟩ := xbind hm
  refine xw_newB (pc := 8) C dL_law_8 cl_L_10 nw_X9 ⟨by have := hN.1; omega, by have := hN.2; omega⟩ q6 ?_
  refine xw_dup (pc := 11) C dL_law_11 rfl ?_
  obtain ⟨h7, q8, hm⟩ := xbind hm
  refine xw_callI0 (pc := 12) (As := []) (st := [.ref (n + 102)]) C dL_law_12 (wX9_init q8) dd_X9_init lk_L_12 di_X9_init rfl rfl (Nat.le_of_ble_eq_true rfl) (Nat.le_of_ble_eq_true rfl) (Nat.le_of_ble_eq_true rfl) ⟨Nat.le_add_right _ _, Nat.le_add_right _ _⟩ ⟨by have := hN.1; omega, by have := hN.2; omega⟩ ?_
  refine xw_astore_n (pc := 15) (i := 2) (x := (n + 102)) (L' := [some (.retAddr b), some (.ref n), some (.ref (n + 102)), none]) C dL_law_15 rfl (Nat.le_of_ble_eq_true rfl) rfl ?_
  refine xw_iconst (pc := 16) (v := 0) C dL_law_16 xk_i_0 ?_
  refine xw_istore_n (pc := 17) (i := 3) (x := (0 : Int32)) (L' := [some (.retAddr b), some (.ref n), some (.ref (n + 102)), some (.int (0 : Int32))]) C dL_law_17 rfl (Nat.le_of_ble_eq_true rfl) rfl ?_
  obtain ⟨e402, q403, hm⟩ := xbind hm
  refine xw_sub (pc := 18) [some (.retAddr b), some (.ref n), some (.ref (n + 102)), some (.int (0 : Int32))] ⟨Or.inr rfl, Or.inr rfl, Or.inr rfl, Or.inr rfl, trivial⟩ ?_
  refine xloop_walk (fL_law_B18 N0 xs n (n + 102)) (fL_law_P18 X b n (n + 102) (n + 109) (sl + 5465)) (fL_law_E18 X b n (n + 102) (n + 109) (sl + 5465)) (fun s' o' => fL_law_B18_w C (n := (n + 109)) (sl := (sl + 5465)) ⟨by have := hN.1; omega, by have := hN.2; omega⟩ hS s' o') 5000 (h7, (0 : Int32)) e402 q403 ?_
  show XW X 1032 [none, none, none, none] [] e402 (n + 109) (sl + 5465)
  refine xw_iconst (pc := 1032) (v := 1) C dL_law_1032 xk_i_1 ?_
  exact hE dL_law_1033 hN
