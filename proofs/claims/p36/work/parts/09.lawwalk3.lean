def fL_law_P174 (X : XCtx) (b : Nat) (x1 : Nat) (x6 : Nat) (x7 : Int32) (x8 : Int32) (n sl : Nat) (s : (XH × Bool × Int32)) : Prop := XW X 174 [some (.retAddr b), some (.ref x1), none, none, none, none, some (.ref x6), some (.int x7), some (.int x8), some (.int (xbi s.2.1)), some (.int s.2.2), none, none, none, none, none, none, none, none] [] s.1 n sl
def fL_law_E174 (X : XCtx) (b : Nat) (x1 : Nat) (x6 : Nat) (x7 : Int32) (x8 : Int32) (n sl : Nat) (e : (XH × Bool)) : Prop := XW X 408 [some (.retAddr b), some (.ref x1), none, none, none, none, some (.ref x6), some (.int x7), none, some (.int (xbi e.2)), none, none, none, none, none, none, none, none, none] [] e.1 n sl
set_option maxHeartbeats 4000000 in
set_option maxRecDepth 100000 in
theorem fL_law_J373_w {X : XCtx} {nmL : String} (C : XOK X RL cL_law 19 nmL (some .boolean) 9 344) {n sl : Nat} (hN : XN X n sl) {b N0 : Nat} {xs : Nat → Int32} (hS : XSc X b N0 xs)  {h : XH} {x1 : Nat} {x6 : Nat} {x7 : Int32} {x8 : Int32} {x10 : Int32} {x11 : Int32} {s0 : Bool} {o : (XH × Bool × Int32) ⊕ (XH × Bool)} (hm : fL_law_J373 N0 xs h x1 x6 x7 x8 x10 x11 s0 = some o) (hc : ∀ s', o = .inl s' → fL_law_P174 X b x1 x6 x7 x8 n sl s') (he : ∀ e', o = .inr e' → fL_law_E174 X b x1 x6 x7 x8 n sl e') : XW X 373 [some (.retAddr b), some (.ref x1), none, none, none, none, some (.ref x6), some (.int x7), some (.int x8), none, some (.int x10), some (.int x11), none, none, none, none, none, none, none] [.int (xbi s0)] h n sl := by
  unfold fL_law_J373 at hm
  refine xw_istore (pc := 373) (i := 9) (x := (xbi s0)) (L' := [some (.retAddr b), some (.ref x1), none, none, none, none, some (.ref x6), some (.int x7), some (.int x8), some (.int (xbi s0)), some (.int x10), some (.int x11), none, none, none, none, none, none, none]) C dL_law_373 (Nat.le_of_ble_eq_true rfl) rfl ?_
  refine xw_aload_n (pc := 375) (i := 1) (x := x1) C dL_law_375 rfl rfl ?_
  refine xw_iload (pc := 376) (i := 11) (x := x11) C dL_law_376 rfl ?_
  refine xw_bipush (pc := 378) (v := 15) C dL_law_378 xk_b_15 ?_
  refine xw_ishr (pc := 380) C dL_law_380 ?_
  refine xw_bipush (pc := 381) (v := 20) C dL_law_381 xk_b_20 ?_
  obtain ⟨v65, q66, hm⟩ := xbind hm
  refine xw_callS1 (pc := 383) (As := [.int (x11 >>> ((15 : Int32) &&& 31)), .int (20 : Int32)]) (st := [.ref x1]) C dL_law_383 (wL_low q66) dd_L_low lk_L_16 ds_L_low rfl (Nat.le_of_ble_eq_true rfl) (Nat.le_of_ble_eq_true rfl) (Nat.le_of_ble_eq_true rfl) ⟨Nat.le_refl _, Nat.le_refl _⟩ ⟨by have := hN.1; omega, by have := hN.2; omega⟩ ?_
  refine xw_iconst (pc := 386) (v := 1) C dL_law_386 xk_i_1 ?_
  refine xw_iload (pc := 387) (i := 11) (x := x11) C dL_law_387 rfl ?_
  refine xw_bipush (pc := 389) (v := 19) C dL_law_389 xk_b_19 ?_
  refine xw_ishr (pc := 391) C dL_law_391 ?_
  refine xw_bipush (pc := 392) (v := 20) C dL_law_392 xk_b_20 ?_
  obtain ⟨v67, q68, hm⟩ := xbind hm
  refine xw_callS1 (pc := 394) (As := [.int (x11 >>> ((19 : Int32) &&& 31)), .int (20 : Int32)]) (st := [.int (1 : Int32), .int v65, .ref x1]) C dL_law_394 (wL_low q68) dd_L_low lk_L_16 ds_L_low rfl (Nat.le_of_ble_eq_true rfl) (Nat.le_of_ble_eq_true rfl) (Nat.le_of_ble_eq_true rfl) ⟨Nat.le_refl _, Nat.le_refl _⟩ ⟨by have := hN.1; omega, by have := hN.2; omega⟩ ?_
  refine xw_iadd (pc := 397) C dL_law_397 ?_
  obtain ⟨_, q69, hm⟩ := xbind hm
  obtain ⟨v70, q71, hm⟩ := xbind hm
  refine xw_callV1 (pc := 398) (As := [.int v65, .int ((1 : Int32) + v67)]) (st := []) C dL_law_398 (wX8_setFlash q71) dd_X8_setFlash lk_L_46 dv_X8_setFlash (xco_spec q69) rfl (Nat.le_of_ble_eq_true rfl) (Nat.le_of_ble_eq_true rfl) (Nat.le_of_ble_eq_true rfl) ⟨Nat.le_refl _, Nat.le_refl _⟩ ⟨by have := hN.1; omega, by have := hN.2; omega⟩ ?_
  refine xw_pop (pc := 401) C dL_law_401 rfl ?_
  refine xw_iinc (pc := 402) (i := 10) (x := x10) (v := (x10 + (1 : Int32))) (L' := [some (.retAddr b), some (.ref x1), none, none, none, none, some (.ref x6), some (.int x7), some (.int x8), some (.int (xbi s0)), some (.int (x10 + (1 : Int32))), some (.int x11), none, none, none, none, none, none, none]) C dL_law_402 rfl (congrArg (HAdd.hAdd _) xk_i_1) (Nat.le_of_ble_eq_true rfl) rfl ?_
  refine xw_goto (pc := 405) (tgt := 174) C dL_law_405 (by decide) ?_
  obtain rfl := Option.some.inj hm
  refine xw_sub (pc := 174) _ ?_ (hc _ rfl)
  exact ⟨Or.inr rfl, Or.inr rfl, Or.inl rfl, Or.inl rfl, Or.inl rfl, Or.inl rfl, Or.inr rfl, Or.inr rfl, Or.inr rfl, Or.inr rfl, Or.inr rfl, Or.inl rfl, Or.inl rfl, Or.inl rfl, Or.inl rfl, Or.inl rfl, Or.inl rfl, Or.inl rfl, Or.inl rfl, trivial⟩
set_option maxHeartbeats 4000000 in
set_option maxRecDepth 100000 in
theorem fL_law_J372_w {X : XCtx} {nmL : String} (C : XOK X RL cL_law 19 nmL (some .boolean) 9 344) {n sl : Nat} (hN : XN X n sl) {b N0 : Nat} {xs : Nat → Int32} (hS : XSc X b N0 xs)  {h : XH} {x1 : Nat} {x6 : Nat} {x7 : Int32} {x8 : Int32} {x10 : Int32} {x11 : Int32} {o : (XH × Bool × Int32) ⊕ (XH × Bool)} (hm : fL_law_J372 N0 xs h x1 x6 x7 x8 x10 x11 = some o) (hc : ∀ s', o = .inl s' → fL_law_P174 X b x1 x6 x7 x8 n sl s') (he : ∀ e', o = .inr e' → fL_law_E174 X b x1 x6 x7 x8 n sl e') : XW X 372 [some (.retAddr b), some (.ref x1), none, none, none, none, some (.ref x6), some (.int x7), some (.int x8), none, some (.int x10), some (.int x11), none, none, none, none, none, none, none] [] h n sl := by
  unfold fL_law_J372 at hm
  refine xw_iconst (pc := 372) (v := 0) C dL_law_372 xk_i_0 ?_
  exact xw_sub (pc := 373) [some (.retAddr b), some (.ref x1), none, none, none, none, some (.ref x6), some (.int x7), some (.int x8), none, some (.int x10), some (.int x11), none, none, none, none, none, none, none] ⟨Or.inr rfl, Or.inr rfl, Or.inl rfl, Or.inl rfl, Or.inl rfl, Or.inl rfl, Or.inr rfl, Or.inr rfl, Or.inr rfl, Or.inl rfl, Or.inr rfl, Or.inr rfl, Or.inl rfl, Or.inl rfl, Or.inl rfl, Or.inl rfl, Or.inl rfl, Or.inl rfl, Or.inl rfl, trivial⟩ (fL_law_J373_w C hN hS hm hc he)
set_option maxHeartbeats 4000000 in
set_option maxRecDepth 100000 in
theorem fL_law_J323_w {X : XCtx} {nmL : String} (C : XOK X RL cL_law 19 nmL (some .boolean) 9 344) {n sl : Nat} (hN : XN X n sl) {b N0 : Nat} {xs : Nat → Int32} (hS : XSc X b N0 xs)  {h : XH} {x1 : Nat} {x6 : Nat} {x7 : Int32} {x8 : Int32} {x9 : Bool} {x10 : Int32} {x11 : Int32} {x12 : Bool} {x16 : Int32} {x17 : Int32} {s0 : Int32} {o : (XH × Bool × Int32) ⊕ (XH × Bool)} (hm : fL_law_J323 N0 xs h x1 x6 x7 x8 x9 x10 x11 x12 x16 x17 s0 = some o) (hc : ∀ s', o = .inl s' → fL_law_P174 X b x1 x6 x7 x8 n sl s') (he : ∀ e', o = .inr e' → fL_law_E174 X b x1 x6 x7 x8 n sl e') : XW X 323 [some (.retAddr b), some (.ref x1), none, none, none, none, some (.ref x6), some (.int x7), some (.int x8), some (.int (xbi x9)), some (.int x10), some (.int x11), some (.int (xbi x12)), none, none, none, some (.int x16), some (.int x17), none] [.int s0] h n sl := by
  unfold fL_law_J323 at hm
  refine xw_istore (pc := 323) (i := 18) (x := s0) (L' := [some (.retAddr b), some (.ref x1), none, none, none, none, some (.ref x6), some (.int x7), some (.int x8), some (.int (xbi x9)), some (.int x10), some (.int x11), some (.int (xbi x12)), none, none, none, some (.int x16), some (.int x17), some (.int s0)]) C dL_law_323 (Nat.le_of_ble_eq_true rfl) rfl ?_
  refine xw_iload (pc := 325) (i := 18) (x := s0) C dL_law_325 rfl ?_
  refine xw_iload (pc := 327) (i := 10) (x := x10) C dL_law_327 rfl ?_
  refine xw_icmp_ne (pc := 329) (tgt := 356) C dL_law_329 (by decide) (fun q => ?_) (fun q => ?_)
  · replace hm := xif_f q hm
    cases hm
  · replace hm := xif_t q hm
    refine xw_aload_n (pc := 332) (i := 1) (x := x1) C dL_law_332 rfl rfl ?_
    refine xw_iload (pc := 333) (i := 10) (x := x10) C dL_law_333 rfl ?_
    refine xw_iconst (pc := 335) (v := 0) C dL_law_335 xk_i_0 ?_
    obtain ⟨_, q59, hm⟩ := xbind hm
    obtain ⟨v60, q61, hm⟩ := xbind hm
    refine xw_callV1 (pc := 336) (As := [.int x10, .int (0 : Int32)]) (st := []) C dL_law_336 (wX8_reading q61) dd_X8_reading lk_L_66 dv_X8_reading (xco_spec q59) rfl (Nat.le_of_ble_eq_true rfl) (Nat.le_of_ble_eq_true rfl) (Nat.le_of_ble_eq_true rfl) ⟨Nat.le_refl _, Nat.le_refl _⟩ ⟨by have := hN.1; omega, by have := hN.2; omega⟩ ?_
    refine xw_iload (pc := 339) (i := 16) (x := x16) C dL_law_339 rfl ?_
    refine xw_icmp_ne (pc := 341) (tgt := 356) C dL_law_341 (by decide) (fun q => ?_) (fun q => ?_)
    · replace hm := xif_f q hm
      cases hm
    · replace hm := xif_t q hm
      refine xw_aload_n (pc := 344) (i := 1) (x := x1) C dL_law_344 rfl rfl ?_
      refine xw_iload (pc := 345) (i := 10) (x := x10) C dL_law_345 rfl ?_
      refine xw_iconst (pc := 347) (v := 1) C dL_law_347 xk_i_1 ?_
      obtain ⟨_, q62, hm⟩ := xbind hm
      obtain ⟨v63, q64, hm⟩ := xbind hm
      refine xw_callV1 (pc := 348) (As := [.int x10, .int (1 : Int32)]) (st := []) C dL_law_348 (wX8_reading q64) dd_X8_reading lk_L_66 dv_X8_reading (xco_spec q62) rfl (Nat.le_of_ble_eq_true rfl) (Nat.le_of_ble_eq_true rfl) (Nat.le_of_ble_eq_true rfl) ⟨Nat.le_refl _, Nat.le_refl _⟩ ⟨by have := hN.1; omega, by have := hN.2; omega⟩ ?_
      refine xw_iload (pc := 351) (i := 17) (x := x17) C dL_law_351 rfl ?_
      refine xw_icmp_eq (pc := 353) (tgt := 358) C dL_law_353 (by decide) (fun q => ?_) (fun q => ?_)
      · replace hm := xif_t q hm
        refine xw_iload (pc := 358) (i := 9) (x := (xbi x9)) C dL_law_358 rfl ?_
        refine xw_if_eqZ (pc := 360) (b := x9) (tgt := 372) C dL_law_360 (by decide) (fun q => ?_) (fun q => ?_)
        · replace hm := xif_f q hm
          exact xw_sub (pc := 372) [some (.retAddr b), some (.ref x1), none, none, none, none, some (.ref x6), some (.int x7), some (.int x8), none, some (.int x10), some (.int x11), none, none, none, none, none, none, none] ⟨Or.inr rfl, Or.inr rfl, Or.inl rfl, Or.inl rfl, Or.inl rfl, Or.inl rfl, Or.inr rfl, Or.inr rfl, Or.inr rfl, Or.inl rfl, Or.inr rfl, Or.inr rfl, Or.inl rfl, Or.inl rfl, Or.inl rfl, Or.inl rfl, Or.inl rfl, Or.inl rfl, Or.inl rfl, trivial⟩ (fL_law_J372_w C hN hS hm hc he)
        · replace hm := xif_t q hm
          refine xw_iload (pc := 363) (i := 12) (x := (xbi x12)) C dL_law_363 rfl ?_
          refine xw_if_eqZ (pc := 365) (b := x12) (tgt := 372) C dL_law_365 (by decide) (fun q => ?_) (fun q => ?_)
          · replace hm := xif_f q hm
            exact xw_sub (pc := 372) [some (.retAddr b), some (.ref x1), none, none, none, none, some (.ref x6), some (.int x7), some (.int x8), none, some (.int x10), some (.int x11), none, none, none, none, none, none, none] ⟨Or.inr rfl, Or.inr rfl, Or.inl rfl, Or.inl rfl, Or.inl rfl, Or.inl rfl, Or.inr rfl, Or.inr rfl, Or.inr rfl, Or.inl rfl, Or.inr rfl, Or.inr rfl, Or.inl rfl, Or.inl rfl, Or.inl rfl, Or.inl rfl, Or.inl rfl, Or.inl rfl, Or.inl rfl, trivial⟩ (fL_law_J372_w C hN hS hm hc he)
          · replace hm := xif_t q hm
            refine xw_iconst (pc := 368) (v := 1) C dL_law_368 xk_i_1 ?_
            refine xw_goto (pc := 369) (tgt := 373) C dL_law_369 (by decide) ?_
            exact xw_sub (pc := 373) [some (.retAddr b), some (.ref x1), none, none, none, none, some (.ref x6), some (.int x7), some (.int x8), none, some (.int x10), some (.int x11), none, none, none, none, none, none, none] ⟨Or.inr rfl, Or.inr rfl, Or.inl rfl, Or.inl rfl, Or.inl rfl, Or.inl rfl, Or.inr rfl, Or.inr rfl, Or.inr rfl, Or.inl rfl, Or.inr rfl, Or.inr rfl, Or.inl rfl, Or.inl rfl, Or.inl rfl, Or.inl rfl, Or.inl rfl, Or.inl rfl, Or.inl rfl, trivial⟩ (fL_law_J373_w C hN hS hm hc he)
      · replace hm := xif_f q hm
        cases hm
set_option maxHeartbeats 4000000 in
set_option maxRecDepth 100000 in
theorem fL_law_J299_w {X : XCtx} {nmL : String} (C : XOK X RL cL_law 19 nmL (some .boolean) 9 344) {n sl : Nat} (hN : XN X n sl) {b N0 : Nat} {xs : Nat → Int32} (hS : XSc X b N0 xs)  {h : XH} {x1 : Nat} {x6 : Nat} {x7 : Int32} {x8 : Int32} {x9 : Bool} {x10 : Int32} {x11 : Int32} {x12 : Bool} {x14 : Int32} {x16 : Int32} {s0 : Int32} {o : (XH × Bool × Int32) ⊕ (XH × Bool)} (hm : fL_law_J299 N0 xs h x1 x6 x7 x8 x9 x10 x11 x12 x14 x16 s0 = some o) (hc : ∀ s', o = .inl s' → fL_law_P174 X b x1 x6 x7 x8 n sl s') (he : ∀ e', o = .inr e' → fL_law_E174 X b x1 x6 x7 x8 n sl e') : XW X 299 [some (.retAddr b), some (.ref x1), none, none, none, none, some (.ref x6), some (.int x7), some (.int x8), some (.int (xbi x9)), some (.int x10), some (.int x11), some (.int (xbi x12)), none, some (.int x14), none, some (.int x16), none, none] [.int s0] h n sl := by
  unfold fL_law_J299 at hm
  refine xw_istore (pc := 299) (i := 17) (x := s0) (L' := [some (.retAddr b), some (.ref x1), none, none, none, none, some (.ref x6), some (.int x7), some (.int x8), some (.int (xbi x9)), some (.int x10), some (.int x11), some (.int (xbi x12)), none, some (.int x14), none, some (.int x16), some (.int s0), none]) C dL_law_299 (Nat.le_of_ble_eq_true rfl) rfl ?_
  refine xw_iload (pc := 301) (i := 12) (x := (xbi x12)) C dL_law_301 rfl ?_
  refine xw_if_eqZ (pc := 303) (b := x12) (tgt := 315) C dL_law_303 (by decide) (fun q => ?_) (fun q => ?_)
  · replace hm := xif_f q hm
    refine xw_aload_n (pc := 315) (i := 1) (x := x1) C dL_law_315 rfl rfl ?_
    refine xw_iload (pc := 316) (i := 16) (x := x16) C dL_law_316 rfl ?_
    refine xw_iload (pc := 318) (i := 17) (x := s0) C dL_law_318 rfl ?_
    obtain ⟨_, q56, hm⟩ := xbind hm
    obtain ⟨v57, q58, hm⟩ := xbind hm
    refine xw_callV1 (pc := 320) (As := [.int x16, .int s0]) (st := []) C dL_law_320 (wX8_read q58) dd_X8_read lk_L_112 dv_X8_read (xco_spec q56) rfl (Nat.le_of_ble_eq_true rfl) (Nat.le_of_ble_eq_true rfl) (Nat.le_of_ble_eq_true rfl) ⟨Nat.le_refl _, Nat.le_refl _⟩ ⟨by have := hN.1; omega, by have := hN.2; omega⟩ ?_
    exact xw_sub (pc := 323) [some (.retAddr b), some (.ref x1), none, none, none, none, some (.ref x6), some (.int x7), some (.int x8), some (.int (xbi x9)), some (.int x10), some (.int x11), some (.int (xbi x12)), none, none, none, some (.int x16), some (.int s0), none] ⟨Or.inr rfl, Or.inr rfl, Or.inl rfl, Or.inl rfl, Or.inl rfl, Or.inl rfl, Or.inr rfl, Or.inr rfl, Or.inr rfl, Or.inr rfl, Or.inr rfl, Or.inr rfl, Or.inr rfl, Or.inl rfl, Or.inl rfl, Or.inl rfl, Or.inr rfl, Or.inr rfl, Or.inl rfl, trivial⟩ (fL_law_J323_w C hN hS hm hc he)
  · replace hm := xif_t q hm
    refine xw_aload_n (pc := 306) (i := 1) (x := x1) C dL_law_306 rfl rfl ?_
    refine xw_iload (pc := 307) (i := 14) (x := x14) C dL_law_307 rfl ?_
    obtain ⟨_, q72, hm⟩ := xbind hm
    obtain ⟨v73, q74, hm⟩ := xbind hm
    refine xw_callV1 (pc := 309) (As := [.int x14]) (st := []) C dL_law_309 (wX8_look q74) dd_X8_look lk_L_109 dv_X8_look (xco_spec q72) rfl (Nat.le_of_ble_eq_true rfl) (Nat.le_of_ble_eq_true rfl) (Nat.le_of_ble_eq_true rfl) ⟨Nat.le_refl _, Nat.le_refl _⟩ ⟨by have := hN.1; omega, by have := hN.2; omega⟩ ?_
    refine xw_goto (pc := 312) (tgt := 323) C dL_law_312 (by decide) ?_
    exact xw_sub (pc := 323) [some (.retAddr b), some (.ref x1), none, none, none, none, some (.ref x6), some (.int x7), some (.int x8), some (.int (xbi x9)), some (.int x10), some (.int x11), some (.int (xbi x12)), none, none, none, some (.int x16), some (.int s0), none] ⟨Or.inr rfl, Or.inr rfl, Or.inl rfl, Or.inl rfl, Or.inl rfl, Or.inl rfl, Or.inr rfl, Or.inr rfl, Or.inr rfl, Or.inr rfl, Or.inr rfl, Or.inr rfl, Or.inr rfl, Or.inl rfl, Or.inl rfl, Or.inl rfl, Or.inr rfl, Or.inr rfl, Or.inl rfl, trivial⟩ (fL_law_J323_w C hN hS hm hc he)
set_option maxHeartbeats 4000000 in
set_option maxRecDepth 100000 in
theorem fL_law_J274_w {X : XCtx} {nmL : String} (C : XOK X RL cL_law 19 nmL (some .boolean) 9 344) {n sl : Nat} (hN : XN X n sl) {b N0 : Nat} {xs : Nat → Int32} (hS : XSc X b N0 xs)  {h : XH} {x1 : Nat} {x6 : Nat} {x7 : Int32} {x8 : Int32} {x9 : Bool} {x10 : Int32} {x11 : Int32} {x12 : Bool} {x14 : Int32} {x15 : Int32} {s0 : Int32} {o : (XH × Bool × Int32) ⊕ (XH × Bool)} (hm : fL_law_J274 N0 xs h x1 x6 x7 x8 x9 x10 x11 x12 x14 x15 s0 = some o) (hc : ∀ s', o = .inl s' → fL_law_P174 X b x1 x6 x7 x8 n sl s') (he : ∀ e', o = .inr e' → fL_law_E174 X b x1 x6 x7 x8 n sl e') : XW X 274 [some (.retAddr b), some (.ref x1), none, none, none, none, some (.ref x6), some (.int x7), some (.int x8), some (.int (xbi x9)), some (.int x10), some (.int x11), some (.int (xbi x12)), none, some (.int x14), some (.int x15), none, none, none] [.int s0] h n sl := by
  unfold fL_law_J274 at hm
  refine xw_istore (pc := 274) (i := 16) (x := s0) (L' := [some (.retAddr b), some (.ref x1), none, none, none, none, some (.ref x6), some (.int x7), some (.int x8), some (.int (xbi x9)), some (.int x10), some (.int x11), some (.int (xbi x12)), none, some (.int x14), some (.int x15), some (.int s0), none, none]) C dL_law_274 (Nat.le_of_ble_eq_true rfl) rfl ?_
  refine xw_iload (pc := 276) (i := 12) (x := (xbi x12)) C dL_law_276 rfl ?_
  refine xw_if_eqZ (pc := 278) (b := x12) (tgt := 286) C dL_law_278 (by decide) (fun q => ?_) (fun q => ?_)
  · replace hm := xif_f q hm
    refine xw_iload (pc := 286) (i := 11) (x := x11) C dL_law_286 rfl ?_
    refine xw_bipush (pc := 288) (v := 11) C dL_law_288 xk_b_11 ?_
    refine xw_ishr (pc := 290) C dL_law_290 ?_
    refine xw_bipush (pc := 291) (v := 13) C dL_law_291 xk_b_13 ?_
    obtain ⟨v54, q55, hm⟩ := xbind hm
    refine xw_callS1 (pc := 293) (As := [.int (x11 >>> ((11 : Int32) &&& 31)), .int (13 : Int32)]) (st := []) C dL_law_293 (wL_low q55) dd_L_low lk_L_16 ds_L_low rfl (Nat.le_of_ble_eq_true rfl) (Nat.le_of_ble_eq_true rfl) (Nat.le_of_ble_eq_true rfl) ⟨Nat.le_refl _, Nat.le_refl _⟩ ⟨by have := hN.1; omega, by have := hN.2; omega⟩ ?_
    refine xw_bipush (pc := 296) (v := 6) C dL_law_296 xk_b_6 ?_
    refine xw_isub (pc := 298) C dL_law_298 ?_
    exact xw_sub (pc := 299) [some (.retAddr b), some (.ref x1), none, none, none, none, some (.ref x6), some (.int x7), some (.int x8), some (.int (xbi x9)), some (.int x10), some (.int x11), some (.int (xbi x12)), none, some (.int x14), none, some (.int s0), none, none] ⟨Or.inr rfl, Or.inr rfl, Or.inl rfl, Or.inl rfl, Or.inl rfl, Or.inl rfl, Or.inr rfl, Or.inr rfl, Or.inr rfl, Or.inr rfl, Or.inr rfl, Or.inr rfl, Or.inr rfl, Or.inl rfl, Or.inr rfl, Or.inl rfl, Or.inr rfl, Or.inl rfl, Or.inl rfl, trivial⟩ (fL_law_J299_w C hN hS hm hc he)
  · replace hm := xif_t q hm
    refine xw_iload (pc := 281) (i := 15) (x := x15) C dL_law_281 rfl ?_
    refine xw_goto (pc := 283) (tgt := 299) C dL_law_283 (by decide) ?_
    exact xw_sub (pc := 299) [some (.retAddr b), some (.ref x1), none, none, none, none, some (.ref x6), some (.int x7), some (.int x8), some (.int (xbi x9)), some (.int x10), some (.int x11), some (.int (xbi x12)), none, some (.int x14), none, some (.int s0), none, none] ⟨Or.inr rfl, Or.inr rfl, Or.inl rfl, Or.inl rfl, Or.inl rfl, Or.inl rfl, Or.inr rfl, Or.inr rfl, Or.inr rfl, Or.inr rfl, Or.inr rfl, Or.inr rfl, Or.inr rfl, Or.inl rfl, Or.inr rfl, Or.inl rfl, Or.inr rfl, Or.inl rfl, Or.inl rfl, trivial⟩ (fL_law_J299_w C hN hS hm hc he)
set_option maxHeartbeats 4000000 in
set_option maxRecDepth 100000 in
theorem fL_law_J250_w {X : XCtx} {nmL : String} (C : XOK X RL cL_law 19 nmL (some .boolean) 9 344) {n sl : Nat} (hN : XN X n sl) {b N0 : Nat} {xs : Nat → Int32} (hS : XSc X b N0 xs)  {h : XH} {x1 : Nat} {x6 : Nat} {x7 : Int32} {x8 : Int32} {x9 : Bool} {x10 : Int32} {x11 : Int32} {x12 : Bool} {x13 : Int32} {x14 : Int32} {s0 : Int32} {o : (XH × Bool × Int32) ⊕ (XH × Bool)} (hm : fL_law_J250 N0 xs h x1 x6 x7 x8 x9 x10 x11 x12 x13 x14 s0 = some o) (hc : ∀ s', o = .inl s' → fL_law_P174 X b x1 x6 x7 x8 n sl s') (he : ∀ e', o = .inr e' → fL_law_E174 X b x1 x6 x7 x8 n sl e') : XW X 250 [some (.retAddr b), some (.ref x1), none, none, none, none, some (.ref x6), some (.int x7), some (.int x8), some (.int (xbi x9)), some (.int x10), some (.int x11), some (.int (xbi x12)), some (.int x13), some (.int x14), none, none, none, none] [.int s0] h n sl := by
  unfold fL_law_J250 at hm
  refine xw_istore (pc := 250) (i := 15) (x := s0) (L' := [some (.retAddr b), some (.ref x1), none, none, none, none, some (.ref x6), some (.int x7), some (.int x8), some (.int (xbi x9)), some (.int x10), some (.int x11), some (.int (xbi x12)), some (.int x13), some (.int x14), some (.int s0), none, none, none]) C dL_law_250 (Nat.le_of_ble_eq_true rfl) rfl ?_
  refine xw_iload (pc := 252) (i := 12) (x := (xbi x12)) C dL_law_252 rfl ?_
  refine xw_if_eqZ (pc := 254) (b := x12) (tgt := 262) C dL_law_254 (by decide) (fun q => ?_) (fun q => ?_)
  · replace hm := xif_f q hm
    refine xw_iconst (pc := 262) (v := 1) C dL_law_262 xk_i_1 ?_
    refine xw_iload (pc := 263) (i := 11) (x := x11) C dL_law_263 rfl ?_
    refine xw_bipush (pc := 265) (v := 6) C dL_law_265 xk_b_6 ?_
    refine xw_ishr (pc := 267) C dL_law_267 ?_
    refine xw_bipush (pc := 268) (v := 30) C dL_law_268 xk_b_30 ?_
    obtain ⟨v52, q53, hm⟩ := xbind hm
    refine xw_callS1 (pc := 270) (As := [.int (x11 >>> ((6 : Int32) &&& 31)), .int (30 : Int32)]) (st := [.int (1 : Int32)]) C dL_law_270 (wL_low q53) dd_L_low lk_L_16 ds_L_low rfl (Nat.le_of_ble_eq_true rfl) (Nat.le_of_ble_eq_true rfl) (Nat.le_of_ble_eq_true rfl) ⟨Nat.le_refl _, Nat.le_refl _⟩ ⟨by have := hN.1; omega, by have := hN.2; omega⟩ ?_
    refine xw_iadd (pc := 273) C dL_law_273 ?_
    exact xw_sub (pc := 274) [some (.retAddr b), some (.ref x1), none, none, none, none, some (.ref x6), some (.int x7), some (.int x8), some (.int (xbi x9)), some (.int x10), some (.int x11), some (.int (xbi x12)), none, some (.int x14), some (.int s0), none, none, none] ⟨Or.inr rfl, Or.inr rfl, Or.inl rfl, Or.inl rfl, Or.inl rfl, Or.inl rfl, Or.inr rfl, Or.inr rfl, Or.inr rfl, Or.inr rfl, Or.inr rfl, Or.inr rfl, Or.inr rfl, Or.inl rfl, Or.inr rfl, Or.inr rfl, Or.inl rfl, Or.inl rfl, Or.inl rfl, trivial⟩ (fL_law_J274_w C hN hS hm hc he)
  · replace hm := xif_t q hm
    refine xw_iload (pc := 257) (i := 13) (x := x13) C dL_law_257 rfl ?_
    refine xw_goto (pc := 259) (tgt := 274) C dL_law_259 (by decide) ?_
    exact xw_sub (pc := 274) [some (.retAddr b), some (.ref x1), none, none, none, none, some (.ref x6), some (.int x7), some (.int x8), some (.int (xbi x9)), some (.int x10), some (.int x11), some (.int (xbi x12)), none, some (.int x14), some (.int s0), none, none, none] ⟨Or.inr rfl, Or.inr rfl, Or.inl rfl, Or.inl rfl, Or.inl rfl, Or.inl rfl, Or.inr rfl, Or.inr rfl, Or.inr rfl, Or.inr rfl, Or.inr rfl, Or.inr rfl, Or.inr rfl, Or.inl rfl, Or.inr rfl, Or.inr rfl, Or.inl rfl, Or.inl rfl, Or.inl rfl, trivial⟩ (fL_law_J274_w C hN hS hm hc he)
set_option maxHeartbeats 4000000 in
set_option maxRecDepth 100000 in
theorem fL_law_J206_w {X : XCtx} {nmL : String} (C : XOK X RL cL_law 19 nmL (some .boolean) 9 344) {n sl : Nat} (hN : XN X n sl) {b N0 : Nat} {xs : Nat → Int32} (hS : XSc X b N0 xs)  {h : XH} {x1 : Nat} {x6 : Nat} {x7 : Int32} {x8 : Int32} {x9 : Bool} {x10 : Int32} {x11 : Int32} {s0 : Bool} {o : (XH × Bool × Int32) ⊕ (XH × Bool)} (hm : fL_law_J206 N0 xs h x1 x6 x7 x8 x9 x10 x11 s0 = some o) (hc : ∀ s', o = .inl s' → fL_law_P174 X b x1 x6 x7 x8 n sl s') (he : ∀ e', o = .inr e' → fL_law_E174 X b x1 x6 x7 x8 n sl e') : XW X 206 [some (.retAddr b), some (.ref x1), none, none, none, none, some (.ref x6), some (.int x7), some (.int x8), some (.int (xbi x9)), some (.int x10), some (.int x11), none, none, none, none, none, none, none] [.int (xbi s0)] h n sl := by
  unfold fL_law_J206 at hm
  refine xw_istore (pc := 206) (i := 12) (x := (xbi s0)) (L' := [some (.retAddr b), some (.ref x1), none, none, none, none, some (.ref x6), some (.int x7), some (.int x8), some (.int (xbi x9)), some (.int x10), some (.int x11), some (.int (xbi s0)), none, none, none, none, none, none]) C dL_law_206 (Nat.le_of_ble_eq_true rfl) rfl ?_
  refine xw_aload_n (pc := 208) (i := 1) (x := x1) C dL_law_208 rfl rfl ?_
  refine xw_bipush (pc := 209) (v := 7) C dL_law_209 xk_b_7 ?_
  obtain ⟨_, q44, hm⟩ := xbind hm
  obtain ⟨v45, q46, hm⟩ := xbind hm
  refine xw_callV1 (pc := 211) (As := [.int (7 : Int32)]) (st := []) C dL_law_211 (wX8_count q46) dd_X8_count lk_L_33 dv_X8_count (xco_spec q44) rfl (Nat.le_of_ble_eq_true rfl) (Nat.le_of_ble_eq_true rfl) (Nat.le_of_ble_eq_true rfl) ⟨Nat.le_refl _, Nat.le_refl _⟩ ⟨by have := hN.1; omega, by have := hN.2; omega⟩ ?_
  refine xw_istore (pc := 214) (i := 13) (x := v45) (L' := [some (.retAddr b), some (.ref x1), none, none, none, none, some (.ref x6), some (.int x7), some (.int x8), some (.int (xbi x9)), some (.int x10), some (.int x11), some (.int (xbi s0)), some (.int v45), none, none, none, none, none]) C dL_law_214 (Nat.le_of_ble_eq_true rfl) rfl ?_
  refine xw_iload (pc := 216) (i := 11) (x := x11) C dL_law_216 rfl ?_
  refine xw_iconst (pc := 218) (v := 3) C dL_law_218 xk_i_3 ?_
  refine xw_ishr (pc := 219) C dL_law_219 ?_
  refine xw_iconst (pc := 220) (v := 5) C dL_law_220 xk_i_5 ?_
  obtain ⟨v47, q48, hm⟩ := xbind hm
  refine xw_callS1 (pc := 221) (As := [.int (x11 >>> ((3 : Int32) &&& 31)), .int (5 : Int32)]) (st := []) C dL_law_221 (wL_low q48) dd_L_low lk_L_16 ds_L_low rfl (Nat.le_of_ble_eq_true rfl) (Nat.le_of_ble_eq_true rfl) (Nat.le_of_ble_eq_true rfl) ⟨Nat.le_refl _, Nat.le_refl _⟩ ⟨by have := hN.1; omega, by have := hN.2; omega⟩ ?_
  refine xw_istore (pc := 224) (i := 14) (x := v47) (L' := [some (.retAddr b), some (.ref x1), none, none, none, none, some (.ref x6), some (.int x7), some (.int x8), some (.int (xbi x9)), some (.int x10), some (.int x11), some (.int (xbi s0)), some (.int v45), some (.int v47), none, none, none, none]) C dL_law_224 (Nat.le_of_ble_eq_true rfl) rfl ?_
  refine xw_iload (pc := 226) (i := 14) (x := v47) C dL_law_226 rfl ?_
  refine xw_iconst (pc := 228) (v := 1) C dL_law_228 xk_i_1 ?_
  refine xw_iadd (pc := 229) C dL_law_229 ?_
  refine xw_aload_n (pc := 230) (i := 1) (x := x1) C dL_law_230 rfl rfl ?_
  refine xw_bipush (pc := 231) (v := 8) C dL_law_231 xk_b_8 ?_
  obtain ⟨_, q49, hm⟩ := xbind hm
  obtain ⟨v50, q51, hm⟩ := xbind hm
  refine xw_callV1 (pc := 233) (As := [.int (8 : Int32)]) (st := [.int (v47 + (1 : Int32))]) C dL_law_233 (wX8_count q51) dd_X8_count lk_L_33 dv_X8_count (xco_spec q49) rfl (Nat.le_of_ble_eq_true rfl) (Nat.le_of_ble_eq_true rfl) (Nat.le_of_ble_eq_true rfl) ⟨Nat.le_refl _, Nat.le_refl _⟩ ⟨by have := hN.1; omega, by have := hN.2; omega⟩ ?_
  refine xw_icmp_ge (pc := 236) (tgt := 249) C dL_law_236 (by decide) (fun q => ?_) (fun q => ?_)
  · replace hm := xif_t q hm
    refine xw_iconst (pc := 249) (v := 0) C dL_law_249 xk_i_0 ?_
    exact xw_sub (pc := 250) [some (.retAddr b), some (.ref x1), none, none, none, none, some (.ref x6), some (.int x7), some (.int x8), some (.int (xbi x9)), some (.int x10), some (.int x11), some (.int (xbi s0)), some (.int v45), some (.int v47), none, none, none, none] ⟨Or.inr rfl, Or.inr rfl, Or.inl rfl, Or.inl rfl, Or.inl rfl, Or.inl rfl, Or.inr rfl, Or.inr rfl, Or.inr rfl, Or.inr rfl, Or.inr rfl, Or.inr rfl, Or.inr rfl, Or.inr rfl, Or.inr rfl, Or.inl rfl, Or.inl rfl, Or.inl rfl, Or.inl rfl, trivial⟩ (fL_law_J250_w C hN hS hm hc he)
  · replace hm := xif_f q hm
    refine xw_aload_n (pc := 239) (i := 1) (x := x1) C dL_law_239 rfl rfl ?_
    refine xw_iload (pc := 240) (i := 14) (x := v47) C dL_law_240 rfl ?_
    refine xw_iconst (pc := 242) (v := 2) C dL_law_242 xk_i_2 ?_
    obtain ⟨_, q75, hm⟩ := xbind hm
    obtain ⟨v76, q77, hm⟩ := xbind hm
    refine xw_callV1 (pc := 243) (As := [.int v47, .int (2 : Int32)]) (st := []) C dL_law_243 (wX8_flash q77) dd_X8_flash lk_L_57 dv_X8_flash (xco_spec q75) rfl (Nat.le_of_ble_eq_true rfl) (Nat.le_of_ble_eq_true rfl) (Nat.le_of_ble_eq_true rfl) ⟨Nat.le_refl _, Nat.le_refl _⟩ ⟨by have := hN.1; omega, by have := hN.2; omega⟩ ?_
    refine xw_goto (pc := 246) (tgt := 250) C dL_law_246 (by decide) ?_
    exact xw_sub (pc := 250) [some (.retAddr b), some (.ref x1), none, none, none, none, some (.ref x6), some (.int x7), some (.int x8), some (.int (xbi x9)), some (.int x10), some (.int x11), some (.int (xbi s0)), some (.int v45), some (.int v47), none, none, none, none] ⟨Or.inr rfl, Or.inr rfl, Or.inl rfl, Or.inl rfl, Or.inl rfl, Or.inl rfl, Or.inr rfl, Or.inr rfl, Or.inr rfl, Or.inr rfl, Or.inr rfl, Or.inr rfl, Or.inr rfl, Or.inr rfl, Or.inr rfl, Or.inl rfl, Or.inl rfl, Or.inl rfl, Or.inl rfl, trivial⟩ (fL_law_J250_w C hN hS hm hc he)
set_option maxHeartbeats 4000000 in
set_option maxRecDepth 100000 in
theorem fL_law_B174_w {X : XCtx} {nmL : String} (C : XOK X RL cL_law 19 nmL (some .boolean) 9 344) {n sl : Nat} (hN : XN X n sl) {b N0 : Nat} {xs : Nat → Int32} (hS : XSc X b N0 xs) {x1 : Nat} {x6 : Nat} {x7 : Int32} {x8 : Int32} (s : (XH × Bool × Int32)) (o : (XH × Bool × Int32) ⊕ (XH × Bool)) (hm : fL_law_B174 N0 xs x1 x6 x7 x8 s = some o) (hc : ∀ s', o = .inl s' → fL_law_P174 X b x1 x6 x7 x8 n sl s') (he : ∀ e', o = .inr e' → fL_law_E174 X b x1 x6 x7 x8 n sl e') : fL_law_P174 X b x1 x6 x7 x8 n sl s := by
  obtain ⟨h, x9, x10⟩ := s
  show XW X 174 [some (.retAddr b), some (.ref x1), none, none, none, none, some (.ref x6), some (.int x7), some (.int x8), some (.int (xbi x9)), some (.int x10), none, none, none, none, none, none, none, none] [] h n sl
  replace hm : fL_law_b174 N0 xs x1 x6 x7 x8 h x9 x10 = some o := hm
  unfold fL_law_b174 at hm
  refine xw_iload (pc := 174) (i := 10) (x := x10) C dL_law_174 rfl ?_
  refine xw_iload (pc := 176) (i := 8) (x := x8) C dL_law_176 rfl ?_
  refine xw_icmp_ge (pc := 178) (tgt := 408) C dL_law_178 (by decide) (fun q => ?_) (fun q => ?_)
  · replace hm := xif_t q hm
    obtain rfl := Option.some.inj hm
    refine xw_sub (pc := 408) _ ?_ (he _ rfl)
    exact ⟨Or.inr rfl, Or.inr rfl, Or.inl rfl, Or.inl rfl, Or.inl rfl, Or.inl rfl, Or.inr rfl, Or.inr rfl, Or.inl rfl, Or.inr rfl, Or.inl rfl, Or.inl rfl, Or.inl rfl, Or.inl rfl, Or.inl rfl, Or.inl rfl, Or.inl rfl, Or.inl rfl, Or.inl rfl, trivial⟩
  · replace hm := xif_f q hm
    refine xw_aload_nS (pc := 181) (i := 0) (x := b) C dL_law_181 rfl rfl ?_
    refine xw_bipush (pc := 182) (v := 16) C dL_law_182 xk_b_16 ?_
    refine xw_iload (pc := 184) (i := 10) (x := x10) C dL_law_184 rfl ?_
    refine xw_iadd (pc := 186) C dL_law_186 ?_
    obtain ⟨v40, q41, hm⟩ := xbind hm
    refine xw_callSS1 (pc := 187) (As := [.retAddr b, .int ((16 : Int32) + x10)]) (st := []) C hS dL_law_187 (wL_cell q41) dd_L_cell lk_L_10 ds_L_cell rfl (Nat.le_of_ble_eq_true rfl) (Nat.le_of_ble_eq_true rfl) (Nat.le_of_ble_eq_true rfl) ⟨Nat.le_refl _, Nat.le_refl _⟩ ⟨by have := hN.1; omega, by have := hN.2; omega⟩ ?_
    refine xw_istore (pc := 190) (i := 11) (x := v40) (L' := [some (.retAddr b), some (.ref x1), none, none, none, none, some (.ref x6), some (.int x7), some (.int x8), some (.int (xbi x9)), some (.int x10), some (.int v40), none, none, none, none, none, none, none]) C dL_law_190 (Nat.le_of_ble_eq_true rfl) rfl ?_
    refine xw_iload (pc := 192) (i := 11) (x := v40) C dL_law_192 rfl ?_
    refine xw_iconst (pc := 194) (v := 3) C dL_law_194 xk_i_3 ?_
    obtain ⟨v42, q43, hm⟩ := xbind hm
    refine xw_callS1 (pc := 195) (As := [.int v40, .int (3 : Int32)]) (st := []) C dL_law_195 (wL_low q43) dd_L_low lk_L_16 ds_L_low rfl (Nat.le_of_ble_eq_true rfl) (Nat.le_of_ble_eq_true rfl) (Nat.le_of_ble_eq_true rfl) ⟨Nat.le_refl _, Nat.le_refl _⟩ ⟨by have := hN.1; omega, by have := hN.2; omega⟩ ?_
    refine xw_if_le (pc := 198) (tgt := 205) C dL_law_198 (by decide) (fun q => ?_) (fun q => ?_)
    · replace hm := xif_t q hm
      refine xw_iconst (pc := 205) (v := 0) C dL_law_205 xk_i_0 ?_
      exact xw_sub (pc := 206) [some (.retAddr b), some (.ref x1), none, none, none, none, some (.ref x6), some (.int x7), some (.int x8), some (.int (xbi x9)), some (.int x10), some (.int v40), none, none, none, none, none, none, none] ⟨Or.inr rfl, Or.inr rfl, Or.inl rfl, Or.inl rfl, Or.inl rfl, Or.inl rfl, Or.inr rfl, Or.inr rfl, Or.inr rfl, Or.inr rfl, Or.inr rfl, Or.inr rfl, Or.inl rfl, Or.inl rfl, Or.inl rfl, Or.inl rfl, Or.inl rfl, Or.inl rfl, Or.inl rfl, trivial⟩ (fL_law_J206_w C hN hS hm hc he)
    · replace hm := xif_f q hm
      refine xw_iconst (pc := 201) (v := 1) C dL_law_201 xk_i_1 ?_
      refine xw_goto (pc := 202) (tgt := 206) C dL_law_202 (by decide) ?_
      exact xw_sub (pc := 206) [some (.retAddr b), some (.ref x1), none, none, none, none, some (.ref x6), some (.int x7), some (.int x8), some (.int (xbi x9)), some (.int x10), some (.int v40), none, none, none, none, none, none, none] ⟨Or.inr rfl, Or.inr rfl, Or.inl rfl, Or.inl rfl, Or.inl rfl, Or.inl rfl, Or.inr rfl, Or.inr rfl, Or.inr rfl, Or.inr rfl, Or.inr rfl, Or.inr rfl, Or.inl rfl, Or.inl rfl, Or.inl rfl, Or.inl rfl, Or.inl rfl, Or.inl rfl, Or.inl rfl, trivial⟩ (fL_law_J206_w C hN hS hm hc he)
def fL_law_P462 (X : XCtx) (b : Nat) (h : XH) (x1 : Nat) (x6 : Nat) (x7 : Int32) (x10 : Int32) (n sl : Nat) (s : (Int32 × Int32)) : Prop := XW X 462 [some (.retAddr b), some (.ref x1), none, none, none, none, some (.ref x6), some (.int x7), none, none, some (.int x10), some (.int s.1), some (.int s.2), none, none, none, none, none, none] [] h n sl
def fL_law_E462 (X : XCtx) (b : Nat) (h : XH) (x1 : Nat) (x6 : Nat) (x7 : Int32) (x10 : Int32) (n sl : Nat) (e : Int32) : Prop := XW X 499 [some (.retAddr b), some (.ref x1), none, none, none, none, none, some (.int x7), none, none, some (.int x10), some (.int e), none, none, none, none, none, none, none] [] h n sl
set_option maxHeartbeats 4000000 in
set_option maxRecDepth 100000 in
theorem fL_law_B462_w {X : XCtx} {nmL : String} (C : XOK X RL cL_law 19 nmL (some .boolean) 9 344) {n sl : Nat} (hN : XN X n sl) {b N0 : Nat} {xs : Nat → Int32} (hS : XSc X b N0 xs) {h : XH} {x1 : Nat} {x6 : Nat} {x7 : Int32} {x10 : Int32} (s : (Int32 × Int32)) (o : (Int32 × Int32) ⊕ Int32) (hm : fL_law_B462 N0 xs h x1 x6 x7 x10 s = some o) (hc : ∀ s', o = .inl s' → fL_law_P462 X b h x1 x6 x7 x10 n sl s') (he : ∀ e', o = .inr e' → fL_law_E462 X b h x1 x6 x7 x10 n sl e') : fL_law_P462 X b h x1 x6 x7 x10 n sl s := by
  obtain ⟨x11, x12⟩ := s
  show XW X 462 [some (.retAddr b), some (.ref x1), none, none, none, none, some (.ref x6), some (.int x7), none, none, some (.int x10), some (.int x11), some (.int x12), none, none, none, none, none, none] [] h n sl
  replace hm : fL_law_b462 N0 xs h x1 x6 x7 x10 x11 x12 = some o := hm
  unfold fL_law_b462 at hm
  refine xw_iload (pc := 462) (i := 12) (x := x12) C dL_law_462 rfl ?_
  refine xw_iload (pc := 464) (i := 10) (x := x10) C dL_law_464 rfl ?_
  refine xw_icmp_lt (pc := 466) (tgt := 499) C dL_law_466 (by decide) (fun q => ?_) (fun q => ?_)
  · replace hm := xif_t q hm
    obtain rfl := Option.some.inj hm
    refine xw_sub (pc := 499) _ ?_ (he _ rfl)
    exact ⟨Or.inr rfl, Or.inr rfl, Or.inl rfl, Or.inl rfl, Or.inl rfl, Or.inl rfl, Or.inl rfl, Or.inr rfl, Or.inl rfl, Or.inl rfl, Or.inr rfl, Or.inr rfl, Or.inl rfl, Or.inl rfl, Or.inl rfl, Or.inl rfl, Or.inl rfl, Or.inl rfl, Or.inl rfl, trivial⟩
  · replace hm := xif_f q hm
    refine xw_aload (pc := 469) (i := 6) (x := x6) C dL_law_469 rfl ?_
    refine xw_iconst (pc := 471) (v := 0) C dL_law_471 xk_i_0 ?_
    obtain ⟨v87, q88, hm⟩ := xbind hm
    refine xw_iaload (pc := 472) C dL_law_472 q88 ?_
    refine xw_iload (pc := 473) (i := 12) (x := x12) C dL_law_473 rfl ?_
    refine xw_imul (pc := 475) C dL_law_475 ?_
    refine xw_iload (pc := 476) (i := 7) (x := x7) C dL_law_476 rfl ?_
    obtain ⟨v89, q90, hm⟩ := xbind hm
    refine xw_callS1 (pc := 478) (As := [.int (v87 * x12), .int x7]) (st := []) C dL_law_478 (wL_mod q90) dd_L_mod lk_L_43 ds_L_mod rfl (Nat.le_of_ble_eq_true rfl) (Nat.le_of_ble_eq_true rfl) (Nat.le_of_ble_eq_true rfl) ⟨Nat.le_refl _, Nat.le_refl _⟩ ⟨by have := hN.1; omega, by have := hN.2; omega⟩ ?_
    refine xw_if_ne (pc := 481) (tgt := 489) C dL_law_481 (by decide) (fun q => ?_) (fun q => ?_)
    · replace hm := xif_f q hm
      refine xw_iload (pc := 489) (i := 11) (x := x11) C dL_law_489 rfl ?_
      refine xw_istore (pc := 491) (i := 11) (x := x11) (L' := [some (.retAddr b), some (.ref x1), none, none, none, none, some (.ref x6), some (.int x7), none, none, some (.int x10), some (.int x11), some (.int x12), none, none, none, none, none, none]) C dL_law_491 (Nat.le_of_ble_eq_true rfl) rfl ?_
      refine xw_iinc (pc := 493) (i := 12) (x := x12) (v := (x12 + (-1 : Int32))) (L' := [some (.retAddr b), some (.ref x1), none, none, none, none, some (.ref x6), some (.int x7), none, none, some (.int x10), some (.int x11), some (.int (x12 + (-1 : Int32))), none, none, none, none, none, none]) C dL_law_493 rfl (congrArg (HAdd.hAdd _) xk_i_m1) (Nat.le_of_ble_eq_true rfl) rfl ?_
      refine xw_goto (pc := 496) (tgt := 462) C dL_law_496 (by decide) ?_
      obtain rfl := Option.some.inj hm
      refine xw_sub (pc := 462) _ ?_ (hc _ rfl)
      exact ⟨Or.inr rfl, Or.inr rfl, Or.inl rfl, Or.inl rfl, Or.inl rfl, Or.inl rfl, Or.inr rfl, Or.inr rfl, Or.inl rfl, Or.inl rfl, Or.inr rfl, Or.inr rfl, Or.inr rfl, Or.inl rfl, Or.inl rfl, Or.inl rfl, Or.inl rfl, Or.inl rfl, Or.inl rfl, trivial⟩
    · replace hm := xif_t q hm
      refine xw_iload (pc := 484) (i := 12) (x := x12) C dL_law_484 rfl ?_
      refine xw_goto (pc := 486) (tgt := 491) C dL_law_486 (by decide) ?_
      refine xw_istore (pc := 491) (i := 11) (x := x12) (L' := [some (.retAddr b), some (.ref x1), none, none, none, none, some (.ref x6), some (.int x7), none, none, some (.int x10), some (.int x12), some (.int x12), none, none, none, none, none, none]) C dL_law_491 (Nat.le_of_ble_eq_true rfl) rfl ?_
      refine xw_iinc (pc := 493) (i := 12) (x := x12) (v := (x12 + (-1 : Int32))) (L' := [some (.retAddr b), some (.ref x1), none, none, none, none, some (.ref x6), some (.int x7), none, none, some (.int x10), some (.int x12), some (.int (x12 + (-1 : Int32))), none, none, none, none, none, none]) C dL_law_493 rfl (congrArg (HAdd.hAdd _) xk_i_m1) (Nat.le_of_ble_eq_true rfl) rfl ?_
      refine xw_goto (pc := 496) (tgt := 462) C dL_law_496 (by decide) ?_
      obtain rfl := Option.some.inj hm
      refine xw_sub (pc := 462) _ ?_ (hc _ rfl)
      exact ⟨Or.inr rfl, Or.inr rfl, Or.inl rfl, Or.inl rfl, Or.inl rfl, Or.inl rfl, Or.inr rfl, Or.inr rfl, Or.inl rfl, Or.inl rfl, Or.inr rfl, Or.inr rfl, Or.inr rfl, Or.inl rfl, Or.inl rfl, Or.inl rfl, Or.inl rfl, Or.inl rfl, Or.inl rfl, trivial⟩
set_option maxHeartbeats 4000000 in
set_option maxRecDepth 100000 in
theorem fL_law_J438_w {X : XCtx} {nmL : String} (C : XOK X RL cL_law 19 nmL (some .boolean) 9 344) {n sl : Nat} (hN : XN X (n + 106) (sl + 1398)) {b N0 : Nat} {xs : Nat → Int32} (hS : XSc X b N0 xs)  {h : XH} {x1 : Nat} {x6 : Nat} {x7 : Int32} {o : Unit} (hm : fL_law_J438 N0 xs h n x1 x6 x7 = some o) (hE : ∀ {pc : Nat} {L : List (Option Value)} {h : XH} {n sl : Nat}, decode cL_law pc = .ok (.ireturn, 1) → XN X n sl → XW X pc L [.int 1] h n sl) : XW X 438 [some (.retAddr b), some (.ref x1), none, none, none, none, some (.ref x6), some (.int x7), none, none, none, none, none, none, none, none, none, none, none] [] h (n + 105) (sl + 1338) := by
  unfold fL_law_J438 at hm
  refine xw_iconst (pc := 438) (v := 1) C dL_law_438 xk_i_1 ?_
  refine xw_aload_nS (pc := 439) (i := 0) (x := b) C dL_law_439 rfl rfl ?_
  refine xw_bipush (pc := 440) (v := 22) C dL_law_440 xk_b_22 ?_
  obtain ⟨v83, q84, hm⟩ := xbind hm
  refine xw_callSS1 (pc := 442) (As := [.retAddr b, .int (22 : Int32)]) (st := [.int (1 : Int32)]) C hS dL_law_442 (wL_cell q84) dd_L_cell lk_L_10 ds_L_cell rfl (Nat.le_of_ble_eq_true rfl) (Nat.le_of_ble_eq_true rfl) (Nat.le_of_ble_eq_true rfl) ⟨Nat.le_refl _, Nat.le_refl _⟩ ⟨by have := hN.1; omega, by have := hN.2; omega⟩ ?_
  refine xw_bipush (pc := 445) (v := 60) C dL_law_445 xk_b_60 ?_
  obtain ⟨v85, q86, hm⟩ := xbind hm
  refine xw_callS1 (pc := 447) (As := [.int v83, .int (60 : Int32)]) (st := [.int (1 : Int32)]) C dL_law_447 (wL_low q86) dd_L_low lk_L_16 ds_L_low rfl (Nat.le_of_ble_eq_true rfl) (Nat.le_of_ble_eq_true rfl) (Nat.le_of_ble_eq_true rfl) ⟨Nat.le_refl _, Nat.le_refl _⟩ ⟨by have := hN.1; omega, by have := hN.2; omega⟩ ?_
  refine xw_iadd (pc := 450) C dL_law_450 ?_
  refine xw_istore (pc := 451) (i := 10) (x := ((1 : Int32) + v85)) (L' := [some (.retAddr b), some (.ref x1), none, none, none, none, some (.ref x6), some (.int x7), none, none, some (.int ((1 : Int32) + v85)), none, none, none, none, none, none, none, none]) C dL_law_451 (Nat.le_of_ble_eq_true rfl) rfl ?_
  refine xw_sipush (pc := 453) (v := -1004) C dL_law_453 xk_s_m1004 ?_
  refine xw_istore (pc := 456) (i := 11) (x := (-1004 : Int32)) (L' := [some (.retAddr b), some (.ref x1), none, none, none, none, some (.ref x6), some (.int x7), none, none, some (.int ((1 : Int32) + v85)), some (.int (-1004 : Int32)), none, none, none, none, none, none, none]) C dL_law_456 (Nat.le_of_ble_eq_true rfl) rfl ?_
  refine xw_bipush (pc := 458) (v := 60) C dL_law_458 xk_b_60 ?_
  refine xw_istore (pc := 460) (i := 12) (x := (60 : Int32)) (L' := [some (.retAddr b), some (.ref x1), none, none, none, none, some (.ref x6), some (.int x7), none, none, some (.int ((1 : Int32) + v85)), some (.int (-1004 : Int32)), some (.int (60 : Int32)), none, none, none, none, none, none]) C dL_law_460 (Nat.le_of_ble_eq_true rfl) rfl ?_
  obtain ⟨e91, q92, hm⟩ := xbind hm
  refine xw_sub (pc := 462) [some (.retAddr b), some (.ref x1), none, none, none, none, some (.ref x6), some (.int x7), none, none, some (.int ((1 : Int32) + v85)), some (.int (-1004 : Int32)), some (.int (60 : Int32)), none, none, none, none, none, none] ⟨Or.inr rfl, Or.inr rfl, Or.inl rfl, Or.inl rfl, Or.inl rfl, Or.inl rfl, Or.inr rfl, Or.inr rfl, Or.inl rfl, Or.inl rfl, Or.inr rfl, Or.inr rfl, Or.inr rfl, Or.inl rfl, Or.inl rfl, Or.inl rfl, Or.inl rfl, Or.inl rfl, Or.inl rfl, trivial⟩ ?_
  refine xloop_walk (fL_law_B462 N0 xs h x1 x6 x7 ((1 : Int32) + v85)) (fL_law_P462 X b h x1 x6 x7 ((1 : Int32) + v85) (n + 105) (sl + 1338)) (fL_law_E462 X b h x1 x6 x7 ((1 : Int32) + v85) (n + 105) (sl + 1338)) (fun s' o' => fL_law_B462_w C (n := (n + 105)) (sl := (sl + 1338)) ⟨by have := hN.1; omega, by have := hN.2; omega⟩ hS s' o') 5000 ((-1004 : Int32), (60 : Int32)) e91 q92 ?_
  show XW X 499 [some (.retAddr b), some (.ref x1), none, none, none, none, none, some (.int x7), none, none, some (.int ((1 : Int32) + v85)), some (.int e91), none, none, none, none, none, none, none] [] h (n + 105) (sl + 1338)
  refine xw_aload_n (pc := 499) (i := 1) (x := x1) C dL_law_499 rfl rfl ?_
  refine xw_iload (pc := 500) (i := 10) (x := ((1 : Int32) + v85)) C dL_law_500 rfl ?_
  refine xw_bipush (pc := 502) (v := 60) C dL_law_502 xk_b_60 ?_
  obtain ⟨_, q93, hm⟩ := xbind hm
  obtain ⟨v94, q95, hm⟩ := xbind hm
  refine xw_callV1 (pc := 504) (As := [.int ((1 : Int32) + v85), .int (60 : Int32)]) (st := []) C dL_law_504 (wX8_stillPeriod q95) dd_X8_stillPeriod lk_L_115 dv_X8_stillPeriod (xco_spec q93) rfl (Nat.le_of_ble_eq_true rfl) (Nat.le_of_ble_eq_true rfl) (Nat.le_of_ble_eq_true rfl) ⟨Nat.le_refl _, Nat.le_refl _⟩ ⟨by have := hN.1; omega, by have := hN.2; omega⟩ ?_
  refine xw_iload (pc := 507) (i := 11) (x := e91) C dL_law_507 rfl ?_
  refine xw_icmp_ne (pc := 509) (tgt := 531) C dL_law_509 (by decide) (fun q => ?_) (fun q => ?_)
  · replace hm := xif_f q hm
    refine xw_iconst (pc := 531) (v := 0) C dL_law_531 xk_i_0 ?_
    cases hm
  · replace hm := xif_t q hm
    refine xw_aload_n (pc := 512) (i := 1) (x := x1) C dL_law_512 rfl rfl ?_
    refine xw_iload (pc := 513) (i := 7) (x := x7) C dL_law_513 rfl ?_
    refine xw_aload_nS (pc := 515) (i := 0) (x := b) C dL_law_515 rfl rfl ?_
    refine xw_bipush (pc := 516) (v := 23) C dL_law_516 xk_b_23 ?_
    obtain ⟨v96, q97, hm⟩ := xbind hm
    refine xw_callSS1 (pc := 518) (As := [.retAddr b, .int (23 : Int32)]) (st := [.int x7, .ref x1]) C hS dL_law_518 (wL_cell q97) dd_L_cell lk_L_10 ds_L_cell rfl (Nat.le_of_ble_eq_true rfl) (Nat.le_of_ble_eq_true rfl) (Nat.le_of_ble_eq_true rfl) ⟨Nat.le_refl _, Nat.le_refl _⟩ ⟨by have := hN.1; omega, by have := hN.2; omega⟩ ?_
    obtain ⟨v98, q99, hm⟩ := xbind hm
    refine xw_callS1 (pc := 521) (As := [.ref x1, .int x7, .int v96]) (st := []) C dL_law_521 (wL_readings q99) dd_L_readings lk_L_118 ds_L_readings rfl (Nat.le_of_ble_eq_true rfl) (Nat.le_of_ble_eq_true rfl) (Nat.le_of_ble_eq_true rfl) ⟨Nat.le_add_right _ _, Nat.le_add_right _ _⟩ ⟨by have := hN.1; omega, by have := hN.2; omega⟩ ?_
    refine xw_if_eqZ (pc := 524) (b := v98.1) (tgt := 531) C dL_law_524 (by decide) (fun q => ?_) (fun q => ?_)
    · replace hm := xif_f q hm
      refine xw_iconst (pc := 531) (v := 0) C dL_law_531 xk_i_0 ?_
      cases hm
    · replace hm := xif_t q hm
      refine xw_iconst (pc := 527) (v := 1) C dL_law_527 xk_i_1 ?_
      refine xw_goto (pc := 528) (tgt := 532) C dL_law_528 (by decide) ?_
      exact hE dL_law_532 ⟨by have := hN.1; omega, by have := hN.2; omega⟩
set_option maxHeartbeats 4000000 in
set_option maxRecDepth 100000 in
theorem fL_law_J169_w {X : XCtx} {nmL : String} (C : XOK X RL cL_law 19 nmL (some .boolean) 9 344) {n sl : Nat} (hN : XN X (n + 106) (sl + 1398)) {b N0 : Nat} {xs : Nat → Int32} (hS : XSc X b N0 xs)  {h : XH} {x1 : Nat} {x6 : Nat} {x7 : Int32} {x8 : Int32} {s0 : Bool} {o : Unit} (hm : fL_law_J169 N0 xs h n x1 x6 x7 x8 s0 = some o) (hE : ∀ {pc : Nat} {L : List (Option Value)} {h : XH} {n sl : Nat}, decode cL_law pc = .ok (.ireturn, 1) → XN X n sl → XW X pc L [.int 1] h n sl) : XW X 169 [some (.retAddr b), some (.ref x1), none, none, none, none, some (.ref x6), some (.int x7), some (.int x8), none, none, none, none, none, none, none, none, none, none] [.int (xbi s0)] h (n + 105) (sl + 1338) := by
  unfold fL_law_J169 at hm
  refine xw_istore (pc := 169) (i := 9) (x := (xbi s0)) (L' := [some (.retAddr b), some (.ref x1), none, none, none, none, some (.ref x6), some (.int x7), some (.int x8), some (.int (xbi s0)), none, none, none, none, none, none, none, none, none]) C dL_law_169 (Nat.le_of_ble_eq_true rfl) rfl ?_
  refine xw_iconst (pc := 171) (v := 0) C dL_law_171 xk_i_0 ?_
  refine xw_istore (pc := 172) (i := 10) (x := (0 : Int32)) (L' := [some (.retAddr b), some (.ref x1), none, none, none, none, some (.ref x6), some (.int x7), some (.int x8), some (.int (xbi s0)), some (.int (0 : Int32)), none, none, none, none, none, none, none, none]) C dL_law_172 (Nat.le_of_ble_eq_true rfl) rfl ?_
  obtain ⟨e78, q79, hm⟩ := xbind hm
  refine xw_sub (pc := 174) [some (.retAddr b), some (.ref x1), none, none, none, none, some (.ref x6), some (.int x7), some (.int x8), some (.int (xbi s0)), some (.int (0 : Int32)), none, none, none, none, none, none, none, none] ⟨Or.inr rfl, Or.inr rfl, Or.inl rfl, Or.inl rfl, Or.inl rfl, Or.inl rfl, Or.inr rfl, Or.inr rfl, Or.inr rfl, Or.inr rfl, Or.inr rfl, Or.inl rfl, Or.inl rfl, Or.inl rfl, Or.inl rfl, Or.inl rfl, Or.inl rfl, Or.inl rfl, Or.inl rfl, trivial⟩ ?_
  refine xloop_walk (fL_law_B174 N0 xs x1 x6 x7 x8) (fL_law_P174 X b x1 x6 x7 x8 (n + 105) (sl + 1338)) (fL_law_E174 X b x1 x6 x7 x8 (n + 105) (sl + 1338)) (fun s' o' => fL_law_B174_w C (n := (n + 105)) (sl := (sl + 1338)) ⟨by have := hN.1; omega, by have := hN.2; omega⟩ hS s' o') 5000 (h, s0, (0 : Int32)) e78 q79 ?_
  show XW X 408 [some (.retAddr b), some (.ref x1), none, none, none, none, some (.ref x6), some (.int x7), none, some (.int (xbi e78.2)), none, none, none, none, none, none, none, none, none] [] e78.1 (n + 105) (sl + 1338)
  refine xw_aload_n (pc := 408) (i := 1) (x := x1) C dL_law_408 rfl rfl ?_
  refine xw_sipush (pc := 409) (v := 1000) C dL_law_409 xk_s_1000 ?_
  obtain ⟨_, q80, hm⟩ := xbind hm
  obtain ⟨v81, q82, hm⟩ := xbind hm
  refine xw_callV1 (pc := 412) (As := [.int (1000 : Int32)]) (st := []) C dL_law_412 (wX8_setLimit q82) dd_X8_setLimit lk_L_69 dv_X8_setLimit (xco_spec q80) rfl (Nat.le_of_ble_eq_true rfl) (Nat.le_of_ble_eq_true rfl) (Nat.le_of_ble_eq_true rfl) ⟨Nat.le_refl _, Nat.le_refl _⟩ ⟨by have := hN.1; omega, by have := hN.2; omega⟩ ?_
  refine xw_pop (pc := 415) C dL_law_415 rfl ?_
  refine xw_iload (pc := 416) (i := 9) (x := (xbi e78.2)) C dL_law_416 rfl ?_
  refine xw_if_eqZ (pc := 418) (b := e78.2) (tgt := 438) C dL_law_418 (by decide) (fun q => ?_) (fun q => ?_)
  · replace hm := xif_f q hm
    exact xw_sub (pc := 438) [some (.retAddr b), some (.ref x1), none, none, none, none, some (.ref x6), some (.int x7), none, none, none, none, none, none, none, none, none, none, none] ⟨Or.inr rfl, Or.inr rfl, Or.inl rfl, Or.inl rfl, Or.inl rfl, Or.inl rfl, Or.inr rfl, Or.inr rfl, Or.inl rfl, Or.inl rfl, Or.inl rfl, Or.inl rfl, Or.inl rfl, Or.inl rfl, Or.inl rfl, Or.inl rfl, Or.inl rfl, Or.inl rfl, Or.inl rfl, trivial⟩ (fL_law_J438_w C hN hS hm hE)
  · replace hm := xif_t q hm
    refine xw_aload_n (pc := 421) (i := 1) (x := x1) C dL_law_421 rfl rfl ?_
    refine xw_aload (pc := 422) (i := 6) (x := x6) C dL_law_422 rfl ?_
    refine xw_iconst (pc := 424) (v := 0) C dL_law_424 xk_i_0 ?_
    obtain ⟨v100, q101, hm⟩ := xbind hm
    refine xw_iaload (pc := 425) C dL_law_425 q101 ?_
    obtain ⟨_, q102, hm⟩ := xbind hm
    obtain ⟨v103, q104, hm⟩ := xbind hm
    refine xw_callV1 (pc := 426) (As := [.int v100]) (st := []) C dL_law_426 (wX8_nearest q104) dd_X8_nearest lk_L_83 dv_X8_nearest (xco_spec q102) rfl (Nat.le_of_ble_eq_true rfl) (Nat.le_of_ble_eq_true rfl) (Nat.le_of_ble_eq_true rfl) ⟨Nat.le_refl _, Nat.le_refl _⟩ ⟨by have := hN.1; omega, by have := hN.2; omega⟩ ?_
    refine xw_aload (pc := 429) (i := 6) (x := x6) C dL_law_429 rfl ?_
    refine xw_iconst (pc := 431) (v := 0) C dL_law_431 xk_i_0 ?_
    obtain ⟨v105, q106, hm⟩ := xbind hm
    refine xw_iaload (pc := 432) C dL_law_432 q106 ?_
    refine xw_icmp_eq (pc := 433) (tgt := 438) C dL_law_433 (by decide) (fun q => ?_) (fun q => ?_)
    · replace hm := xif_t q hm
      exact xw_sub (pc := 438) [some (.retAddr b), some (.ref x1), none, none, none, none, some (.ref x6), some (.int x7), none, none, none, none, none, none, none, none, none, none, none] ⟨Or.inr rfl, Or.inr rfl, Or.inl rfl, Or.inl rfl, Or.inl rfl, Or.inl rfl, Or.inr rfl, Or.inr rfl, Or.inl rfl, Or.inl rfl, Or.inl rfl, Or.inl rfl, Or.inl rfl, Or.inl rfl, Or.inl rfl, Or.inl rfl, Or.inl rfl, Or.inl rfl, Or.inl rfl, trivial⟩ (fL_law_J438_w C hN hS hm hE)
    · replace hm := xif_f q hm
      cases hm
set_option maxHeartbeats 4000000 in
set_option maxRecDepth 100000 in
theorem wL_law {X : XCtx} {nmL : String} (C : XOK X RL cL_law 19 nmL (some .boolean) 9 344) {n sl : Nat} (hN : XN X (n + 106) (sl + 1398)) {b N0 : Nat} {xs : Nat → Int32} (hS : XSc X b N0 xs) (hE : ∀ {pc : Nat} {L : List (Option Value)} {h : XH} {n sl : Nat}, decode cL_law pc = .ok (.ireturn, 1) → XN X n sl → XW X pc L [.int 1] h n sl) {h : XH} (hm : fL_law N0 xs h n = some ()) : XW X 0 [some (.retAddr b), none, none, none, none, none, none, none, none, none, none, none, none, none, none, none, none, none, none] [] h n sl := by
  unfold fL_law at hm
  obtain ⟨h1, q2, hm⟩ := xbind hm
  refine xw_newB (pc := 0) C dL_law_0 cl_L_21 nw_X8 ⟨by have := hN.1; omega, by have := hN.2; omega⟩ q2 ?_
  refine xw_dup (pc := 3) C dL_law_3 rfl ?_
  obtain ⟨h3, q4, hm⟩ := xbind hm
  refine xw_callI0 (pc := 4) (As := []) (st := [.ref n]) C dL_law_4 (wX8_init q4) dd_X8_init lk_L_93 di_X8_init rfl rfl (Nat.le_of_ble_eq_true rfl) (Nat.le_of_ble_eq_true rfl) (Nat.le_of_ble_eq_true rfl) ⟨Nat.le_add_right _ _, Nat.le_add_right _ _⟩ ⟨by have := hN.1; omega, by have := hN.2; omega⟩ ?_
  refine xw_astore_n (pc := 7) (i := 1) (x := n) (L' := [some (.retAddr b), some (.ref n), none, none, none, none, none, none, none, none, none, none, none, none, none, none, none, none, none]) C dL_law_7 rfl (Nat.le_of_ble_eq_true rfl) rfl ?_
  refine xw_bipush (pc := 8) (v := 60) C dL_law_8 xk_b_60 ?_
  obtain ⟨h5, q6, hm⟩ := xbind hm
  refine xw_newIB (pc := 10) (N := 60) C dL_law_10 ar_int (by decide) (by decide) (Nat.le_of_ble_eq_true rfl) ⟨by have := hN.1; omega, by have := hN.2; omega⟩ q6 ?_
  refine xw_astore_n (pc := 12) (i := 2) (x := (n + 102)) (L' := [some (.retAddr b), some (.ref n), some (.ref (n + 102)), none, none, none, none, none, none, none, none, none, none, none, none, none, none, none, none]) C dL_law_12 rfl (Nat.le_of_ble_eq_true rfl) rfl ?_
  refine xw_aload_n (pc := 13) (i := 1) (x := n) C dL_law_13 rfl rfl ?_
  refine xw_aload_nS (pc := 14) (i := 0) (x := b) C dL_law_14 rfl rfl ?_
  refine xw_iconst (pc := 15) (v := 1) C dL_law_15 xk_i_1 ?_
  refine xw_aload_n (pc := 16) (i := 2) (x := (n + 102)) C dL_law_16 rfl rfl ?_
  obtain ⟨v7, q8, hm⟩ := xbind hm
  refine xw_callSS1 (pc := 17) (As := [.ref n, .retAddr b, .int (1 : Int32), .ref (n + 102)]) (st := []) C hS dL_law_17 (wL_wheel q8) dd_L_wheel lk_L_94 ds_L_wheel rfl (Nat.le_of_ble_eq_true rfl) (Nat.le_of_ble_eq_true rfl) (Nat.le_of_ble_eq_true rfl) ⟨Nat.le_refl _, Nat.le_refl _⟩ ⟨by have := hN.1; omega, by have := hN.2; omega⟩ ?_
  refine xw_if_neZ (pc := 20) (b := v7.1) (tgt := 25) C dL_law_20 (by decide) (fun q => ?_) (fun q => ?_)
  · replace hm := xif_t q hm
    refine xw_aload_n (pc := 25) (i := 1) (x := n) C dL_law_25 rfl rfl ?_
    refine xw_iconst (pc := 26) (v := 0) C dL_law_26 xk_i_0 ?_
    obtain ⟨_, q9, hm⟩ := xbind hm
    obtain ⟨v10, q11, hm⟩ := xbind hm
    refine xw_callV1 (pc := 27) (As := [.int (0 : Int32)]) (st := []) C dL_law_27 (wX8_count q11) dd_X8_count lk_L_33 dv_X8_count (xco_spec q9) rfl (Nat.le_of_ble_eq_true rfl) (Nat.le_of_ble_eq_true rfl) (Nat.le_of_ble_eq_true rfl) ⟨Nat.le_refl _, Nat.le_refl _⟩ ⟨by have := hN.1; omega, by have := hN.2; omega⟩ ?_
    refine xw_istore_n (pc := 30) (i := 3) (x := v10) (L' := [some (.retAddr b), some (.ref n), some (.ref (n + 102)), some (.int v10), none, none, none, none, none, none, none, none, none, none, none, none, none, none, none]) C dL_law_30 rfl (Nat.le_of_ble_eq_true rfl) rfl ?_
    refine xw_aload_nS (pc := 31) (i := 0) (x := b) C dL_law_31 rfl rfl ?_
    refine xw_iconst (pc := 32) (v := 0) C dL_law_32 xk_i_0 ?_
    obtain ⟨v12, q13, hm⟩ := xbind hm
    refine xw_callSS1 (pc := 33) (As := [.retAddr b, .int (0 : Int32)]) (st := []) C hS dL_law_33 (wL_cell q13) dd_L_cell lk_L_10 ds_L_cell rfl (Nat.le_of_ble_eq_true rfl) (Nat.le_of_ble_eq_true rfl) (Nat.le_of_ble_eq_true rfl) ⟨Nat.le_refl _, Nat.le_refl _⟩ ⟨by have := hN.1; omega, by have := hN.2; omega⟩ ?_
    refine xw_iconst (pc := 36) (v := 4) C dL_law_36 xk_i_4 ?_
    obtain ⟨v14, q15, hm⟩ := xbind hm
    refine xw_callS1 (pc := 37) (As := [.int v12, .int (4 : Int32)]) (st := []) C dL_law_37 (wL_low q15) dd_L_low lk_L_16 ds_L_low rfl (Nat.le_of_ble_eq_true rfl) (Nat.le_of_ble_eq_true rfl) (Nat.le_of_ble_eq_true rfl) ⟨Nat.le_refl _, Nat.le_refl _⟩ ⟨by have := hN.1; omega, by have := hN.2; omega⟩ ?_
    refine xw_istore (pc := 40) (i := 4) (x := v14) (L' := [some (.retAddr b), some (.ref n), some (.ref (n + 102)), some (.int v10), some (.int v14), none, none, none, none, none, none, none, none, none, none, none, none, none, none]) C dL_law_40 (Nat.le_of_ble_eq_true rfl) rfl ?_
    refine xw_bipush (pc := 42) (v := 6) C dL_law_42 xk_b_6 ?_
    obtain ⟨h16, q17, hm⟩ := xbind hm
    refine xw_newIB (pc := 44) (N := 6) C dL_law_44 ar_int (by decide) (by decide) (Nat.le_of_ble_eq_true rfl) ⟨by have := hN.1; omega, by have := hN.2; omega⟩ q17 ?_
    refine xw_astore (pc := 46) (i := 5) (x := (n + 103)) (L' := [some (.retAddr b), some (.ref n), some (.ref (n + 102)), some (.int v10), some (.int v14), some (.ref (n + 103)), none, none, none, none, none, none, none, none, none, none, none, none, none]) C dL_law_46 (Nat.le_of_ble_eq_true rfl) rfl ?_
    refine xw_bipush (pc := 48) (v := 6) C dL_law_48 xk_b_6 ?_
    obtain ⟨h18, q19, hm⟩ := xbind hm
    refine xw_newIB (pc := 50) (N := 6) C dL_law_50 ar_int (by decide) (by decide) (Nat.le_of_ble_eq_true rfl) ⟨by have := hN.1; omega, by have := hN.2; omega⟩ q19 ?_
    refine xw_astore (pc := 52) (i := 6) (x := (n + 104)) (L' := [some (.retAddr b), some (.ref n), some (.ref (n + 102)), some (.int v10), some (.int v14), some (.ref (n + 103)), some (.ref (n + 104)), none, none, none, none, none, none, none, none, none, none, none, none]) C dL_law_52 (Nat.le_of_ble_eq_true rfl) rfl ?_
    refine xw_aload_n (pc := 54) (i := 1) (x := n) C dL_law_54 rfl rfl ?_
    refine xw_aload_nS (pc := 55) (i := 0) (x := b) C dL_law_55 rfl rfl ?_
    refine xw_bipush (pc := 56) (v := 8) C dL_law_56 xk_b_8 ?_
    refine xw_aload (pc := 58) (i := 5) (x := (n + 103)) C dL_law_58 rfl ?_
    refine xw_aload (pc := 60) (i := 6) (x := (n + 104)) C dL_law_60 rfl ?_
    refine xw_iload (pc := 62) (i := 4) (x := v14) C dL_law_62 rfl ?_
    obtain ⟨v20, q21, hm⟩ := xbind hm
    refine xw_callSS1 (pc := 64) (As := [.ref n, .retAddr b, .int (8 : Int32), .ref (n + 103), .ref (n + 104), .int v14]) (st := []) C hS dL_law_64 (wL_speeds q21) dd_L_speeds lk_L_98 ds_L_speeds rfl (Nat.le_of_ble_eq_true rfl) (Nat.le_of_ble_eq_true rfl) (Nat.le_of_ble_eq_true rfl) ⟨Nat.le_refl _, Nat.le_refl _⟩ ⟨by have := hN.1; omega, by have := hN.2; omega⟩ ?_
    refine xw_if_neZ (pc := 67) (b := v20.1) (tgt := 72) C dL_law_67 (by decide) (fun q => ?_) (fun q => ?_)
    · replace hm := xif_t q hm
      refine xw_aload_n (pc := 72) (i := 2) (x := (n + 102)) C dL_law_72 rfl rfl ?_
      refine xw_iload_n (pc := 73) (i := 3) (x := v10) C dL_law_73 rfl rfl ?_
      obtain ⟨v22, q23, hm⟩ := xbind hm
      refine xw_callS1 (pc := 74) (As := [.ref (n + 102), .int v10]) (st := []) C dL_law_74 (wL_measure q23) dd_L_measure lk_L_102 ds_L_measure rfl (Nat.le_of_ble_eq_true rfl) (Nat.le_of_ble_eq_true rfl) (Nat.le_of_ble_eq_true rfl) ⟨Nat.le_refl _, Nat.le_refl _⟩ ⟨by have := hN.1; omega, by have := hN.2; omega⟩ ?_
      refine xw_istore (pc := 77) (i := 7) (x := v22) (L' := [some (.retAddr b), some (.ref n), some (.ref (n + 102)), some (.int v10), some (.int v14), some (.ref (n + 103)), some (.ref (n + 104)), some (.int v22), none, none, none, none, none, none, none, none, none, none, none]) C dL_law_77 (Nat.le_of_ble_eq_true rfl) rfl ?_
      refine xw_aload_n (pc := 79) (i := 1) (x := n) C dL_law_79 rfl rfl ?_
      refine xw_iconst (pc := 80) (v := 2) C dL_law_80 xk_i_2 ?_
      obtain ⟨_, q24, hm⟩ := xbind hm
      obtain ⟨v25, q26, hm⟩ := xbind hm
      refine xw_callV1 (pc := 81) (As := [.int (2 : Int32)]) (st := []) C dL_law_81 (wX8_count q26) dd_X8_count lk_L_33 dv_X8_count (xco_spec q24) rfl (Nat.le_of_ble_eq_true rfl) (Nat.le_of_ble_eq_true rfl) (Nat.le_of_ble_eq_true rfl) ⟨Nat.le_refl _, Nat.le_refl _⟩ ⟨by have := hN.1; omega, by have := hN.2; omega⟩ ?_
      refine xw_iload (pc := 84) (i := 7) (x := v22) C dL_law_84 rfl ?_
      refine xw_icmp_ne (pc := 86) (tgt := 96) C dL_law_86 (by decide) (fun q => ?_) (fun q => ?_)
      · replace hm := xif_f q hm
        cases hm
      · replace hm := xif_t q hm
        refine xw_iload_n (pc := 89) (i := 3) (x := v10) C dL_law_89 rfl rfl ?_
        refine xw_iload (pc := 90) (i := 7) (x := v22) C dL_law_90 rfl ?_
        obtain ⟨q27, hm⟩ := xif_n hm
        refine xw_irem (pc := 92) C dL_law_92 q27 ?_
        refine xw_if_eq (pc := 93) (tgt := 98) C dL_law_93 (by decide) (fun q => ?_) (fun q => ?_)
        · replace hm := xif_t q hm
          refine xw_aload_n (pc := 98) (i := 1) (x := n) C dL_law_98 rfl rfl ?_
          refine xw_aload_n (pc := 99) (i := 2) (x := (n + 102)) C dL_law_99 rfl rfl ?_
          refine xw_iload_n (pc := 100) (i := 3) (x := v10) C dL_law_100 rfl rfl ?_
          refine xw_aload (pc := 101) (i := 5) (x := (n + 103)) C dL_law_101 rfl ?_
          refine xw_aload (pc := 103) (i := 6) (x := (n + 104)) C dL_law_103 rfl ?_
          refine xw_iload (pc := 105) (i := 4) (x := v14) C dL_law_105 rfl ?_
          refine xw_iconst (pc := 107) (v := 1) C dL_law_107 xk_i_1 ?_
          refine xw_iadd (pc := 108) C dL_law_108 ?_
          refine xw_aload_nS (pc := 109) (i := 0) (x := b) C dL_law_109 rfl rfl ?_
          refine xw_bipush (pc := 110) (v := 14) C dL_law_110 xk_b_14 ?_
          obtain ⟨v28, q29, hm⟩ := xbind hm
          refine xw_callSS1 (pc := 112) (As := [.retAddr b, .int (14 : Int32)]) (st := [.int (v14 + (1 : Int32)), .ref (n + 104), .ref (n + 103), .int v10, .ref (n + 102), .ref n]) C hS dL_law_112 (wL_cell q29) dd_L_cell lk_L_10 ds_L_cell rfl (Nat.le_of_ble_eq_true rfl) (Nat.le_of_ble_eq_true rfl) (Nat.le_of_ble_eq_true rfl) ⟨Nat.le_refl _, Nat.le_refl _⟩ ⟨by have := hN.1; omega, by have := hN.2; omega⟩ ?_
          obtain ⟨v30, q31, hm⟩ := xbind hm
          refine xw_callS1 (pc := 115) (As := [.ref n, .ref (n + 102), .int v10, .ref (n + 103), .ref (n + 104), .int (v14 + (1 : Int32)), .int v28]) (st := []) C dL_law_115 (wL_flashes q31) dd_L_flashes lk_L_105 ds_L_flashes rfl (Nat.le_of_ble_eq_true rfl) (Nat.le_of_ble_eq_true rfl) (Nat.le_of_ble_eq_true rfl) ⟨Nat.le_refl _, Nat.le_refl _⟩ ⟨by have := hN.1; omega, by have := hN.2; omega⟩ ?_
          refine xw_if_eqZ (pc := 118) (b := v30.1) (tgt := 144) C dL_law_118 (by decide) (fun q => ?_) (fun q => ?_)
          · replace hm := xif_f q hm
            cases hm
          · replace hm := xif_t q hm
            refine xw_aload_n (pc := 121) (i := 1) (x := n) C dL_law_121 rfl rfl ?_
            refine xw_aload_n (pc := 122) (i := 2) (x := (n + 102)) C dL_law_122 rfl rfl ?_
            refine xw_iload_n (pc := 123) (i := 3) (x := v10) C dL_law_123 rfl rfl ?_
            refine xw_aload (pc := 124) (i := 5) (x := (n + 103)) C dL_law_124 rfl ?_
            refine xw_aload (pc := 126) (i := 6) (x := (n + 104)) C dL_law_126 rfl ?_
            refine xw_iload (pc := 128) (i := 4) (x := v14) C dL_law_128 rfl ?_
            refine xw_iconst (pc := 130) (v := 1) C dL_law_130 xk_i_1 ?_
            refine xw_iadd (pc := 131) C dL_law_131 ?_
            refine xw_aload_nS (pc := 132) (i := 0) (x := b) C dL_law_132 rfl rfl ?_
            refine xw_bipush (pc := 133) (v := 15) C dL_law_133 xk_b_15 ?_
            obtain ⟨v32, q33, hm⟩ := xbind hm
            refine xw_callSS1 (pc := 135) (As := [.retAddr b, .int (15 : Int32)]) (st := [.int (v14 + (1 : Int32)), .ref (n + 104), .ref (n + 103), .int v10, .ref (n + 102), .ref n]) C hS dL_law_135 (wL_cell q33) dd_L_cell lk_L_10 ds_L_cell rfl (Nat.le_of_ble_eq_true rfl) (Nat.le_of_ble_eq_true rfl) (Nat.le_of_ble_eq_true rfl) ⟨Nat.le_refl _, Nat.le_refl _⟩ ⟨by have := hN.1; omega, by have := hN.2; omega⟩ ?_
            obtain ⟨v34, q35, hm⟩ := xbind hm
            refine xw_callS1 (pc := 138) (As := [.ref n, .ref (n + 102), .int v10, .ref (n + 103), .ref (n + 104), .int (v14 + (1 : Int32)), .int v32]) (st := []) C dL_law_138 (wL_flashes q35) dd_L_flashes lk_L_105 ds_L_flashes rfl (Nat.le_of_ble_eq_true rfl) (Nat.le_of_ble_eq_true rfl) (Nat.le_of_ble_eq_true rfl) ⟨Nat.le_refl _, Nat.le_refl _⟩ ⟨by have := hN.1; omega, by have := hN.2; omega⟩ ?_
            refine xw_if_neZ (pc := 141) (b := v34.1) (tgt := 146) C dL_law_141 (by decide) (fun q => ?_) (fun q => ?_)
            · replace hm := xif_t q hm
              refine xw_aload_nS (pc := 146) (i := 0) (x := b) C dL_law_146 rfl rfl ?_
              refine xw_iconst (pc := 147) (v := 0) C dL_law_147 xk_i_0 ?_
              obtain ⟨v36, q37, hm⟩ := xbind hm
              refine xw_callSS1 (pc := 148) (As := [.retAddr b, .int (0 : Int32)]) (st := []) C hS dL_law_148 (wL_cell q37) dd_L_cell lk_L_10 ds_L_cell rfl (Nat.le_of_ble_eq_true rfl) (Nat.le_of_ble_eq_true rfl) (Nat.le_of_ble_eq_true rfl) ⟨Nat.le_refl _, Nat.le_refl _⟩ ⟨by have := hN.1; omega, by have := hN.2; omega⟩ ?_
              refine xw_iconst (pc := 151) (v := 4) C dL_law_151 xk_i_4 ?_
              refine xw_ishr (pc := 152) C dL_law_152 ?_
              refine xw_iconst (pc := 153) (v := 5) C dL_law_153 xk_i_5 ?_
              obtain ⟨v38, q39, hm⟩ := xbind hm
              refine xw_callS1 (pc := 154) (As := [.int (v36 >>> ((4 : Int32) &&& 31)), .int (5 : Int32)]) (st := []) C dL_law_154 (wL_low q39) dd_L_low lk_L_16 ds_L_low rfl (Nat.le_of_ble_eq_true rfl) (Nat.le_of_ble_eq_true rfl) (Nat.le_of_ble_eq_true rfl) ⟨Nat.le_refl _, Nat.le_refl _⟩ ⟨by have := hN.1; omega, by have := hN.2; omega⟩ ?_
              refine xw_istore (pc := 157) (i := 8) (x := v38) (L' := [some (.retAddr b), some (.ref n), some (.ref (n + 102)), some (.int v10), some (.int v14), some (.ref (n + 103)), some (.ref (n + 104)), some (.int v22), some (.int v38), none, none, none, none, none, none, none, none, none, none]) C dL_law_157 (Nat.le_of_ble_eq_true rfl) rfl ?_
              refine xw_iload (pc := 159) (i := 4) (x := v14) C dL_law_159 rfl ?_
              refine xw_if_ne (pc := 161) (tgt := 168) C dL_law_161 (by decide) (fun q => ?_) (fun q => ?_)
              · replace hm := xif_f q hm
                refine xw_iconst (pc := 168) (v := 0) C dL_law_168 xk_i_0 ?_
                exact xw_sub (pc := 169) [some (.retAddr b), some (.ref n), none, none, none, none, some (.ref (n + 104)), some (.int v22), some (.int v38), none, none, none, none, none, none, none, none, none, none] ⟨Or.inr rfl, Or.inr rfl, Or.inl rfl, Or.inl rfl, Or.inl rfl, Or.inl rfl, Or.inr rfl, Or.inr rfl, Or.inr rfl, Or.inl rfl, Or.inl rfl, Or.inl rfl, Or.inl rfl, Or.inl rfl, Or.inl rfl, Or.inl rfl, Or.inl rfl, Or.inl rfl, Or.inl rfl, trivial⟩ (fL_law_J169_w C hN hS hm hE)
              · replace hm := xif_t q hm
                refine xw_iconst (pc := 164) (v := 1) C dL_law_164 xk_i_1 ?_
                refine xw_goto (pc := 165) (tgt := 169) C dL_law_165 (by decide) ?_
                exact xw_sub (pc := 169) [some (.retAddr b), some (.ref n), none, none, none, none, some (.ref (n + 104)), some (.int v22), some (.int v38), none, none, none, none, none, none, none, none, none, none] ⟨Or.inr rfl, Or.inr rfl, Or.inl rfl, Or.inl rfl, Or.inl rfl, Or.inl rfl, Or.inr rfl, Or.inr rfl, Or.inr rfl, Or.inl rfl, Or.inl rfl, Or.inl rfl, Or.inl rfl, Or.inl rfl, Or.inl rfl, Or.inl rfl, Or.inl rfl, Or.inl rfl, Or.inl rfl, trivial⟩ (fL_law_J169_w C hN hS hm hE)
            · replace hm := xif_f q hm
              cases hm
        · replace hm := xif_f q hm
          cases hm
    · replace hm := xif_f q hm
      cases hm
  · replace hm := xif_f q hm
    cases hm
