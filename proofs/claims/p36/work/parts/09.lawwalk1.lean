def fL_flashes_P73 (X : XCtx) (h : XH) (x0 : Nat) (x1 : Nat) (x2 : Int32) (x3 : Nat) (x4 : Nat) (x5 : Int32) (x7 : Int32) (x8 : Int32) (x9 : Int32) (x10 : Int32) (n sl : Nat) (s : Int32) : Prop := XW X 73 [some (.ref x0), some (.ref x1), some (.int x2), some (.ref x3), some (.ref x4), some (.int x5), none, some (.int x7), some (.int x8), some (.int x9), some (.int x10), some (.int s), none, none, none, none, none] [] h n sl
def fL_flashes_E73 (X : XCtx) (h : XH) (x0 : Nat) (x1 : Nat) (x2 : Int32) (x3 : Nat) (x4 : Nat) (x5 : Int32) (x7 : Int32) (x8 : Int32) (x9 : Int32) (x10 : Int32) (n sl : Nat) (e : (Unit ⊕ Unit ⊕ Unit)) : Prop := match e with
  | .inl e => XW X 232 [none, none, none, none, none, none, none, none, none, none, none, none, none, none, none, none, none] [] h n sl
  | .inr (.inl e) => XW X 265 [none, none, none, none, none, none, none, none, none, none, none, none, none, none, none, none, none] [] h n sl
  | .inr (.inr e) => XW X 279 [some (.ref x0), none, none, none, none, none, none, none, none, some (.int x9), none, none, none, none, none, none, none] [] h n sl
def fL_flashes_P133 (X : XCtx) (h : XH) (x0 : Nat) (x1 : Nat) (x2 : Int32) (x3 : Nat) (x4 : Nat) (x5 : Int32) (x7 : Int32) (x8 : Int32) (x9 : Int32) (x10 : Int32) (x11 : Int32) (x12 : Int32) (x13 : Int32) (x14 : Int32) (n sl : Nat) (s : Int32) : Prop := XW X 133 [some (.ref x0), some (.ref x1), some (.int x2), some (.ref x3), some (.ref x4), some (.int x5), none, some (.int x7), some (.int x8), some (.int x9), some (.int x10), some (.int x11), some (.int x12), some (.int x13), some (.int x14), some (.int s), none] [] h n sl
def fL_flashes_E133 (X : XCtx) (h : XH) (x0 : Nat) (x1 : Nat) (x2 : Int32) (x3 : Nat) (x4 : Nat) (x5 : Int32) (x7 : Int32) (x8 : Int32) (x9 : Int32) (x10 : Int32) (x11 : Int32) (x12 : Int32) (x13 : Int32) (x14 : Int32) (n sl : Nat) (e : Int32) : Prop := XW X 168 [some (.ref x0), some (.ref x1), some (.int x2), some (.ref x3), some (.ref x4), some (.int x5), none, some (.int x7), some (.int x8), some (.int x9), some (.int x10), some (.int x11), some (.int x12), some (.int x13), some (.int x14), some (.int e), none] [] h n sl
set_option maxHeartbeats 4000000 in
set_option maxRecDepth 100000 in
theorem fL_flashes_B133_w {X : XCtx} (C : XOK X RL cL_flashes 17 "flashes" (some .boolean) 5 118) {n sl : Nat} (hN : XN X n sl) {h : XH} {x0 : Nat} {x1 : Nat} {x2 : Int32} {x3 : Nat} {x4 : Nat} {x5 : Int32} {x7 : Int32} {x8 : Int32} {x9 : Int32} {x10 : Int32} {x11 : Int32} {x12 : Int32} {x13 : Int32} {x14 : Int32} (s : Int32) (o : Int32 ⊕ Int32) (hm : fL_flashes_B133 h x0 x1 x2 x3 x4 x5 x7 x8 x9 x10 x11 x12 x13 x14 s = some o) (hc : ∀ s', o = .inl s' → fL_flashes_P133 X h x0 x1 x2 x3 x4 x5 x7 x8 x9 x10 x11 x12 x13 x14 n sl s') (he : ∀ e', o = .inr e' → fL_flashes_E133 X h x0 x1 x2 x3 x4 x5 x7 x8 x9 x10 x11 x12 x13 x14 n sl e') : fL_flashes_P133 X h x0 x1 x2 x3 x4 x5 x7 x8 x9 x10 x11 x12 x13 x14 n sl s := by
  revert s; intro x15 hm
  show XW X 133 [some (.ref x0), some (.ref x1), some (.int x2), some (.ref x3), some (.ref x4), some (.int x5), none, some (.int x7), some (.int x8), some (.int x9), some (.int x10), some (.int x11), some (.int x12), some (.int x13), some (.int x14), some (.int x15), none] [] h n sl
  replace hm : fL_flashes_b133 h x0 x1 x2 x3 x4 x5 x7 x8 x9 x10 x11 x12 x13 x14 x15 = some o := hm
  unfold fL_flashes_b133 at hm
  refine xw_aload_n (pc := 133) (i := 1) (x := x1) C dL_flashes_133 rfl rfl ?_
  refine xw_iload_n (pc := 134) (i := 2) (x := x2) C dL_flashes_134 rfl rfl ?_
  refine xw_iload (pc := 135) (i := 10) (x := x10) C dL_flashes_135 rfl ?_
  refine xw_aload_n (pc := 137) (i := 3) (x := x3) C dL_flashes_137 rfl rfl ?_
  refine xw_aload (pc := 138) (i := 4) (x := x4) C dL_flashes_138 rfl ?_
  refine xw_iload (pc := 140) (i := 5) (x := x5) C dL_flashes_140 rfl ?_
  refine xw_iload (pc := 142) (i := 7) (x := x7) C dL_flashes_142 rfl ?_
  refine xw_iload (pc := 144) (i := 15) (x := x15) C dL_flashes_144 rfl ?_
  refine xw_iload (pc := 146) (i := 8) (x := x8) C dL_flashes_146 rfl ?_
  refine xw_imul (pc := 148) C dL_flashes_148 ?_
  refine xw_iadd (pc := 149) C dL_flashes_149 ?_
  refine xw_iload_n (pc := 150) (i := 2) (x := x2) C dL_flashes_150 rfl rfl ?_
  obtain ⟨v20, q21, hm⟩ := xbind hm
  refine xw_callS1 (pc := 151) (As := [.int x10, .ref x3, .ref x4, .int x5, .int (x7 + (x15 * x8)), .int x2]) (st := [.int x2, .ref x1]) C dL_flashes_151 (wL_turn q21) dd_L_turn lk_L_49 ds_L_turn rfl (Nat.le_of_ble_eq_true rfl) (Nat.le_of_ble_eq_true rfl) (Nat.le_of_ble_eq_true rfl) ⟨Nat.le_refl _, Nat.le_refl _⟩ hN ?_
  refine xw_iload (pc := 154) (i := 13) (x := x13) C dL_flashes_154 rfl ?_
  obtain ⟨v22, q23, hm⟩ := xbind hm
  refine xw_callS1 (pc := 156) (As := [.ref x1, .int x2, .int v20, .int x13]) (st := []) C dL_flashes_156 (wL_step q23) dd_L_step lk_L_53 ds_L_step rfl (Nat.le_of_ble_eq_true rfl) (Nat.le_of_ble_eq_true rfl) (Nat.le_of_ble_eq_true rfl) ⟨Nat.le_refl _, Nat.le_refl _⟩ hN ?_
  refine xw_if_eq (pc := 159) (tgt := 168) C dL_flashes_159 (by decide) (fun q => ?_) (fun q => ?_)
  · replace hm := xif_t q hm
    obtain rfl := Option.some.inj hm
    refine xw_sub (pc := 168) _ ?_ (he _ rfl)
    exact ⟨Or.inr rfl, Or.inr rfl, Or.inr rfl, Or.inr rfl, Or.inr rfl, Or.inr rfl, Or.inl rfl, Or.inr rfl, Or.inr rfl, Or.inr rfl, Or.inr rfl, Or.inr rfl, Or.inr rfl, Or.inr rfl, Or.inr rfl, Or.inr rfl, Or.inl rfl, trivial⟩
  · replace hm := xif_f q hm
    refine xw_iinc (pc := 162) (i := 15) (x := x15) (v := (x15 + (1 : Int32))) (L' := [some (.ref x0), some (.ref x1), some (.int x2), some (.ref x3), some (.ref x4), some (.int x5), none, some (.int x7), some (.int x8), some (.int x9), some (.int x10), some (.int x11), some (.int x12), some (.int x13), some (.int x14), some (.int (x15 + (1 : Int32))), none]) C dL_flashes_162 rfl (congrArg (HAdd.hAdd _) xk_i_1) (Nat.le_of_ble_eq_true rfl) rfl ?_
    refine xw_goto (pc := 165) (tgt := 133) C dL_flashes_165 (by decide) ?_
    obtain rfl := Option.some.inj hm
    refine xw_sub (pc := 133) _ ?_ (hc _ rfl)
    exact ⟨Or.inr rfl, Or.inr rfl, Or.inr rfl, Or.inr rfl, Or.inr rfl, Or.inr rfl, Or.inl rfl, Or.inr rfl, Or.inr rfl, Or.inr rfl, Or.inr rfl, Or.inr rfl, Or.inr rfl, Or.inr rfl, Or.inr rfl, Or.inr rfl, Or.inl rfl, trivial⟩
def fL_flashes_P237 (X : XCtx) (h : XH) (x0 : Nat) (x1 : Nat) (x2 : Int32) (x3 : Nat) (x4 : Nat) (x5 : Int32) (x7 : Int32) (x8 : Int32) (x9 : Int32) (x10 : Int32) (x11 : Int32) (x12 : Int32) (x13 : Int32) (n sl : Nat) (s : Int32) : Prop := XW X 237 [some (.ref x0), some (.ref x1), some (.int x2), some (.ref x3), some (.ref x4), some (.int x5), none, some (.int x7), some (.int x8), some (.int x9), some (.int x10), some (.int x11), some (.int x12), some (.int x13), none, none, some (.int s)] [] h n sl
def fL_flashes_E237 (X : XCtx) (h : XH) (x0 : Nat) (x1 : Nat) (x2 : Int32) (x3 : Nat) (x4 : Nat) (x5 : Int32) (x7 : Int32) (x8 : Int32) (x9 : Int32) (x10 : Int32) (x11 : Int32) (x12 : Int32) (x13 : Int32) (n sl : Nat) (e : (Unit ⊕ Unit)) : Prop := match e with
  | .inl e => XW X 265 [none, none, none, none, none, none, none, none, none, none, none, none, none, none, none, none, none] [] h n sl
  | .inr e => XW X 273 [some (.ref x0), some (.ref x1), some (.int x2), some (.ref x3), some (.ref x4), some (.int x5), none, some (.int x7), some (.int x8), some (.int x9), some (.int x10), some (.int x11), none, none, none, none, none] [] h n sl
set_option maxHeartbeats 4000000 in
set_option maxRecDepth 100000 in
theorem fL_flashes_B237_w {X : XCtx} (C : XOK X RL cL_flashes 17 "flashes" (some .boolean) 5 118) {n sl : Nat} (hN : XN X n sl) {h : XH} {x0 : Nat} {x1 : Nat} {x2 : Int32} {x3 : Nat} {x4 : Nat} {x5 : Int32} {x7 : Int32} {x8 : Int32} {x9 : Int32} {x10 : Int32} {x11 : Int32} {x12 : Int32} {x13 : Int32} (s : Int32) (o : Int32 ⊕ (Unit ⊕ Unit)) (hm : fL_flashes_B237 h x0 x1 x2 x3 x4 x5 x7 x8 x9 x10 x11 x12 x13 s = some o) (hc : ∀ s', o = .inl s' → fL_flashes_P237 X h x0 x1 x2 x3 x4 x5 x7 x8 x9 x10 x11 x12 x13 n sl s') (he : ∀ e', o = .inr e' → fL_flashes_E237 X h x0 x1 x2 x3 x4 x5 x7 x8 x9 x10 x11 x12 x13 n sl e') : fL_flashes_P237 X h x0 x1 x2 x3 x4 x5 x7 x8 x9 x10 x11 x12 x13 n sl s := by
  revert s; intro x16 hm
  show XW X 237 [some (.ref x0), some (.ref x1), some (.int x2), some (.ref x3), some (.ref x4), some (.int x5), none, some (.int x7), some (.int x8), some (.int x9), some (.int x10), some (.int x11), some (.int x12), some (.int x13), none, none, some (.int x16)] [] h n sl
  replace hm : fL_flashes_b237 h x0 x1 x2 x3 x4 x5 x7 x8 x9 x10 x11 x12 x13 x16 = some o := hm
  unfold fL_flashes_b237 at hm
  refine xw_iload (pc := 237) (i := 16) (x := x16) C dL_flashes_237 rfl ?_
  refine xw_iload_n (pc := 239) (i := 2) (x := x2) C dL_flashes_239 rfl rfl ?_
  refine xw_icmp_ge (pc := 240) (tgt := 273) C dL_flashes_240 (by decide) (fun q => ?_) (fun q => ?_)
  · replace hm := xif_t q hm
    obtain rfl := Option.some.inj hm
    refine xw_sub (pc := 273) _ ?_ (he _ rfl)
    exact ⟨Or.inr rfl, Or.inr rfl, Or.inr rfl, Or.inr rfl, Or.inr rfl, Or.inr rfl, Or.inl rfl, Or.inr rfl, Or.inr rfl, Or.inr rfl, Or.inr rfl, Or.inr rfl, Or.inl rfl, Or.inl rfl, Or.inl rfl, Or.inl rfl, Or.inl rfl, trivial⟩
  · replace hm := xif_f q hm
    refine xw_aload_n (pc := 243) (i := 0) (x := x0) C dL_flashes_243 rfl rfl ?_
    refine xw_iload (pc := 244) (i := 12) (x := x12) C dL_flashes_244 rfl ?_
    refine xw_iload (pc := 246) (i := 16) (x := x16) C dL_flashes_246 rfl ?_
    obtain ⟨_, q35, hm⟩ := xbind hm
    obtain ⟨v36, q37, hm⟩ := xbind hm
    refine xw_callV1 (pc := 248) (As := [.int x12, .int x16]) (st := []) C dL_flashes_248 (wX8_markAt q37) dd_X8_markAt lk_L_60 dv_X8_markAt (xco_spec q35) rfl (Nat.le_of_ble_eq_true rfl) (Nat.le_of_ble_eq_true rfl) (Nat.le_of_ble_eq_true rfl) ⟨Nat.le_refl _, Nat.le_refl _⟩ hN ?_
    refine xw_aload_n (pc := 251) (i := 1) (x := x1) C dL_flashes_251 rfl rfl ?_
    refine xw_iload (pc := 252) (i := 16) (x := x16) C dL_flashes_252 rfl ?_
    refine xw_iload (pc := 254) (i := 13) (x := x13) C dL_flashes_254 rfl ?_
    refine xw_isub (pc := 256) C dL_flashes_256 ?_
    refine xw_iload_n (pc := 257) (i := 2) (x := x2) C dL_flashes_257 rfl rfl ?_
    obtain ⟨v38, q39, hm⟩ := xbind hm
    refine xw_callS1 (pc := 258) (As := [.int (x16 - x13), .int x2]) (st := [.ref x1, .int v36]) C dL_flashes_258 (wL_mod q39) dd_L_mod lk_L_43 ds_L_mod rfl (Nat.le_of_ble_eq_true rfl) (Nat.le_of_ble_eq_true rfl) (Nat.le_of_ble_eq_true rfl) ⟨Nat.le_refl _, Nat.le_refl _⟩ hN ?_
    obtain ⟨v40, q41, hm⟩ := xbind hm
    refine xw_iaload (pc := 261) C dL_flashes_261 q41 ?_
    refine xw_icmp_eq (pc := 262) (tgt := 267) C dL_flashes_262 (by decide) (fun q => ?_) (fun q => ?_)
    · replace hm := xif_t q hm
      refine xw_iinc (pc := 267) (i := 16) (x := x16) (v := (x16 + (1 : Int32))) (L' := [some (.ref x0), some (.ref x1), some (.int x2), some (.ref x3), some (.ref x4), some (.int x5), none, some (.int x7), some (.int x8), some (.int x9), some (.int x10), some (.int x11), some (.int x12), some (.int x13), none, none, some (.int (x16 + (1 : Int32)))]) C dL_flashes_267 rfl (congrArg (HAdd.hAdd _) xk_i_1) (Nat.le_of_ble_eq_true rfl) rfl ?_
      refine xw_goto (pc := 270) (tgt := 237) C dL_flashes_270 (by decide) ?_
      obtain rfl := Option.some.inj hm
      refine xw_sub (pc := 237) _ ?_ (hc _ rfl)
      exact ⟨Or.inr rfl, Or.inr rfl, Or.inr rfl, Or.inr rfl, Or.inr rfl, Or.inr rfl, Or.inl rfl, Or.inr rfl, Or.inr rfl, Or.inr rfl, Or.inr rfl, Or.inr rfl, Or.inr rfl, Or.inr rfl, Or.inl rfl, Or.inl rfl, Or.inr rfl, trivial⟩
    · replace hm := xif_f q hm
      obtain rfl := Option.some.inj hm
      refine xw_sub (pc := 265) _ ?_ (he _ rfl)
      exact ⟨Or.inl rfl, Or.inl rfl, Or.inl rfl, Or.inl rfl, Or.inl rfl, Or.inl rfl, Or.inl rfl, Or.inl rfl, Or.inl rfl, Or.inl rfl, Or.inl rfl, Or.inl rfl, Or.inl rfl, Or.inl rfl, Or.inl rfl, Or.inl rfl, Or.inl rfl, trivial⟩
set_option maxHeartbeats 4000000 in
set_option maxRecDepth 100000 in
theorem fL_flashes_J220_w {X : XCtx} (C : XOK X RL cL_flashes 17 "flashes" (some .boolean) 5 118) {n sl : Nat} (hN : XN X n sl)  {h : XH} {x0 : Nat} {x1 : Nat} {x2 : Int32} {x3 : Nat} {x4 : Nat} {x5 : Int32} {x7 : Int32} {x8 : Int32} {x9 : Int32} {x10 : Int32} {x11 : Int32} {x12 : Int32} {x13 : Int32} {x15 : Int32} {o : Int32 ⊕ (Unit ⊕ Unit ⊕ Unit)} (hm : fL_flashes_J220 h x0 x1 x2 x3 x4 x5 x7 x8 x9 x10 x11 x12 x13 x15 = some o) (hc : ∀ s', o = .inl s' → fL_flashes_P73 X h x0 x1 x2 x3 x4 x5 x7 x8 x9 x10 n sl s') (he : ∀ e', o = .inr e' → fL_flashes_E73 X h x0 x1 x2 x3 x4 x5 x7 x8 x9 x10 n sl e') : XW X 220 [some (.ref x0), some (.ref x1), some (.int x2), some (.ref x3), some (.ref x4), some (.int x5), none, some (.int x7), some (.int x8), some (.int x9), some (.int x10), some (.int x11), some (.int x12), some (.int x13), none, some (.int x15), none] [] h n sl := by
  unfold fL_flashes_J220 at hm
  refine xw_aload_n (pc := 220) (i := 0) (x := x0) C dL_flashes_220 rfl rfl ?_
  refine xw_iload (pc := 221) (i := 11) (x := x11) C dL_flashes_221 rfl ?_
  refine xw_iconst (pc := 223) (v := 3) C dL_flashes_223 xk_i_3 ?_
  obtain ⟨_, q32, hm⟩ := xbind hm
  obtain ⟨v33, q34, hm⟩ := xbind hm
  refine xw_callV1 (pc := 224) (As := [.int x11, .int (3 : Int32)]) (st := []) C dL_flashes_224 (wX8_flash q34) dd_X8_flash lk_L_57 dv_X8_flash (xco_spec q32) rfl (Nat.le_of_ble_eq_true rfl) (Nat.le_of_ble_eq_true rfl) (Nat.le_of_ble_eq_true rfl) ⟨Nat.le_refl _, Nat.le_refl _⟩ hN ?_
  refine xw_iload (pc := 227) (i := 15) (x := x15) C dL_flashes_227 rfl ?_
  refine xw_icmp_eq (pc := 229) (tgt := 234) C dL_flashes_229 (by decide) (fun q => ?_) (fun q => ?_)
  · replace hm := xif_t q hm
    refine xw_iconst (pc := 234) (v := 0) C dL_flashes_234 xk_i_0 ?_
    refine xw_istore (pc := 235) (i := 16) (x := (0 : Int32)) (L' := [some (.ref x0), some (.ref x1), some (.int x2), some (.ref x3), some (.ref x4), some (.int x5), none, some (.int x7), some (.int x8), some (.int x9), some (.int x10), some (.int x11), some (.int x12), some (.int x13), none, some (.int x15), some (.int (0 : Int32))]) C dL_flashes_235 (Nat.le_of_ble_eq_true rfl) rfl ?_
    obtain ⟨e42, q43, hm⟩ := xbind hm
    refine xw_sub (pc := 237) [some (.ref x0), some (.ref x1), some (.int x2), some (.ref x3), some (.ref x4), some (.int x5), none, some (.int x7), some (.int x8), some (.int x9), some (.int x10), some (.int x11), some (.int x12), some (.int x13), none, none, some (.int (0 : Int32))] ⟨Or.inr rfl, Or.inr rfl, Or.inr rfl, Or.inr rfl, Or.inr rfl, Or.inr rfl, Or.inl rfl, Or.inr rfl, Or.inr rfl, Or.inr rfl, Or.inr rfl, Or.inr rfl, Or.inr rfl, Or.inr rfl, Or.inl rfl, Or.inl rfl, Or.inr rfl, trivial⟩ ?_
    refine xloop_walk (fL_flashes_B237 h x0 x1 x2 x3 x4 x5 x7 x8 x9 x10 x11 x12 x13) (fL_flashes_P237 X h x0 x1 x2 x3 x4 x5 x7 x8 x9 x10 x11 x12 x13 n sl) (fL_flashes_E237 X h x0 x1 x2 x3 x4 x5 x7 x8 x9 x10 x11 x12 x13 n sl) (fun s' o' => fL_flashes_B237_w C hN s' o') 5000 (0 : Int32) e42 q43 ?_
    rcases e42 with e42 | e42
    · dsimp only at hm
      show XW X 265 [none, none, none, none, none, none, none, none, none, none, none, none, none, none, none, none, none] [] h n sl
      obtain rfl := Option.some.inj hm
      refine xw_sub (pc := 265) _ ?_ (he _ rfl)
      exact ⟨Or.inl rfl, Or.inl rfl, Or.inl rfl, Or.inl rfl, Or.inl rfl, Or.inl rfl, Or.inl rfl, Or.inl rfl, Or.inl rfl, Or.inl rfl, Or.inl rfl, Or.inl rfl, Or.inl rfl, Or.inl rfl, Or.inl rfl, Or.inl rfl, Or.inl rfl, trivial⟩
    · dsimp only at hm
      show XW X 273 [some (.ref x0), some (.ref x1), some (.int x2), some (.ref x3), some (.ref x4), some (.int x5), none, some (.int x7), some (.int x8), some (.int x9), some (.int x10), some (.int x11), none, none, none, none, none] [] h n sl
      refine xw_iinc (pc := 273) (i := 11) (x := x11) (v := (x11 + (1 : Int32))) (L' := [some (.ref x0), some (.ref x1), some (.int x2), some (.ref x3), some (.ref x4), some (.int x5), none, some (.int x7), some (.int x8), some (.int x9), some (.int x10), some (.int (x11 + (1 : Int32))), none, none, none, none, none]) C dL_flashes_273 rfl (congrArg (HAdd.hAdd _) xk_i_1) (Nat.le_of_ble_eq_true rfl) rfl ?_
      refine xw_goto (pc := 276) (tgt := 73) C dL_flashes_276 (by decide) ?_
      obtain rfl := Option.some.inj hm
      refine xw_sub (pc := 73) _ ?_ (hc _ rfl)
      exact ⟨Or.inr rfl, Or.inr rfl, Or.inr rfl, Or.inr rfl, Or.inr rfl, Or.inr rfl, Or.inl rfl, Or.inr rfl, Or.inr rfl, Or.inr rfl, Or.inr rfl, Or.inr rfl, Or.inl rfl, Or.inl rfl, Or.inl rfl, Or.inl rfl, Or.inl rfl, trivial⟩
  · replace hm := xif_f q hm
    obtain rfl := Option.some.inj hm
    refine xw_sub (pc := 232) _ ?_ (he _ rfl)
    exact ⟨Or.inl rfl, Or.inl rfl, Or.inl rfl, Or.inl rfl, Or.inl rfl, Or.inl rfl, Or.inl rfl, Or.inl rfl, Or.inl rfl, Or.inl rfl, Or.inl rfl, Or.inl rfl, Or.inl rfl, Or.inl rfl, Or.inl rfl, Or.inl rfl, Or.inl rfl, trivial⟩
set_option maxHeartbeats 4000000 in
set_option maxRecDepth 100000 in
theorem fL_flashes_B73_w {X : XCtx} (C : XOK X RL cL_flashes 17 "flashes" (some .boolean) 5 118) {n sl : Nat} (hN : XN X n sl) {h : XH} {x0 : Nat} {x1 : Nat} {x2 : Int32} {x3 : Nat} {x4 : Nat} {x5 : Int32} {x7 : Int32} {x8 : Int32} {x9 : Int32} {x10 : Int32} (s : Int32) (o : Int32 ⊕ (Unit ⊕ Unit ⊕ Unit)) (hm : fL_flashes_B73 h x0 x1 x2 x3 x4 x5 x7 x8 x9 x10 s = some o) (hc : ∀ s', o = .inl s' → fL_flashes_P73 X h x0 x1 x2 x3 x4 x5 x7 x8 x9 x10 n sl s') (he : ∀ e', o = .inr e' → fL_flashes_E73 X h x0 x1 x2 x3 x4 x5 x7 x8 x9 x10 n sl e') : fL_flashes_P73 X h x0 x1 x2 x3 x4 x5 x7 x8 x9 x10 n sl s := by
  revert s; intro x11 hm
  show XW X 73 [some (.ref x0), some (.ref x1), some (.int x2), some (.ref x3), some (.ref x4), some (.int x5), none, some (.int x7), some (.int x8), some (.int x9), some (.int x10), some (.int x11), none, none, none, none, none] [] h n sl
  replace hm : fL_flashes_b73 h x0 x1 x2 x3 x4 x5 x7 x8 x9 x10 x11 = some o := hm
  unfold fL_flashes_b73 at hm
  refine xw_iload (pc := 73) (i := 11) (x := x11) C dL_flashes_73 rfl ?_
  refine xw_bipush (pc := 75) (v := 6) C dL_flashes_75 xk_b_6 ?_
  refine xw_icmp_ge (pc := 77) (tgt := 279) C dL_flashes_77 (by decide) (fun q => ?_) (fun q => ?_)
  · replace hm := xif_t q hm
    obtain rfl := Option.some.inj hm
    refine xw_sub (pc := 279) _ ?_ (he _ rfl)
    exact ⟨Or.inr rfl, Or.inl rfl, Or.inl rfl, Or.inl rfl, Or.inl rfl, Or.inl rfl, Or.inl rfl, Or.inl rfl, Or.inl rfl, Or.inr rfl, Or.inl rfl, Or.inl rfl, Or.inl rfl, Or.inl rfl, Or.inl rfl, Or.inl rfl, Or.inl rfl, trivial⟩
  · replace hm := xif_f q hm
    refine xw_iload (pc := 80) (i := 11) (x := x11) C dL_flashes_80 rfl ?_
    refine xw_iload (pc := 82) (i := 9) (x := x9) C dL_flashes_82 rfl ?_
    refine xw_icmp_ge (pc := 84) (tgt := 279) C dL_flashes_84 (by decide) (fun q => ?_) (fun q => ?_)
    · replace hm := xif_t q hm
      obtain rfl := Option.some.inj hm
      refine xw_sub (pc := 279) _ ?_ (he _ rfl)
      exact ⟨Or.inr rfl, Or.inl rfl, Or.inl rfl, Or.inl rfl, Or.inl rfl, Or.inl rfl, Or.inl rfl, Or.inl rfl, Or.inl rfl, Or.inr rfl, Or.inl rfl, Or.inl rfl, Or.inl rfl, Or.inl rfl, Or.inl rfl, Or.inl rfl, Or.inl rfl, trivial⟩
    · replace hm := xif_f q hm
      refine xw_iload (pc := 87) (i := 7) (x := x7) C dL_flashes_87 rfl ?_
      refine xw_iload (pc := 89) (i := 11) (x := x11) C dL_flashes_89 rfl ?_
      refine xw_iload (pc := 91) (i := 8) (x := x8) C dL_flashes_91 rfl ?_
      refine xw_imul (pc := 93) C dL_flashes_93 ?_
      refine xw_iadd (pc := 94) C dL_flashes_94 ?_
      refine xw_istore (pc := 95) (i := 12) (x := (x7 + (x11 * x8))) (L' := [some (.ref x0), some (.ref x1), some (.int x2), some (.ref x3), some (.ref x4), some (.int x5), none, some (.int x7), some (.int x8), some (.int x9), some (.int x10), some (.int x11), some (.int (x7 + (x11 * x8))), none, none, none, none]) C dL_flashes_95 (Nat.le_of_ble_eq_true rfl) rfl ?_
      refine xw_iload (pc := 97) (i := 10) (x := x10) C dL_flashes_97 rfl ?_
      refine xw_aload_n (pc := 99) (i := 3) (x := x3) C dL_flashes_99 rfl rfl ?_
      refine xw_aload (pc := 100) (i := 4) (x := x4) C dL_flashes_100 rfl ?_
      refine xw_iload (pc := 102) (i := 5) (x := x5) C dL_flashes_102 rfl ?_
      refine xw_iload (pc := 104) (i := 12) (x := (x7 + (x11 * x8))) C dL_flashes_104 rfl ?_
      refine xw_iload_n (pc := 106) (i := 2) (x := x2) C dL_flashes_106 rfl rfl ?_
      obtain ⟨v16, q17, hm⟩ := xbind hm
      refine xw_callS1 (pc := 107) (As := [.int x10, .ref x3, .ref x4, .int x5, .int (x7 + (x11 * x8)), .int x2]) (st := []) C dL_flashes_107 (wL_turn q17) dd_L_turn lk_L_49 ds_L_turn rfl (Nat.le_of_ble_eq_true rfl) (Nat.le_of_ble_eq_true rfl) (Nat.le_of_ble_eq_true rfl) ⟨Nat.le_refl _, Nat.le_refl _⟩ hN ?_
      refine xw_istore (pc := 110) (i := 13) (x := v16) (L' := [some (.ref x0), some (.ref x1), some (.int x2), some (.ref x3), some (.ref x4), some (.int x5), none, some (.int x7), some (.int x8), some (.int x9), some (.int x10), some (.int x11), some (.int (x7 + (x11 * x8))), some (.int v16), none, none, none]) C dL_flashes_110 (Nat.le_of_ble_eq_true rfl) rfl ?_
      refine xw_iload (pc := 112) (i := 10) (x := x10) C dL_flashes_112 rfl ?_
      refine xw_aload_n (pc := 114) (i := 3) (x := x3) C dL_flashes_114 rfl rfl ?_
      refine xw_aload (pc := 115) (i := 4) (x := x4) C dL_flashes_115 rfl ?_
      refine xw_iload (pc := 117) (i := 5) (x := x5) C dL_flashes_117 rfl ?_
      refine xw_iload (pc := 119) (i := 12) (x := (x7 + (x11 * x8))) C dL_flashes_119 rfl ?_
      refine xw_iload (pc := 121) (i := 8) (x := x8) C dL_flashes_121 rfl ?_
      refine xw_iadd (pc := 123) C dL_flashes_123 ?_
      refine xw_iload_n (pc := 124) (i := 2) (x := x2) C dL_flashes_124 rfl rfl ?_
      obtain ⟨v18, q19, hm⟩ := xbind hm
      refine xw_callS1 (pc := 125) (As := [.int x10, .ref x3, .ref x4, .int x5, .int ((x7 + (x11 * x8)) + x8), .int x2]) (st := []) C dL_flashes_125 (wL_turn q19) dd_L_turn lk_L_49 ds_L_turn rfl (Nat.le_of_ble_eq_true rfl) (Nat.le_of_ble_eq_true rfl) (Nat.le_of_ble_eq_true rfl) ⟨Nat.le_refl _, Nat.le_refl _⟩ hN ?_
      refine xw_istore (pc := 128) (i := 14) (x := v18) (L' := [some (.ref x0), some (.ref x1), some (.int x2), some (.ref x3), some (.ref x4), some (.int x5), none, some (.int x7), some (.int x8), some (.int x9), some (.int x10), some (.int x11), some (.int (x7 + (x11 * x8))), some (.int v16), some (.int v18), none, none]) C dL_flashes_128 (Nat.le_of_ble_eq_true rfl) rfl ?_
      refine xw_iconst (pc := 130) (v := 0) C dL_flashes_130 xk_i_0 ?_
      refine xw_istore (pc := 131) (i := 15) (x := (0 : Int32)) (L' := [some (.ref x0), some (.ref x1), some (.int x2), some (.ref x3), some (.ref x4), some (.int x5), none, some (.int x7), some (.int x8), some (.int x9), some (.int x10), some (.int x11), some (.int (x7 + (x11 * x8))), some (.int v16), some (.int v18), some (.int (0 : Int32)), none]) C dL_flashes_131 (Nat.le_of_ble_eq_true rfl) rfl ?_
      obtain ⟨e24, q25, hm⟩ := xbind hm
      refine xw_sub (pc := 133) [some (.ref x0), some (.ref x1), some (.int x2), some (.ref x3), some (.ref x4), some (.int x5), none, some (.int x7), some (.int x8), some (.int x9), some (.int x10), some (.int x11), some (.int (x7 + (x11 * x8))), some (.int v16), some (.int v18), some (.int (0 : Int32)), none] ⟨Or.inr rfl, Or.inr rfl, Or.inr rfl, Or.inr rfl, Or.inr rfl, Or.inr rfl, Or.inl rfl, Or.inr rfl, Or.inr rfl, Or.inr rfl, Or.inr rfl, Or.inr rfl, Or.inr rfl, Or.inr rfl, Or.inr rfl, Or.inr rfl, Or.inl rfl, trivial⟩ ?_
      refine xloop_walk (fL_flashes_B133 h x0 x1 x2 x3 x4 x5 x7 x8 x9 x10 x11 (x7 + (x11 * x8)) v16 v18) (fL_flashes_P133 X h x0 x1 x2 x3 x4 x5 x7 x8 x9 x10 x11 (x7 + (x11 * x8)) v16 v18 n sl) (fL_flashes_E133 X h x0 x1 x2 x3 x4 x5 x7 x8 x9 x10 x11 (x7 + (x11 * x8)) v16 v18 n sl) (fun s' o' => fL_flashes_B133_w C hN s' o') 5000 (0 : Int32) e24 q25 ?_
      show XW X 168 [some (.ref x0), some (.ref x1), some (.int x2), some (.ref x3), some (.ref x4), some (.int x5), none, some (.int x7), some (.int x8), some (.int x9), some (.int x10), some (.int x11), some (.int (x7 + (x11 * x8))), some (.int v16), some (.int v18), some (.int e24), none] [] h n sl
      refine xw_aload_n (pc := 168) (i := 0) (x := x0) C dL_flashes_168 rfl rfl ?_
      refine xw_iload (pc := 169) (i := 11) (x := x11) C dL_flashes_169 rfl ?_
      refine xw_iconst (pc := 171) (v := 0) C dL_flashes_171 xk_i_0 ?_
      obtain ⟨_, q26, hm⟩ := xbind hm
      obtain ⟨v27, q28, hm⟩ := xbind hm
      refine xw_callV1 (pc := 172) (As := [.int x11, .int (0 : Int32)]) (st := []) C dL_flashes_172 (wX8_flash q28) dd_X8_flash lk_L_57 dv_X8_flash (xco_spec q26) rfl (Nat.le_of_ble_eq_true rfl) (Nat.le_of_ble_eq_true rfl) (Nat.le_of_ble_eq_true rfl) ⟨Nat.le_refl _, Nat.le_refl _⟩ hN ?_
      refine xw_iload (pc := 175) (i := 12) (x := (x7 + (x11 * x8))) C dL_flashes_175 rfl ?_
      refine xw_icmp_ne (pc := 177) (tgt := 232) C dL_flashes_177 (by decide) (fun q => ?_) (fun q => ?_)
      · replace hm := xif_f q hm
        obtain rfl := Option.some.inj hm
        refine xw_sub (pc := 232) _ ?_ (he _ rfl)
        exact ⟨Or.inl rfl, Or.inl rfl, Or.inl rfl, Or.inl rfl, Or.inl rfl, Or.inl rfl, Or.inl rfl, Or.inl rfl, Or.inl rfl, Or.inl rfl, Or.inl rfl, Or.inl rfl, Or.inl rfl, Or.inl rfl, Or.inl rfl, Or.inl rfl, Or.inl rfl, trivial⟩
      · replace hm := xif_t q hm
        refine xw_aload_n (pc := 180) (i := 0) (x := x0) C dL_flashes_180 rfl rfl ?_
        refine xw_iload (pc := 181) (i := 11) (x := x11) C dL_flashes_181 rfl ?_
        refine xw_iconst (pc := 183) (v := 1) C dL_flashes_183 xk_i_1 ?_
        obtain ⟨_, q29, hm⟩ := xbind hm
        obtain ⟨v30, q31, hm⟩ := xbind hm
        refine xw_callV1 (pc := 184) (As := [.int x11, .int (1 : Int32)]) (st := []) C dL_flashes_184 (wX8_flash q31) dd_X8_flash lk_L_57 dv_X8_flash (xco_spec q29) rfl (Nat.le_of_ble_eq_true rfl) (Nat.le_of_ble_eq_true rfl) (Nat.le_of_ble_eq_true rfl) ⟨Nat.le_refl _, Nat.le_refl _⟩ hN ?_
        refine xw_iload (pc := 187) (i := 13) (x := v16) C dL_flashes_187 rfl ?_
        refine xw_icmp_ne (pc := 189) (tgt := 232) C dL_flashes_189 (by decide) (fun q => ?_) (fun q => ?_)
        · replace hm := xif_f q hm
          obtain rfl := Option.some.inj hm
          refine xw_sub (pc := 232) _ ?_ (he _ rfl)
          exact ⟨Or.inl rfl, Or.inl rfl, Or.inl rfl, Or.inl rfl, Or.inl rfl, Or.inl rfl, Or.inl rfl, Or.inl rfl, Or.inl rfl, Or.inl rfl, Or.inl rfl, Or.inl rfl, Or.inl rfl, Or.inl rfl, Or.inl rfl, Or.inl rfl, Or.inl rfl, trivial⟩
        · replace hm := xif_t q hm
          refine xw_iload (pc := 192) (i := 11) (x := x11) C dL_flashes_192 rfl ?_
          refine xw_iconst (pc := 194) (v := 1) C dL_flashes_194 xk_i_1 ?_
          refine xw_iadd (pc := 195) C dL_flashes_195 ?_
          refine xw_iload (pc := 196) (i := 9) (x := x9) C dL_flashes_196 rfl ?_
          refine xw_icmp_ge (pc := 198) (tgt := 220) C dL_flashes_198 (by decide) (fun q => ?_) (fun q => ?_)
          · replace hm := xif_t q hm
            exact xw_sub (pc := 220) [some (.ref x0), some (.ref x1), some (.int x2), some (.ref x3), some (.ref x4), some (.int x5), none, some (.int x7), some (.int x8), some (.int x9), some (.int x10), some (.int x11), some (.int (x7 + (x11 * x8))), some (.int v16), none, some (.int e24), none] ⟨Or.inr rfl, Or.inr rfl, Or.inr rfl, Or.inr rfl, Or.inr rfl, Or.inr rfl, Or.inl rfl, Or.inr rfl, Or.inr rfl, Or.inr rfl, Or.inr rfl, Or.inr rfl, Or.inr rfl, Or.inr rfl, Or.inl rfl, Or.inr rfl, Or.inl rfl, trivial⟩ (fL_flashes_J220_w C hN hm hc he)
          · replace hm := xif_f q hm
            refine xw_aload_n (pc := 201) (i := 0) (x := x0) C dL_flashes_201 rfl rfl ?_
            refine xw_iload (pc := 202) (i := 11) (x := x11) C dL_flashes_202 rfl ?_
            refine xw_iconst (pc := 204) (v := 2) C dL_flashes_204 xk_i_2 ?_
            obtain ⟨_, q44, hm⟩ := xbind hm
            obtain ⟨v45, q46, hm⟩ := xbind hm
            refine xw_callV1 (pc := 205) (As := [.int x11, .int (2 : Int32)]) (st := []) C dL_flashes_205 (wX8_flash q46) dd_X8_flash lk_L_57 dv_X8_flash (xco_spec q44) rfl (Nat.le_of_ble_eq_true rfl) (Nat.le_of_ble_eq_true rfl) (Nat.le_of_ble_eq_true rfl) ⟨Nat.le_refl _, Nat.le_refl _⟩ hN ?_
            refine xw_aload_n (pc := 208) (i := 1) (x := x1) C dL_flashes_208 rfl rfl ?_
            refine xw_iload_n (pc := 209) (i := 2) (x := x2) C dL_flashes_209 rfl rfl ?_
            refine xw_iload (pc := 210) (i := 13) (x := v16) C dL_flashes_210 rfl ?_
            refine xw_iload (pc := 212) (i := 14) (x := v18) C dL_flashes_212 rfl ?_
            obtain ⟨v47, q48, hm⟩ := xbind hm
            refine xw_callS1 (pc := 214) (As := [.ref x1, .int x2, .int v16, .int v18]) (st := [.int v45]) C dL_flashes_214 (wL_step q48) dd_L_step lk_L_53 ds_L_step rfl (Nat.le_of_ble_eq_true rfl) (Nat.le_of_ble_eq_true rfl) (Nat.le_of_ble_eq_true rfl) ⟨Nat.le_refl _, Nat.le_refl _⟩ hN ?_
            refine xw_icmp_ne (pc := 217) (tgt := 232) C dL_flashes_217 (by decide) (fun q => ?_) (fun q => ?_)
            · replace hm := xif_f q hm
              obtain rfl := Option.some.inj hm
              refine xw_sub (pc := 232) _ ?_ (he _ rfl)
              exact ⟨Or.inl rfl, Or.inl rfl, Or.inl rfl, Or.inl rfl, Or.inl rfl, Or.inl rfl, Or.inl rfl, Or.inl rfl, Or.inl rfl, Or.inl rfl, Or.inl rfl, Or.inl rfl, Or.inl rfl, Or.inl rfl, Or.inl rfl, Or.inl rfl, Or.inl rfl, trivial⟩
            · replace hm := xif_t q hm
              exact xw_sub (pc := 220) [some (.ref x0), some (.ref x1), some (.int x2), some (.ref x3), some (.ref x4), some (.int x5), none, some (.int x7), some (.int x8), some (.int x9), some (.int x10), some (.int x11), some (.int (x7 + (x11 * x8))), some (.int v16), none, some (.int e24), none] ⟨Or.inr rfl, Or.inr rfl, Or.inr rfl, Or.inr rfl, Or.inr rfl, Or.inr rfl, Or.inl rfl, Or.inr rfl, Or.inr rfl, Or.inr rfl, Or.inr rfl, Or.inr rfl, Or.inr rfl, Or.inr rfl, Or.inl rfl, Or.inr rfl, Or.inl rfl, trivial⟩ (fL_flashes_J220_w C hN hm hc he)
def fL_flashes_P291 (X : XCtx) (h : XH) (x0 : Nat) (x9 : Int32) (n sl : Nat) (s : (Int32 × Int32 × Int32 × Int32)) : Prop := XW X 291 [some (.ref x0), none, none, none, none, none, none, none, none, some (.int x9), none, some (.int s.1), some (.int s.2.1), some (.int s.2.2.1), some (.int s.2.2.2), none, none] [] h n sl
def fL_flashes_E291 (X : XCtx) (h : XH) (x0 : Nat) (x9 : Int32) (n sl : Nat) (e : (Int32 × Int32 × Int32)) : Prop := XW X 360 [some (.ref x0), none, none, none, none, none, none, none, none, some (.int x9), none, some (.int e.1), some (.int e.2.1), some (.int e.2.2), none, none, none] [] h n sl
set_option maxHeartbeats 4000000 in
set_option maxRecDepth 100000 in
theorem fL_flashes_J336_w {X : XCtx} (C : XOK X RL cL_flashes 17 "flashes" (some .boolean) 5 118) {n sl : Nat} (hN : XN X n sl)  {h : XH} {x0 : Nat} {x9 : Int32} {x11 : Int32} {x13 : Int32} {x14 : Int32} {x15 : Int32} {s0 : Int32} {s1 : Bool} {o : (Int32 × Int32 × Int32 × Int32) ⊕ (Int32 × Int32 × Int32)} (hm : fL_flashes_J336 h x0 x9 x11 x13 x14 x15 s0 s1 = some o) (hc : ∀ s', o = .inl s' → fL_flashes_P291 X h x0 x9 n sl s') (he : ∀ e', o = .inr e' → fL_flashes_E291 X h x0 x9 n sl e') : XW X 336 [some (.ref x0), none, none, none, none, none, none, none, none, some (.int x9), none, some (.int x11), none, some (.int x13), some (.int x14), some (.int x15), none] [.int (xbi s1), .int s0] h n sl := by
  unfold fL_flashes_J336 at hm
  refine xw_iadd (pc := 336) C dL_flashes_336 ?_
  refine xw_istore (pc := 337) (i := 12) (x := (s0 + (xbi s1))) (L' := [some (.ref x0), none, none, none, none, none, none, none, none, some (.int x9), none, some (.int x11), some (.int (s0 + (xbi s1))), some (.int x13), some (.int x14), some (.int x15), none]) C dL_flashes_337 (Nat.le_of_ble_eq_true rfl) rfl ?_
  refine xw_iload (pc := 339) (i := 13) (x := x13) C dL_flashes_339 rfl ?_
  refine xw_iload (pc := 341) (i := 15) (x := x15) C dL_flashes_341 rfl ?_
  refine xw_if_ge (pc := 343) (tgt := 350) C dL_flashes_343 (by decide) (fun q => ?_) (fun q => ?_)
  · replace hm := xif_t q hm
    refine xw_iconst (pc := 350) (v := 0) C dL_flashes_350 xk_i_0 ?_
    refine xw_iadd (pc := 351) C dL_flashes_351 ?_
    refine xw_istore (pc := 352) (i := 13) (x := (x13 + (0 : Int32))) (L' := [some (.ref x0), none, none, none, none, none, none, none, none, some (.int x9), none, some (.int x11), some (.int (s0 + (xbi s1))), some (.int (x13 + (0 : Int32))), some (.int x14), some (.int x15), none]) C dL_flashes_352 (Nat.le_of_ble_eq_true rfl) rfl ?_
    refine xw_iinc (pc := 354) (i := 14) (x := x14) (v := (x14 + (1 : Int32))) (L' := [some (.ref x0), none, none, none, none, none, none, none, none, some (.int x9), none, some (.int x11), some (.int (s0 + (xbi s1))), some (.int (x13 + (0 : Int32))), some (.int (x14 + (1 : Int32))), some (.int x15), none]) C dL_flashes_354 rfl (congrArg (HAdd.hAdd _) xk_i_1) (Nat.le_of_ble_eq_true rfl) rfl ?_
    refine xw_goto (pc := 357) (tgt := 291) C dL_flashes_357 (by decide) ?_
    obtain rfl := Option.some.inj hm
    refine xw_sub (pc := 291) _ ?_ (hc _ rfl)
    exact ⟨Or.inr rfl, Or.inl rfl, Or.inl rfl, Or.inl rfl, Or.inl rfl, Or.inl rfl, Or.inl rfl, Or.inl rfl, Or.inl rfl, Or.inr rfl, Or.inl rfl, Or.inr rfl, Or.inr rfl, Or.inr rfl, Or.inr rfl, Or.inl rfl, Or.inl rfl, trivial⟩
  · replace hm := xif_f q hm
    refine xw_iconst (pc := 346) (v := 1) C dL_flashes_346 xk_i_1 ?_
    refine xw_goto (pc := 347) (tgt := 351) C dL_flashes_347 (by decide) ?_
    refine xw_iadd (pc := 351) C dL_flashes_351 ?_
    refine xw_istore (pc := 352) (i := 13) (x := (x13 + (1 : Int32))) (L' := [some (.ref x0), none, none, none, none, none, none, none, none, some (.int x9), none, some (.int x11), some (.int (s0 + (xbi s1))), some (.int (x13 + (1 : Int32))), some (.int x14), some (.int x15), none]) C dL_flashes_352 (Nat.le_of_ble_eq_true rfl) rfl ?_
    refine xw_iinc (pc := 354) (i := 14) (x := x14) (v := (x14 + (1 : Int32))) (L' := [some (.ref x0), none, none, none, none, none, none, none, none, some (.int x9), none, some (.int x11), some (.int (s0 + (xbi s1))), some (.int (x13 + (1 : Int32))), some (.int (x14 + (1 : Int32))), some (.int x15), none]) C dL_flashes_354 rfl (congrArg (HAdd.hAdd _) xk_i_1) (Nat.le_of_ble_eq_true rfl) rfl ?_
    refine xw_goto (pc := 357) (tgt := 291) C dL_flashes_357 (by decide) ?_
    obtain rfl := Option.some.inj hm
    refine xw_sub (pc := 291) _ ?_ (hc _ rfl)
    exact ⟨Or.inr rfl, Or.inl rfl, Or.inl rfl, Or.inl rfl, Or.inl rfl, Or.inl rfl, Or.inl rfl, Or.inl rfl, Or.inl rfl, Or.inr rfl, Or.inl rfl, Or.inr rfl, Or.inr rfl, Or.inr rfl, Or.inr rfl, Or.inl rfl, Or.inl rfl, trivial⟩
set_option maxHeartbeats 4000000 in
set_option maxRecDepth 100000 in
theorem fL_flashes_J321_w {X : XCtx} (C : XOK X RL cL_flashes 17 "flashes" (some .boolean) 5 118) {n sl : Nat} (hN : XN X n sl)  {h : XH} {x0 : Nat} {x9 : Int32} {x12 : Int32} {x13 : Int32} {x14 : Int32} {x15 : Int32} {s0 : Int32} {s1 : Bool} {o : (Int32 × Int32 × Int32 × Int32) ⊕ (Int32 × Int32 × Int32)} (hm : fL_flashes_J321 h x0 x9 x12 x13 x14 x15 s0 s1 = some o) (hc : ∀ s', o = .inl s' → fL_flashes_P291 X h x0 x9 n sl s') (he : ∀ e', o = .inr e' → fL_flashes_E291 X h x0 x9 n sl e') : XW X 321 [some (.ref x0), none, none, none, none, none, none, none, none, some (.int x9), none, none, some (.int x12), some (.int x13), some (.int x14), some (.int x15), none] [.int (xbi s1), .int s0] h n sl := by
  unfold fL_flashes_J321 at hm
  refine xw_iadd (pc := 321) C dL_flashes_321 ?_
  refine xw_istore (pc := 322) (i := 11) (x := (s0 + (xbi s1))) (L' := [some (.ref x0), none, none, none, none, none, none, none, none, some (.int x9), none, some (.int (s0 + (xbi s1))), some (.int x12), some (.int x13), some (.int x14), some (.int x15), none]) C dL_flashes_322 (Nat.le_of_ble_eq_true rfl) rfl ?_
  refine xw_iload (pc := 324) (i := 12) (x := x12) C dL_flashes_324 rfl ?_
  refine xw_iload (pc := 326) (i := 15) (x := x15) C dL_flashes_326 rfl ?_
  refine xw_if_le (pc := 328) (tgt := 335) C dL_flashes_328 (by decide) (fun q => ?_) (fun q => ?_)
  · replace hm := xif_t q hm
    refine xw_iconst (pc := 335) (v := 0) C dL_flashes_335 xk_i_0 ?_
    exact xw_sub (pc := 336) [some (.ref x0), none, none, none, none, none, none, none, none, some (.int x9), none, some (.int (s0 + (xbi s1))), none, some (.int x13), some (.int x14), some (.int x15), none] ⟨Or.inr rfl, Or.inl rfl, Or.inl rfl, Or.inl rfl, Or.inl rfl, Or.inl rfl, Or.inl rfl, Or.inl rfl, Or.inl rfl, Or.inr rfl, Or.inl rfl, Or.inr rfl, Or.inl rfl, Or.inr rfl, Or.inr rfl, Or.inr rfl, Or.inl rfl, trivial⟩ (fL_flashes_J336_w C hN hm hc he)
  · replace hm := xif_f q hm
    refine xw_iconst (pc := 331) (v := 1) C dL_flashes_331 xk_i_1 ?_
    refine xw_goto (pc := 332) (tgt := 336) C dL_flashes_332 (by decide) ?_
    exact xw_sub (pc := 336) [some (.ref x0), none, none, none, none, none, none, none, none, some (.int x9), none, some (.int (s0 + (xbi s1))), none, some (.int x13), some (.int x14), some (.int x15), none] ⟨Or.inr rfl, Or.inl rfl, Or.inl rfl, Or.inl rfl, Or.inl rfl, Or.inl rfl, Or.inl rfl, Or.inl rfl, Or.inl rfl, Or.inr rfl, Or.inl rfl, Or.inr rfl, Or.inl rfl, Or.inr rfl, Or.inr rfl, Or.inr rfl, Or.inl rfl, trivial⟩ (fL_flashes_J336_w C hN hm hc he)
set_option maxHeartbeats 4000000 in
set_option maxRecDepth 100000 in
theorem fL_flashes_B291_w {X : XCtx} (C : XOK X RL cL_flashes 17 "flashes" (some .boolean) 5 118) {n sl : Nat} (hN : XN X n sl) {h : XH} {x0 : Nat} {x9 : Int32} (s : (Int32 × Int32 × Int32 × Int32)) (o : (Int32 × Int32 × Int32 × Int32) ⊕ (Int32 × Int32 × Int32)) (hm : fL_flashes_B291 h x0 x9 s = some o) (hc : ∀ s', o = .inl s' → fL_flashes_P291 X h x0 x9 n sl s') (he : ∀ e', o = .inr e' → fL_flashes_E291 X h x0 x9 n sl e') : fL_flashes_P291 X h x0 x9 n sl s := by
  obtain ⟨x11, x12, x13, x14⟩ := s
  show XW X 291 [some (.ref x0), none, none, none, none, none, none, none, none, some (.int x9), none, some (.int x11), some (.int x12), some (.int x13), some (.int x14), none, none] [] h n sl
  replace hm : fL_flashes_b291 h x0 x9 x11 x12 x13 x14 = some o := hm
  unfold fL_flashes_b291 at hm
  refine xw_iload (pc := 291) (i := 14) (x := x14) C dL_flashes_291 rfl ?_
  refine xw_iconst (pc := 293) (v := 1) C dL_flashes_293 xk_i_1 ?_
  refine xw_iadd (pc := 294) C dL_flashes_294 ?_
  refine xw_iload (pc := 295) (i := 9) (x := x9) C dL_flashes_295 rfl ?_
  refine xw_icmp_ge (pc := 297) (tgt := 360) C dL_flashes_297 (by decide) (fun q => ?_) (fun q => ?_)
  · replace hm := xif_t q hm
    obtain rfl := Option.some.inj hm
    refine xw_sub (pc := 360) _ ?_ (he _ rfl)
    exact ⟨Or.inr rfl, Or.inl rfl, Or.inl rfl, Or.inl rfl, Or.inl rfl, Or.inl rfl, Or.inl rfl, Or.inl rfl, Or.inl rfl, Or.inr rfl, Or.inl rfl, Or.inr rfl, Or.inr rfl, Or.inr rfl, Or.inl rfl, Or.inl rfl, Or.inl rfl, trivial⟩
  · replace hm := xif_f q hm
    refine xw_aload_n (pc := 300) (i := 0) (x := x0) C dL_flashes_300 rfl rfl ?_
    refine xw_iload (pc := 301) (i := 14) (x := x14) C dL_flashes_301 rfl ?_
    refine xw_iconst (pc := 303) (v := 2) C dL_flashes_303 xk_i_2 ?_
    obtain ⟨_, q51, hm⟩ := xbind hm
    obtain ⟨v52, q53, hm⟩ := xbind hm
    refine xw_callV1 (pc := 304) (As := [.int x14, .int (2 : Int32)]) (st := []) C dL_flashes_304 (wX8_flash q53) dd_X8_flash lk_L_57 dv_X8_flash (xco_spec q51) rfl (Nat.le_of_ble_eq_true rfl) (Nat.le_of_ble_eq_true rfl) (Nat.le_of_ble_eq_true rfl) ⟨Nat.le_refl _, Nat.le_refl _⟩ hN ?_
    refine xw_istore (pc := 307) (i := 15) (x := v52) (L' := [some (.ref x0), none, none, none, none, none, none, none, none, some (.int x9), none, some (.int x11), some (.int x12), some (.int x13), some (.int x14), some (.int v52), none]) C dL_flashes_307 (Nat.le_of_ble_eq_true rfl) rfl ?_
    refine xw_iload (pc := 309) (i := 11) (x := x11) C dL_flashes_309 rfl ?_
    refine xw_iload (pc := 311) (i := 15) (x := v52) C dL_flashes_311 rfl ?_
    refine xw_if_ne (pc := 313) (tgt := 320) C dL_flashes_313 (by decide) (fun q => ?_) (fun q => ?_)
    · replace hm := xif_f q hm
      refine xw_iconst (pc := 320) (v := 0) C dL_flashes_320 xk_i_0 ?_
      exact xw_sub (pc := 321) [some (.ref x0), none, none, none, none, none, none, none, none, some (.int x9), none, none, some (.int x12), some (.int x13), some (.int x14), some (.int v52), none] ⟨Or.inr rfl, Or.inl rfl, Or.inl rfl, Or.inl rfl, Or.inl rfl, Or.inl rfl, Or.inl rfl, Or.inl rfl, Or.inl rfl, Or.inr rfl, Or.inl rfl, Or.inl rfl, Or.inr rfl, Or.inr rfl, Or.inr rfl, Or.inr rfl, Or.inl rfl, trivial⟩ (fL_flashes_J321_w C hN hm hc he)
    · replace hm := xif_t q hm
      refine xw_iconst (pc := 316) (v := 1) C dL_flashes_316 xk_i_1 ?_
      refine xw_goto (pc := 317) (tgt := 321) C dL_flashes_317 (by decide) ?_
      exact xw_sub (pc := 321) [some (.ref x0), none, none, none, none, none, none, none, none, some (.int x9), none, none, some (.int x12), some (.int x13), some (.int x14), some (.int v52), none] ⟨Or.inr rfl, Or.inl rfl, Or.inl rfl, Or.inl rfl, Or.inl rfl, Or.inl rfl, Or.inl rfl, Or.inl rfl, Or.inl rfl, Or.inr rfl, Or.inl rfl, Or.inl rfl, Or.inr rfl, Or.inr rfl, Or.inr rfl, Or.inr rfl, Or.inl rfl, trivial⟩ (fL_flashes_J321_w C hN hm hc he)
set_option maxHeartbeats 4000000 in
set_option maxRecDepth 100000 in
theorem wL_flashes {l : Launch} {n sl : Nat} {h : XH} {x0 : Nat} {x1 : Nat} {x2 : Int32} {x3 : Nat} {x4 : Nat} {x5 : Int32} {x6 : Int32} {o : Bool × XH} (hm : fL_flashes h x0 x1 x2 x3 x4 x5 x6 = some o) : XM l yL_flashes cL_flashes 17 (some .boolean) 5 118 [.ref x0, .ref x1, .int x2, .ref x3, .ref x4, .int x5, .int x6] h n sl (some (.int (xbi o.1))) o.2 n sl := by
  refine xm_of pnL [some (.ref x0), some (.ref x1), some (.int x2), some (.ref x3), some (.ref x4), some (.int x5), some (.int x6), none, none, none, none, none, none, none, none, none, none] 10 rfl (Nat.le_of_ble_eq_true rfl) ?_
  intro X hT C
  replace C : XOK X RL cL_flashes 17 "flashes" (some .boolean) 5 118 := C
  obtain ⟨-, hN, hX⟩ := hT
  unfold fL_flashes at hm
  refine xw_iload (pc := 0) (i := 6) (x := x6) C dL_flashes_0 rfl ?_
  refine xw_sipush (pc := 2) (v := 200) C dL_flashes_2 xk_s_200 ?_
  obtain ⟨v1, q2, hm⟩ := xbind hm
  refine xw_callS1 (pc := 5) (As := [.int x6, .int (200 : Int32)]) (st := []) C dL_flashes_5 (wL_low q2) dd_L_low lk_L_16 ds_L_low rfl (Nat.le_of_ble_eq_true rfl) (Nat.le_of_ble_eq_true rfl) (Nat.le_of_ble_eq_true rfl) ⟨Nat.le_refl _, Nat.le_refl _⟩ hN ?_
  refine xw_istore (pc := 8) (i := 7) (x := v1) (L' := [some (.ref x0), some (.ref x1), some (.int x2), some (.ref x3), some (.ref x4), some (.int x5), some (.int x6), some (.int v1), none, none, none, none, none, none, none, none, none]) C dL_flashes_8 (Nat.le_of_ble_eq_true rfl) rfl ?_
  refine xw_iconst (pc := 10) (v := 1) C dL_flashes_10 xk_i_1 ?_
  refine xw_iload (pc := 11) (i := 6) (x := x6) C dL_flashes_11 rfl ?_
  refine xw_bipush (pc := 13) (v := 8) C dL_flashes_13 xk_b_8 ?_
  refine xw_ishr (pc := 15) C dL_flashes_15 ?_
  refine xw_bipush (pc := 16) (v := 30) C dL_flashes_16 xk_b_30 ?_
  obtain ⟨v3, q4, hm⟩ := xbind hm
  refine xw_callS1 (pc := 18) (As := [.int (x6 >>> ((8 : Int32) &&& 31)), .int (30 : Int32)]) (st := [.int (1 : Int32)]) C dL_flashes_18 (wL_low q4) dd_L_low lk_L_16 ds_L_low rfl (Nat.le_of_ble_eq_true rfl) (Nat.le_of_ble_eq_true rfl) (Nat.le_of_ble_eq_true rfl) ⟨Nat.le_refl _, Nat.le_refl _⟩ hN ?_
  refine xw_iadd (pc := 21) C dL_flashes_21 ?_
  refine xw_istore (pc := 22) (i := 8) (x := ((1 : Int32) + v3)) (L' := [some (.ref x0), some (.ref x1), some (.int x2), some (.ref x3), some (.ref x4), some (.int x5), some (.int x6), some (.int v1), some (.int ((1 : Int32) + v3)), none, none, none, none, none, none, none, none]) C dL_flashes_22 (Nat.le_of_ble_eq_true rfl) rfl ?_
  refine xw_sipush (pc := 24) (v := 1000) C dL_flashes_24 xk_s_1000 ?_
  refine xw_iload (pc := 27) (i := 7) (x := v1) C dL_flashes_27 rfl ?_
  refine xw_isub (pc := 29) C dL_flashes_29 ?_
  refine xw_iload (pc := 30) (i := 8) (x := ((1 : Int32) + v3)) C dL_flashes_30 rfl ?_
  obtain ⟨q5, hm⟩ := xif_n hm
  refine xw_idiv (pc := 32) C dL_flashes_32 q5 ?_
  refine xw_iconst (pc := 33) (v := 1) C dL_flashes_33 xk_i_1 ?_
  refine xw_iadd (pc := 34) C dL_flashes_34 ?_
  obtain ⟨y6, ey6, hm⟩ := xlet_ex hm
  refine xw_topI ey6 ?_
  refine xw_istore (pc := 35) (i := 9) (x := y6) (L' := [some (.ref x0), some (.ref x1), some (.int x2), some (.ref x3), some (.ref x4), some (.int x5), some (.int x6), some (.int v1), some (.int ((1 : Int32) + v3)), some (.int y6), none, none, none, none, none, none, none]) C dL_flashes_35 (Nat.le_of_ble_eq_true rfl) rfl ?_
  refine xw_aload_n (pc := 37) (i := 0) (x := x0) C dL_flashes_37 rfl rfl ?_
  refine xw_iconst (pc := 38) (v := 3) C dL_flashes_38 xk_i_3 ?_
  obtain ⟨_, q7, hm⟩ := xbind hm
  obtain ⟨v8, q9, hm⟩ := xbind hm
  refine xw_callV1 (pc := 39) (As := [.int (3 : Int32)]) (st := []) C dL_flashes_39 (wX8_count q9) dd_X8_count lk_L_33 dv_X8_count (xco_spec q7) rfl (Nat.le_of_ble_eq_true rfl) (Nat.le_of_ble_eq_true rfl) (Nat.le_of_ble_eq_true rfl) ⟨Nat.le_refl _, Nat.le_refl _⟩ hN ?_
  refine xw_istore (pc := 42) (i := 10) (x := v8) (L' := [some (.ref x0), some (.ref x1), some (.int x2), some (.ref x3), some (.ref x4), some (.int x5), some (.int x6), some (.int v1), some (.int ((1 : Int32) + v3)), some (.int y6), some (.int v8), none, none, none, none, none, none]) C dL_flashes_42 (Nat.le_of_ble_eq_true rfl) rfl ?_
  refine xw_aload_n (pc := 44) (i := 0) (x := x0) C dL_flashes_44 rfl rfl ?_
  refine xw_iload (pc := 45) (i := 7) (x := v1) C dL_flashes_45 rfl ?_
  refine xw_iload (pc := 47) (i := 8) (x := ((1 : Int32) + v3)) C dL_flashes_47 rfl ?_
  obtain ⟨_, q10, hm⟩ := xbind hm
  obtain ⟨v11, q12, hm⟩ := xbind hm
  refine xw_callV1 (pc := 49) (As := [.int v1, .int ((1 : Int32) + v3)]) (st := []) C dL_flashes_49 (wX8_setFlash q12) dd_X8_setFlash lk_L_46 dv_X8_setFlash (xco_spec q10) rfl (Nat.le_of_ble_eq_true rfl) (Nat.le_of_ble_eq_true rfl) (Nat.le_of_ble_eq_true rfl) ⟨Nat.le_refl _, Nat.le_refl _⟩ hN ?_
  refine xw_iload (pc := 52) (i := 9) (x := y6) C dL_flashes_52 rfl ?_
  refine xw_icmp_ne (pc := 54) (tgt := 68) C dL_flashes_54 (by decide) (fun q => ?_) (fun q => ?_)
  · replace hm := xif_f q hm
    refine xw_iconst (pc := 68) (v := 0) C dL_flashes_68 xk_i_0 ?_
    obtain rfl := Option.some.inj hm
    exact xw_zreturn (pc := 69) (v := xbi false) C dL_flashes_69 rfl (xbi_nar _) hX
  · replace hm := xif_t q hm
    refine xw_aload_n (pc := 57) (i := 0) (x := x0) C dL_flashes_57 rfl rfl ?_
    refine xw_bipush (pc := 58) (v := 8) C dL_flashes_58 xk_b_8 ?_
    obtain ⟨_, q13, hm⟩ := xbind hm
    obtain ⟨v14, q15, hm⟩ := xbind hm
    refine xw_callV1 (pc := 60) (As := [.int (8 : Int32)]) (st := []) C dL_flashes_60 (wX8_count q15) dd_X8_count lk_L_33 dv_X8_count (xco_spec q13) rfl (Nat.le_of_ble_eq_true rfl) (Nat.le_of_ble_eq_true rfl) (Nat.le_of_ble_eq_true rfl) ⟨Nat.le_refl _, Nat.le_refl _⟩ hN ?_
    refine xw_iload (pc := 63) (i := 9) (x := y6) C dL_flashes_63 rfl ?_
    refine xw_icmp_eq (pc := 65) (tgt := 70) C dL_flashes_65 (by decide) (fun q => ?_) (fun q => ?_)
    · replace hm := xif_t q hm
      refine xw_iconst (pc := 70) (v := 0) C dL_flashes_70 xk_i_0 ?_
      refine xw_istore (pc := 71) (i := 11) (x := (0 : Int32)) (L' := [some (.ref x0), some (.ref x1), some (.int x2), some (.ref x3), some (.ref x4), some (.int x5), some (.int x6), some (.int v1), some (.int ((1 : Int32) + v3)), some (.int y6), some (.int v8), some (.int (0 : Int32)), none, none, none, none, none]) C dL_flashes_71 (Nat.le_of_ble_eq_true rfl) rfl ?_
      obtain ⟨e49, q50, hm⟩ := xbind hm
      refine xw_sub (pc := 73) [some (.ref x0), some (.ref x1), some (.int x2), some (.ref x3), some (.ref x4), some (.int x5), none, some (.int v1), some (.int ((1 : Int32) + v3)), some (.int y6), some (.int v8), some (.int (0 : Int32)), none, none, none, none, none] ⟨Or.inr rfl, Or.inr rfl, Or.inr rfl, Or.inr rfl, Or.inr rfl, Or.inr rfl, Or.inl rfl, Or.inr rfl, Or.inr rfl, Or.inr rfl, Or.inr rfl, Or.inr rfl, Or.inl rfl, Or.inl rfl, Or.inl rfl, Or.inl rfl, Or.inl rfl, trivial⟩ ?_
      refine xloop_walk (fL_flashes_B73 v11.2 x0 x1 x2 x3 x4 x5 v1 ((1 : Int32) + v3) y6 v8) (fL_flashes_P73 X v11.2 x0 x1 x2 x3 x4 x5 v1 ((1 : Int32) + v3) y6 v8 n sl) (fL_flashes_E73 X v11.2 x0 x1 x2 x3 x4 x5 v1 ((1 : Int32) + v3) y6 v8 n sl) (fun s' o' => fL_flashes_B73_w C hN s' o') 5000 (0 : Int32) e49 q50 ?_
      rcases e49 with e49 | e49
      · dsimp only at hm
        show XW X 232 [none, none, none, none, none, none, none, none, none, none, none, none, none, none, none, none, none] [] v11.2 n sl
        refine xw_iconst (pc := 232) (v := 0) C dL_flashes_232 xk_i_0 ?_
        obtain rfl := Option.some.inj hm
        exact xw_zreturn (pc := 233) (v := xbi false) C dL_flashes_233 rfl (xbi_nar _) hX
      · rcases e49 with e49 | e49
        · dsimp only at hm
          show XW X 265 [none, none, none, none, none, none, none, none, none, none, none, none, none, none, none, none, none] [] v11.2 n sl
          refine xw_iconst (pc := 265) (v := 0) C dL_flashes_265 xk_i_0 ?_
          obtain rfl := Option.some.inj hm
          exact xw_zreturn (pc := 266) (v := xbi false) C dL_flashes_266 rfl (xbi_nar _) hX
        · dsimp only at hm
          show XW X 279 [some (.ref x0), none, none, none, none, none, none, none, none, some (.int y6), none, none, none, none, none, none, none] [] v11.2 n sl
          refine xw_iconst (pc := 279) (v := 0) C dL_flashes_279 xk_i_0 ?_
          refine xw_istore (pc := 280) (i := 11) (x := (0 : Int32)) (L' := [some (.ref x0), none, none, none, none, none, none, none, none, some (.int y6), none, some (.int (0 : Int32)), none, none, none, none, none]) C dL_flashes_280 (Nat.le_of_ble_eq_true rfl) rfl ?_
          refine xw_iconst (pc := 282) (v := 0) C dL_flashes_282 xk_i_0 ?_
          refine xw_istore (pc := 283) (i := 12) (x := (0 : Int32)) (L' := [some (.ref x0), none, none, none, none, none, none, none, none, some (.int y6), none, some (.int (0 : Int32)), some (.int (0 : Int32)), none, none, none, none]) C dL_flashes_283 (Nat.le_of_ble_eq_true rfl) rfl ?_
          refine xw_iconst (pc := 285) (v := 0) C dL_flashes_285 xk_i_0 ?_
          refine xw_istore (pc := 286) (i := 13) (x := (0 : Int32)) (L' := [some (.ref x0), none, none, none, none, none, none, none, none, some (.int y6), none, some (.int (0 : Int32)), some (.int (0 : Int32)), some (.int (0 : Int32)), none, none, none]) C dL_flashes_286 (Nat.le_of_ble_eq_true rfl) rfl ?_
          refine xw_iconst (pc := 288) (v := 0) C dL_flashes_288 xk_i_0 ?_
          refine xw_istore (pc := 289) (i := 14) (x := (0 : Int32)) (L' := [some (.ref x0), none, none, none, none, none, none, none, none, some (.int y6), none, some (.int (0 : Int32)), some (.int (0 : Int32)), some (.int (0 : Int32)), some (.int (0 : Int32)), none, none]) C dL_flashes_289 (Nat.le_of_ble_eq_true rfl) rfl ?_
          obtain ⟨e54, q55, hm⟩ := xbind hm
          refine xw_sub (pc := 291) [some (.ref x0), none, none, none, none, none, none, none, none, some (.int y6), none, some (.int (0 : Int32)), some (.int (0 : Int32)), some (.int (0 : Int32)), some (.int (0 : Int32)), none, none] ⟨Or.inr rfl, Or.inl rfl, Or.inl rfl, Or.inl rfl, Or.inl rfl, Or.inl rfl, Or.inl rfl, Or.inl rfl, Or.inl rfl, Or.inr rfl, Or.inl rfl, Or.inr rfl, Or.inr rfl, Or.inr rfl, Or.inr rfl, Or.inl rfl, Or.inl rfl, trivial⟩ ?_
          refine xloop_walk (fL_flashes_B291 v11.2 x0 y6) (fL_flashes_P291 X v11.2 x0 y6 n sl) (fL_flashes_E291 X v11.2 x0 y6 n sl) (fun s' o' => fL_flashes_B291_w C hN s' o') 5000 ((0 : Int32), (0 : Int32), (0 : Int32), (0 : Int32)) e54 q55 ?_
          show XW X 360 [some (.ref x0), none, none, none, none, none, none, none, none, some (.int y6), none, some (.int e54.1), some (.int e54.2.1), some (.int e54.2.2), none, none, none] [] v11.2 n sl
          refine xw_aload_n (pc := 360) (i := 0) (x := x0) C dL_flashes_360 rfl rfl ?_
          refine xw_iconst (pc := 361) (v := 0) C dL_flashes_361 xk_i_0 ?_
          obtain ⟨_, q56, hm⟩ := xbind hm
          obtain ⟨v57, q58, hm⟩ := xbind hm
          refine xw_callV1 (pc := 362) (As := [.int (0 : Int32)]) (st := []) C dL_flashes_362 (wX8_seems q58) dd_X8_seems lk_L_63 dv_X8_seems (xco_spec q56) rfl (Nat.le_of_ble_eq_true rfl) (Nat.le_of_ble_eq_true rfl) (Nat.le_of_ble_eq_true rfl) ⟨Nat.le_refl _, Nat.le_refl _⟩ hN ?_
          refine xw_iload (pc := 365) (i := 11) (x := e54.1) C dL_flashes_365 rfl ?_
          refine xw_icmp_ne (pc := 367) (tgt := 437) C dL_flashes_367 (by decide) (fun q => ?_) (fun q => ?_)
          · replace hm := xif_f q hm
            refine xw_iconst (pc := 437) (v := 0) C dL_flashes_437 xk_i_0 ?_
            obtain rfl := Option.some.inj hm
            exact xw_zreturn (pc := 438) (v := xbi false) C dL_flashes_438 rfl (xbi_nar _) hX
          · replace hm := xif_t q hm
            refine xw_aload_n (pc := 370) (i := 0) (x := x0) C dL_flashes_370 rfl rfl ?_
            refine xw_iconst (pc := 371) (v := 1) C dL_flashes_371 xk_i_1 ?_
            obtain ⟨_, q59, hm⟩ := xbind hm
            obtain ⟨v60, q61, hm⟩ := xbind hm
            refine xw_callV1 (pc := 372) (As := [.int (1 : Int32)]) (st := []) C dL_flashes_372 (wX8_seems q61) dd_X8_seems lk_L_63 dv_X8_seems (xco_spec q59) rfl (Nat.le_of_ble_eq_true rfl) (Nat.le_of_ble_eq_true rfl) (Nat.le_of_ble_eq_true rfl) ⟨Nat.le_refl _, Nat.le_refl _⟩ hN ?_
            refine xw_iload (pc := 375) (i := 12) (x := e54.2.1) C dL_flashes_375 rfl ?_
            refine xw_icmp_ne (pc := 377) (tgt := 437) C dL_flashes_377 (by decide) (fun q => ?_) (fun q => ?_)
            · replace hm := xif_f q hm
              refine xw_iconst (pc := 437) (v := 0) C dL_flashes_437 xk_i_0 ?_
              obtain rfl := Option.some.inj hm
              exact xw_zreturn (pc := 438) (v := xbi false) C dL_flashes_438 rfl (xbi_nar _) hX
            · replace hm := xif_t q hm
              refine xw_aload_n (pc := 380) (i := 0) (x := x0) C dL_flashes_380 rfl rfl ?_
              refine xw_iconst (pc := 381) (v := 2) C dL_flashes_381 xk_i_2 ?_
              obtain ⟨_, q62, hm⟩ := xbind hm
              obtain ⟨v63, q64, hm⟩ := xbind hm
              refine xw_callV1 (pc := 382) (As := [.int (2 : Int32)]) (st := []) C dL_flashes_382 (wX8_seems q64) dd_X8_seems lk_L_63 dv_X8_seems (xco_spec q62) rfl (Nat.le_of_ble_eq_true rfl) (Nat.le_of_ble_eq_true rfl) (Nat.le_of_ble_eq_true rfl) ⟨Nat.le_refl _, Nat.le_refl _⟩ hN ?_
              refine xw_iload (pc := 385) (i := 13) (x := e54.2.2) C dL_flashes_385 rfl ?_
              refine xw_icmp_ne (pc := 387) (tgt := 437) C dL_flashes_387 (by decide) (fun q => ?_) (fun q => ?_)
              · replace hm := xif_f q hm
                refine xw_iconst (pc := 437) (v := 0) C dL_flashes_437 xk_i_0 ?_
                obtain rfl := Option.some.inj hm
                exact xw_zreturn (pc := 438) (v := xbi false) C dL_flashes_438 rfl (xbi_nar _) hX
              · replace hm := xif_t q hm
                refine xw_iload (pc := 390) (i := 11) (x := e54.1) C dL_flashes_390 rfl ?_
                refine xw_iload (pc := 392) (i := 12) (x := e54.2.1) C dL_flashes_392 rfl ?_
                refine xw_iadd (pc := 394) C dL_flashes_394 ?_
                refine xw_iload (pc := 395) (i := 13) (x := e54.2.2) C dL_flashes_395 rfl ?_
                refine xw_iadd (pc := 397) C dL_flashes_397 ?_
                refine xw_iload (pc := 398) (i := 9) (x := y6) C dL_flashes_398 rfl ?_
                refine xw_iconst (pc := 400) (v := 1) C dL_flashes_400 xk_i_1 ?_
                refine xw_isub (pc := 401) C dL_flashes_401 ?_
                refine xw_icmp_ne (pc := 402) (tgt := 437) C dL_flashes_402 (by decide) (fun q => ?_) (fun q => ?_)
                · replace hm := xif_f q hm
                  refine xw_iconst (pc := 437) (v := 0) C dL_flashes_437 xk_i_0 ?_
                  obtain rfl := Option.some.inj hm
                  exact xw_zreturn (pc := 438) (v := xbi false) C dL_flashes_438 rfl (xbi_nar _) hX
                · replace hm := xif_t q hm
                  refine xw_aload_n (pc := 405) (i := 0) (x := x0) C dL_flashes_405 rfl rfl ?_
                  refine xw_iload (pc := 406) (i := 9) (x := y6) C dL_flashes_406 rfl ?_
                  refine xw_iconst (pc := 408) (v := 1) C dL_flashes_408 xk_i_1 ?_
                  refine xw_isub (pc := 409) C dL_flashes_409 ?_
                  refine xw_iconst (pc := 410) (v := 2) C dL_flashes_410 xk_i_2 ?_
                  obtain ⟨_, q65, hm⟩ := xbind hm
                  obtain ⟨v66, q67, hm⟩ := xbind hm
                  refine xw_callV1 (pc := 411) (As := [.int (y6 - (1 : Int32)), .int (2 : Int32)]) (st := []) C dL_flashes_411 (wX8_flash q67) dd_X8_flash lk_L_57 dv_X8_flash (xco_spec q65) rfl (Nat.le_of_ble_eq_true rfl) (Nat.le_of_ble_eq_true rfl) (Nat.le_of_ble_eq_true rfl) ⟨Nat.le_refl _, Nat.le_refl _⟩ hN ?_
                  refine xw_sipush (pc := 414) (v := -1004) C dL_flashes_414 xk_s_m1004 ?_
                  refine xw_icmp_ne (pc := 417) (tgt := 437) C dL_flashes_417 (by decide) (fun q => ?_) (fun q => ?_)
                  · replace hm := xif_f q hm
                    refine xw_iconst (pc := 437) (v := 0) C dL_flashes_437 xk_i_0 ?_
                    obtain rfl := Option.some.inj hm
                    exact xw_zreturn (pc := 438) (v := xbi false) C dL_flashes_438 rfl (xbi_nar _) hX
                  · replace hm := xif_t q hm
                    refine xw_aload_n (pc := 420) (i := 0) (x := x0) C dL_flashes_420 rfl rfl ?_
                    refine xw_iconst (pc := 421) (v := 3) C dL_flashes_421 xk_i_3 ?_
                    obtain ⟨_, q68, hm⟩ := xbind hm
                    obtain ⟨v69, q70, hm⟩ := xbind hm
                    refine xw_callV1 (pc := 422) (As := [.int (3 : Int32)]) (st := []) C dL_flashes_422 (wX8_seems q70) dd_X8_seems lk_L_63 dv_X8_seems (xco_spec q68) rfl (Nat.le_of_ble_eq_true rfl) (Nat.le_of_ble_eq_true rfl) (Nat.le_of_ble_eq_true rfl) ⟨Nat.le_refl _, Nat.le_refl _⟩ hN ?_
                    refine xw_aload_n (pc := 425) (i := 0) (x := x0) C dL_flashes_425 rfl rfl ?_
                    refine xw_iconst (pc := 426) (v := 2) C dL_flashes_426 xk_i_2 ?_
                    obtain ⟨_, q71, hm⟩ := xbind hm
                    obtain ⟨v72, q73, hm⟩ := xbind hm
                    refine xw_callV1 (pc := 427) (As := [.int (2 : Int32)]) (st := [.int v69]) C dL_flashes_427 (wX8_count q73) dd_X8_count lk_L_33 dv_X8_count (xco_spec q71) rfl (Nat.le_of_ble_eq_true rfl) (Nat.le_of_ble_eq_true rfl) (Nat.le_of_ble_eq_true rfl) ⟨Nat.le_refl _, Nat.le_refl _⟩ hN ?_
                    refine xw_icmp_gt (pc := 430) (tgt := 437) C dL_flashes_430 (by decide) (fun q => ?_) (fun q => ?_)
                    · replace hm := xif_t q hm
                      refine xw_iconst (pc := 437) (v := 0) C dL_flashes_437 xk_i_0 ?_
                      obtain rfl := Option.some.inj hm
                      exact xw_zreturn (pc := 438) (v := xbi false) C dL_flashes_438 rfl (xbi_nar _) hX
                    · replace hm := xif_f q hm
                      refine xw_iconst (pc := 433) (v := 1) C dL_flashes_433 xk_i_1 ?_
                      refine xw_goto (pc := 434) (tgt := 438) C dL_flashes_434 (by decide) ?_
                      obtain rfl := Option.some.inj hm
                      exact xw_zreturn (pc := 438) (v := xbi true) C dL_flashes_438 rfl (xbi_nar _) hX
    · replace hm := xif_f q hm
      refine xw_iconst (pc := 68) (v := 0) C dL_flashes_68 xk_i_0 ?_
      obtain rfl := Option.some.inj hm
      exact xw_zreturn (pc := 69) (v := xbi false) C dL_flashes_69 rfl (xbi_nar _) hX
