def fL_readings_P84 (X : XCtx) (x0 : Nat) (x1 : Int32) (x3 : Int32) (x5 : Int32) (x8 : Nat) (x9 : Int32) (n sl : Nat) (s : (XH × Int32 × Int32 × Int32 × Int32 × Int32)) : Prop := XW X 84 [some (.ref x0), some (.int x1), none, some (.int x3), some (.int s.2.1), some (.int x5), some (.int s.2.2.1), some (.int s.2.2.2.1), some (.ref x8), some (.int x9), some (.int s.2.2.2.2.1), some (.int s.2.2.2.2.2), none, none, none] [] s.1 n sl
def fL_readings_E84 (X : XCtx) (x0 : Nat) (x1 : Int32) (x3 : Int32) (x5 : Int32) (x8 : Nat) (x9 : Int32) (n sl : Nat) (e : (XH ⊕ (XH × Int32 × Int32 × Int32))) : Prop := match e with
  | .inl e => XW X 112 [none, none, none, none, none, none, none, none, none, none, none, none, none, none, none] [] e n sl
  | .inr e => XW X 219 [some (.ref x0), some (.int x1), none, some (.int x3), some (.int e.2.1), some (.int x5), some (.int e.2.2.1), none, none, some (.int x9), some (.int e.2.2.2), none, none, none, none] [] e.1 n sl
set_option maxHeartbeats 4000000 in
set_option maxRecDepth 100000 in
theorem fL_readings_J211_w {X : XCtx} (C : XOK X RL cL_readings 15 "readings" (some .boolean) 6 138) {n sl : Nat} (hN : XN X n sl)  {h : XH} {x0 : Nat} {x1 : Int32} {x3 : Int32} {x4 : Int32} {x5 : Int32} {x6 : Int32} {x7 : Int32} {x8 : Nat} {x9 : Int32} {x11 : Int32} {s0 : Int32} {o : (XH × Int32 × Int32 × Int32 × Int32 × Int32) ⊕ (XH ⊕ (XH × Int32 × Int32 × Int32))} (hm : fL_readings_J211 h x0 x1 x3 x4 x5 x6 x7 x8 x9 x11 s0 = some o) (hc : ∀ s', o = .inl s' → fL_readings_P84 X x0 x1 x3 x5 x8 x9 n sl s') (he : ∀ e', o = .inr e' → fL_readings_E84 X x0 x1 x3 x5 x8 x9 n sl e') : XW X 211 [some (.ref x0), some (.int x1), none, some (.int x3), some (.int x4), some (.int x5), some (.int x6), some (.int x7), some (.ref x8), some (.int x9), none, some (.int x11), none, none, none] [.int s0] h n sl := by
  unfold fL_readings_J211 at hm
  refine xw_istore (pc := 211) (i := 10) (x := s0) (L' := [some (.ref x0), some (.int x1), none, some (.int x3), some (.int x4), some (.int x5), some (.int x6), some (.int x7), some (.ref x8), some (.int x9), some (.int s0), some (.int x11), none, none, none]) C dL_readings_211 (Nat.le_of_ble_eq_true rfl) rfl ?_
  refine xw_iinc (pc := 213) (i := 11) (x := x11) (v := (x11 + (1 : Int32))) (L' := [some (.ref x0), some (.int x1), none, some (.int x3), some (.int x4), some (.int x5), some (.int x6), some (.int x7), some (.ref x8), some (.int x9), some (.int s0), some (.int (x11 + (1 : Int32))), none, none, none]) C dL_readings_213 rfl (congrArg (HAdd.hAdd _) xk_i_1) (Nat.le_of_ble_eq_true rfl) rfl ?_
  refine xw_goto (pc := 216) (tgt := 84) C dL_readings_216 (by decide) ?_
  obtain rfl := Option.some.inj hm
  refine xw_sub (pc := 84) _ ?_ (hc _ rfl)
  exact ⟨Or.inr rfl, Or.inr rfl, Or.inl rfl, Or.inr rfl, Or.inr rfl, Or.inr rfl, Or.inr rfl, Or.inr rfl, Or.inr rfl, Or.inr rfl, Or.inr rfl, Or.inr rfl, Or.inl rfl, Or.inl rfl, Or.inl rfl, trivial⟩
set_option maxHeartbeats 4000000 in
set_option maxRecDepth 100000 in
theorem fL_readings_J169_w {X : XCtx} (C : XOK X RL cL_readings 15 "readings" (some .boolean) 6 138) {n sl : Nat} (hN : XN X n sl)  {h : XH} {x0 : Nat} {x1 : Int32} {x3 : Int32} {x4 : Int32} {x5 : Int32} {x6 : Int32} {x8 : Nat} {x9 : Int32} {x10 : Int32} {x11 : Int32} {s0 : Int32} {o : (XH × Int32 × Int32 × Int32 × Int32 × Int32) ⊕ (XH ⊕ (XH × Int32 × Int32 × Int32))} (hm : fL_readings_J169 h x0 x1 x3 x4 x5 x6 x8 x9 x10 x11 s0 = some o) (hc : ∀ s', o = .inl s' → fL_readings_P84 X x0 x1 x3 x5 x8 x9 n sl s') (he : ∀ e', o = .inr e' → fL_readings_E84 X x0 x1 x3 x5 x8 x9 n sl e') : XW X 169 [some (.ref x0), some (.int x1), none, some (.int x3), some (.int x4), some (.int x5), some (.int x6), none, some (.ref x8), some (.int x9), some (.int x10), some (.int x11), none, none, none] [.int s0] h n sl := by
  unfold fL_readings_J169 at hm
  refine xw_istore (pc := 169) (i := 7) (x := s0) (L' := [some (.ref x0), some (.int x1), none, some (.int x3), some (.int x4), some (.int x5), some (.int x6), some (.int s0), some (.ref x8), some (.int x9), some (.int x10), some (.int x11), none, none, none]) C dL_readings_169 (Nat.le_of_ble_eq_true rfl) rfl ?_
  refine xw_iload (pc := 171) (i := 11) (x := x11) C dL_readings_171 rfl ?_
  refine xw_iload (pc := 173) (i := 9) (x := x9) C dL_readings_173 rfl ?_
  refine xw_imul (pc := 175) C dL_readings_175 ?_
  refine xw_iload_n (pc := 176) (i := 1) (x := x1) C dL_readings_176 rfl rfl ?_
  obtain ⟨v19, q20, hm⟩ := xbind hm
  refine xw_callS1 (pc := 177) (As := [.int (x11 * x9), .int x1]) (st := []) C dL_readings_177 (wL_mod q20) dd_L_mod lk_L_43 ds_L_mod rfl (Nat.le_of_ble_eq_true rfl) (Nat.le_of_ble_eq_true rfl) (Nat.le_of_ble_eq_true rfl) ⟨Nat.le_refl _, Nat.le_refl _⟩ ⟨by have := hN.1; omega, by have := hN.2; omega⟩ ?_
  refine xw_istore (pc := 180) (i := 13) (x := v19) (L' := [some (.ref x0), some (.int x1), none, some (.int x3), some (.int x4), some (.int x5), some (.int x6), some (.int s0), some (.ref x8), some (.int x9), some (.int x10), some (.int x11), none, some (.int v19), none]) C dL_readings_180 (Nat.le_of_ble_eq_true rfl) rfl ?_
  refine xw_aload (pc := 182) (i := 8) (x := x8) C dL_readings_182 rfl ?_
  refine xw_iload (pc := 184) (i := 13) (x := v19) C dL_readings_184 rfl ?_
  refine xw_dup2 (pc := 186) C dL_readings_186 rfl rfl ?_
  obtain ⟨v21, q22, hm⟩ := xbind hm
  refine xw_iaload (pc := 187) C dL_readings_187 q22 ?_
  refine xw_iconst (pc := 188) (v := 1) C dL_readings_188 xk_i_1 ?_
  refine xw_iadd (pc := 189) C dL_readings_189 ?_
  obtain ⟨h23, q24, hm⟩ := xbind hm
  refine xw_iastore (pc := 190) C dL_readings_190 q24 ?_
  refine xw_aload (pc := 191) (i := 8) (x := x8) C dL_readings_191 rfl ?_
  refine xw_iload (pc := 193) (i := 13) (x := v19) C dL_readings_193 rfl ?_
  obtain ⟨v25, q26, hm⟩ := xbind hm
  refine xw_iaload (pc := 195) C dL_readings_195 q26 ?_
  refine xw_iload (pc := 196) (i := 10) (x := x10) C dL_readings_196 rfl ?_
  refine xw_icmp_le (pc := 198) (tgt := 209) C dL_readings_198 (by decide) (fun q => ?_) (fun q => ?_)
  · replace hm := xif_t q hm
    refine xw_iload (pc := 209) (i := 10) (x := x10) C dL_readings_209 rfl ?_
    exact xw_sub (pc := 211) [some (.ref x0), some (.int x1), none, some (.int x3), some (.int x4), some (.int x5), some (.int x6), some (.int s0), some (.ref x8), some (.int x9), none, some (.int x11), none, none, none] ⟨Or.inr rfl, Or.inr rfl, Or.inl rfl, Or.inr rfl, Or.inr rfl, Or.inr rfl, Or.inr rfl, Or.inr rfl, Or.inr rfl, Or.inr rfl, Or.inl rfl, Or.inr rfl, Or.inl rfl, Or.inl rfl, Or.inl rfl, trivial⟩ (fL_readings_J211_w C hN hm hc he)
  · replace hm := xif_f q hm
    refine xw_aload (pc := 201) (i := 8) (x := x8) C dL_readings_201 rfl ?_
    refine xw_iload (pc := 203) (i := 13) (x := v19) C dL_readings_203 rfl ?_
    obtain ⟨v27, q28, hm⟩ := xbind hm
    refine xw_iaload (pc := 205) C dL_readings_205 q28 ?_
    refine xw_goto (pc := 206) (tgt := 211) C dL_readings_206 (by decide) ?_
    exact xw_sub (pc := 211) [some (.ref x0), some (.int x1), none, some (.int x3), some (.int x4), some (.int x5), some (.int x6), some (.int s0), some (.ref x8), some (.int x9), none, some (.int x11), none, none, none] ⟨Or.inr rfl, Or.inr rfl, Or.inl rfl, Or.inr rfl, Or.inr rfl, Or.inr rfl, Or.inr rfl, Or.inr rfl, Or.inr rfl, Or.inr rfl, Or.inl rfl, Or.inr rfl, Or.inl rfl, Or.inl rfl, Or.inl rfl, trivial⟩ (fL_readings_J211_w C hN hm hc he)
set_option maxHeartbeats 4000000 in
set_option maxRecDepth 100000 in
theorem fL_readings_J153_w {X : XCtx} (C : XOK X RL cL_readings 15 "readings" (some .boolean) 6 138) {n sl : Nat} (hN : XN X n sl)  {h : XH} {x0 : Nat} {x1 : Int32} {x3 : Int32} {x4 : Int32} {x5 : Int32} {x7 : Int32} {x8 : Nat} {x9 : Int32} {x10 : Int32} {x11 : Int32} {x12 : Int32} {s0 : Int32} {o : (XH × Int32 × Int32 × Int32 × Int32 × Int32) ⊕ (XH ⊕ (XH × Int32 × Int32 × Int32))} (hm : fL_readings_J153 h x0 x1 x3 x4 x5 x7 x8 x9 x10 x11 x12 s0 = some o) (hc : ∀ s', o = .inl s' → fL_readings_P84 X x0 x1 x3 x5 x8 x9 n sl s') (he : ∀ e', o = .inr e' → fL_readings_E84 X x0 x1 x3 x5 x8 x9 n sl e') : XW X 153 [some (.ref x0), some (.int x1), none, some (.int x3), some (.int x4), some (.int x5), none, some (.int x7), some (.ref x8), some (.int x9), some (.int x10), some (.int x11), some (.int x12), none, none] [.int s0] h n sl := by
  unfold fL_readings_J153 at hm
  refine xw_istore (pc := 153) (i := 6) (x := s0) (L' := [some (.ref x0), some (.int x1), none, some (.int x3), some (.int x4), some (.int x5), some (.int s0), some (.int x7), some (.ref x8), some (.int x9), some (.int x10), some (.int x11), some (.int x12), none, none]) C dL_readings_153 (Nat.le_of_ble_eq_true rfl) rfl ?_
  refine xw_iload (pc := 155) (i := 12) (x := x12) C dL_readings_155 rfl ?_
  refine xw_iload (pc := 157) (i := 7) (x := x7) C dL_readings_157 rfl ?_
  refine xw_icmp_ge (pc := 159) (tgt := 167) C dL_readings_159 (by decide) (fun q => ?_) (fun q => ?_)
  · replace hm := xif_t q hm
    refine xw_iload (pc := 167) (i := 7) (x := x7) C dL_readings_167 rfl ?_
    exact xw_sub (pc := 169) [some (.ref x0), some (.int x1), none, some (.int x3), some (.int x4), some (.int x5), some (.int s0), none, some (.ref x8), some (.int x9), some (.int x10), some (.int x11), none, none, none] ⟨Or.inr rfl, Or.inr rfl, Or.inl rfl, Or.inr rfl, Or.inr rfl, Or.inr rfl, Or.inr rfl, Or.inl rfl, Or.inr rfl, Or.inr rfl, Or.inr rfl, Or.inr rfl, Or.inl rfl, Or.inl rfl, Or.inl rfl, trivial⟩ (fL_readings_J169_w C hN hm hc he)
  · replace hm := xif_f q hm
    refine xw_iload (pc := 162) (i := 12) (x := x12) C dL_readings_162 rfl ?_
    refine xw_goto (pc := 164) (tgt := 169) C dL_readings_164 (by decide) ?_
    exact xw_sub (pc := 169) [some (.ref x0), some (.int x1), none, some (.int x3), some (.int x4), some (.int x5), some (.int s0), none, some (.ref x8), some (.int x9), some (.int x10), some (.int x11), none, none, none] ⟨Or.inr rfl, Or.inr rfl, Or.inl rfl, Or.inr rfl, Or.inr rfl, Or.inr rfl, Or.inr rfl, Or.inl rfl, Or.inr rfl, Or.inr rfl, Or.inr rfl, Or.inr rfl, Or.inl rfl, Or.inl rfl, Or.inl rfl, trivial⟩ (fL_readings_J169_w C hN hm hc he)
set_option maxHeartbeats 4000000 in
set_option maxRecDepth 100000 in
theorem fL_readings_J137_w {X : XCtx} (C : XOK X RL cL_readings 15 "readings" (some .boolean) 6 138) {n sl : Nat} (hN : XN X n sl)  {h : XH} {x0 : Nat} {x1 : Int32} {x3 : Int32} {x4 : Int32} {x5 : Int32} {x6 : Int32} {x7 : Int32} {x8 : Nat} {x9 : Int32} {x10 : Int32} {x11 : Int32} {s0 : Int32} {o : (XH × Int32 × Int32 × Int32 × Int32 × Int32) ⊕ (XH ⊕ (XH × Int32 × Int32 × Int32))} (hm : fL_readings_J137 h x0 x1 x3 x4 x5 x6 x7 x8 x9 x10 x11 s0 = some o) (hc : ∀ s', o = .inl s' → fL_readings_P84 X x0 x1 x3 x5 x8 x9 n sl s') (he : ∀ e', o = .inr e' → fL_readings_E84 X x0 x1 x3 x5 x8 x9 n sl e') : XW X 137 [some (.ref x0), some (.int x1), none, some (.int x3), some (.int x4), some (.int x5), some (.int x6), some (.int x7), some (.ref x8), some (.int x9), some (.int x10), some (.int x11), none, none, none] [.int s0] h n sl := by
  unfold fL_readings_J137 at hm
  refine xw_istore (pc := 137) (i := 12) (x := s0) (L' := [some (.ref x0), some (.int x1), none, some (.int x3), some (.int x4), some (.int x5), some (.int x6), some (.int x7), some (.ref x8), some (.int x9), some (.int x10), some (.int x11), some (.int s0), none, none]) C dL_readings_137 (Nat.le_of_ble_eq_true rfl) rfl ?_
  refine xw_iload (pc := 139) (i := 12) (x := s0) C dL_readings_139 rfl ?_
  refine xw_iload (pc := 141) (i := 7) (x := x7) C dL_readings_141 rfl ?_
  refine xw_icmp_ge (pc := 143) (tgt := 151) C dL_readings_143 (by decide) (fun q => ?_) (fun q => ?_)
  · replace hm := xif_t q hm
    refine xw_iload (pc := 151) (i := 6) (x := x6) C dL_readings_151 rfl ?_
    exact xw_sub (pc := 153) [some (.ref x0), some (.int x1), none, some (.int x3), some (.int x4), some (.int x5), none, some (.int x7), some (.ref x8), some (.int x9), some (.int x10), some (.int x11), some (.int s0), none, none] ⟨Or.inr rfl, Or.inr rfl, Or.inl rfl, Or.inr rfl, Or.inr rfl, Or.inr rfl, Or.inl rfl, Or.inr rfl, Or.inr rfl, Or.inr rfl, Or.inr rfl, Or.inr rfl, Or.inr rfl, Or.inl rfl, Or.inl rfl, trivial⟩ (fL_readings_J153_w C hN hm hc he)
  · replace hm := xif_f q hm
    refine xw_iload (pc := 146) (i := 11) (x := x11) C dL_readings_146 rfl ?_
    refine xw_goto (pc := 148) (tgt := 153) C dL_readings_148 (by decide) ?_
    exact xw_sub (pc := 153) [some (.ref x0), some (.int x1), none, some (.int x3), some (.int x4), some (.int x5), none, some (.int x7), some (.ref x8), some (.int x9), some (.int x10), some (.int x11), some (.int s0), none, none] ⟨Or.inr rfl, Or.inr rfl, Or.inl rfl, Or.inr rfl, Or.inr rfl, Or.inr rfl, Or.inl rfl, Or.inr rfl, Or.inr rfl, Or.inr rfl, Or.inr rfl, Or.inr rfl, Or.inr rfl, Or.inl rfl, Or.inl rfl, trivial⟩ (fL_readings_J153_w C hN hm hc he)
set_option maxHeartbeats 4000000 in
set_option maxRecDepth 100000 in
theorem fL_readings_B84_w {X : XCtx} (C : XOK X RL cL_readings 15 "readings" (some .boolean) 6 138) {n sl : Nat} (hN : XN X n sl) {x0 : Nat} {x1 : Int32} {x3 : Int32} {x5 : Int32} {x8 : Nat} {x9 : Int32} (s : (XH × Int32 × Int32 × Int32 × Int32 × Int32)) (o : (XH × Int32 × Int32 × Int32 × Int32 × Int32) ⊕ (XH ⊕ (XH × Int32 × Int32 × Int32))) (hm : fL_readings_B84 x0 x1 x3 x5 x8 x9 s = some o) (hc : ∀ s', o = .inl s' → fL_readings_P84 X x0 x1 x3 x5 x8 x9 n sl s') (he : ∀ e', o = .inr e' → fL_readings_E84 X x0 x1 x3 x5 x8 x9 n sl e') : fL_readings_P84 X x0 x1 x3 x5 x8 x9 n sl s := by
  obtain ⟨h, x4, x6, x7, x10, x11⟩ := s
  show XW X 84 [some (.ref x0), some (.int x1), none, some (.int x3), some (.int x4), some (.int x5), some (.int x6), some (.int x7), some (.ref x8), some (.int x9), some (.int x10), some (.int x11), none, none, none] [] h n sl
  replace hm : fL_readings_b84 x0 x1 x3 x5 x8 x9 h x4 x6 x7 x10 x11 = some o := hm
  unfold fL_readings_b84 at hm
  refine xw_iload (pc := 84) (i := 11) (x := x11) C dL_readings_84 rfl ?_
  refine xw_iload_n (pc := 86) (i := 3) (x := x3) C dL_readings_86 rfl rfl ?_
  refine xw_icmp_gt (pc := 87) (tgt := 219) C dL_readings_87 (by decide) (fun q => ?_) (fun q => ?_)
  · replace hm := xif_t q hm
    obtain rfl := Option.some.inj hm
    refine xw_sub (pc := 219) _ ?_ (he _ rfl)
    exact ⟨Or.inr rfl, Or.inr rfl, Or.inl rfl, Or.inr rfl, Or.inr rfl, Or.inr rfl, Or.inr rfl, Or.inl rfl, Or.inl rfl, Or.inr rfl, Or.inr rfl, Or.inl rfl, Or.inl rfl, Or.inl rfl, Or.inl rfl, trivial⟩
  · replace hm := xif_f q hm
    refine xw_aload_n (pc := 90) (i := 0) (x := x0) C dL_readings_90 rfl rfl ?_
    refine xw_iload (pc := 91) (i := 11) (x := x11) C dL_readings_91 rfl ?_
    refine xw_iconst (pc := 93) (v := -1) C dL_readings_93 xk_i_m1 ?_
    refine xw_iload_n (pc := 94) (i := 1) (x := x1) C dL_readings_94 rfl rfl ?_
    obtain ⟨v14, q15, hm⟩ := xbind hm
    refine xw_callS1 (pc := 95) (As := [.ref x0, .int x11, .int (-1 : Int32), .int x1]) (st := []) C dL_readings_95 (wL_fits q15) dd_L_fits lk_L_73 ds_L_fits rfl (Nat.le_of_ble_eq_true rfl) (Nat.le_of_ble_eq_true rfl) (Nat.le_of_ble_eq_true rfl) ⟨Nat.le_refl _, Nat.le_refl _⟩ ⟨by have := hN.1; omega, by have := hN.2; omega⟩ ?_
    refine xw_if_eqZ (pc := 98) (b := v14.1) (tgt := 213) C dL_readings_98 (by decide) (fun q => ?_) (fun q => ?_)
    · replace hm := xif_f q hm
      refine xw_iinc (pc := 213) (i := 11) (x := x11) (v := (x11 + (1 : Int32))) (L' := [some (.ref x0), some (.int x1), none, some (.int x3), some (.int x4), some (.int x5), some (.int x6), some (.int x7), some (.ref x8), some (.int x9), some (.int x10), some (.int (x11 + (1 : Int32))), none, none, none]) C dL_readings_213 rfl (congrArg (HAdd.hAdd _) xk_i_1) (Nat.le_of_ble_eq_true rfl) rfl ?_
      refine xw_goto (pc := 216) (tgt := 84) C dL_readings_216 (by decide) ?_
      obtain rfl := Option.some.inj hm
      refine xw_sub (pc := 84) _ ?_ (hc _ rfl)
      exact ⟨Or.inr rfl, Or.inr rfl, Or.inl rfl, Or.inr rfl, Or.inr rfl, Or.inr rfl, Or.inr rfl, Or.inr rfl, Or.inr rfl, Or.inr rfl, Or.inr rfl, Or.inr rfl, Or.inl rfl, Or.inl rfl, Or.inl rfl, trivial⟩
    · replace hm := xif_t q hm
      refine xw_aload_n (pc := 101) (i := 0) (x := x0) C dL_readings_101 rfl rfl ?_
      refine xw_iload (pc := 102) (i := 4) (x := x4) C dL_readings_102 rfl ?_
      obtain ⟨_, q16, hm⟩ := xbind hm
      obtain ⟨v17, q18, hm⟩ := xbind hm
      refine xw_callV1 (pc := 104) (As := [.int x4]) (st := []) C dL_readings_104 (wX8_candidate q18) dd_X8_candidate lk_L_77 dv_X8_candidate (xco_spec q16) rfl (Nat.le_of_ble_eq_true rfl) (Nat.le_of_ble_eq_true rfl) (Nat.le_of_ble_eq_true rfl) ⟨Nat.le_refl _, Nat.le_refl _⟩ ⟨by have := hN.1; omega, by have := hN.2; omega⟩ ?_
      refine xw_iload (pc := 107) (i := 11) (x := x11) C dL_readings_107 rfl ?_
      refine xw_icmp_eq (pc := 109) (tgt := 114) C dL_readings_109 (by decide) (fun q => ?_) (fun q => ?_)
      · replace hm := xif_t q hm
        refine xw_iinc (pc := 114) (i := 4) (x := x4) (v := (x4 + (1 : Int32))) (L' := [some (.ref x0), some (.int x1), none, some (.int x3), some (.int (x4 + (1 : Int32))), some (.int x5), some (.int x6), some (.int x7), some (.ref x8), some (.int x9), some (.int x10), some (.int x11), none, none, none]) C dL_readings_114 rfl (congrArg (HAdd.hAdd _) xk_i_1) (Nat.le_of_ble_eq_true rfl) rfl ?_
        refine xw_iload (pc := 117) (i := 11) (x := x11) C dL_readings_117 rfl ?_
        refine xw_iload (pc := 119) (i := 5) (x := x5) C dL_readings_119 rfl ?_
        refine xw_icmp_le (pc := 121) (tgt := 132) C dL_readings_121 (by decide) (fun q => ?_) (fun q => ?_)
        · replace hm := xif_t q hm
          refine xw_iload (pc := 132) (i := 5) (x := x5) C dL_readings_132 rfl ?_
          refine xw_iload (pc := 134) (i := 11) (x := x11) C dL_readings_134 rfl ?_
          refine xw_isub (pc := 136) C dL_readings_136 ?_
          exact xw_sub (pc := 137) [some (.ref x0), some (.int x1), none, some (.int x3), some (.int (x4 + (1 : Int32))), some (.int x5), some (.int x6), some (.int x7), some (.ref x8), some (.int x9), some (.int x10), some (.int x11), none, none, none] ⟨Or.inr rfl, Or.inr rfl, Or.inl rfl, Or.inr rfl, Or.inr rfl, Or.inr rfl, Or.inr rfl, Or.inr rfl, Or.inr rfl, Or.inr rfl, Or.inr rfl, Or.inr rfl, Or.inl rfl, Or.inl rfl, Or.inl rfl, trivial⟩ (fL_readings_J137_w C hN hm hc he)
        · replace hm := xif_f q hm
          refine xw_iload (pc := 124) (i := 11) (x := x11) C dL_readings_124 rfl ?_
          refine xw_iload (pc := 126) (i := 5) (x := x5) C dL_readings_126 rfl ?_
          refine xw_isub (pc := 128) C dL_readings_128 ?_
          refine xw_goto (pc := 129) (tgt := 137) C dL_readings_129 (by decide) ?_
          exact xw_sub (pc := 137) [some (.ref x0), some (.int x1), none, some (.int x3), some (.int (x4 + (1 : Int32))), some (.int x5), some (.int x6), some (.int x7), some (.ref x8), some (.int x9), some (.int x10), some (.int x11), none, none, none] ⟨Or.inr rfl, Or.inr rfl, Or.inl rfl, Or.inr rfl, Or.inr rfl, Or.inr rfl, Or.inr rfl, Or.inr rfl, Or.inr rfl, Or.inr rfl, Or.inr rfl, Or.inr rfl, Or.inl rfl, Or.inl rfl, Or.inl rfl, trivial⟩ (fL_readings_J137_w C hN hm hc he)
      · replace hm := xif_f q hm
        obtain rfl := Option.some.inj hm
        refine xw_sub (pc := 112) _ ?_ (he _ rfl)
        exact ⟨Or.inl rfl, Or.inl rfl, Or.inl rfl, Or.inl rfl, Or.inl rfl, Or.inl rfl, Or.inl rfl, Or.inl rfl, Or.inl rfl, Or.inl rfl, Or.inl rfl, Or.inl rfl, Or.inl rfl, Or.inl rfl, Or.inl rfl, trivial⟩
def fL_readings_P268 (X : XCtx) (x0 : Nat) (x1 : Int32) (x3 : Int32) (x4 : Int32) (x9 : Int32) (x10 : Int32) (n sl : Nat) (s : (XH × Int32 × Int32)) : Prop := XW X 268 [some (.ref x0), some (.int x1), none, some (.int x3), some (.int x4), none, none, none, none, some (.int x9), some (.int x10), some (.int s.2.1), some (.int s.2.2), none, none] [] s.1 n sl
def fL_readings_E268 (X : XCtx) (x0 : Nat) (x1 : Int32) (x3 : Int32) (x4 : Int32) (x9 : Int32) (x10 : Int32) (n sl : Nat) (e : (XH ⊕ (XH × Int32))) : Prop := match e with
  | .inl e => XW X 347 [none, none, none, none, none, none, none, none, none, none, none, none, none, none, none] [] e n sl
  | .inr e => XW X 355 [some (.ref x0), none, none, none, some (.int x4), none, none, none, none, some (.int x9), some (.int x10), some (.int e.2), none, none, none] [] e.1 n sl
def fL_readings_P280 (X : XCtx) (x0 : Nat) (x1 : Int32) (x3 : Int32) (x4 : Int32) (x9 : Int32) (x10 : Int32) (x11 : Int32) (x12 : Int32) (n sl : Nat) (s : (XH × Int32 × Int32)) : Prop := XW X 280 [some (.ref x0), some (.int x1), none, some (.int x3), some (.int x4), none, none, none, none, some (.int x9), some (.int x10), some (.int x11), some (.int x12), some (.int s.2.1), some (.int s.2.2)] [] s.1 n sl
def fL_readings_E280 (X : XCtx) (x0 : Nat) (x1 : Int32) (x3 : Int32) (x4 : Int32) (x9 : Int32) (x10 : Int32) (x11 : Int32) (x12 : Int32) (n sl : Nat) (e : (XH × Int32)) : Prop := XW X 314 [some (.ref x0), some (.int x1), none, some (.int x3), some (.int x4), none, none, none, none, some (.int x9), some (.int x10), some (.int x11), some (.int x12), some (.int e.2), none] [] e.1 n sl
set_option maxHeartbeats 4000000 in
set_option maxRecDepth 100000 in
theorem fL_readings_B280_w {X : XCtx} (C : XOK X RL cL_readings 15 "readings" (some .boolean) 6 138) {n sl : Nat} (hN : XN X n sl) {x0 : Nat} {x1 : Int32} {x3 : Int32} {x4 : Int32} {x9 : Int32} {x10 : Int32} {x11 : Int32} {x12 : Int32} (s : (XH × Int32 × Int32)) (o : (XH × Int32 × Int32) ⊕ (XH × Int32)) (hm : fL_readings_B280 x0 x1 x3 x4 x9 x10 x11 x12 s = some o) (hc : ∀ s', o = .inl s' → fL_readings_P280 X x0 x1 x3 x4 x9 x10 x11 x12 n sl s') (he : ∀ e', o = .inr e' → fL_readings_E280 X x0 x1 x3 x4 x9 x10 x11 x12 n sl e') : fL_readings_P280 X x0 x1 x3 x4 x9 x10 x11 x12 n sl s := by
  obtain ⟨h, x13, x14⟩ := s
  show XW X 280 [some (.ref x0), some (.int x1), none, some (.int x3), some (.int x4), none, none, none, none, some (.int x9), some (.int x10), some (.int x11), some (.int x12), some (.int x13), some (.int x14)] [] h n sl
  replace hm : fL_readings_b280 x0 x1 x3 x4 x9 x10 x11 x12 h x13 x14 = some o := hm
  unfold fL_readings_b280 at hm
  refine xw_iload (pc := 280) (i := 14) (x := x14) C dL_readings_280 rfl ?_
  refine xw_iload_n (pc := 282) (i := 3) (x := x3) C dL_readings_282 rfl rfl ?_
  refine xw_icmp_gt (pc := 283) (tgt := 314) C dL_readings_283 (by decide) (fun q => ?_) (fun q => ?_)
  · replace hm := xif_t q hm
    obtain rfl := Option.some.inj hm
    refine xw_sub (pc := 314) _ ?_ (he _ rfl)
    exact ⟨Or.inr rfl, Or.inr rfl, Or.inl rfl, Or.inr rfl, Or.inr rfl, Or.inl rfl, Or.inl rfl, Or.inl rfl, Or.inl rfl, Or.inr rfl, Or.inr rfl, Or.inr rfl, Or.inr rfl, Or.inr rfl, Or.inl rfl, trivial⟩
  · replace hm := xif_f q hm
    refine xw_iload (pc := 286) (i := 13) (x := x13) C dL_readings_286 rfl ?_
    refine xw_aload_n (pc := 288) (i := 0) (x := x0) C dL_readings_288 rfl rfl ?_
    refine xw_iload (pc := 289) (i := 14) (x := x14) C dL_readings_289 rfl ?_
    refine xw_iload (pc := 291) (i := 12) (x := x12) C dL_readings_291 rfl ?_
    refine xw_iload_n (pc := 293) (i := 1) (x := x1) C dL_readings_293 rfl rfl ?_
    obtain ⟨v43, q44, hm⟩ := xbind hm
    refine xw_callS1 (pc := 294) (As := [.ref x0, .int x14, .int x12, .int x1]) (st := [.int x13]) C dL_readings_294 (wL_fits q44) dd_L_fits lk_L_73 ds_L_fits rfl (Nat.le_of_ble_eq_true rfl) (Nat.le_of_ble_eq_true rfl) (Nat.le_of_ble_eq_true rfl) ⟨Nat.le_refl _, Nat.le_refl _⟩ ⟨by have := hN.1; omega, by have := hN.2; omega⟩ ?_
    refine xw_if_eqZ (pc := 297) (b := v43.1) (tgt := 304) C dL_readings_297 (by decide) (fun q => ?_) (fun q => ?_)
    · replace hm := xif_f q hm
      refine xw_iconst (pc := 304) (v := 0) C dL_readings_304 xk_i_0 ?_
      refine xw_iadd (pc := 305) C dL_readings_305 ?_
      refine xw_istore (pc := 306) (i := 13) (x := (x13 + (0 : Int32))) (L' := [some (.ref x0), some (.int x1), none, some (.int x3), some (.int x4), none, none, none, none, some (.int x9), some (.int x10), some (.int x11), some (.int x12), some (.int (x13 + (0 : Int32))), some (.int x14)]) C dL_readings_306 (Nat.le_of_ble_eq_true rfl) rfl ?_
      refine xw_iinc (pc := 308) (i := 14) (x := x14) (v := (x14 + (1 : Int32))) (L' := [some (.ref x0), some (.int x1), none, some (.int x3), some (.int x4), none, none, none, none, some (.int x9), some (.int x10), some (.int x11), some (.int x12), some (.int (x13 + (0 : Int32))), some (.int (x14 + (1 : Int32)))]) C dL_readings_308 rfl (congrArg (HAdd.hAdd _) xk_i_1) (Nat.le_of_ble_eq_true rfl) rfl ?_
      refine xw_goto (pc := 311) (tgt := 280) C dL_readings_311 (by decide) ?_
      obtain rfl := Option.some.inj hm
      refine xw_sub (pc := 280) _ ?_ (hc _ rfl)
      exact ⟨Or.inr rfl, Or.inr rfl, Or.inl rfl, Or.inr rfl, Or.inr rfl, Or.inl rfl, Or.inl rfl, Or.inl rfl, Or.inl rfl, Or.inr rfl, Or.inr rfl, Or.inr rfl, Or.inr rfl, Or.inr rfl, Or.inr rfl, trivial⟩
    · replace hm := xif_t q hm
      refine xw_iconst (pc := 300) (v := 1) C dL_readings_300 xk_i_1 ?_
      refine xw_goto (pc := 301) (tgt := 305) C dL_readings_301 (by decide) ?_
      refine xw_iadd (pc := 305) C dL_readings_305 ?_
      refine xw_istore (pc := 306) (i := 13) (x := (x13 + (1 : Int32))) (L' := [some (.ref x0), some (.int x1), none, some (.int x3), some (.int x4), none, none, none, none, some (.int x9), some (.int x10), some (.int x11), some (.int x12), some (.int (x13 + (1 : Int32))), some (.int x14)]) C dL_readings_306 (Nat.le_of_ble_eq_true rfl) rfl ?_
      refine xw_iinc (pc := 308) (i := 14) (x := x14) (v := (x14 + (1 : Int32))) (L' := [some (.ref x0), some (.int x1), none, some (.int x3), some (.int x4), none, none, none, none, some (.int x9), some (.int x10), some (.int x11), some (.int x12), some (.int (x13 + (1 : Int32))), some (.int (x14 + (1 : Int32)))]) C dL_readings_308 rfl (congrArg (HAdd.hAdd _) xk_i_1) (Nat.le_of_ble_eq_true rfl) rfl ?_
      refine xw_goto (pc := 311) (tgt := 280) C dL_readings_311 (by decide) ?_
      obtain rfl := Option.some.inj hm
      refine xw_sub (pc := 280) _ ?_ (hc _ rfl)
      exact ⟨Or.inr rfl, Or.inr rfl, Or.inl rfl, Or.inr rfl, Or.inr rfl, Or.inl rfl, Or.inl rfl, Or.inl rfl, Or.inl rfl, Or.inr rfl, Or.inr rfl, Or.inr rfl, Or.inr rfl, Or.inr rfl, Or.inr rfl, trivial⟩
set_option maxHeartbeats 4000000 in
set_option maxRecDepth 100000 in
theorem fL_readings_J326_w {X : XCtx} (C : XOK X RL cL_readings 15 "readings" (some .boolean) 6 138) {n sl : Nat} (hN : XN X n sl)  {h : XH} {x0 : Nat} {x1 : Int32} {x3 : Int32} {x4 : Int32} {x9 : Int32} {x10 : Int32} {x12 : Int32} {x13 : Int32} {s0 : Int32} {o : (XH × Int32 × Int32) ⊕ (XH ⊕ (XH × Int32))} (hm : fL_readings_J326 h x0 x1 x3 x4 x9 x10 x12 x13 s0 = some o) (hc : ∀ s', o = .inl s' → fL_readings_P268 X x0 x1 x3 x4 x9 x10 n sl s') (he : ∀ e', o = .inr e' → fL_readings_E268 X x0 x1 x3 x4 x9 x10 n sl e') : XW X 326 [some (.ref x0), some (.int x1), none, some (.int x3), some (.int x4), none, none, none, none, some (.int x9), some (.int x10), none, some (.int x12), some (.int x13), none] [.int s0] h n sl := by
  unfold fL_readings_J326 at hm
  refine xw_istore (pc := 326) (i := 11) (x := s0) (L' := [some (.ref x0), some (.int x1), none, some (.int x3), some (.int x4), none, none, none, none, some (.int x9), some (.int x10), some (.int s0), some (.int x12), some (.int x13), none]) C dL_readings_326 (Nat.le_of_ble_eq_true rfl) rfl ?_
  refine xw_aload_n (pc := 328) (i := 0) (x := x0) C dL_readings_328 rfl rfl ?_
  refine xw_iload (pc := 329) (i := 12) (x := x12) C dL_readings_329 rfl ?_
  refine xw_iconst (pc := 331) (v := 2) C dL_readings_331 xk_i_2 ?_
  obtain ⟨_, q47, hm⟩ := xbind hm
  obtain ⟨v48, q49, hm⟩ := xbind hm
  refine xw_callV1 (pc := 332) (As := [.int x12, .int (2 : Int32)]) (st := []) C dL_readings_332 (wX8_reading q49) dd_X8_reading lk_L_66 dv_X8_reading (xco_spec q47) rfl (Nat.le_of_ble_eq_true rfl) (Nat.le_of_ble_eq_true rfl) (Nat.le_of_ble_eq_true rfl) ⟨Nat.le_refl _, Nat.le_refl _⟩ ⟨by have := hN.1; omega, by have := hN.2; omega⟩ ?_
  refine xw_iload (pc := 335) (i := 13) (x := x13) C dL_readings_335 rfl ?_
  refine xw_icmp_ne (pc := 337) (tgt := 347) C dL_readings_337 (by decide) (fun q => ?_) (fun q => ?_)
  · replace hm := xif_f q hm
    obtain rfl := Option.some.inj hm
    refine xw_sub (pc := 347) _ ?_ (he _ rfl)
    exact ⟨Or.inl rfl, Or.inl rfl, Or.inl rfl, Or.inl rfl, Or.inl rfl, Or.inl rfl, Or.inl rfl, Or.inl rfl, Or.inl rfl, Or.inl rfl, Or.inl rfl, Or.inl rfl, Or.inl rfl, Or.inl rfl, Or.inl rfl, trivial⟩
  · replace hm := xif_t q hm
    refine xw_iload (pc := 340) (i := 13) (x := x13) C dL_readings_340 rfl ?_
    refine xw_iload (pc := 342) (i := 4) (x := x4) C dL_readings_342 rfl ?_
    refine xw_icmp_ge (pc := 344) (tgt := 349) C dL_readings_344 (by decide) (fun q => ?_) (fun q => ?_)
    · replace hm := xif_t q hm
      refine xw_iinc (pc := 349) (i := 12) (x := x12) (v := (x12 + (-1 : Int32))) (L' := [some (.ref x0), some (.int x1), none, some (.int x3), some (.int x4), none, none, none, none, some (.int x9), some (.int x10), some (.int s0), some (.int (x12 + (-1 : Int32))), some (.int x13), none]) C dL_readings_349 rfl (congrArg (HAdd.hAdd _) xk_i_m1) (Nat.le_of_ble_eq_true rfl) rfl ?_
      refine xw_goto (pc := 352) (tgt := 268) C dL_readings_352 (by decide) ?_
      obtain rfl := Option.some.inj hm
      refine xw_sub (pc := 268) _ ?_ (hc _ rfl)
      exact ⟨Or.inr rfl, Or.inr rfl, Or.inl rfl, Or.inr rfl, Or.inr rfl, Or.inl rfl, Or.inl rfl, Or.inl rfl, Or.inl rfl, Or.inr rfl, Or.inr rfl, Or.inr rfl, Or.inr rfl, Or.inl rfl, Or.inl rfl, trivial⟩
    · replace hm := xif_f q hm
      obtain rfl := Option.some.inj hm
      refine xw_sub (pc := 347) _ ?_ (he _ rfl)
      exact ⟨Or.inl rfl, Or.inl rfl, Or.inl rfl, Or.inl rfl, Or.inl rfl, Or.inl rfl, Or.inl rfl, Or.inl rfl, Or.inl rfl, Or.inl rfl, Or.inl rfl, Or.inl rfl, Or.inl rfl, Or.inl rfl, Or.inl rfl, trivial⟩
set_option maxHeartbeats 4000000 in
set_option maxRecDepth 100000 in
theorem fL_readings_B268_w {X : XCtx} (C : XOK X RL cL_readings 15 "readings" (some .boolean) 6 138) {n sl : Nat} (hN : XN X n sl) {x0 : Nat} {x1 : Int32} {x3 : Int32} {x4 : Int32} {x9 : Int32} {x10 : Int32} (s : (XH × Int32 × Int32)) (o : (XH × Int32 × Int32) ⊕ (XH ⊕ (XH × Int32))) (hm : fL_readings_B268 x0 x1 x3 x4 x9 x10 s = some o) (hc : ∀ s', o = .inl s' → fL_readings_P268 X x0 x1 x3 x4 x9 x10 n sl s') (he : ∀ e', o = .inr e' → fL_readings_E268 X x0 x1 x3 x4 x9 x10 n sl e') : fL_readings_P268 X x0 x1 x3 x4 x9 x10 n sl s := by
  obtain ⟨h, x11, x12⟩ := s
  show XW X 268 [some (.ref x0), some (.int x1), none, some (.int x3), some (.int x4), none, none, none, none, some (.int x9), some (.int x10), some (.int x11), some (.int x12), none, none] [] h n sl
  replace hm : fL_readings_b268 x0 x1 x3 x4 x9 x10 h x11 x12 = some o := hm
  unfold fL_readings_b268 at hm
  refine xw_iload (pc := 268) (i := 12) (x := x12) C dL_readings_268 rfl ?_
  refine xw_if_lt (pc := 270) (tgt := 355) C dL_readings_270 (by decide) (fun q => ?_) (fun q => ?_)
  · replace hm := xif_t q hm
    obtain rfl := Option.some.inj hm
    refine xw_sub (pc := 355) _ ?_ (he _ rfl)
    exact ⟨Or.inr rfl, Or.inl rfl, Or.inl rfl, Or.inl rfl, Or.inr rfl, Or.inl rfl, Or.inl rfl, Or.inl rfl, Or.inl rfl, Or.inr rfl, Or.inr rfl, Or.inr rfl, Or.inl rfl, Or.inl rfl, Or.inl rfl, trivial⟩
  · replace hm := xif_f q hm
    refine xw_iconst (pc := 273) (v := 0) C dL_readings_273 xk_i_0 ?_
    refine xw_istore (pc := 274) (i := 13) (x := (0 : Int32)) (L' := [some (.ref x0), some (.int x1), none, some (.int x3), some (.int x4), none, none, none, none, some (.int x9), some (.int x10), some (.int x11), some (.int x12), some (.int (0 : Int32)), none]) C dL_readings_274 (Nat.le_of_ble_eq_true rfl) rfl ?_
    refine xw_iload_n (pc := 276) (i := 3) (x := x3) C dL_readings_276 rfl rfl ?_
    refine xw_ineg (pc := 277) C dL_readings_277 ?_
    refine xw_istore (pc := 278) (i := 14) (x := (-x3)) (L' := [some (.ref x0), some (.int x1), none, some (.int x3), some (.int x4), none, none, none, none, some (.int x9), some (.int x10), some (.int x11), some (.int x12), some (.int (0 : Int32)), some (.int (-x3))]) C dL_readings_278 (Nat.le_of_ble_eq_true rfl) rfl ?_
    obtain ⟨e45, q46, hm⟩ := xbind hm
    refine xw_sub (pc := 280) [some (.ref x0), some (.int x1), none, some (.int x3), some (.int x4), none, none, none, none, some (.int x9), some (.int x10), some (.int x11), some (.int x12), some (.int (0 : Int32)), some (.int (-x3))] ⟨Or.inr rfl, Or.inr rfl, Or.inl rfl, Or.inr rfl, Or.inr rfl, Or.inl rfl, Or.inl rfl, Or.inl rfl, Or.inl rfl, Or.inr rfl, Or.inr rfl, Or.inr rfl, Or.inr rfl, Or.inr rfl, Or.inr rfl, trivial⟩ ?_
    refine xloop_walk (fL_readings_B280 x0 x1 x3 x4 x9 x10 x11 x12) (fL_readings_P280 X x0 x1 x3 x4 x9 x10 x11 x12 n sl) (fL_readings_E280 X x0 x1 x3 x4 x9 x10 x11 x12 n sl) (fun s' o' => fL_readings_B280_w C hN s' o') 5000 (h, (0 : Int32), (-x3)) e45 q46 ?_
    show XW X 314 [some (.ref x0), some (.int x1), none, some (.int x3), some (.int x4), none, none, none, none, some (.int x9), some (.int x10), some (.int x11), some (.int x12), some (.int e45.2), none] [] e45.1 n sl
    refine xw_iload (pc := 314) (i := 13) (x := e45.2) C dL_readings_314 rfl ?_
    refine xw_if_le (pc := 316) (tgt := 324) C dL_readings_316 (by decide) (fun q => ?_) (fun q => ?_)
    · replace hm := xif_t q hm
      refine xw_iload (pc := 324) (i := 11) (x := x11) C dL_readings_324 rfl ?_
      exact xw_sub (pc := 326) [some (.ref x0), some (.int x1), none, some (.int x3), some (.int x4), none, none, none, none, some (.int x9), some (.int x10), none, some (.int x12), some (.int e45.2), none] ⟨Or.inr rfl, Or.inr rfl, Or.inl rfl, Or.inr rfl, Or.inr rfl, Or.inl rfl, Or.inl rfl, Or.inl rfl, Or.inl rfl, Or.inr rfl, Or.inr rfl, Or.inl rfl, Or.inr rfl, Or.inr rfl, Or.inl rfl, trivial⟩ (fL_readings_J326_w C hN hm hc he)
    · replace hm := xif_f q hm
      refine xw_iload (pc := 319) (i := 12) (x := x12) C dL_readings_319 rfl ?_
      refine xw_goto (pc := 321) (tgt := 326) C dL_readings_321 (by decide) ?_
      exact xw_sub (pc := 326) [some (.ref x0), some (.int x1), none, some (.int x3), some (.int x4), none, none, none, none, some (.int x9), some (.int x10), none, some (.int x12), some (.int e45.2), none] ⟨Or.inr rfl, Or.inr rfl, Or.inl rfl, Or.inr rfl, Or.inr rfl, Or.inl rfl, Or.inl rfl, Or.inl rfl, Or.inl rfl, Or.inr rfl, Or.inr rfl, Or.inl rfl, Or.inr rfl, Or.inr rfl, Or.inl rfl, trivial⟩ (fL_readings_J326_w C hN hm hc he)
set_option maxHeartbeats 4000000 in
set_option maxRecDepth 100000 in
theorem fL_readings_J471_w {X : XCtx} (C : XOK X RL cL_readings 15 "readings" (some .boolean) 6 138) {n sl : Nat} (hN : XN X (n + 1) (sl + 60))  {h : XH} {s0 : Int32} {s1 : Int32} {o : Bool × XH} (hm : fL_readings_J471 h n s0 s1 = some o) (hX : XR X (some (.int (xbi o.1))) o.2 (n + 1) (sl + 60)) : XW X 471 [none, none, none, none, none, none, none, none, none, none, none, none, none, none, none] [.int s1, .int s0] h (n + 1) (sl + 60) := by
  unfold fL_readings_J471 at hm
  refine xw_icmp_ne (pc := 471) (tgt := 478) C dL_readings_471 (by decide) (fun q => ?_) (fun q => ?_)
  · replace hm := xif_f q hm
    refine xw_iconst (pc := 478) (v := 0) C dL_readings_478 xk_i_0 ?_
    obtain rfl := Option.some.inj hm
    exact xw_zreturn (pc := 479) (v := xbi false) C dL_readings_479 rfl (xbi_nar _) hX
  · replace hm := xif_t q hm
    refine xw_iconst (pc := 474) (v := 1) C dL_readings_474 xk_i_1 ?_
    refine xw_goto (pc := 475) (tgt := 479) C dL_readings_475 (by decide) ?_
    obtain rfl := Option.some.inj hm
    exact xw_zreturn (pc := 479) (v := xbi true) C dL_readings_479 rfl (xbi_nar _) hX
set_option maxHeartbeats 4000000 in
set_option maxRecDepth 100000 in
theorem fL_readings_J447_w {X : XCtx} (C : XOK X RL cL_readings 15 "readings" (some .boolean) 6 138) {n sl : Nat} (hN : XN X (n + 1) (sl + 60))  {h : XH} {x0 : Nat} {x4 : Int32} {x11 : Int32} {s0 : Bool} {o : Bool × XH} (hm : fL_readings_J447 h n x0 x4 x11 s0 = some o) (hX : XR X (some (.int (xbi o.1))) o.2 (n + 1) (sl + 60)) : XW X 447 [some (.ref x0), none, none, none, some (.int x4), none, none, none, none, none, none, some (.int x11), none, none, none] [.int (xbi s0)] h (n + 1) (sl + 60) := by
  unfold fL_readings_J447 at hm
  refine xw_istore (pc := 447) (i := 14) (x := (xbi s0)) (L' := [some (.ref x0), none, none, none, some (.int x4), none, none, none, none, none, none, some (.int x11), none, none, some (.int (xbi s0))]) C dL_readings_447 (Nat.le_of_ble_eq_true rfl) rfl ?_
  refine xw_iload (pc := 449) (i := 14) (x := (xbi s0)) C dL_readings_449 rfl ?_
  refine xw_if_eqZ (pc := 451) (b := s0) (tgt := 478) C dL_readings_451 (by decide) (fun q => ?_) (fun q => ?_)
  · replace hm := xif_f q hm
    refine xw_iconst (pc := 478) (v := 0) C dL_readings_478 xk_i_0 ?_
    obtain rfl := Option.some.inj hm
    exact xw_zreturn (pc := 479) (v := xbi false) C dL_readings_479 rfl (xbi_nar _) hX
  · replace hm := xif_t q hm
    refine xw_aload_n (pc := 454) (i := 0) (x := x0) C dL_readings_454 rfl rfl ?_
    obtain ⟨_, q58, hm⟩ := xbind hm
    obtain ⟨v59, q60, hm⟩ := xbind hm
    refine xw_callV1 (pc := 455) (As := []) (st := []) C dL_readings_455 (wX8_odd q60) dd_X8_odd lk_L_90 dv_X8_odd (xco_spec q58) rfl (Nat.le_of_ble_eq_true rfl) (Nat.le_of_ble_eq_true rfl) (Nat.le_of_ble_eq_true rfl) ⟨Nat.le_refl _, Nat.le_refl _⟩ ⟨by have := hN.1; omega, by have := hN.2; omega⟩ ?_
    refine xw_iload (pc := 458) (i := 4) (x := x4) C dL_readings_458 rfl ?_
    refine xw_if_le (pc := 460) (tgt := 469) C dL_readings_460 (by decide) (fun q => ?_) (fun q => ?_)
    · replace hm := xif_t q hm
      refine xw_iload (pc := 469) (i := 11) (x := x11) C dL_readings_469 rfl ?_
      exact xw_sub (pc := 471) [none, none, none, none, none, none, none, none, none, none, none, none, none, none, none] ⟨Or.inl rfl, Or.inl rfl, Or.inl rfl, Or.inl rfl, Or.inl rfl, Or.inl rfl, Or.inl rfl, Or.inl rfl, Or.inl rfl, Or.inl rfl, Or.inl rfl, Or.inl rfl, Or.inl rfl, Or.inl rfl, Or.inl rfl, trivial⟩ (fL_readings_J471_w C hN hm hX)
    · replace hm := xif_f q hm
      refine xw_sipush (pc := 463) (v := -1002) C dL_readings_463 xk_s_m1002 ?_
      refine xw_goto (pc := 466) (tgt := 471) C dL_readings_466 (by decide) ?_
      exact xw_sub (pc := 471) [none, none, none, none, none, none, none, none, none, none, none, none, none, none, none] ⟨Or.inl rfl, Or.inl rfl, Or.inl rfl, Or.inl rfl, Or.inl rfl, Or.inl rfl, Or.inl rfl, Or.inl rfl, Or.inl rfl, Or.inl rfl, Or.inl rfl, Or.inl rfl, Or.inl rfl, Or.inl rfl, Or.inl rfl, trivial⟩ (fL_readings_J471_w C hN hm hX)
set_option maxHeartbeats 4000000 in
set_option maxRecDepth 100000 in
theorem fL_readings_J446_w {X : XCtx} (C : XOK X RL cL_readings 15 "readings" (some .boolean) 6 138) {n sl : Nat} (hN : XN X (n + 1) (sl + 60))  {h : XH} {x0 : Nat} {x4 : Int32} {x11 : Int32} {o : Bool × XH} (hm : fL_readings_J446 h n x0 x4 x11 = some o) (hX : XR X (some (.int (xbi o.1))) o.2 (n + 1) (sl + 60)) : XW X 446 [some (.ref x0), none, none, none, some (.int x4), none, none, none, none, none, none, some (.int x11), none, none, none] [] h (n + 1) (sl + 60) := by
  unfold fL_readings_J446 at hm
  refine xw_iconst (pc := 446) (v := 0) C dL_readings_446 xk_i_0 ?_
  exact xw_sub (pc := 447) [some (.ref x0), none, none, none, some (.int x4), none, none, none, none, none, none, some (.int x11), none, none, none] ⟨Or.inr rfl, Or.inl rfl, Or.inl rfl, Or.inl rfl, Or.inr rfl, Or.inl rfl, Or.inl rfl, Or.inl rfl, Or.inl rfl, Or.inl rfl, Or.inl rfl, Or.inr rfl, Or.inl rfl, Or.inl rfl, Or.inl rfl, trivial⟩ (fL_readings_J447_w C hN hm hX)
set_option maxHeartbeats 4000000 in
set_option maxRecDepth 100000 in
theorem fL_readings_J442_w {X : XCtx} (C : XOK X RL cL_readings 15 "readings" (some .boolean) 6 138) {n sl : Nat} (hN : XN X (n + 1) (sl + 60))  {h : XH} {x0 : Nat} {x4 : Int32} {x11 : Int32} {o : Bool × XH} (hm : fL_readings_J442 h n x0 x4 x11 = some o) (hX : XR X (some (.int (xbi o.1))) o.2 (n + 1) (sl + 60)) : XW X 442 [some (.ref x0), none, none, none, some (.int x4), none, none, none, none, none, none, some (.int x11), none, none, none] [] h (n + 1) (sl + 60) := by
  unfold fL_readings_J442 at hm
  refine xw_iconst (pc := 442) (v := 1) C dL_readings_442 xk_i_1 ?_
  refine xw_goto (pc := 443) (tgt := 447) C dL_readings_443 (by decide) ?_
  exact xw_sub (pc := 447) [some (.ref x0), none, none, none, some (.int x4), none, none, none, none, none, none, some (.int x11), none, none, none] ⟨Or.inr rfl, Or.inl rfl, Or.inl rfl, Or.inl rfl, Or.inr rfl, Or.inl rfl, Or.inl rfl, Or.inl rfl, Or.inl rfl, Or.inl rfl, Or.inl rfl, Or.inr rfl, Or.inl rfl, Or.inl rfl, Or.inl rfl, trivial⟩ (fL_readings_J447_w C hN hm hX)
set_option maxHeartbeats 4000000 in
set_option maxRecDepth 100000 in
theorem fL_readings_J398_w {X : XCtx} (C : XOK X RL cL_readings 15 "readings" (some .boolean) 6 138) {n sl : Nat} (hN : XN X (n + 1) (sl + 60))  {h : XH} {x0 : Nat} {x4 : Int32} {x11 : Int32} {o : Bool × XH} (hm : fL_readings_J398 h n x0 x4 x11 = some o) (hX : XR X (some (.int (xbi o.1))) o.2 (n + 1) (sl + 60)) : XW X 398 [some (.ref x0), none, none, none, some (.int x4), none, none, none, none, none, none, some (.int x11), none, none, none] [] h (n + 1) (sl + 60) := by
  unfold fL_readings_J398 at hm
  refine xw_iconst (pc := 398) (v := 0) C dL_readings_398 xk_i_0 ?_
  refine xw_goto (pc := 399) (tgt := 447) C dL_readings_399 (by decide) ?_
  exact xw_sub (pc := 447) [some (.ref x0), none, none, none, some (.int x4), none, none, none, none, none, none, some (.int x11), none, none, none] ⟨Or.inr rfl, Or.inl rfl, Or.inl rfl, Or.inl rfl, Or.inr rfl, Or.inl rfl, Or.inl rfl, Or.inl rfl, Or.inl rfl, Or.inl rfl, Or.inl rfl, Or.inr rfl, Or.inl rfl, Or.inl rfl, Or.inl rfl, trivial⟩ (fL_readings_J447_w C hN hm hX)
set_option maxHeartbeats 4000000 in
set_option maxRecDepth 100000 in
theorem fL_readings_J20_w {X : XCtx} (C : XOK X RL cL_readings 15 "readings" (some .boolean) 6 138) {n sl : Nat} (hN : XN X (n + 1) (sl + 60))  {h : XH} {x0 : Nat} {x1 : Int32} {x2 : Int32} {s0 : Int32} {s1 : Int32} {s2 : Int32} {o : Bool × XH} (hm : fL_readings_J20 h n x0 x1 x2 s0 s1 s2 = some o) (hX : XR X (some (.int (xbi o.1))) o.2 (n + 1) (sl + 60)) : XW X 20 [some (.ref x0), some (.int x1), some (.int x2), none, none, none, none, none, none, none, none, none, none, none, none] [.int s2, .int s1, .int s0] h n sl := by
  unfold fL_readings_J20 at hm
  obtain ⟨v3, q4, hm⟩ := xbind hm
  refine xw_callS1 (pc := 20) (As := [.int s1, .int s2]) (st := [.int s0]) C dL_readings_20 (wL_low q4) dd_L_low lk_L_16 ds_L_low rfl (Nat.le_of_ble_eq_true rfl) (Nat.le_of_ble_eq_true rfl) (Nat.le_of_ble_eq_true rfl) ⟨Nat.le_refl _, Nat.le_refl _⟩ ⟨by have := hN.1; omega, by have := hN.2; omega⟩ ?_
  refine xw_iadd (pc := 23) C dL_readings_23 ?_
  refine xw_istore_n (pc := 24) (i := 3) (x := (s0 + v3)) (L' := [some (.ref x0), some (.int x1), some (.int x2), some (.int (s0 + v3)), none, none, none, none, none, none, none, none, none, none, none]) C dL_readings_24 rfl (Nat.le_of_ble_eq_true rfl) rfl ?_
  refine xw_aload_n (pc := 25) (i := 0) (x := x0) C dL_readings_25 rfl rfl ?_
  refine xw_iload_n (pc := 26) (i := 3) (x := (s0 + v3)) C dL_readings_26 rfl rfl ?_
  obtain ⟨_, q5, hm⟩ := xbind hm
  obtain ⟨v6, q7, hm⟩ := xbind hm
  refine xw_callV1 (pc := 27) (As := [.int (s0 + v3)]) (st := []) C dL_readings_27 (wX8_setLimit q7) dd_X8_setLimit lk_L_69 dv_X8_setLimit (xco_spec q5) rfl (Nat.le_of_ble_eq_true rfl) (Nat.le_of_ble_eq_true rfl) (Nat.le_of_ble_eq_true rfl) ⟨Nat.le_refl _, Nat.le_refl _⟩ ⟨by have := hN.1; omega, by have := hN.2; omega⟩ ?_
  refine xw_pop (pc := 30) C dL_readings_30 rfl ?_
  refine xw_iconst (pc := 31) (v := 0) C dL_readings_31 xk_i_0 ?_
  refine xw_istore (pc := 32) (i := 4) (x := (0 : Int32)) (L' := [some (.ref x0), some (.int x1), some (.int x2), some (.int (s0 + v3)), some (.int (0 : Int32)), none, none, none, none, none, none, none, none, none, none]) C dL_readings_32 (Nat.le_of_ble_eq_true rfl) rfl ?_
  refine xw_iload_n (pc := 34) (i := 2) (x := x2) C dL_readings_34 rfl rfl ?_
  refine xw_bipush (pc := 35) (v := 9) C dL_readings_35 xk_b_9 ?_
  refine xw_ishr (pc := 37) C dL_readings_37 ?_
  refine xw_sipush (pc := 38) (v := 2001) C dL_readings_38 xk_s_2001 ?_
  obtain ⟨v8, q9, hm⟩ := xbind hm
  refine xw_callS1 (pc := 41) (As := [.int (x2 >>> ((9 : Int32) &&& 31)), .int (2001 : Int32)]) (st := []) C dL_readings_41 (wL_low q9) dd_L_low lk_L_16 ds_L_low rfl (Nat.le_of_ble_eq_true rfl) (Nat.le_of_ble_eq_true rfl) (Nat.le_of_ble_eq_true rfl) ⟨Nat.le_refl _, Nat.le_refl _⟩ ⟨by have := hN.1; omega, by have := hN.2; omega⟩ ?_
  refine xw_sipush (pc := 44) (v := 1000) C dL_readings_44 xk_s_1000 ?_
  refine xw_isub (pc := 47) C dL_readings_47 ?_
  refine xw_istore (pc := 48) (i := 5) (x := (v8 - (1000 : Int32))) (L' := [some (.ref x0), some (.int x1), some (.int x2), some (.int (s0 + v3)), some (.int (0 : Int32)), some (.int (v8 - (1000 : Int32))), none, none, none, none, none, none, none, none, none]) C dL_readings_48 (Nat.le_of_ble_eq_true rfl) rfl ?_
  refine xw_sipush (pc := 50) (v := -1004) C dL_readings_50 xk_s_m1004 ?_
  refine xw_istore (pc := 53) (i := 6) (x := (-1004 : Int32)) (L' := [some (.ref x0), some (.int x1), some (.int x2), some (.int (s0 + v3)), some (.int (0 : Int32)), some (.int (v8 - (1000 : Int32))), some (.int (-1004 : Int32)), none, none, none, none, none, none, none, none]) C dL_readings_53 (Nat.le_of_ble_eq_true rfl) rfl ?_
  refine xw_ldc (pc := 55) (v := 100000) C dL_readings_55 cn_L_72 ?_
  refine xw_istore (pc := 57) (i := 7) (x := (100000 : Int32)) (L' := [some (.ref x0), some (.int x1), some (.int x2), some (.int (s0 + v3)), some (.int (0 : Int32)), some (.int (v8 - (1000 : Int32))), some (.int (-1004 : Int32)), some (.int (100000 : Int32)), none, none, none, none, none, none, none]) C dL_readings_57 (Nat.le_of_ble_eq_true rfl) rfl ?_
  refine xw_bipush (pc := 59) (v := 60) C dL_readings_59 xk_b_60 ?_
  obtain ⟨h10, q11, hm⟩ := xbind hm
  refine xw_newIB (pc := 61) (N := 60) C dL_readings_61 ar_int (by decide) (by decide) (Nat.le_of_ble_eq_true rfl) ⟨by have := hN.1; omega, by have := hN.2; omega⟩ q11 ?_
  refine xw_astore (pc := 63) (i := 8) (x := n) (L' := [some (.ref x0), some (.int x1), some (.int x2), some (.int (s0 + v3)), some (.int (0 : Int32)), some (.int (v8 - (1000 : Int32))), some (.int (-1004 : Int32)), some (.int (100000 : Int32)), some (.ref n), none, none, none, none, none, none]) C dL_readings_63 (Nat.le_of_ble_eq_true rfl) rfl ?_
  refine xw_iconst (pc := 65) (v := 1) C dL_readings_65 xk_i_1 ?_
  refine xw_iload_n (pc := 66) (i := 2) (x := x2) C dL_readings_66 rfl rfl ?_
  refine xw_iconst (pc := 67) (v := 5) C dL_readings_67 xk_i_5 ?_
  refine xw_ishr (pc := 68) C dL_readings_68 ?_
  refine xw_bipush (pc := 69) (v := 20) C dL_readings_69 xk_b_20 ?_
  obtain ⟨v12, q13, hm⟩ := xbind hm
  refine xw_callS1 (pc := 71) (As := [.int (x2 >>> ((5 : Int32) &&& 31)), .int (20 : Int32)]) (st := [.int (1 : Int32)]) C dL_readings_71 (wL_low q13) dd_L_low lk_L_16 ds_L_low rfl (Nat.le_of_ble_eq_true rfl) (Nat.le_of_ble_eq_true rfl) (Nat.le_of_ble_eq_true rfl) ⟨Nat.le_refl _, Nat.le_refl _⟩ ⟨by have := hN.1; omega, by have := hN.2; omega⟩ ?_
  refine xw_iadd (pc := 74) C dL_readings_74 ?_
  refine xw_istore (pc := 75) (i := 9) (x := ((1 : Int32) + v12)) (L' := [some (.ref x0), some (.int x1), some (.int x2), some (.int (s0 + v3)), some (.int (0 : Int32)), some (.int (v8 - (1000 : Int32))), some (.int (-1004 : Int32)), some (.int (100000 : Int32)), some (.ref n), some (.int ((1 : Int32) + v12)), none, none, none, none, none]) C dL_readings_75 (Nat.le_of_ble_eq_true rfl) rfl ?_
  refine xw_iconst (pc := 77) (v := 0) C dL_readings_77 xk_i_0 ?_
  refine xw_istore (pc := 78) (i := 10) (x := (0 : Int32)) (L' := [some (.ref x0), some (.int x1), some (.int x2), some (.int (s0 + v3)), some (.int (0 : Int32)), some (.int (v8 - (1000 : Int32))), some (.int (-1004 : Int32)), some (.int (100000 : Int32)), some (.ref n), some (.int ((1 : Int32) + v12)), some (.int (0 : Int32)), none, none, none, none]) C dL_readings_78 (Nat.le_of_ble_eq_true rfl) rfl ?_
  refine xw_iload_n (pc := 80) (i := 3) (x := (s0 + v3)) C dL_readings_80 rfl rfl ?_
  refine xw_ineg (pc := 81) C dL_readings_81 ?_
  refine xw_istore (pc := 82) (i := 11) (x := (-(s0 + v3))) (L' := [some (.ref x0), some (.int x1), some (.int x2), some (.int (s0 + v3)), some (.int (0 : Int32)), some (.int (v8 - (1000 : Int32))), some (.int (-1004 : Int32)), some (.int (100000 : Int32)), some (.ref n), some (.int ((1 : Int32) + v12)), some (.int (0 : Int32)), some (.int (-(s0 + v3))), none, none, none]) C dL_readings_82 (Nat.le_of_ble_eq_true rfl) rfl ?_
  obtain ⟨e29, q30, hm⟩ := xbind hm
  refine xw_sub (pc := 84) [some (.ref x0), some (.int x1), none, some (.int (s0 + v3)), some (.int (0 : Int32)), some (.int (v8 - (1000 : Int32))), some (.int (-1004 : Int32)), some (.int (100000 : Int32)), some (.ref n), some (.int ((1 : Int32) + v12)), some (.int (0 : Int32)), some (.int (-(s0 + v3))), none, none, none] ⟨Or.inr rfl, Or.inr rfl, Or.inl rfl, Or.inr rfl, Or.inr rfl, Or.inr rfl, Or.inr rfl, Or.inr rfl, Or.inr rfl, Or.inr rfl, Or.inr rfl, Or.inr rfl, Or.inl rfl, Or.inl rfl, Or.inl rfl, trivial⟩ ?_
  refine xloop_walk (fL_readings_B84 x0 x1 (s0 + v3) (v8 - (1000 : Int32)) n ((1 : Int32) + v12)) (fL_readings_P84 X x0 x1 (s0 + v3) (v8 - (1000 : Int32)) n ((1 : Int32) + v12) (n + 1) (sl + 60)) (fL_readings_E84 X x0 x1 (s0 + v3) (v8 - (1000 : Int32)) n ((1 : Int32) + v12) (n + 1) (sl + 60)) (fun s' o' => fL_readings_B84_w C (n := (n + 1)) (sl := (sl + 60)) ⟨by have := hN.1; omega, by have := hN.2; omega⟩ s' o') 5000 (h10, (0 : Int32), (-1004 : Int32), (100000 : Int32), (0 : Int32), (-(s0 + v3))) e29 q30 ?_
  rcases e29 with e29 | e29
  · dsimp only at hm
    show XW X 112 [none, none, none, none, none, none, none, none, none, none, none, none, none, none, none] [] e29 (n + 1) (sl + 60)
    refine xw_iconst (pc := 112) (v := 0) C dL_readings_112 xk_i_0 ?_
    obtain rfl := Option.some.inj hm
    exact xw_zreturn (pc := 113) (v := xbi false) C dL_readings_113 rfl (xbi_nar _) hX
  · dsimp only at hm
    show XW X 219 [some (.ref x0), some (.int x1), none, some (.int (s0 + v3)), some (.int e29.2.1), some (.int (v8 - (1000 : Int32))), some (.int e29.2.2.1), none, none, some (.int ((1 : Int32) + v12)), some (.int e29.2.2.2), none, none, none, none] [] e29.1 (n + 1) (sl + 60)
    refine xw_aload_n (pc := 219) (i := 0) (x := x0) C dL_readings_219 rfl rfl ?_
    obtain ⟨_, q31, hm⟩ := xbind hm
    obtain ⟨v32, q33, hm⟩ := xbind hm
    refine xw_callV1 (pc := 220) (As := []) (st := []) C dL_readings_220 (wX8_candidates q33) dd_X8_candidates lk_L_80 dv_X8_candidates (xco_spec q31) rfl (Nat.le_of_ble_eq_true rfl) (Nat.le_of_ble_eq_true rfl) (Nat.le_of_ble_eq_true rfl) ⟨Nat.le_refl _, Nat.le_refl _⟩ ⟨by have := hN.1; omega, by have := hN.2; omega⟩ ?_
    refine xw_iload (pc := 223) (i := 4) (x := e29.2.1) C dL_readings_223 rfl ?_
    refine xw_icmp_ne (pc := 225) (tgt := 251) C dL_readings_225 (by decide) (fun q => ?_) (fun q => ?_)
    · replace hm := xif_f q hm
      refine xw_iconst (pc := 251) (v := 0) C dL_readings_251 xk_i_0 ?_
      obtain rfl := Option.some.inj hm
      exact xw_zreturn (pc := 252) (v := xbi false) C dL_readings_252 rfl (xbi_nar _) hX
    · replace hm := xif_t q hm
      refine xw_aload_n (pc := 228) (i := 0) (x := x0) C dL_readings_228 rfl rfl ?_
      refine xw_iload (pc := 229) (i := 4) (x := e29.2.1) C dL_readings_229 rfl ?_
      obtain ⟨_, q34, hm⟩ := xbind hm
      obtain ⟨v35, q36, hm⟩ := xbind hm
      refine xw_callV1 (pc := 231) (As := [.int e29.2.1]) (st := []) C dL_readings_231 (wX8_candidate q36) dd_X8_candidate lk_L_77 dv_X8_candidate (xco_spec q34) rfl (Nat.le_of_ble_eq_true rfl) (Nat.le_of_ble_eq_true rfl) (Nat.le_of_ble_eq_true rfl) ⟨Nat.le_refl _, Nat.le_refl _⟩ ⟨by have := hN.1; omega, by have := hN.2; omega⟩ ?_
      refine xw_sipush (pc := 234) (v := -1004) C dL_readings_234 xk_s_m1004 ?_
      refine xw_icmp_ne (pc := 237) (tgt := 251) C dL_readings_237 (by decide) (fun q => ?_) (fun q => ?_)
      · replace hm := xif_f q hm
        refine xw_iconst (pc := 251) (v := 0) C dL_readings_251 xk_i_0 ?_
        obtain rfl := Option.some.inj hm
        exact xw_zreturn (pc := 252) (v := xbi false) C dL_readings_252 rfl (xbi_nar _) hX
      · replace hm := xif_t q hm
        refine xw_aload_n (pc := 240) (i := 0) (x := x0) C dL_readings_240 rfl rfl ?_
        refine xw_iload (pc := 241) (i := 5) (x := (v8 - (1000 : Int32))) C dL_readings_241 rfl ?_
        obtain ⟨_, q37, hm⟩ := xbind hm
        obtain ⟨v38, q39, hm⟩ := xbind hm
        refine xw_callV1 (pc := 243) (As := [.int (v8 - (1000 : Int32))]) (st := []) C dL_readings_243 (wX8_nearest q39) dd_X8_nearest lk_L_83 dv_X8_nearest (xco_spec q37) rfl (Nat.le_of_ble_eq_true rfl) (Nat.le_of_ble_eq_true rfl) (Nat.le_of_ble_eq_true rfl) ⟨Nat.le_refl _, Nat.le_refl _⟩ ⟨by have := hN.1; omega, by have := hN.2; omega⟩ ?_
        refine xw_iload (pc := 246) (i := 6) (x := e29.2.2.1) C dL_readings_246 rfl ?_
        refine xw_icmp_eq (pc := 248) (tgt := 253) C dL_readings_248 (by decide) (fun q => ?_) (fun q => ?_)
        · replace hm := xif_t q hm
          refine xw_sipush (pc := 253) (v := -1004) C dL_readings_253 xk_s_m1004 ?_
          refine xw_istore (pc := 256) (i := 11) (x := (-1004 : Int32)) (L' := [some (.ref x0), some (.int x1), none, some (.int (s0 + v3)), some (.int e29.2.1), some (.int (v8 - (1000 : Int32))), some (.int e29.2.2.1), none, none, some (.int ((1 : Int32) + v12)), some (.int e29.2.2.2), some (.int (-1004 : Int32)), none, none, none]) C dL_readings_256 (Nat.le_of_ble_eq_true rfl) rfl ?_
          refine xw_aload_n (pc := 258) (i := 0) (x := x0) C dL_readings_258 rfl rfl ?_
          refine xw_bipush (pc := 259) (v := 9) C dL_readings_259 xk_b_9 ?_
          obtain ⟨_, q40, hm⟩ := xbind hm
          obtain ⟨v41, q42, hm⟩ := xbind hm
          refine xw_callV1 (pc := 261) (As := [.int (9 : Int32)]) (st := []) C dL_readings_261 (wX8_count q42) dd_X8_count lk_L_33 dv_X8_count (xco_spec q40) rfl (Nat.le_of_ble_eq_true rfl) (Nat.le_of_ble_eq_true rfl) (Nat.le_of_ble_eq_true rfl) ⟨Nat.le_refl _, Nat.le_refl _⟩ ⟨by have := hN.1; omega, by have := hN.2; omega⟩ ?_
          refine xw_iconst (pc := 264) (v := 1) C dL_readings_264 xk_i_1 ?_
          refine xw_isub (pc := 265) C dL_readings_265 ?_
          refine xw_istore (pc := 266) (i := 12) (x := (v41 - (1 : Int32))) (L' := [some (.ref x0), some (.int x1), none, some (.int (s0 + v3)), some (.int e29.2.1), some (.int (v8 - (1000 : Int32))), some (.int e29.2.2.1), none, none, some (.int ((1 : Int32) + v12)), some (.int e29.2.2.2), some (.int (-1004 : Int32)), some (.int (v41 - (1 : Int32))), none, none]) C dL_readings_266 (Nat.le_of_ble_eq_true rfl) rfl ?_
          obtain ⟨e50, q51, hm⟩ := xbind hm
          refine xw_sub (pc := 268) [some (.ref x0), some (.int x1), none, some (.int (s0 + v3)), some (.int e29.2.1), none, none, none, none, some (.int ((1 : Int32) + v12)), some (.int e29.2.2.2), some (.int (-1004 : Int32)), some (.int (v41 - (1 : Int32))), none, none] ⟨Or.inr rfl, Or.inr rfl, Or.inl rfl, Or.inr rfl, Or.inr rfl, Or.inl rfl, Or.inl rfl, Or.inl rfl, Or.inl rfl, Or.inr rfl, Or.inr rfl, Or.inr rfl, Or.inr rfl, Or.inl rfl, Or.inl rfl, trivial⟩ ?_
          refine xloop_walk (fL_readings_B268 x0 x1 (s0 + v3) e29.2.1 ((1 : Int32) + v12) e29.2.2.2) (fL_readings_P268 X x0 x1 (s0 + v3) e29.2.1 ((1 : Int32) + v12) e29.2.2.2 (n + 1) (sl + 60)) (fL_readings_E268 X x0 x1 (s0 + v3) e29.2.1 ((1 : Int32) + v12) e29.2.2.2 (n + 1) (sl + 60)) (fun s' o' => fL_readings_B268_w C (n := (n + 1)) (sl := (sl + 60)) ⟨by have := hN.1; omega, by have := hN.2; omega⟩ s' o') 5000 (v38.2, (-1004 : Int32), (v41 - (1 : Int32))) e50 q51 ?_
          rcases e50 with e50 | e50
          · dsimp only at hm
            show XW X 347 [none, none, none, none, none, none, none, none, none, none, none, none, none, none, none] [] e50 (n + 1) (sl + 60)
            refine xw_iconst (pc := 347) (v := 0) C dL_readings_347 xk_i_0 ?_
            obtain rfl := Option.some.inj hm
            exact xw_zreturn (pc := 348) (v := xbi false) C dL_readings_348 rfl (xbi_nar _) hX
          · dsimp only at hm
            show XW X 355 [some (.ref x0), none, none, none, some (.int e29.2.1), none, none, none, none, some (.int ((1 : Int32) + v12)), some (.int e29.2.2.2), some (.int e50.2), none, none, none] [] e50.1 (n + 1) (sl + 60)
            refine xw_aload_n (pc := 355) (i := 0) (x := x0) C dL_readings_355 rfl rfl ?_
            refine xw_iload (pc := 356) (i := 9) (x := ((1 : Int32) + v12)) C dL_readings_356 rfl ?_
            refine xw_iconst (pc := 358) (v := 0) C dL_readings_358 xk_i_0 ?_
            obtain ⟨_, q52, hm⟩ := xbind hm
            obtain ⟨v53, q54, hm⟩ := xbind hm
            refine xw_callV1 (pc := 359) (As := [.int ((1 : Int32) + v12), .int (xbi false)]) (st := []) C dL_readings_359 (wX8_bestPeriod q54) dd_X8_bestPeriod lk_L_86 dv_X8_bestPeriod (xco_spec q52) rfl (Nat.le_of_ble_eq_true rfl) (Nat.le_of_ble_eq_true rfl) (Nat.le_of_ble_eq_true rfl) ⟨Nat.le_refl _, Nat.le_refl _⟩ ⟨by have := hN.1; omega, by have := hN.2; omega⟩ ?_
            refine xw_istore (pc := 362) (i := 12) (x := v53.1) (L' := [some (.ref x0), none, none, none, some (.int e29.2.1), none, none, none, none, some (.int ((1 : Int32) + v12)), some (.int e29.2.2.2), some (.int e50.2), some (.int v53.1), none, none]) C dL_readings_362 (Nat.le_of_ble_eq_true rfl) rfl ?_
            refine xw_aload_n (pc := 364) (i := 0) (x := x0) C dL_readings_364 rfl rfl ?_
            refine xw_iload (pc := 365) (i := 9) (x := ((1 : Int32) + v12)) C dL_readings_365 rfl ?_
            refine xw_iconst (pc := 367) (v := 1) C dL_readings_367 xk_i_1 ?_
            obtain ⟨_, q55, hm⟩ := xbind hm
            obtain ⟨v56, q57, hm⟩ := xbind hm
            refine xw_callV1 (pc := 368) (As := [.int ((1 : Int32) + v12), .int (xbi true)]) (st := []) C dL_readings_368 (wX8_bestPeriod q57) dd_X8_bestPeriod lk_L_86 dv_X8_bestPeriod (xco_spec q55) rfl (Nat.le_of_ble_eq_true rfl) (Nat.le_of_ble_eq_true rfl) (Nat.le_of_ble_eq_true rfl) ⟨Nat.le_refl _, Nat.le_refl _⟩ ⟨by have := hN.1; omega, by have := hN.2; omega⟩ ?_
            refine xw_istore (pc := 371) (i := 13) (x := v56.1) (L' := [some (.ref x0), none, none, none, some (.int e29.2.1), none, none, none, none, some (.int ((1 : Int32) + v12)), some (.int e29.2.2.2), some (.int e50.2), some (.int v53.1), some (.int v56.1), none]) C dL_readings_371 (Nat.le_of_ble_eq_true rfl) rfl ?_
            refine xw_iload (pc := 373) (i := 4) (x := e29.2.1) C dL_readings_373 rfl ?_
            refine xw_if_ne (pc := 375) (tgt := 402) C dL_readings_375 (by decide) (fun q => ?_) (fun q => ?_)
            · replace hm := xif_f q hm
              refine xw_iload (pc := 402) (i := 12) (x := v53.1) C dL_readings_402 rfl ?_
              refine xw_iconst (pc := 404) (v := 1) C dL_readings_404 xk_i_1 ?_
              refine xw_icmp_lt (pc := 405) (tgt := 446) C dL_readings_405 (by decide) (fun q => ?_) (fun q => ?_)
              · replace hm := xif_t q hm
                exact xw_sub (pc := 446) [some (.ref x0), none, none, none, some (.int e29.2.1), none, none, none, none, none, none, some (.int e50.2), none, none, none] ⟨Or.inr rfl, Or.inl rfl, Or.inl rfl, Or.inl rfl, Or.inr rfl, Or.inl rfl, Or.inl rfl, Or.inl rfl, Or.inl rfl, Or.inl rfl, Or.inl rfl, Or.inr rfl, Or.inl rfl, Or.inl rfl, Or.inl rfl, trivial⟩ (fL_readings_J446_w C hN hm hX)
              · replace hm := xif_f q hm
                refine xw_iload (pc := 408) (i := 12) (x := v53.1) C dL_readings_408 rfl ?_
                refine xw_iload (pc := 410) (i := 9) (x := ((1 : Int32) + v12)) C dL_readings_410 rfl ?_
                refine xw_icmp_gt (pc := 412) (tgt := 446) C dL_readings_412 (by decide) (fun q => ?_) (fun q => ?_)
                · replace hm := xif_t q hm
                  exact xw_sub (pc := 446) [some (.ref x0), none, none, none, some (.int e29.2.1), none, none, none, none, none, none, some (.int e50.2), none, none, none] ⟨Or.inr rfl, Or.inl rfl, Or.inl rfl, Or.inl rfl, Or.inr rfl, Or.inl rfl, Or.inl rfl, Or.inl rfl, Or.inl rfl, Or.inl rfl, Or.inl rfl, Or.inr rfl, Or.inl rfl, Or.inl rfl, Or.inl rfl, trivial⟩ (fL_readings_J446_w C hN hm hX)
                · replace hm := xif_f q hm
                  refine xw_iload (pc := 415) (i := 13) (x := v56.1) C dL_readings_415 rfl ?_
                  refine xw_iconst (pc := 417) (v := 1) C dL_readings_417 xk_i_1 ?_
                  refine xw_icmp_lt (pc := 418) (tgt := 446) C dL_readings_418 (by decide) (fun q => ?_) (fun q => ?_)
                  · replace hm := xif_t q hm
                    exact xw_sub (pc := 446) [some (.ref x0), none, none, none, some (.int e29.2.1), none, none, none, none, none, none, some (.int e50.2), none, none, none] ⟨Or.inr rfl, Or.inl rfl, Or.inl rfl, Or.inl rfl, Or.inr rfl, Or.inl rfl, Or.inl rfl, Or.inl rfl, Or.inl rfl, Or.inl rfl, Or.inl rfl, Or.inr rfl, Or.inl rfl, Or.inl rfl, Or.inl rfl, trivial⟩ (fL_readings_J446_w C hN hm hX)
                  · replace hm := xif_f q hm
                    refine xw_iload (pc := 421) (i := 13) (x := v56.1) C dL_readings_421 rfl ?_
                    refine xw_iload (pc := 423) (i := 10) (x := e29.2.2.2) C dL_readings_423 rfl ?_
                    refine xw_icmp_gt (pc := 425) (tgt := 446) C dL_readings_425 (by decide) (fun q => ?_) (fun q => ?_)
                    · replace hm := xif_t q hm
                      exact xw_sub (pc := 446) [some (.ref x0), none, none, none, some (.int e29.2.1), none, none, none, none, none, none, some (.int e50.2), none, none, none] ⟨Or.inr rfl, Or.inl rfl, Or.inl rfl, Or.inl rfl, Or.inr rfl, Or.inl rfl, Or.inl rfl, Or.inl rfl, Or.inl rfl, Or.inl rfl, Or.inl rfl, Or.inr rfl, Or.inl rfl, Or.inl rfl, Or.inl rfl, trivial⟩ (fL_readings_J446_w C hN hm hX)
                    · replace hm := xif_f q hm
                      refine xw_iload (pc := 428) (i := 12) (x := v53.1) C dL_readings_428 rfl ?_
                      refine xw_iload (pc := 430) (i := 9) (x := ((1 : Int32) + v12)) C dL_readings_430 rfl ?_
                      refine xw_icmp_ne (pc := 432) (tgt := 442) C dL_readings_432 (by decide) (fun q => ?_) (fun q => ?_)
                      · replace hm := xif_f q hm
                        exact xw_sub (pc := 442) [some (.ref x0), none, none, none, some (.int e29.2.1), none, none, none, none, none, none, some (.int e50.2), none, none, none] ⟨Or.inr rfl, Or.inl rfl, Or.inl rfl, Or.inl rfl, Or.inr rfl, Or.inl rfl, Or.inl rfl, Or.inl rfl, Or.inl rfl, Or.inl rfl, Or.inl rfl, Or.inr rfl, Or.inl rfl, Or.inl rfl, Or.inl rfl, trivial⟩ (fL_readings_J442_w C hN hm hX)
                      · replace hm := xif_t q hm
                        refine xw_iload (pc := 435) (i := 13) (x := v56.1) C dL_readings_435 rfl ?_
                        refine xw_iload (pc := 437) (i := 10) (x := e29.2.2.2) C dL_readings_437 rfl ?_
                        refine xw_icmp_ne (pc := 439) (tgt := 446) C dL_readings_439 (by decide) (fun q => ?_) (fun q => ?_)
                        · replace hm := xif_f q hm
                          exact xw_sub (pc := 446) [some (.ref x0), none, none, none, some (.int e29.2.1), none, none, none, none, none, none, some (.int e50.2), none, none, none] ⟨Or.inr rfl, Or.inl rfl, Or.inl rfl, Or.inl rfl, Or.inr rfl, Or.inl rfl, Or.inl rfl, Or.inl rfl, Or.inl rfl, Or.inl rfl, Or.inl rfl, Or.inr rfl, Or.inl rfl, Or.inl rfl, Or.inl rfl, trivial⟩ (fL_readings_J446_w C hN hm hX)
                        · replace hm := xif_t q hm
                          exact xw_sub (pc := 442) [some (.ref x0), none, none, none, some (.int e29.2.1), none, none, none, none, none, none, some (.int e50.2), none, none, none] ⟨Or.inr rfl, Or.inl rfl, Or.inl rfl, Or.inl rfl, Or.inr rfl, Or.inl rfl, Or.inl rfl, Or.inl rfl, Or.inl rfl, Or.inl rfl, Or.inl rfl, Or.inr rfl, Or.inl rfl, Or.inl rfl, Or.inl rfl, trivial⟩ (fL_readings_J442_w C hN hm hX)
            · replace hm := xif_t q hm
              refine xw_iload (pc := 378) (i := 12) (x := v53.1) C dL_readings_378 rfl ?_
              refine xw_sipush (pc := 380) (v := -1004) C dL_readings_380 xk_s_m1004 ?_
              refine xw_icmp_ne (pc := 383) (tgt := 398) C dL_readings_383 (by decide) (fun q => ?_) (fun q => ?_)
              · replace hm := xif_f q hm
                exact xw_sub (pc := 398) [some (.ref x0), none, none, none, some (.int e29.2.1), none, none, none, none, none, none, some (.int e50.2), none, none, none] ⟨Or.inr rfl, Or.inl rfl, Or.inl rfl, Or.inl rfl, Or.inr rfl, Or.inl rfl, Or.inl rfl, Or.inl rfl, Or.inl rfl, Or.inl rfl, Or.inl rfl, Or.inr rfl, Or.inl rfl, Or.inl rfl, Or.inl rfl, trivial⟩ (fL_readings_J398_w C hN hm hX)
              · replace hm := xif_t q hm
                refine xw_iload (pc := 386) (i := 13) (x := v56.1) C dL_readings_386 rfl ?_
                refine xw_sipush (pc := 388) (v := -1004) C dL_readings_388 xk_s_m1004 ?_
                refine xw_icmp_ne (pc := 391) (tgt := 398) C dL_readings_391 (by decide) (fun q => ?_) (fun q => ?_)
                · replace hm := xif_f q hm
                  exact xw_sub (pc := 398) [some (.ref x0), none, none, none, some (.int e29.2.1), none, none, none, none, none, none, some (.int e50.2), none, none, none] ⟨Or.inr rfl, Or.inl rfl, Or.inl rfl, Or.inl rfl, Or.inr rfl, Or.inl rfl, Or.inl rfl, Or.inl rfl, Or.inl rfl, Or.inl rfl, Or.inl rfl, Or.inr rfl, Or.inl rfl, Or.inl rfl, Or.inl rfl, trivial⟩ (fL_readings_J398_w C hN hm hX)
                · replace hm := xif_t q hm
                  refine xw_iconst (pc := 394) (v := 1) C dL_readings_394 xk_i_1 ?_
                  refine xw_goto (pc := 395) (tgt := 447) C dL_readings_395 (by decide) ?_
                  exact xw_sub (pc := 447) [some (.ref x0), none, none, none, some (.int e29.2.1), none, none, none, none, none, none, some (.int e50.2), none, none, none] ⟨Or.inr rfl, Or.inl rfl, Or.inl rfl, Or.inl rfl, Or.inr rfl, Or.inl rfl, Or.inl rfl, Or.inl rfl, Or.inl rfl, Or.inl rfl, Or.inl rfl, Or.inr rfl, Or.inl rfl, Or.inl rfl, Or.inl rfl, trivial⟩ (fL_readings_J447_w C hN hm hX)
        · replace hm := xif_f q hm
          refine xw_iconst (pc := 251) (v := 0) C dL_readings_251 xk_i_0 ?_
          obtain rfl := Option.some.inj hm
          exact xw_zreturn (pc := 252) (v := xbi false) C dL_readings_252 rfl (xbi_nar _) hX
set_option maxHeartbeats 4000000 in
set_option maxRecDepth 100000 in
theorem wL_readings {l : Launch} {n sl : Nat} {h : XH} {x0 : Nat} {x1 : Int32} {x2 : Int32} {o : Bool × XH} (hm : fL_readings h n x0 x1 x2 = some o) : XM l yL_readings cL_readings 15 (some .boolean) 6 138 [.ref x0, .int x1, .int x2] h n sl (some (.int (xbi o.1))) o.2 (n + 1) (sl + 60) := by
  refine xm_of pnL [some (.ref x0), some (.int x1), some (.int x2), none, none, none, none, none, none, none, none, none, none, none, none] 12 rfl (Nat.le_of_ble_eq_true rfl) ?_
  intro X hT C
  replace C : XOK X RL cL_readings 15 "readings" (some .boolean) 6 138 := C
  obtain ⟨-, hN, hX⟩ := hT
  unfold fL_readings at hm
  refine xw_iconst (pc := 0) (v := 1) C dL_readings_0 xk_i_1 ?_
  refine xw_iload_n (pc := 1) (i := 2) (x := x2) C dL_readings_1 rfl rfl ?_
  refine xw_iload_n (pc := 2) (i := 2) (x := x2) C dL_readings_2 rfl rfl ?_
  refine xw_iconst (pc := 3) (v := 4) C dL_readings_3 xk_i_4 ?_
  refine xw_ishr (pc := 4) C dL_readings_4 ?_
  refine xw_iconst (pc := 5) (v := 3) C dL_readings_5 xk_i_3 ?_
  obtain ⟨v1, q2, hm⟩ := xbind hm
  refine xw_callS1 (pc := 6) (As := [.int (x2 >>> ((4 : Int32) &&& 31)), .int (3 : Int32)]) (st := [.int x2, .int (1 : Int32)]) C dL_readings_6 (wL_low q2) dd_L_low lk_L_16 ds_L_low rfl (Nat.le_of_ble_eq_true rfl) (Nat.le_of_ble_eq_true rfl) (Nat.le_of_ble_eq_true rfl) ⟨Nat.le_refl _, Nat.le_refl _⟩ ⟨by have := hN.1; omega, by have := hN.2; omega⟩ ?_
  refine xw_if_ne (pc := 9) (tgt := 18) C dL_readings_9 (by decide) (fun q => ?_) (fun q => ?_)
  · replace hm := xif_f q hm
    refine xw_bipush (pc := 18) (v := 40) C dL_readings_18 xk_b_40 ?_
    exact xw_sub (pc := 20) [some (.ref x0), some (.int x1), some (.int x2), none, none, none, none, none, none, none, none, none, none, none, none] ⟨Or.inr rfl, Or.inr rfl, Or.inr rfl, Or.inl rfl, Or.inl rfl, Or.inl rfl, Or.inl rfl, Or.inl rfl, Or.inl rfl, Or.inl rfl, Or.inl rfl, Or.inl rfl, Or.inl rfl, Or.inl rfl, Or.inl rfl, trivial⟩ (fL_readings_J20_w C hN hm hX)
  · replace hm := xif_t q hm
    refine xw_sipush (pc := 12) (v := 200) C dL_readings_12 xk_s_200 ?_
    refine xw_goto (pc := 15) (tgt := 20) C dL_readings_15 (by decide) ?_
    exact xw_sub (pc := 20) [some (.ref x0), some (.int x1), some (.int x2), none, none, none, none, none, none, none, none, none, none, none, none] ⟨Or.inr rfl, Or.inr rfl, Or.inr rfl, Or.inl rfl, Or.inl rfl, Or.inl rfl, Or.inl rfl, Or.inl rfl, Or.inl rfl, Or.inl rfl, Or.inl rfl, Or.inl rfl, Or.inl rfl, Or.inl rfl, Or.inl rfl, trivial⟩ (fL_readings_J20_w C hN hm hX)
