/-! readings added, as the law does it -/
theorem ad2_t {p : Nat → Int} {r : Nat} (h : p 76 = r) (t s : Int) : ad2 p t s (77 + 2 * r) = t := by
  unfold ad2
  rw [h, pu_n _ _ (by omega), pu_n _ _ (by omega), show (77 + 2 * (r : Int)).toNat = 77 + 2 * r by omega, pu_s]
theorem ad2_s {p : Nat → Int} {r : Nat} (h : p 76 = r) (t s : Int) : ad2 p t s (78 + 2 * r) = s := by
  unfold ad2
  rw [h, pu_n _ _ (by omega), show (77 + 2 * (r : Int) + 1).toNat = 78 + 2 * r by omega, pu_s]
theorem ad2_76 (p : Nat → Int) (t s : Int) : ad2 p t s 76 = p 76 + 1 := pu_s _ _ _
theorem nfl_27 {p : Nat → Int} (V : VP p) (a : p 74 < 200) (b : p 75 ≤ 30) : 27 ≤ nfl p := by
  have c := V.per
  have d : 26 ≤ (1000 - p 74) / p 75 := Int.le_ediv_of_mul_le (by omega) (by omega)
  unfold nfl
  omega
theorem trn_lin {p : Nat → Int} (h : p 63 = 0) (t : Nat) : trn p t = p 61 + p 62 * t := by
  have e := trn_seg (p := p) (v := p 62) (a := 0) t (fun u _ _ => by
    unfold spd
    rw [h]
    rfl)
  rw [Nat.zero_add] at e
  exact e
theorem wst_mod {p : Nat → Int} (d : Int) : (d - wst p d) % (msr p : Int) = 0 := by
  have e := Int.emod_add_mul_ediv d (msr p)
  unfold wst
  split
  · rw [show d - d % (msr p : Int) = (msr p : Int) * (d / (msr p : Int)) by omega]
    exact Int.mul_emod_right _ _
  · rw [show d - (d % (msr p : Int) - (msr p : Int)) = (msr p : Int) * (d / (msr p : Int) + 1) by rw [Int.mul_add, Int.mul_one]; omega]
    exact Int.mul_emod_right _ _
theorem look_all {p : Nat → Int} (V : VP p) (h : p 63 = 0) {z : Int} (hz : 0 ≤ z ∧ z ≤ nfl p - 2) : (p 62 * p 75 - wst p (trn p (tkf p (z + 1)).toNat - trn p (tkf p z).toNat)) % (msr p : Int) = 0 := by
  have n := nfl_rng V
  have a := tkf_rng V (k := z) (by omega)
  have b := tkf_rng V (k := z + 1) (by omega)
  have c : tkf p (z + 1) = tkf p z + p 75 := by
    unfold tkf
    rw [Int.add_mul, Int.one_mul]
    omega
  have d : trn p (tkf p (z + 1)).toNat - trn p (tkf p z).toNat = p 62 * p 75 := by
    rw [trn_lin h, trn_lin h, show (((tkf p (z + 1)).toNat : Nat) : Int) = tkf p z + p 75 by omega, show (((tkf p z).toNat : Nat) : Int) = tkf p z by omega, Int.mul_add]
    omega
  rw [d]
  exact wst_mod _
def LI (h0 : XH) (p0 : Nat → Int) (r : Nat) (al : Bool) (h : XH) (p : Nat → Int) : Prop := RX h p ∧ p 76 = r ∧ (0 ≤ p 74 ∧ p 74 < 200) ∧ (1 ≤ p 75 ∧ p 75 ≤ 30) ∧ (∀ i, i ≤ 73 → p i = p0 i) ∧ (al = true → p0 63 = 0 ∧ ∀ k, k < r → (p0 62 * p (77 + 2 * k) - p (78 + 2 * k)) % (msr p0 : Int) = 0) ∧ ∀ x, 101 < x → h x = h0 x
section
variable {h0 h : XH} {p0 p : Nat → Int} {r : Nat} {al : Bool} {N0 : Nat} {xs : Nat → Int32}
theorem l323 (I : LI h0 p0 r al h p) (hr : r < 4) {h2 : XH} {t s : Int} (R2 : RX h2 (ad2 p t s)) (u2 : frz h h2) (lk : Bool) (hts : lk = true → p0 63 = 0 → (p0 62 * t - s) % (msr p0 : Int) = 0) (x8 g : Int32) : ∃ h' p' al', fL_law_J323 N0 xs h2 0 104 (i32 (msr p0)) x8 al (i32 (r : Nat)) g lk (i32 t) (i32 s) (i32 (p 76)) = some (.inl (h', al', i32 ((r + 1 : Nat) : Int))) ∧ LI h0 p0 (r + 1) al' h' p' := by
  obtain ⟨R, q76, q74, q75, qe, qa, qu⟩ := I
  obtain ⟨h3, e3, R3, u3⟩ := R2.rd0 (i := (r : Nat)) (by rw [ad2_76]; omega)
  obtain ⟨h4, e4, R4, u4⟩ := R3.rd1 (i := (r : Nat)) (by rw [ad2_76]; omega)
  rw [Int.toNat_natCast, ad2_t q76] at e3
  rw [Int.toNat_natCast, ad2_s q76] at e4
  obtain ⟨a, ea, ha⟩ := low_ok (g >>> ((15 : Int32) &&& 31)) (n := 20) (by omega)
  obtain ⟨b, eb, hb⟩ := low_ok (g >>> ((19 : Int32) &&& 31)) (n := 20) (by omega)
  rw [← L_20] at ea eb
  obtain ⟨h5, e5, R5, u5⟩ := R4.fl (a := a) (b := 1 + b) (by omega) (by omega)
  have J : ∀ z : Bool, fL_law_J373 N0 xs h4 0 104 (i32 (msr p0)) x8 (i32 (r : Nat)) g z = some (.inl (h5, z, i32 ((r + 1 : Nat) : Int))) := fun z => by
    unfold fL_law_J373
    rw [obb ea, obb eb, obb R4.c, show (1 : Int32) + i32 b = i32 (1 + b) by rw [L_1, i32_add], obb e5, L_1, i32_add]
    rfl
  have J2 : fL_law_J372 N0 xs h4 0 104 (i32 (msr p0)) x8 (i32 (r : Nat)) g = some (.inl (h5, false, i32 ((r + 1 : Nat) : Int))) := J false
  have pe : ∀ i, i ≠ 74 → i ≠ 75 → fl2 (ad2 p t s) a (1 + b) i = ad2 p t s i := fun i i1 i2 => by
    unfold fl2
    rw [pu_n _ _ i2, pu_n _ _ i1]
  have p74 : fl2 (ad2 p t s) a (1 + b) 74 = a := by
    unfold fl2
    rw [pu_n _ _ (by omega), pu_s]
  have p75 : fl2 (ad2 p t s) a (1 + b) 75 = 1 + b := pu_s _ _ _
  refine ⟨h5, fl2 (ad2 p t s) a (1 + b), al && lk, ?_, R5, ?_, by omega, by omega, fun i hi => ?_, fun z => ?_, fun x hx => (u5 x hx).trans ((u4 x hx).trans ((u3 x hx).trans ((u2 x hx).trans (qu x hx))))⟩
  · unfold fL_law_J323
    rw [if_pos (congrArg i32 q76), obb R2.c, obb e3, if_pos rfl, obb R3.c, obb e4, if_pos rfl]
    cases al with
    | false => rw [if_neg Bool.false_ne_true]; exact J2
    | true =>
      rw [if_pos rfl]
      cases lk with
      | false => rw [if_neg Bool.false_ne_true]; exact J2
      | true => rw [if_pos rfl]; exact J true
  · rw [pe _ (by omega) (by omega), ad2_76]; omega
  · rw [pe _ (by omega) (by omega), ad2_n (by omega) _ _ (by omega)]
    exact qe i hi
  · rw [Bool.and_eq_true] at z
    obtain ⟨b1, b2⟩ := qa z.1
    refine ⟨b1, fun k hk => ?_⟩
    rw [pe _ (by omega) (by omega), pe _ (by omega) (by omega)]
    by_cases y : k = r
    · subst y
      rw [ad2_t q76, ad2_s q76]
      exact hts z.2 b1
    · rw [ad2_n (by omega) _ _ (by omega), ad2_n (by omega) _ _ (by omega)]
      exact b2 k (by omega)
theorem l206 (V0 : VP p0) (I : LI h0 p0 r al h p) (hr : r < 4) (x8 g : Int32) (lk : Bool) : ∃ h' p' al', fL_law_J206 N0 xs h 0 104 (i32 (msr p0)) x8 al (i32 (r : Nat)) g lk = some (.inl (h', al', i32 ((r + 1 : Nat) : Int))) ∧ LI h0 p0 (r + 1) al' h' p' := by
  obtain ⟨R, q76, q74, q75, qe, qa, qu⟩ := id I
  have V := R.V
  have n27 := nfl_27 V q74.2 q75.2
  have nr := nfl_rng V
  have ms : msr p = msr p0 := msr_sw V0 V (fun i hi => qe i (by omega))
  obtain ⟨fl, ef, hf⟩ := low_ok (g >>> ((3 : Int32) &&& 31)) (n := 5) (by omega)
  rw [← L_5] at ef
  have w := wst_rng V (trn p (tkf p (fl + 1)).toNat - trn p (tkf p fl).toNat)
  unfold fL_law_J206
  rw [obb R.c, obb R.n7, obb ef, obb R.c, obb R.n8, show i32 fl + (1 : Int32) = i32 (fl + 1) by rw [L_1, i32_add], ile_f (by omega), obb R.c, obb (R.fl2 (by omega))]
  unfold fL_law_J250 fL_law_J274 fL_law_J299
  cases lk with
  | true =>
    obtain ⟨h2, e2, R2, u2⟩ := R.look (z := fl) (by omega) (by omega)
    rw [if_pos rfl, if_pos rfl, if_pos rfl, obb R.c, obb e2]
    exact l323 I hr R2 u2 true (fun _ h63 => by
      rw [← ms, ← qe 62 (by omega)]
      exact look_all V (by rw [qe 63 (by omega)]; exact h63) (by omega)) x8 g
  | false =>
    obtain ⟨a, ea, ha⟩ := low_ok (g >>> ((6 : Int32) &&& 31)) (n := 30) (by omega)
    obtain ⟨b, eb, hb⟩ := low_ok (g >>> ((11 : Int32) &&& 31)) (n := 13) (by omega)
    rw [← L_30] at ea
    rw [← L_13] at eb
    obtain ⟨h2, e2, R2, u2⟩ := R.read (t := 1 + a) (s := b - 6) (by omega) (by omega) (by omega)
    rw [if_neg Bool.false_ne_true, obb ea, if_neg Bool.false_ne_true, obb eb, if_neg Bool.false_ne_true, obb R.c, show (1 : Int32) + i32 a = i32 (1 + a) by rw [L_1, i32_add], show i32 b - (6 : Int32) = i32 (b - 6) by rw [L_6, i32_sub], obb e2]
    exact l323 I hr R2 u2 false (fun z => by cases z) x8 g
theorem l174 (hN : N0 ≤ 260) (V0 : VP p0) (I : LI h0 p0 0 al h p) {m : Int} (hm : 0 ≤ m ∧ m ≤ 4) : ∃ h' p' al', xloop (fL_law_B174 N0 xs 0 104 (i32 (msr p0)) (i32 m)) 5000 (h, al, (0 : Int32)) = some (h', al') ∧ LI h0 p0 m.toNat al' h' p' := by
  obtain ⟨e, he, h', p', al', rfl, I'⟩ := xl_inv (fL_law_B174 N0 xs 0 104 (i32 (msr p0)) (i32 m)) (fun r s => ∃ (h' : XH) (p' : Nat → Int) (al' : Bool), s = (h', al', i32 (r : Nat)) ∧ LI h0 p0 r al' h' p') m.toNat (fun e => ∃ (h' : XH) (p' : Nat → Int) (al' : Bool), e = (h', al') ∧ LI h0 p0 m.toNat al' h' p') (by
    rintro r s hr ⟨h1, p1, a1, rfl, I1⟩
    obtain ⟨g, eg⟩ := cell_ok (xs := xs) hN (k := 16 + (r : Int)) (by omega)
    obtain ⟨a, ea, ha⟩ := low_ok g (n := 3) (by omega)
    rw [← L_3] at ea
    unfold fL_law_B174 fL_law_b174
    dsimp only
    rw [ile_f (by omega), show (16 : Int32) + i32 (r : Nat) = i32 (16 + (r : Int)) by rw [L_16, i32_add], obb eg, obb ea]
    split
    · obtain ⟨h2, p2, a2, e2, I2⟩ := l206 (N0 := N0) (xs := xs) V0 I1 (by omega) (i32 m) g false
      exact ⟨_, e2, h2, p2, a2, rfl, I2⟩
    · obtain ⟨h2, p2, a2, e2, I2⟩ := l206 (N0 := N0) (xs := xs) V0 I1 (by omega) (i32 m) g true
      exact ⟨_, e2, h2, p2, a2, rfl, I2⟩) (by
    rintro s ⟨h1, p1, a1, rfl, I1⟩
    refine ⟨(h1, a1), ?_, h1, p1, a1, rfl, I1⟩
    unfold fL_law_B174 fL_law_b174
    dsimp only
    rw [ile_t (by omega)]) (h, al, (0 : Int32)) ⟨h, p, al, rfl, I⟩ 5000 (by omega)
  exact ⟨h', p', al', he, I'⟩
end
/-! the nearest is the speed itself -/
theorem near_at {p : Nat → Int} (V : VP p) {w : Int} (hw : -p 93 ≤ w ∧ w ≤ p 93) (hf : fit p (-1) w = true) : aNear p w = w := by
  have l := V.lim
  have e : (((w + p 93).toNat : Nat) : Int) - p 93 = w := by omega
  have hF : fitL p (-1) (w + p 93).toNat = true := by
    show fit p (-1) ((((w + p 93).toNat : Nat) : Int) - p 93) = true
    rw [e]
    exact hf
  have key : ∀ d, nrC p w ((w + p 93).toNat + 1 + d) = some w := by
    intro d
    induction d with
    | zero =>
      have nx : nrC p w ((w + p 93).toNat + 1 + 0) = if fitL p (-1) (w + p 93).toNat = true then nrS w ((((w + p 93).toNat : Nat) : Int) - p 93) (nrC p w (w + p 93).toNat) else nrC p w (w + p 93).toNat := rfl
      rw [nx, hF, if_pos rfl, e]
      cases nrC p w (w + p 93).toNat with
      | none => rfl
      | some b =>
        simp only [nrS]
        split
        · congr 1
          omega
        · rfl
    | succ d ih =>
      have nx : nrC p w ((w + p 93).toNat + 1 + (d + 1)) = if fitL p (-1) ((w + p 93).toNat + 1 + d) = true then nrS w ((((w + p 93).toNat + 1 + d : Nat) : Int) - p 93) (nrC p w ((w + p 93).toNat + 1 + d)) else nrC p w ((w + p 93).toNat + 1 + d) := rfl
      rw [nx, ih]
      split
      · simp only [nrS]
        rw [if_pos (by omega)]
      · rfl
  obtain ⟨d, hd⟩ : ∃ d, (2 * p 93 + 1).toNat = (w + p 93).toNat + 1 + d := ⟨(2 * p 93 + 1).toNat - ((w + p 93).toNat + 1), by omega⟩
  unfold aNear
  rw [if_pos (by omega), hd, key d]
  rfl
/-! the period with which it stands still -/
theorem lst_sh {P : Nat → Bool} : ∀ f k, lst P f (k + 1) = lst (fun i => P (i + 1)) f k + 1
  | 0, k => rfl
  | f + 1, k => by
    simp only [lst]
    split
    · rfl
    · exact lst_sh f (k + 1)
noncomputable def sv (p : Nat → Int) (b : Int) (j : Nat) : Int := if lst (stP p b) j 0 < j then b + (lst (stP p b) j 0 : Int) else -1004
theorem sv_s (p : Nat → Int) (b : Int) (j : Nat) : sv p (b - 1) (j + 1) = if p 62 * (b - 1) % (msr p : Int) = 0 then b - 1 else sv p b j := by
  have e0 : stP p (b - 1) 0 = decide (p 62 * (b - 1) % (msr p : Int) = 0) := by
    show decide (p 62 * (b - 1 + ((0 : Nat) : Int)) % (msr p : Int) = 0) = _
    rw [show b - 1 + ((0 : Nat) : Int) = b - 1 by omega]
  have e1 : (fun i => stP p (b - 1) (i + 1)) = stP p b := by
    funext i
    show decide (p 62 * (b - 1 + ((i + 1 : Nat) : Int)) % (msr p : Int) = 0) = decide (p 62 * (b + (i : Int)) % (msr p : Int) = 0)
    rw [show b - 1 + ((i + 1 : Nat) : Int) = b + (i : Int) by omega]
  have e2 : lst (stP p (b - 1)) (j + 1) 0 = if stP p (b - 1) 0 = true then 0 else lst (stP p b) j 0 + 1 := by
    rw [← e1, ← lst_sh]
    rfl
  unfold sv
  rw [e2, e0]
  by_cases q : p 62 * (b - 1) % (msr p : Int) = 0
  · rw [decide_eq_true q, if_pos rfl, if_pos (by omega), if_pos q]
    omega
  · rw [decide_eq_false q, if_neg Bool.false_ne_true, if_neg q]
    by_cases y : lst (stP p b) j 0 < j
    · rw [if_pos (by omega), if_pos y]
      omega
    · rw [if_neg (by omega), if_neg y]
section
variable {h : XH} {p : Nat → Int} {N0 : Nat} {xs : Nat → Int32}
theorem lstill (V : VP p) {f : Nat → Int32} (A : h 104 = some (.inr (0, 6, .inl f))) (f0 : f 0 = i32 (p 62)) {a : Int} (ha : 1 ≤ a ∧ a ≤ 60) : xloop (fL_law_B462 N0 xs h 0 104 (i32 (msr p)) (i32 a)) 5000 ((-1004 : Int32), (60 : Int32)) = some (i32 (aStill p a 60)) := by
  have hm := msr_rng V
  have hs := V.speed
  have g0 : xaI h 104 0 (0 : Int32) = some (i32 (p 62)) := by
    have := xget A (i := 0) (by omega) (by omega)
    rw [f0] at this
    exact this
  have ea : aStill p a 60 = sv p a (61 - a).toNat := by
    unfold aStill sv
    rw [if_pos (decide_eq_true (by omega)), if_pos (decide_eq_true (by omega)), show (60 : Int) - a + 1 = 61 - a by omega]
  have fl := xl_run (fL_law_B462 N0 xs h 0 104 (i32 (msr p)) (i32 a)) (fun j => (i32 (sv p (61 - (j : Int)) j), i32 (60 - (j : Int)))) (61 - a).toNat (i32 (aStill p a 60)) (fun j hj => by
    have mb := mulb (a := p 62) (b := 60 - (j : Int)) (A := 1000) (B := 60) (by omega) (by omega)
    have r := s_mod V (p 62 * (60 - (j : Int)))
    have s1 := sv_s p (61 - (j : Int)) j
    rw [show (61 : Int) - (j : Int) - 1 = 60 - (j : Int) by omega] at s1
    unfold fL_law_B462 fL_law_b462
    dsimp only
    rw [ilt_f (by omega), obb g0, i32_mul, obb (lmod_ok (by omega) (by omega)), L_0, ceq (by omega), L_m1, i32_add, show (61 : Int) - ((j + 1 : Nat) : Int) = 60 - (j : Int) by omega, s1, show (60 : Int) - (j : Int) + -1 = 60 - ((j + 1 : Nat) : Int) by omega]
    by_cases q : p 62 * (60 - (j : Int)) % (msr p : Int) = 0
    · rw [if_pos q, if_pos q]
    · rw [if_neg q, if_neg q]) (by
    unfold fL_law_B462 fL_law_b462
    dsimp only
    rw [ilt_t (by omega), ea, show (61 : Int) - (((61 - a).toNat : Nat) : Int) = a by omega]) 5000 (by omega)
  exact fl
theorem l438 (hN : N0 ≤ 260) (R : RX h p) {f : Nat → Int32} (A : h 104 = some (.inr (0, 6, .inl f))) (f0 : f 0 = i32 (p 62)) : fL_law_J438 N0 xs h 0 0 104 (i32 (msr p)) = some () := by
  have V := R.V
  obtain ⟨c, ec⟩ := cell_ok (xs := xs) hN (k := 22) (by omega)
  obtain ⟨g, eg⟩ := cell_ok (xs := xs) hN (k := 23) (by omega)
  have ec' : fL_cell N0 xs (22 : Int32) = some c := ec
  have eg' : fL_cell N0 xs (23 : Int32) = some g := eg
  obtain ⟨a, ea, ha⟩ := low_ok c (n := 60) (by omega)
  rw [← L_60] at ea
  have c1 : (1 : Int32) + i32 a = i32 (1 + a) := by rw [L_1, i32_add]
  have es := cStill R.N V (a := 1 + a) (b := 60) (by omega) (by omega)
  have es' : fX8_stillPeriod h 0 (i32 (1 + a)) (60 : Int32) = some (i32 (aStill p (1 + a) 60)) := es
  obtain ⟨h', er⟩ := lreadings R g
  unfold fL_law_J438
  rw [obb ec', obb ea, c1, obb (lstill V A f0 (by omega)), obb R.c, obb es', if_pos rfl, obb eg', Nat.zero_add, obb er, if_pos rfl]
theorem l169 (hN : N0 ≤ 260) (R : RX h p) {f : Nat → Int32} (A : h 104 = some (.inr (0, 6, .inl f))) (f0 : f 0 = i32 (p 62)) (h76 : p 76 = 0) (h74 : 0 ≤ p 74 ∧ p 74 < 200) (h75 : 1 ≤ p 75 ∧ p 75 ≤ 30) {m : Int} (hm : 0 ≤ m ∧ m ≤ 4) {al : Bool} (hal : al = true → p 63 = 0) : fL_law_J169 N0 xs h 0 0 104 (i32 (msr p)) (i32 m) al = some () := by
  have V := R.V
  obtain ⟨h1, p1, a1, e1, R1, q76, q74, q75, qe, qa, qu⟩ := l174 (h0 := h) (p0 := p) (h := h) (p := p) (al := al) (N0 := N0) (xs := xs) hN V ⟨R, h76, h74, h75, fun _ _ => rfl, fun z => ⟨hal z, fun k hk => absurd hk (by omega)⟩, fun _ _ => rfl⟩ hm
  obtain ⟨h2, e2, R2, u2⟩ := R1.lim (z := 1000) (by omega)
  have e2' : fX8_setLimit h1 0 (1000 : Int32) = some (i32 (p1 93), h2) := e2
  have A2 : h2 104 = some (.inr (0, 6, .inl f)) := (u2 104 (by omega)).trans ((qu 104 (by omega)).trans A)
  have pe : ∀ i, i ≠ 93 → pu p1 93 1000 i = p1 i := fun i hi => pu_n _ _ hi
  have p93 : pu p1 93 1000 93 = 1000 := pu_s _ _ _
  generalize pu p1 93 1000 = p2 at *
  have V2 := R2.V
  have ms : msr p2 = msr p := msr_sw V V2 (fun i hi => by rw [pe i (by omega)]; exact qe i (by omega))
  have e62 : p2 62 = p 62 := by rw [pe _ (by omega)]; exact qe 62 (by omega)
  have g0 : xaI h2 104 0 (0 : Int32) = some (i32 (p2 62)) := by
    have := xget A2 (i := 0) (by omega) (by omega)
    rw [f0, ← e62] at this
    exact this
  have sp := V2.speed
  unfold fL_law_J169
  rw [obb e1, obb R1.c, obb e2']
  dsimp only
  rw [← ms]
  by_cases z : a1 = true
  · obtain ⟨b1, b2⟩ := qa z
    have ft : fit p2 (-1) (p2 62) = true := by
      unfold fit
      rw [allb_iff, pe 76 (by omega), q76]
      intro k hk
      unfold okk
      rw [Bool.or_eq_true, decide_eq_true_eq, decide_eq_true_eq, ms, e62, pe _ (by omega), pe _ (by omega)]
      exact .inr (b2 k (by omega))
    obtain ⟨h3, e3, R3, u3⟩ := R2.op (cNear R2.N V2 R2.ca (w := p2 62) (by omega))
    rw [near_at V2 (by omega) ft] at e3
    have A3 := (u3 104 (by omega)).trans A2
    have g1 : xaI h3 104 0 (0 : Int32) = some (i32 (p2 62)) := by
      have := xget A3 (i := 0) (by omega) (by omega)
      rw [f0, ← e62] at this
      exact this
    rw [if_pos z, obb g0, obb R2.c, obb e3]
    dsimp only
    rw [obb g1, if_pos rfl]
    exact l438 hN R3 A3 (by rw [f0, e62])
  · rw [if_neg z]
    exact l438 hN R2 A2 (by rw [f0, e62])
end
/-! the law itself -/
theorem law_true0 (N0 : Nat) (xs : Nat → Int32) (hN : N0 ≤ 260) : fL_law N0 xs (fun _ => none) 0 = some () := by
  unfold fL_law
  simp only [Nat.zero_add]
  obtain ⟨h1, e1, c1, u1⟩ := nwu (fun _ => none) 0 (.inl (8, [.null, .null, .null, .null, .null]))
  obtain ⟨h2, e2, C2, u2⟩ := cini c1
  obtain ⟨h3, e3, A3, u3⟩ := nwu h2 102 (.inr (0, 60, .inl (fun _ => 0)))
  have C3 := C2.re (h' := h3) (fun x hx => u3 x (by omega))
  obtain ⟨h4, p4, e4, R4, M4, c4, z4, u4⟩ := lwheel (N0 := N0) (xs := xs) hN vDf C3 A3
  obtain ⟨w, ew⟩ := cell_ok (xs := xs) hN (k := 0) (by omega)
  have ew' : fL_cell N0 xs (0 : Int32) = some w := ew
  obtain ⟨c, ec, hc⟩ := low_ok w (n := 4) (by omega)
  rw [← L_4] at ec
  obtain ⟨h5, e5, A5, u5⟩ := nwu h4 103 (.inr (0, 6, .inl (fun _ => 0)))
  obtain ⟨h6, e6, A6, u6⟩ := nwu h5 104 (.inr (0, 6, .inl (fun _ => 0)))
  have R6 : RX h6 p4 := R4.re (fun x hx => (u6 x (by omega)).trans (u5 x (by omega)))
  obtain ⟨h7, p7, e7, R7, T7, c7, S7, u7⟩ := lspeeds (N0 := N0) (xs := xs) hN R6 c4 ((u6 103 (by omega)).trans A5) A6 (c := c) (by omega)
  have M7 : MkAt h7 p7 := M4.cg ((u7 102 (by omega) (by omega) (by omega)).trans ((u6 102 (by omega)).trans (u5 102 (by omega)))) (fun i hi => S7 i (by omega)) R4.V
  have V7 := R7.V
  have n7 := V7.n
  have m7 := msr_rng V7
  have lm := lmeas M7 V7
  have e0 : p7 0 = p4 0 := S7 0 (by omega)
  have cc : i32 c + (1 : Int32) = i32 (p7 63 + 1) := by rw [L_1, i32_add, c7]
  obtain ⟨g1, eg1⟩ := cell_ok (xs := xs) hN (k := 14) (by omega)
  obtain ⟨g2, eg2⟩ := cell_ok (xs := xs) hN (k := 15) (by omega)
  have eg1' : fL_cell N0 xs (14 : Int32) = some g1 := eg1
  have eg2' : fL_cell N0 xs (15 : Int32) = some g2 := eg2
  obtain ⟨h8, p8, e8, R8, M8, T8, E8, -, -, u8⟩ := lflashes R7 M7 T7 g1
  obtain ⟨h9, p9, e9, R9, M9, T9, E9, a9, b9, u9⟩ := lflashes R8 M8 T8 g2
  rw [E8 0 (by omega) (by omega), E8 63 (by omega) (by omega)] at e9
  have E79 : ∀ i, i ≠ 74 → i ≠ 75 → p9 i = p7 i := fun i a b => (E9 i a b).trans (E8 i a b)
  have ms : msr p9 = msr p7 := msr_sw V7 R9.V (fun i hi => E79 i (by omega) (by omega))
  obtain ⟨m, em, hm⟩ := low_ok (w >>> ((4 : Int32) &&& 31)) (n := 5) (by omega)
  rw [← L_5] at em
  obtain ⟨f, g, A9, B9, Q9⟩ := id T9
  have f0 : g 0 = i32 (p9 62) := (Q9 0 (by have := R9.V.ch; omega)).2
  have h76 : p9 76 = 0 := by
    rw [E79 76 (by omega) (by omega), S7 76 (by omega), z4 76 (by omega)]
    rfl
  have rm : xrem (i32 (p4 0)) (i32 (msr p7)) = 0 := by
    rw [← e0, i32_rem (by omega) (by omega), tmod_pos (by omega), Int.emod_eq_zero_of_dvd (s_dvd V7)]
    rfl
  have go : ∀ al : Bool, (al = true → c = 0) → fL_law_J169 N0 xs h9 0 0 104 (i32 (msr p7)) (i32 m) al = some () := fun al hal => by
    rw [← ms]
    exact l169 hN R9 B9 f0 h76 a9 b9 (by omega) (fun z => by rw [E79 63 (by omega) (by omega), c7]; exact hal z)
  rw [obb e1, obb e2, obb e3, obb e4, if_pos rfl, obb R4.c, obb R4.n0, obb ew', obb ec, obb e5, obb e6, obb e7, if_pos rfl, ← e0, obb lm, obb R7.c, obb R7.n2, if_pos rfl, if_neg (by rw [L_0, i32_eq (by omega)]; omega), e0, if_pos rm, obb eg1', ← e0, cc, obb e8, if_pos rfl, obb eg2', obb e9, if_pos rfl, obb ew', obb em]
  by_cases q : i32 c = 0
  · rw [if_pos q]
    exact go true (fun _ => by rw [L_0, i32_eq (by omega)] at q; exact q)
  · rw [if_neg q]
    exact go false (fun z => by cases z)
