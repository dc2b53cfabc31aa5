/-! readings written -/
def ad2 (p : Nat → Int) (t s : Int) : Nat → Int := pu (pu (pu p (77 + 2 * p 76).toNat t) (77 + 2 * p 76 + 1).toNat s) 76 (p 76 + 1)
def oAdd (p : Nat → Int) (t s : Int) : Int × Option (Nat → Int) := if p 76 < 8 then (p 76, some (ad2 p t s)) else (-1003, none)
theorem ad2_n {p : Nat → Int} (hp : 0 ≤ p 76) (t s : Int) {i : Nat} (h : i ≠ 76 ∧ (i : Int) ≠ 77 + 2 * p 76 ∧ (i : Int) ≠ 78 + 2 * p 76) : ad2 p t s i = p i := by
  unfold ad2
  rw [pu_n _ _ h.1, pu_n _ _ (by omega), pu_n _ _ (by omega)]
theorem vAdd {p : Nat → Int} (hV : VP p) {t s : Int} (ht : 1 ≤ t ∧ t ≤ 500) (hs : -30 ≤ s ∧ s ≤ 30) : VO (oAdd p t s).2 := by
  have hr := hV.rd
  unfold oAdd
  split
  · rename_i q
    obtain ⟨r1, r2, r3, r4, r5, r6, r7, r8⟩ := hV.lo
    have e : ∀ i : Nat, i ≠ 76 ∧ (i : Int) ≠ 77 + 2 * p 76 ∧ (i : Int) ≠ 78 + 2 * p 76 → ad2 p t s i = p i := fun i h => ad2_n hr.1 t s h
    refine VO.so (hV.hi (fun i hi => e i (by omega)) ?_)
    rw [e 74 (by omega), e 75 (by omega), e 93 (by omega), e 94 (by omega), e 95 (by omega), e 96 (by omega), e 97 (by omega)]
    have e76 : ad2 p t s 76 = p 76 + 1 := pu_s _ _ _
    rw [e76]
    refine ⟨r1, r2, by omega, fun k hk => ?_, r5, r6, r7, r8⟩
    by_cases w : (k : Int) = p 76
    · have a : ad2 p t s (77 + 2 * k) = t := by
        unfold ad2
        rw [pu_n _ _ (by omega), pu_n _ _ (by omega), show (77 + 2 * p 76).toNat = 77 + 2 * k by omega, pu_s]
      have b : ad2 p t s (78 + 2 * k) = s := by
        unfold ad2
        rw [pu_n _ _ (by omega), show (77 + 2 * p 76 + 1).toNat = 78 + 2 * k by omega, pu_s]
      rw [a, b]; exact ⟨ht, hs⟩
    · rw [e _ (by omega), e _ (by omega)]
      exact r4 k (by omega)
  · exact VO.no
theorem radd {h : XH} {p : Nat → Int} (H : RdAt h 7 p) (hV : VP p) (q : p 76 < 8) (t s : Int) : ∃ h', fX4_add h 7 (i32 t) (i32 s) = some h' ∧ RdAt h' 7 (ad2 p t s) ∧ ∀ x, (x < 7 ∨ 9 < x) → h' x = h x := by
  have hr := hV.rd
  obtain ⟨ft, fs, s0, s1, s2, sc⟩ := H
  have e1 := put_ok s1 (by omega) (i := p 76) (i32 t) (by omega)
  rw [if_pos (by omega)] at e1
  have s0' := (xup_n h (.inr (0, 8, .inl (upd ft (p 76).toNat (i32 t)))) (show (7 : Nat) ≠ 8 by omega)).trans s0
  have s2' := (xup_n h (.inr (0, 8, .inl (upd ft (p 76).toNat (i32 t)))) (show (9 : Nat) ≠ 8 by omega)).trans s2
  have e2 := put_ok s2' (by omega) (i := p 76) (i32 s) (by omega)
  rw [if_pos (by omega)] at e2
  have s0'' := (xup_n (xup h 8 (.inr (0, 8, .inl (upd ft (p 76).toNat (i32 t))))) (.inr (0, 8, .inl (upd fs (p 76).toNat (i32 s)))) (show (7 : Nat) ≠ 9 by omega)).trans s0'
  obtain ⟨h3, e3, a3, u3⟩ := pfw s0'' 2 (.int (i32 (p 76 + 1))) (Nat.le_of_ble_eq_true rfl)
  unfold fX4_add
  have r1 : xgR h 7 4 0 = some 8 := gR s0 0 rfl
  have r2 : xgR (xup h 8 (.inr (0, 8, .inl (upd ft (p 76).toNat (i32 t))))) 7 4 1 = some 9 := gR s0' 1 rfl
  have e1' : fX8_put h 8 (i32 (p 76)) (i32 t) = _ := e1
  have e2' : fX8_put _ 9 (i32 (p 76)) (i32 s) = _ := e2
  rw [obb r1, obb (gI s0 2 rfl), obb e1', obb r2, obb (gI s0' 2 rfl), obb e2', obb (gI s0'' 2 rfl), L_1, i32_add, obb e3]
  refine ⟨h3, rfl, ⟨upd ft (p 76).toNat (i32 t), upd fs (p 76).toNat (i32 s), ?_, ?_, ?_, ?_⟩, fun x hx => (u3 x (by omega)).trans ((xup_n _ _ (by omega)).trans (xup_n _ _ (by omega)))⟩
  · rw [show ad2 p t s 76 = p 76 + 1 from pu_s _ _ _, ad2_n hr.1 t s (i := 93) (by omega)]; exact a3
  · exact (u3 _ (by omega)).trans ((xup_n _ _ (by omega)).trans (xup_s _ _ _))
  · exact (u3 _ (by omega)).trans (xup_s _ _ _)
  · intro k k1 k2
    rw [show ad2 p t s 76 = p 76 + 1 from pu_s _ _ _] at k2
    simp only [upd]
    by_cases w : (k : Int) = p 76
    · have a : ad2 p t s (77 + 2 * k) = t := by
        unfold ad2
        rw [pu_n _ _ (by omega), pu_n _ _ (by omega), show (77 + 2 * p 76).toNat = 77 + 2 * k by omega, pu_s]
      have b : ad2 p t s (78 + 2 * k) = s := by
        unfold ad2
        rw [pu_n _ _ (by omega), show (77 + 2 * p 76 + 1).toNat = 78 + 2 * k by omega, pu_s]
      rw [if_pos (by omega), if_pos (by omega), a, b]; exact ⟨rfl, rfl⟩
    · rw [if_neg (by omega), if_neg (by omega), ad2_n hr.1 t s (i := 77 + 2 * k) (by omega), ad2_n hr.1 t s (i := 78 + 2 * k) (by omega)]
      exact sc k k1 (by omega)
theorem cadd {h : XH} {p : Nat → Int} {P : Nat → Nat → Int} {bk nx : Nat} (N : NowAt h p) (H : HiAt h P bk nx) (hV : VP p) (t s : Int) : CW h p P bk (oAdd p t s).1 (oAdd p t s).2 (fX8_addReading h 0 (i32 t) (i32 s)) := by
  have hr := hV.rd
  unfold fX8_addReading oAdd
  rw [obb N.n, obb N.n2, obb N.rd.i2, L_8, clt (by omega)]
  by_cases q : p 76 < 8
  · rw [if_pos q, if_pos q]
    obtain ⟨h1, e1, N1, H1, u1⟩ := crem N H
    obtain ⟨h2, e2, R2, u2⟩ := radd N1.rd hV q t s
    have N2 : NowAt h2 (ad2 p t s) := N1.rdw R2 u2 (fun i hi => ad2_n hr.1 t s (by omega))
    rw [obb (r_1 N), obb N.n, obb (h_c H), obb e1, obb N1.n, obb N1.n2, obb N1.rd.c, obb e2, obb N2.n, obb N2.n2, obb N2.rd.i2, L_1, i32_sub, show ad2 p t s 76 = p 76 + 1 from pu_s _ _ _, show p 76 + 1 - 1 = p 76 by omega]
    exact ⟨h2, _, rfl, N2, H1.fr (fun x hx => u2 x (by omega)), fun x hx => (u2 x (by omega)).trans (u1 x (by omega))⟩
  · rw [if_neg q, if_neg q]; rfl
/-- read -/
def oRead (p : Nat → Int) (t s : Int) : Int × Option (Nat → Int) := if 1 ≤ t ∧ t ≤ 500 then (if -30 ≤ s ∧ s ≤ 30 then oAdd p t s else (-1001, none)) else (-1001, none)
theorem vRead {p : Nat → Int} (hV : VP p) (t s : Int) : VO (oRead p t s).2 := by
  unfold oRead
  split
  · split
    · exact vAdd hV (by assumption) (by assumption)
    · exact VO.no
  · exact VO.no
theorem CW.pass {h : XH} {p : Nat → Int} {P : Nat → Nat → Int} {bk : Nat} {r : Int} {o : Option (Nat → Int)} {res : Option (Int32 × XH)} (H : CW h p P bk r o res) : CW h p P bk r o (res.bind fun v => some (v.1, v.2)) := by
  have : (res.bind fun v => some (v.1, v.2)) = res := by cases res <;> rfl
  rw [this]
  exact H
theorem cReadW {h : XH} {p : Nat → Int} {P : Nat → Nat → Int} {bk nx : Nat} (N : NowAt h p) (H : HiAt h P bk nx) (hV : VP p) {t s : Int} (ht : -2147483648 ≤ t ∧ t < 2147483648) (hs : -2147483648 ≤ s ∧ s < 2147483648) : CW h p P bk (oRead p t s).1 (oRead p t s).2 (fX8_read h 0 (i32 t) (i32 s)) := by
  unfold fX8_read oRead
  rw [L_m30, L_1, L_500, L_30, obb (within_ok ht (by omega) (by omega))]
  simp only [decide_eq_true_eq]
  by_cases q : 1 ≤ t ∧ t ≤ 500
  · rw [if_pos q, if_pos q, obb (within_ok hs (by omega) (by omega))]
    simp only [decide_eq_true_eq]
    by_cases q2 : -30 ≤ s ∧ s ≤ 30
    · rw [if_pos q2, if_pos q2, obb N.c]
      exact (cadd N H hV t s).pass
    · rw [if_neg q2, if_neg q2]; rfl
  · rw [if_neg q, if_neg q]; rfl
/-- look -/
noncomputable def oLook (p : Nat → Int) (z : Int) : Int × Option (Nat → Int) := if 0 ≤ z ∧ z ≤ nfl p - 2 then oAdd p (p 75) (wst p (trn p (tkf p (z + 1)).toNat - trn p (tkf p z).toNat)) else (-1001, none)
theorem vLook {p : Nat → Int} (hV : VP p) (z : Int) : VO (oLook p z).2 := by
  unfold oLook
  split
  · exact vAdd hV hV.per (wst_rng hV _)
  · exact VO.no
theorem cLookW {h : XH} {p : Nat → Int} {P : Nat → Nat → Int} {bk nx : Nat} (N : NowAt h p) (H : HiAt h P bk nx) (hV : VP p) {z : Int} (hz : -2147483648 ≤ z ∧ z < 2147483648) : CW h p P bk (oLook p z).1 (oLook p z).2 (fX8_look h 0 (i32 z)) := by
  have hn := nfl_rng hV
  unfold fX8_look oLook
  rw [obb N.c, obb (cflash N hV hz)]
  simp only [isF, decide_eq_true_eq]
  by_cases q : 0 ≤ z ∧ z ≤ nfl p - 1
  · rw [if_pos q, obb N.n, obb N.n1, obb N.f.c, obb (cnfl N.f hV), L_1, i32_sub, ceq (by omega)]
    by_cases q2 : z = nfl p - 1
    · rw [if_pos q2, if_neg (by omega)]; rfl
    · have fl := cFlash N hV (z := z) (w := 2) hz (by omega)
      have ea : aFlash p z 2 = wst p (trn p (tkf p (z + 1)).toNat - trn p (tkf p z).toNat) := by
        unfold aFlash isF
        rw [decide_eq_true q, if_pos rfl, decide_eq_true (show (0 : Int) ≤ 2 ∧ (2 : Int) ≤ 3 by omega), if_pos rfl, if_neg (by omega), if_neg (by omega), if_pos rfl, if_neg q2]
      rw [ea] at fl
      rw [if_neg q2, if_pos (by omega), obb N.n, obb N.n1, obb N.f.i1, obb N.c, L_2, obb fl, obb N.c]
      exact (cadd N H hV _ _).pass
  · rw [if_neg q, if_neg (by omega)]; rfl
