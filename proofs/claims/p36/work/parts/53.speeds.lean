/-! the law's speeds -/
def TsAt (h : XH) (p : Nat → Int) : Prop := ∃ f g : Nat → Int32, h 103 = some (.inr (0, 6, .inl f)) ∧ h 104 = some (.inr (0, 6, .inl g)) ∧ ∀ j : Nat, (j : Int) ≤ p 63 → f j = i32 (tkt p j : Nat) ∧ g j = i32 (cur p j)
def SWP (p p' : Nat → Int) : Prop := ∀ i, (i < 62 ∨ 74 ≤ i) → p' i = p i
theorem ic_tkt1 {p : Nat → Int} (c : 0 ≤ p 63) (t v : Int) {j : Nat} (hj : (j : Int) ≤ p 63) : tkt (ic p (p 63).toNat t v) j = tkt p j := by
  rcases j with _ | j
  · rfl
  · rw [tkt_succ, tkt_succ, ic_tk _ _ _ _ (by omega), if_pos (by omega)]
theorem ic_tkt2 {p : Nat → Int} (c : 0 ≤ p 63) (t v : Int) : tkt (ic p (p 63).toNat t v) ((p 63).toNat + 1) = t.toNat := by
  rw [tkt_succ, ic_tk _ _ _ _ (by omega), if_neg (by omega), if_pos rfl]
theorem ic_cur1 {p : Nat → Int} (c : 0 ≤ p 63) (t v : Int) {j : Nat} (hj : (j : Int) ≤ p 63) : cur (ic p (p 63).toNat t v) j = cur p j := by
  rcases j with _ | j
  · show ic p (p 63).toNat t v 62 = p 62
    exact ic_lo _ _ _ _ (by omega)
  · rw [cur_succ, cur_succ, ic_sp _ _ _ _ (by omega), if_pos (by omega)]
theorem ic_cur2 {p : Nat → Int} (c : 0 ≤ p 63) (t v : Int) : cur (ic p (p 63).toNat t v) ((p 63).toNat + 1) = v := by
  rw [cur_succ, ic_sp _ _ _ _ (by omega), if_neg (by omega), if_pos rfl]
theorem tkt_mono {p : Nat → Int} (V : VP p) {j k : Nat} (hjk : j < k) (hk : (k : Int) ≤ p 63) : tkt p j < tkt p k := by
  rcases k with _ | k
  · omega
  · rw [tkt_succ]
    have b := (V.cht k (by omega)).1
    rcases j with _ | j
    · show 0 < _
      omega
    · rw [tkt_succ]
      have := V.srt j k (by omega) (by omega)
      have := (V.cht j (by omega)).1
      omega
theorem xset {h : XH} {a n : Nat} {f : Nat → Int32} (A : h a = some (.inr (0, n, .inl f))) {i : Nat} (v : Int32) (hi : i < n) (hn : n < 1000) : ∃ h', xsI h a 0 (i32 (i : Nat)) v = some h' ∧ h' a = some (.inr (0, n, .inl (upd f i v))) ∧ ∀ x, x ≠ a → h' x = h x := by
  have s1 := gS A (i := (i : Int)) v (by omega) (by omega)
  rw [Int.toNat_natCast] at s1
  exact ⟨_, s1, xup_s _ _ _, fun x hx => xup_n _ _ hx⟩
theorem xget {h : XH} {a n : Nat} {f : Nat → Int32} (A : h a = some (.inr (0, n, .inl f))) {i : Nat} (hi : i < n) (hn : n < 1000) : xaI h a 0 (i32 (i : Nat)) = some (f i) := by
  have r1 := gA A (i := (i : Int)) (by omega) (by omega)
  rw [Int.toNat_natCast] at r1
  exact r1
theorem upd_s (f : Nat → Int32) (i : Nat) (v : Int32) : upd f i v i = v := by simp [upd]
theorem upd_n (f : Nat → Int32) {i j : Nat} (v : Int32) (h : j ≠ i) : upd f i v j = f j := by simp [upd, h]
theorem sstep {N0 : Nat} {xs : Nat → Int32} {h : XH} {p : Nat → Int} (hN : N0 ≤ 260) (R : RX h p) (Ts : TsAt h p) {k : Nat} (hk : 1 ≤ k ∧ k ≤ 3) (h63 : p 63 = (k : Int) - 1) (hb : (tkt p (k - 1) : Int) ≤ 60 * ((k : Int) - 1)) {c : Int} (hc : (k : Int) ≤ c ∧ c ≤ 3) : ∃ h' p', fL_speeds_B70 N0 xs 0 (8 : Int32) 103 104 (i32 c) (h, i32 (k : Nat)) = some (.inl (h', i32 ((k + 1 : Nat) : Int))) ∧ RX h' p' ∧ TsAt h' p' ∧ p' 63 = k ∧ (tkt p' k : Int) ≤ 60 * k ∧ SWP p p' ∧ ∀ x, 101 < x → x ≠ 103 → x ≠ 104 → h' x = h x := by
  obtain ⟨f, g, A, B, Q⟩ := Ts
  obtain ⟨w, ew⟩ := cell_ok (xs := xs) hN (k := 8 + (k : Int)) (by omega)
  obtain ⟨r, er, hr⟩ := low_ok w (n := 60) (by omega)
  obtain ⟨r2, er2, hr2⟩ := low_ok (w >>> ((8 : Int32) &&& 31)) (n := 61) (by omega)
  rw [← L_60] at er
  rw [← L_61] at er2
  have e8 : (8 : Int32) + i32 (k : Nat) = i32 (8 + (k : Int)) := by rw [L_8, i32_add]
  have ek : i32 (k : Nat) - (1 : Int32) = i32 ((k - 1 : Nat) : Int) := by rw [L_1, i32_sub]; congr 1; omega
  have g1 := xget A (i := k - 1) (by omega) (by omega)
  rw [(Q (k - 1) (by omega)).1] at g1
  have et : i32 (tkt p (k - 1) : Nat) + (1 : Int32) + i32 r = i32 ((tkt p (k - 1) : Int) + 1 + r) := by rw [L_1, i32_add, i32_add]
  generalize ht : (tkt p (k - 1) : Int) + 1 + r = t at et
  have ev : i32 r2 - (30 : Int32) = i32 (r2 - 30) := by rw [L_30, i32_sub]
  obtain ⟨h1, s1, A1, u1⟩ := xset A (i := k) (i32 t) (by omega) (by omega)
  obtain ⟨h2, s2, B2, u2⟩ := xset ((u1 104 (by omega)).trans B) (i := k) (i32 (r2 - 30)) (by omega) (by omega)
  have A2 := (u2 103 (by omega)).trans A1
  have g3 := xget A2 (i := k) (by omega) (by omega)
  have g4 := xget B2 (i := k) (by omega) (by omega)
  rw [upd_s] at g3 g4
  have R2 : RX h2 p := R.re (fun x hx => (u2 x (by omega)).trans (u1 x (by omega)))
  have V := R.V
  obtain ⟨h3, e3, R3, u3⟩ := R2.spdk (t := t) (v := r2 - 30) (by omega) (by omega) (by omega) (fun j hj => by
    have b := (V.cht j hj).1
    have := tkt_succ p j
    rcases Nat.lt_or_ge (j + 1) (k - 1) with z | z
    · have := tkt_mono V z (by omega)
      omega
    · rw [show k - 1 = j + 1 by omega] at ht
      omega)
  have kk : (p 63).toNat + 1 = k := by omega
  refine ⟨h3, _, ?_, R3, ⟨_, _, (u3 103 (by omega)).trans A2, (u3 104 (by omega)).trans B2, fun j hj => ?_⟩, ?_, ?_, fun i hi => ?_, fun x a1 a2 a3 => (u3 x a1).trans ((u2 x a3).trans (u1 x a2))⟩
  · unfold fL_speeds_B70 fL_speeds_b70
    dsimp only
    rw [ilt_f (by omega), e8, obb ew, ek, obb g1, obb er, et, obb s1, obb er2, ev, obb s2, obb g3, obb g4, obb R2.c, obb e3]
    rw [if_pos (show i32 (p 63 + 1) = i32 (k : Nat) from congrArg i32 (by omega)), L_1, i32_add]
    rfl
  · rw [ic_63] at hj
    by_cases z : (j : Int) ≤ p 63
    · rw [upd_n _ _ (by omega), upd_n _ _ (by omega), ic_tkt1 (by omega) _ _ z, ic_cur1 (by omega) _ _ z]
      exact Q j z
    · have : j = k := by omega
      subst this
      have z1 := ic_tkt2 (p := p) (by omega) t (r2 - 30)
      have z2 := ic_cur2 (p := p) (by omega) t (r2 - 30)
      rw [kk] at z1 z2
      rw [upd_s, upd_s, z1, z2]
      exact ⟨by congr 1; omega, rfl⟩
  · rw [ic_63]; omega
  · have z1 := ic_tkt2 (p := p) (by omega) t (r2 - 30)
    rw [kk] at z1
    rw [z1]
    omega
  · rcases hi with z | z
    · exact ic_lo _ _ _ _ (by omega)
    · exact ic_hi _ _ _ z (by omega) (by omega)
theorem sJ52 {N0 : Nat} {xs : Nat → Int32} {h : XH} {p : Nat → Int} {f g : Nat → Int32} (hN : N0 ≤ 260) (R : RX h p) (h63 : p 63 = 0) (A : h 103 = some (.inr (0, 6, .inl f))) (f0 : f 0 = 0) (B : h 104 = some (.inr (0, 6, .inl g))) {c v : Int} (hc : 0 ≤ c ∧ c ≤ 3) (hv : -1000 ≤ v ∧ v ≤ 1000) : ∃ h' p', fL_speeds_J52 N0 xs h 0 (8 : Int32) 103 104 (i32 c) 104 (0 : Int32) (i32 v) = some (true, h') ∧ RX h' p' ∧ TsAt h' p' ∧ p' 63 = c ∧ SWP p p' ∧ ∀ x, 101 < x → x ≠ 103 → x ≠ 104 → h' x = h x := by
  obtain ⟨h1, s1, B1, u1⟩ := xset B (i := 0) (i32 v) (by omega) (by omega)
  have g1 := xget B1 (i := 0) (by omega) (by omega)
  rw [upd_s] at g1
  have R1 : RX h1 p := R.re (fun x hx => u1 x (by omega))
  obtain ⟨h2, e2, R2, u2⟩ := R1.spd0 hv
  have s1' : xsI h 104 0 (0 : Int32) (i32 v) = some h1 := s1
  have g1' : xaI h1 104 0 (0 : Int32) = some (i32 v) := g1
  have e2' : fX8_setSpeed h1 0 (0 : Int32) (i32 v) = some (i32 (p 63), h2) := e2
  have T2 : TsAt h2 (pu p 62 v) := ⟨f, _, (u2 103 (by omega)).trans ((u1 103 (by omega)).trans A), (u2 104 (by omega)).trans B1, fun j hj => by
    rw [pu_n _ _ (by omega)] at hj
    have : j = 0 := by omega
    subst this
    refine ⟨f0.trans rfl, ?_⟩
    rw [upd_s]
    rfl⟩
  have S2 : SWP p (pu p 62 v) := fun i hi => pu_n _ _ (by omega)
  obtain ⟨e, he, h3, p3, rfl, R3, T3, c3, S3, u3⟩ := xl_inv (fL_speeds_B70 N0 xs 0 (8 : Int32) 103 104 (i32 c)) (fun j s => ∃ (h' : XH) (p' : Nat → Int), s = (h', i32 ((j + 1 : Nat) : Int)) ∧ RX h' p' ∧ TsAt h' p' ∧ p' 63 = j ∧ (tkt p' j : Int) ≤ 60 * j ∧ SWP p p' ∧ ∀ x, 101 < x → x ≠ 103 → x ≠ 104 → h' x = h2 x) c.toNat (fun e => ∃ (h' : XH) (p' : Nat → Int), e = .inr h' ∧ RX h' p' ∧ TsAt h' p' ∧ p' 63 = c ∧ SWP p p' ∧ ∀ x, 101 < x → x ≠ 103 → x ≠ 104 → h' x = h2 x) (by
    rintro j s hj ⟨h', p', rfl, R', T', c', b', S', u'⟩
    obtain ⟨h4, p4, e4, R4, T4, c4, b4, S4, u4⟩ := sstep (N0 := N0) (xs := xs) hN R' T' (k := j + 1) (by omega) (by omega) (by rw [show j + 1 - 1 = j from rfl]; omega) (c := c) (by omega)
    exact ⟨_, e4, h4, p4, rfl, R4, T4, c4, b4, fun i hi => (S4 i hi).trans (S' i hi), fun x a1 a2 a3 => (u4 x a1 a2 a3).trans (u' x a1 a2 a3)⟩) (by
    rintro s ⟨h', p', rfl, R', T', c', b', S', u'⟩
    refine ⟨.inr h', ?_, h', p', rfl, R', T', by omega, S', u'⟩
    unfold fL_speeds_B70 fL_speeds_b70
    dsimp only
    rw [ilt_t (by omega)]) (h2, (1 : Int32)) ⟨h2, pu p 62 v, rfl, R2, T2, by rw [pu_n _ _ (by omega)]; omega, by show (0 : Int) ≤ _; omega, S2, fun _ _ _ _ => rfl⟩ 5000 (by omega)
  have n5 := R3.n5
  rw [c3] at n5
  refine ⟨h3, p3, ?_, R3, T3, c3, S3, fun x a1 a2 a3 => (u3 x a1 a2 a3).trans ((u2 x a1).trans (u1 x a3))⟩
  unfold fL_speeds_J52
  rw [obb s1', obb g1', obb R1.c, obb e2', if_pos (by rw [h63]; rfl), obb he]
  dsimp only
  rw [obb R3.c, obb n5, if_pos rfl]
theorem lspeeds {N0 : Nat} {xs : Nat → Int32} {h : XH} {p : Nat → Int} {f g : Nat → Int32} (hN : N0 ≤ 260) (R : RX h p) (h63 : p 63 = 0) (A : h 103 = some (.inr (0, 6, .inl f))) (B : h 104 = some (.inr (0, 6, .inl g))) {c : Int} (hc : 0 ≤ c ∧ c ≤ 3) : ∃ h' p', fL_speeds N0 xs h 0 (8 : Int32) 103 104 (i32 c) = some (true, h') ∧ RX h' p' ∧ TsAt h' p' ∧ p' 63 = c ∧ SWP p p' ∧ ∀ x, 101 < x → x ≠ 103 → x ≠ 104 → h' x = h x := by
  obtain ⟨w, ew⟩ := cell_ok (xs := xs) hN (k := 8) (by omega)
  rw [← L_8] at ew
  obtain ⟨h1, s1, A1, u1⟩ := xset A (i := 0) (0 : Int32) (by omega) (by omega)
  have s1' : xsI h 103 0 (0 : Int32) (0 : Int32) = some h1 := s1
  have R1 : RX h1 p := R.re (fun x hx => u1 x (by omega))
  obtain ⟨r, er, hr⟩ := low_ok w (n := 3) (by omega)
  obtain ⟨r2, er2, hr2⟩ := low_ok (w >>> ((2 : Int32) &&& 31)) (n := 2001) (by omega)
  obtain ⟨r3, er3, hr3⟩ := low_ok (w >>> ((2 : Int32) &&& 31)) (n := 61) (by omega)
  rw [← L_3] at er
  rw [← L_61] at er3
  have er2' : fL_low (w >>> ((2 : Int32) &&& 31)) (2001 : Int32) = some (i32 r2) := er2
  have go : ∀ v : Int, (-1000 ≤ v ∧ v ≤ 1000) → ∃ h' p', fL_speeds_J52 N0 xs h1 0 (8 : Int32) 103 104 (i32 c) 104 (0 : Int32) (i32 v) = some (true, h') ∧ RX h' p' ∧ TsAt h' p' ∧ p' 63 = c ∧ SWP p p' ∧ ∀ x, 101 < x → x ≠ 103 → x ≠ 104 → h' x = h x := by
    intro v hv
    obtain ⟨h2, p2, a, b, d, e, i, u⟩ := sJ52 (N0 := N0) (xs := xs) hN R1 h63 A1 (upd_s _ _ _) ((u1 104 (by omega)).trans B) hc hv
    exact ⟨h2, p2, a, b, d, e, i, fun x a1 a2 a3 => (u x a1 a2 a3).trans (u1 x a2)⟩
  unfold fL_speeds
  rw [obb ew, obb s1', obb er]
  by_cases z : i32 r = 0
  · rw [if_pos z, obb er2', L_1000, i32_sub]
    exact go _ (by omega)
  · rw [if_neg z, obb er3, L_30, i32_sub]
    exact go _ (by omega)
