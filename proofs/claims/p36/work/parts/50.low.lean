/-! the law's small functions -/
theorem tmod_pos {a b : Int} (ha : 0 ≤ a) : a.tmod b = a % b := Int.tmod_eq_emod_of_nonneg ha
theorem lmod_ok {a b : Int} (ha : -1000000000 < a ∧ a < 1000000000) (hb : 0 < b ∧ b < 1000000) : fL_mod (i32 a) (i32 b) = some (i32 (a % b)) := by
  unfold fL_mod
  have r1 := tmod_rng (a := a) hb.1
  have e : (a.tmod b + b).tmod b = a % b := by
    rw [tmod_pos (by omega), emod_tmod (a := a) hb.1]
    split
    · rw [Int.add_emod_right]; exact Int.emod_eq_of_lt (by assumption) r1.2
    · exact Int.emod_eq_of_lt (by omega) (by omega)
  rw [L_0, ieq_f (by omega), ieq_f (by omega), i32_rem (by omega) (by omega), i32_add, i32_rem (by omega) (by omega), e]
theorem low_ok (v : Int32) {n : Int} (hn : 0 < n ∧ n < 2147483648) : ∃ r, fL_low v (i32 n) = some (i32 r) ∧ 0 ≤ r ∧ r < n := by
  obtain ⟨m, hm, rfl⟩ := wb_of32 v
  have e : nI m &&& (2147483647 : Int32) = i32 ((m % 2 ^ 31 : Nat) : Int) := by
    rw [show (2147483647 : Int32) = nI (2 ^ 31 - 1) by decide, nx_and, Nat.and_two_pow_sub_one_eq_mod, nI_i32]
  have hm2 : m % 2 ^ 31 < 2147483648 := Nat.mod_lt _ (by decide)
  generalize m % 2 ^ 31 = q at e hm2
  unfold fL_low
  rw [L_0, ieq_f (by omega), e, i32_rem (by omega) (by omega), tmod_pos (by omega)]
  exact ⟨_, rfl, Int.emod_nonneg _ (by omega), Int.emod_lt_of_pos _ hn.1⟩
theorem cell_ok {N0 : Nat} {xs : Nat → Int32} (hN : N0 ≤ 260) {k : Int} (hk : 0 ≤ k ∧ k < 1000) : ∃ v, fL_cell N0 xs (i32 k) = some v := by
  unfold fL_cell
  rw [show Int32.ofNat N0 = i32 (N0 : Nat) from rfl, cle (by omega)]
  split
  · exact ⟨_, rfl⟩
  · have e := xsc_ok (xs := xs) (N0 := N0) (k := k.toNat) (by omega) (by omega)
    rw [show ((k.toNat : Nat) : Int) = k by omega] at e
    rw [obb e]
    exact ⟨_, rfl⟩
/-! the object, as the law sees it -/
def RX (h : XH) (p : Nat → Int) : Prop := VP p ∧ ∃ (P : Nat → Nat → Int) (bk : Nat) (T : Nat → Int) (tl : Nat) (fk : Int), RC h p P bk T tl fk
section
variable {h : XH} {p : Nat → Int}
theorem RX.V (R : RX h p) : VP p := R.1
theorem RX.N (R : RX h p) : NowAt h p := by obtain ⟨_, _, _, _, _, _, C⟩ := R; exact C.1
theorem RX.ca (R : RX h p) : CaSh h := by obtain ⟨_, _, _, _, _, _, C⟩ := R; exact C.2.2.2.2
theorem RX.c (R : RX h p) : xco h 0 8 = some () := R.N.c
theorem RX.re {h' : XH} (R : RX h p) (u : ∀ x, x < 102 → h' x = h x) : RX h' p := by
  obtain ⟨V, P, bk, T, tl, fk, C⟩ := R
  exact ⟨V, P, bk, T, tl, fk, C.re u⟩
theorem RX.op (R : RX h p) {r : Int} {res : Option (Int32 × XH)} (C : COp h r res) : ∃ h', res = some (i32 r, h') ∧ RX h' p ∧ frz h h' := by
  obtain ⟨V, P, bk, T, tl, fk, R⟩ := R
  obtain ⟨h', e, R', f⟩ := R.cop C
  exact ⟨h', e, ⟨V, P, bk, T, tl, fk, R'⟩, f⟩
theorem RX.cw (R : RX h p) {r : Int} {p' : Nat → Int} {res : Option (Int32 × XH)} (V' : VP p') (C : ∀ P bk nx, HiAt h P bk nx → CW h p P bk r (some p') res) : ∃ h', res = some (i32 r, h') ∧ RX h' p' ∧ frz h h' := by
  obtain ⟨V, P, bk, T, tl, fk, N, ⟨nx, H⟩, X, ⟨q, W⟩, CS⟩ := R
  obtain ⟨h', nx', e, N', H', u⟩ := C P bk nx H
  exact ⟨h', e, ⟨V', psh p P, nb bk, T, tl, fk, N', ⟨nx', H'⟩, X.fr (fun x hx => u x (by omega)), ⟨q, W.fr (fun k hk => u _ (by omega))⟩, CS.fr (fun x hx => u x (by omega))⟩, fun x hx => u x (by omega)⟩
theorem RX.cou (R : RX h p) (w : Int) (hw : 0 ≤ w ∧ w ≤ 10) {v : Int} (hv : ∀ tl bk, aCount p tl bk w = v) : fX8_count h 0 (i32 w) = some (i32 v) := by
  obtain ⟨V, P, bk, T, tl, fk, C⟩ := R
  rw [cCount C.1 V C.tx C.bk (by omega), hv]
theorem RX.n0 (R : RX h p) : fX8_count h 0 (0 : Int32) = some (i32 (p 0)) := R.cou 0 (by omega) (fun _ _ => by simp [aCount])
theorem RX.n2 (R : RX h p) : fX8_count h 0 (2 : Int32) = some (i32 (msr p)) := R.cou 2 (by omega) (fun _ _ => by simp [aCount])
theorem RX.n3 (R : RX h p) : fX8_count h 0 (3 : Int32) = some (i32 (p 61)) := R.cou 3 (by omega) (fun _ _ => by simp [aCount])
theorem RX.n4 (R : RX h p) : fX8_count h 0 (4 : Int32) = some (i32 (p 62)) := R.cou 4 (by omega) (fun _ _ => by simp [aCount])
theorem RX.n5 (R : RX h p) : fX8_count h 0 (5 : Int32) = some (i32 (p 63)) := R.cou 5 (by omega) (fun _ _ => by simp [aCount])
theorem RX.n7 (R : RX h p) : fX8_count h 0 (7 : Int32) = some (i32 (p 75)) := R.cou 7 (by omega) (fun _ _ => by simp [aCount])
theorem RX.n8 (R : RX h p) : fX8_count h 0 (8 : Int32) = some (i32 (nfl p)) := R.cou 8 (by omega) (fun _ _ => by simp [aCount])
theorem RX.n9 (R : RX h p) : fX8_count h 0 (9 : Int32) = some (i32 (p 76)) := R.cou 9 (by omega) (fun _ _ => by simp [aCount])
theorem RX.lim (R : RX h p) {z : Int} (hz : 1 ≤ z ∧ z ≤ 1000) : ∃ h', fX8_setLimit h 0 (i32 z) = some (i32 (p 93), h') ∧ RX h' (pu p 93 z) ∧ frz h h' := by
  have e : oLim p z = (p 93, some (pu p 93 z)) := if_pos hz
  exact R.cw (vLim R.V z _ (by rw [e])) (fun P bk nx H => by
    have C := cLim R.N H R.V (z := z) (by omega)
    rw [e] at C
    exact C)
theorem RX.spd0 (R : RX h p) {v : Int} (hv : -1000 ≤ v ∧ v ≤ 1000) : ∃ h', fX8_setSpeed h 0 (i32 0) (i32 v) = some (i32 (p 63), h') ∧ RX h' (pu p 62 v) ∧ frz h h' := by
  have e : oSpeed p 0 v = (p 63, some (pu p 62 v)) := by
    unfold oSpeed
    rw [if_pos (show isT 0 = true from rfl), if_pos hv, if_pos rfl]
  exact R.cw (vSpeed R.V 0 v _ (by rw [e])) (fun P bk nx H => by
    have C := cSpeedW R.N H R.V (a := 0) (b := v) (by omega) (by omega)
    rw [e] at C
    exact C)
theorem RX.spdk (R : RX h p) {t v : Int} (ht : 1 ≤ t ∧ t ≤ 1000) (hv : -1000 ≤ v ∧ v ≤ 1000) (hc : p 63 ≤ 4) (hs : ∀ j : Nat, (j : Int) < p 63 → p (64 + 2 * j) < t) : ∃ h', fX8_setSpeed h 0 (i32 t) (i32 v) = some (i32 (p 63 + 1), h') ∧ RX h' (ic p (p 63).toNat t v) ∧ frz h h' := by
  have c := R.V.ch
  have hp : poc p t = (p 63).toNat := poc_eq R.V.cp (by omega) (fun j hj => hs j (by omega)) (fun q => by omega)
  have e : oSpeed p t v = (p 63 + 1, some (ic p (p 63).toNat t v)) := by
    unfold oSpeed
    rw [if_pos (show isT t = true from decide_eq_true (by omega)), if_pos hv, if_neg (by omega), if_neg (by unfold hch; rw [hp]; simp only [decide_eq_true_eq]; omega), if_neg (by omega), hp]
  exact R.cw (vSpeed R.V t v _ (by rw [e])) (fun P bk nx H => by
    have C := cSpeedW R.N H R.V (a := t) (b := v) (by omega) (by omega)
    rw [e] at C
    exact C)
theorem RX.fl (R : RX h p) {a b : Int} (ha : 0 ≤ a ∧ a ≤ 1000) (hb : 1 ≤ b ∧ b ≤ 500) : ∃ h', fX8_setFlash h 0 (i32 a) (i32 b) = some (i32 (nfl (fl2 p a b)), h') ∧ RX h' (fl2 p a b) ∧ frz h h' := by
  have e : oFlash p a b = (nfl (fl2 p a b), some (fl2 p a b)) := by
    unfold oFlash
    rw [if_pos (show isT a = true from decide_eq_true ha), if_pos hb]
  exact R.cw (vFl R.V ha hb) (fun P bk nx H => by
    have C := cFlashW R.N H R.V (a := a) (b := b) (by omega) (by omega)
    rw [e] at C
    exact C)
theorem RX.read (R : RX h p) {t s : Int} (ht : 1 ≤ t ∧ t ≤ 500) (hs : -30 ≤ s ∧ s ≤ 30) (h8 : p 76 < 8) : ∃ h', fX8_read h 0 (i32 t) (i32 s) = some (i32 (p 76), h') ∧ RX h' (ad2 p t s) ∧ frz h h' := by
  have e : oRead p t s = (p 76, some (ad2 p t s)) := by
    unfold oRead oAdd
    rw [if_pos ht, if_pos hs, if_pos h8]
  exact R.cw (vRead R.V t s _ (by rw [e])) (fun P bk nx H => by
    have C := cReadW R.N H R.V (t := t) (s := s) (by omega) (by omega)
    rw [e] at C
    exact C)
theorem RX.look (R : RX h p) {z : Int} (hz : 0 ≤ z ∧ z ≤ nfl p - 2) (h8 : p 76 < 8) : ∃ h', fX8_look h 0 (i32 z) = some (i32 (p 76), h') ∧ RX h' (ad2 p (p 75) (wst p (trn p (tkf p (z + 1)).toNat - trn p (tkf p z).toNat))) ∧ frz h h' := by
  have e : oLook p z = (p 76, some (ad2 p (p 75) (wst p (trn p (tkf p (z + 1)).toNat - trn p (tkf p z).toNat)))) := by
    unfold oLook oAdd
    rw [if_pos hz, if_pos h8]
  have n := nfl_rng R.V
  exact R.cw (vLook R.V z _ (by rw [e])) (fun P bk nx H => by
    have C := cLookW R.N H R.V (z := z) (by omega)
    rw [e] at C
    exact C)
theorem RX.rd (R : RX h p) {i w : Int} (hi : -2147483648 ≤ i ∧ i < 2147483648) (hw : -2147483648 ≤ w ∧ w < 2147483648) : ∃ h', fX8_reading h 0 (i32 i) (i32 w) = some (i32 (aRead p i w), h') ∧ RX h' p ∧ frz h h' := R.op (cRead R.N R.V R.ca hi hw)
theorem RX.rd0 (R : RX h p) {i : Int} (hi : 0 ≤ i ∧ i < p 76) : ∃ h', fX8_reading h 0 (i32 i) (0 : Int32) = some (i32 (p (77 + 2 * i.toNat)), h') ∧ RX h' p ∧ frz h h' := by
  have := R.V.rd
  have e : aRead p i 0 = p (77 + 2 * i.toNat) := by
    unfold aRead
    rw [if_pos (by omega), if_pos (by omega), if_pos rfl]
  have C := R.rd (i := i) (w := 0) (by omega) (by omega)
  rw [e] at C
  exact C
theorem RX.rd1 (R : RX h p) {i : Int} (hi : 0 ≤ i ∧ i < p 76) : ∃ h', fX8_reading h 0 (i32 i) (1 : Int32) = some (i32 (p (78 + 2 * i.toNat)), h') ∧ RX h' p ∧ frz h h' := by
  have := R.V.rd
  have e : aRead p i 1 = p (78 + 2 * i.toNat) := by
    unfold aRead
    rw [if_pos (by omega), if_pos (by omega), if_neg (by omega), if_pos rfl]
  have C := R.rd (i := i) (w := 1) (by omega) (by omega)
  rw [e] at C
  exact C
theorem RX.rd2 (R : RX h p) {i : Int} (hi : 0 ≤ i ∧ i < p 76) : ∃ h', fX8_reading h 0 (i32 i) (2 : Int32) = some (i32 (nc p i), h') ∧ RX h' p ∧ frz h h' := by
  have := R.V.rd
  have e : aRead p i 2 = nc p i := by
    unfold aRead
    rw [if_pos (by omega), if_pos (by omega), if_neg (by omega), if_neg (by omega)]
  have C := R.rd (i := i) (w := 2) (by omega) (by omega)
  rw [e] at C
  exact C
end
theorem frz.tr {a b c : XH} (h : frz a b) (k : frz b c) : frz a c := fun x hx => (k x hx).trans (h x hx)
theorem frz.rf {a : XH} : frz a a := fun _ _ => rfl
