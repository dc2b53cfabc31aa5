/-! readers and writers of the abstract heap -/
def xgf (h : XH) (a ci k : Nat) : Option Value := match h a with
  | some (.inl (c, fs)) => if c = ci then fs[k]? else none
  | _ => none
def xgI (h : XH) (a ci k : Nat) : Option Int32 := match xgf h a ci k with
  | some (.int v) => some v
  | _ => none
def xgJ (h : XH) (a ci k : Nat) : Option Int64 := match xgf h a ci k with
  | some (.long v) => some v
  | _ => none
def xgR (h : XH) (a ci k : Nat) : Option Nat := match xgf h a ci k with
  | some (.ref v) => some v
  | _ => none
def xpf (h : XH) (a ci k : Nat) (v : Value) : Option XH := match h a with
  | some (.inl (c, fs)) => if c = ci ∧ k < fs.length then some (xup h a (.inl (c, fs.set k v))) else none
  | _ => none
def xco (h : XH) (a ci : Nat) : Option Unit := match h a with
  | some (.inl (c, _)) => if c = ci then some () else none
  | _ => none
def xaI (h : XH) (a t : Nat) (i : Int32) : Option Int32 := match h a with
  | some (.inr (t', n, .inl f)) => if t' = t ∧ ¬ (i < 0 ∨ n ≤ i.toNatClampNeg) then some (f i.toNatClampNeg) else none
  | _ => none
def xsI (h : XH) (a t : Nat) (i v : Int32) : Option XH := match h a with
  | some (.inr (t', n, .inl f)) => if t' = t ∧ ¬ (i < 0 ∨ n ≤ i.toNatClampNeg) then some (xup h a (.inr (t', n, .inl (upd f i.toNatClampNeg v)))) else none
  | _ => none
def xaQ (h : XH) (a : Nat) (i : Int32) : Option (Option Nat) := match h a with
  | some (.inr (t', n, .inr (.inr (.inr (.inr f))))) => if t' = 2 ∧ ¬ (i < 0 ∨ n ≤ i.toNatClampNeg) then some (f i.toNatClampNeg) else none
  | _ => none
def xsQ (h : XH) (a : Nat) (i : Int32) (v : Nat) : Option XH := match h a, h v with
  | some (.inr (t', n, .inr (.inr (.inr (.inr f))))), some (.inl (c, _)) => if t' = 2 ∧ c = 5 ∧ ¬ (i < 0 ∨ n ≤ i.toNatClampNeg) then some (xup h a (.inr (t', n, .inr (.inr (.inr (.inr (va_up f i.toNatClampNeg (some v)))))))) else none
  | _, _ => none
def xln (h : XH) (a : Nat) : Option Int32 := match h a with
  | some (.inr (t, n, x)) => if t < 3 then some (Int32.ofNat n) else none
  | _ => none
theorem xgf_spec {h : XH} {a ci k : Nat} {v : Value} (q : xgf h a ci k = some v) : ∃ fs, h a = some (.inl (ci, fs)) ∧ fs[k]? = some v := by
  unfold xgf at q
  split at q
  · rename_i c fs hh
    by_cases hc : c = ci
    · rw [if_pos hc] at q; subst hc; exact ⟨fs, hh, q⟩
    · rw [if_neg hc] at q; cases q
  · cases q
theorem xgI_spec {h : XH} {a ci k : Nat} {v : Int32} (q : xgI h a ci k = some v) : ∃ fs, h a = some (.inl (ci, fs)) ∧ fs[k]? = some (.int v) := by
  unfold xgI at q
  split at q
  · rename_i w hh; cases q; exact xgf_spec hh
  · cases q
theorem xgJ_spec {h : XH} {a ci k : Nat} {v : Int64} (q : xgJ h a ci k = some v) : ∃ fs, h a = some (.inl (ci, fs)) ∧ fs[k]? = some (.long v) := by
  unfold xgJ at q
  split at q
  · rename_i w hh; cases q; exact xgf_spec hh
  · cases q
theorem xgR_spec {h : XH} {a ci k : Nat} {v : Nat} (q : xgR h a ci k = some v) : ∃ fs, h a = some (.inl (ci, fs)) ∧ fs[k]? = some (.ref v) := by
  unfold xgR at q
  split at q
  · rename_i w hh; cases q; exact xgf_spec hh
  · cases q
theorem xpf_spec {h h1 : XH} {a ci k : Nat} {v : Value} (q : xpf h a ci k v = some h1) : ∃ fs, h a = some (.inl (ci, fs)) ∧ k < fs.length ∧ h1 = xup h a (.inl (ci, fs.set k v)) := by
  unfold xpf at q
  split at q
  · rename_i c fs hh
    by_cases hc : c = ci ∧ k < fs.length
    · rw [if_pos hc] at q
      obtain ⟨rfl, hk⟩ := hc
      exact ⟨fs, hh, hk, (Option.some.inj q).symm⟩
    · rw [if_neg hc] at q; cases q
  · cases q
theorem xco_spec {h : XH} {a ci : Nat} {u : Unit} (q : xco h a ci = some u) : ∃ fs, h a = some (.inl (ci, fs)) := by
  unfold xco at q
  split at q
  · rename_i c fs hh
    by_cases hc : c = ci
    · subst hc; exact ⟨fs, hh⟩
    · rw [if_neg hc] at q; cases q
  · cases q
theorem xaI_spec {h : XH} {a t : Nat} {i v : Int32} (q : xaI h a t i = some v) : ∃ n f, h a = some (.inr (t, n, .inl f)) ∧ vp_in i n ∧ v = f i.toNatClampNeg := by
  unfold xaI at q
  split at q
  · rename_i t' n f hh
    by_cases hc : t' = t ∧ ¬ (i < 0 ∨ n ≤ i.toNatClampNeg)
    · rw [if_pos hc] at q
      obtain ⟨rfl, hk⟩ := hc
      exact ⟨n, f, hh, hk, (Option.some.inj q).symm⟩
    · rw [if_neg hc] at q; cases q
  · cases q
theorem xsI_spec {h h1 : XH} {a t : Nat} {i v : Int32} (q : xsI h a t i v = some h1) : ∃ n f, h a = some (.inr (t, n, .inl f)) ∧ vp_in i n ∧ h1 = xup h a (.inr (t, n, .inl (upd f i.toNatClampNeg v))) := by
  unfold xsI at q
  split at q
  · rename_i t' n f hh
    by_cases hc : t' = t ∧ ¬ (i < 0 ∨ n ≤ i.toNatClampNeg)
    · rw [if_pos hc] at q
      obtain ⟨rfl, hk⟩ := hc
      exact ⟨n, f, hh, hk, (Option.some.inj q).symm⟩
    · rw [if_neg hc] at q; cases q
  · cases q
theorem xaQ_spec {h : XH} {a : Nat} {i : Int32} {v : Option Nat} (q : xaQ h a i = some v) : ∃ n f, h a = some (.inr (2, n, .inr (.inr (.inr (.inr f))))) ∧ vp_in i n ∧ v = f i.toNatClampNeg := by
  unfold xaQ at q
  split at q
  · rename_i t' n f hh
    by_cases hc : t' = 2 ∧ ¬ (i < 0 ∨ n ≤ i.toNatClampNeg)
    · rw [if_pos hc] at q
      obtain ⟨rfl, hk⟩ := hc
      exact ⟨n, f, hh, hk, (Option.some.inj q).symm⟩
    · rw [if_neg hc] at q; cases q
  · cases q
theorem xsQ_spec {h h1 : XH} {a v : Nat} {i : Int32} (q : xsQ h a i v = some h1) : ∃ n f fs, h a = some (.inr (2, n, .inr (.inr (.inr (.inr f))))) ∧ h v = some (.inl (5, fs)) ∧ vp_in i n ∧ h1 = xup h a (.inr (2, n, .inr (.inr (.inr (.inr (va_up f i.toNatClampNeg (some v))))))) := by
  unfold xsQ at q
  split at q
  · rename_i t' n f c fs hh hv
    by_cases hc : t' = 2 ∧ c = 5 ∧ ¬ (i < 0 ∨ n ≤ i.toNatClampNeg)
    · rw [if_pos hc] at q
      obtain ⟨rfl, rfl, hk⟩ := hc
      exact ⟨n, f, fs, hh, hv, hk, (Option.some.inj q).symm⟩
    · rw [if_neg hc] at q; cases q
  · cases q
theorem xln_spec {h : XH} {a : Nat} {v : Int32} (q : xln h a = some v) : ∃ t n x, h a = some (.inr (t, n, x)) ∧ t < 3 ∧ v = Int32.ofNat n := by
  unfold xln at q
  split at q
  · rename_i t n x hh
    by_cases hc : t < 3
    · rw [if_pos hc] at q; exact ⟨t, n, x, hh, hc, (Option.some.inj q).symm⟩
    · rw [if_neg hc] at q; cases q
  · cases q
/-- a field by its pool index: which class of the worlds, which place, which type, final or not -/
def XF (own : String) (index ci k : Nat) (ft : FieldType) (fin : Bool) : Prop := ∃ (C : String) (T : u_T) (N : Nat) (ty : Nat → FieldType), vwCl[ci]? = some (C, T, N) ∧ k < N ∧ (∀ w ∈ u_ws C T N, w ∈ tblG) ∧ (∀ j, j < N → parseFieldDescriptor (T j).2.2.1 = some (ty j)) ∧ (∀ a, a < N → ∀ b, b < N → a ≠ b → (T a).2.1 ≠ (T b).2.1) ∧ (T k).1 = C ∧ ty k = ft ∧ (T k).2.2.2 = fin ∧ Cond.fieldLink own index C (T k).2.1 (T k).2.2.1 ∈ tblG
theorem xv_map_get {B : Nat} {fs : List Value} {k : Nat} {v : Value} (h : fs[k]? = some v) : (fs.map (xv B))[k]? = some (xv B v) := by rw [List.getElem?_map, h]; rfl

theorem xw_getf {X : XCtx} {own : String} {cc : ByteArray} {nL : Nat} {nm : String} {ret : Option FieldType} {fr lo : Nat} (C : XOK X own cc nL nm ret fr lo) {pc : Nat} {L : List (Option Value)} {st : List Value} {h : XH} {n sl : Nat} {index ci k a : Nat} {ft : FieldType} {fin : Bool} {v : Value} (d : decode cc pc = .ok (.getfield index, 3)) (hf : XF own index ci k ft fin) (he : ∃ fs, h a = some (.inl (ci, fs)) ∧ fs[k]? = some v) (kk : XW X (pc + 3) L (v :: st) h n sl) : XW X pc L (.ref a :: st) h n sl := by
  obtain ⟨⟨p, l, e, R⟩, ⟨s, m, args, below⟩, ⟨meth, c⟩, ⟨D, aT, B⟩, ⟨n0, sl0⟩, ⟨nC, sC⟩, Qx⟩ := X
  obtain ⟨hx, hb, hml, hr, hlk, hown, hnm, hts, hK, hF, hL, hRc, hRs, hB⟩ := C
  intro H locs ls kc z h1 h2 h3 h4 h5 h6
  obtain ⟨Cn, T, N, ty, g1, g2, g3, g4, g5, g6, g7, g8, g9⟩ := hf
  obtain ⟨fs, he, hv⟩ := he
  exact va_get (Ts := tblG) (ref := Cn) hx hb hts g3 hown hK.1 (h2.one he) 0 rfl g1 k g2 (hts _ g9) (fun x q => by rw [← g6]; exact q) (xv_map_get hv) d (kk H locs ls kc z h1 h2 h3 h4 h5 h6)
theorem xw_getI {X : XCtx} {own : String} {cc : ByteArray} {nL : Nat} {nm : String} {ret : Option FieldType} {fr lo : Nat} (C : XOK X own cc nL nm ret fr lo) {pc : Nat} {L : List (Option Value)} {st : List Value} {h : XH} {n sl : Nat} {index ci k a : Nat} {ft : FieldType} {fin : Bool} {v : Int32} (d : decode cc pc = .ok (.getfield index, 3)) (hf : XF own index ci k ft fin) (he : xgI h a ci k = some v) (kk : XW X (pc + 3) L (.int v :: st) h n sl) : XW X pc L (.ref a :: st) h n sl := xw_getf C d hf (xgI_spec he) kk
theorem xw_getJ {X : XCtx} {own : String} {cc : ByteArray} {nL : Nat} {nm : String} {ret : Option FieldType} {fr lo : Nat} (C : XOK X own cc nL nm ret fr lo) {pc : Nat} {L : List (Option Value)} {st : List Value} {h : XH} {n sl : Nat} {index ci k a : Nat} {ft : FieldType} {fin : Bool} {v : Int64} (d : decode cc pc = .ok (.getfield index, 3)) (hf : XF own index ci k ft fin) (he : xgJ h a ci k = some v) (kk : XW X (pc + 3) L (.long v :: st) h n sl) : XW X pc L (.ref a :: st) h n sl := xw_getf C d hf (xgJ_spec he) kk
theorem xw_getR {X : XCtx} {own : String} {cc : ByteArray} {nL : Nat} {nm : String} {ret : Option FieldType} {fr lo : Nat} (C : XOK X own cc nL nm ret fr lo) {pc : Nat} {L : List (Option Value)} {st : List Value} {h : XH} {n sl : Nat} {index ci k a : Nat} {ft : FieldType} {fin : Bool} {v : Nat} (d : decode cc pc = .ok (.getfield index, 3)) (hf : XF own index ci k ft fin) (he : xgR h a ci k = some v) (kk : XW X (pc + 3) L (.ref v :: st) h n sl) : XW X pc L (.ref a :: st) h n sl := xw_getf C d hf (xgR_spec he) kk
theorem xw_put {X : XCtx} {own : String} {cc : ByteArray} {nL : Nat} {nm : String} {ret : Option FieldType} {fr lo : Nat} (C : XOK X own cc nL nm ret fr lo) {pc : Nat} {L : List (Option Value)} {st : List Value} {h : XH} {n sl : Nat} {index ci k a : Nat} {ft : FieldType} {v : Value} {h1' : XH} (d : decode cc pc = .ok (.putfield index, 3)) (hf : XF own index ci k ft false) (hp : xpf h a ci k v = some h1') (hn : ∀ B, narrow ft (xv B v) = xv B v) (hfit : ∀ B, fits ft (xv B v) = true) (kk : XW X (pc + 3) L st h1' n sl) : XW X pc L (v :: .ref a :: st) h n sl := by
  obtain ⟨⟨p, l, e, R⟩, ⟨s, m, args, below⟩, ⟨meth, c⟩, ⟨D, aT, B⟩, ⟨n0, sl0⟩, ⟨nC, sC⟩, Qx⟩ := X
  obtain ⟨hx, hb, hml, hr, hlk, hown, hnm, hts, hK, hF, hL, hRc, hRs, hB⟩ := C
  intro H locs ls kc z h1 h2 h3 h4 h5 h6
  obtain ⟨Cn, T, N, ty, g1, g2, g3, g4, g5, g6, g7, g8, g9⟩ := hf
  obtain ⟨fs, he, hl, rfl⟩ := xpf_spec hp
  have hap := va_apart (own := own) hts g3 ty g4 g5 hK.1 g1
  obtain ⟨rr, w1, cell, q1, q2, q3, q4⟩ := h2 a _ he
  have hrr : rr = (Cn, T, N) := Option.some.inj (w1.symm.trans g1)
  subst hrr
  obtain ⟨hS, hfc, kC, hkC, hkind⟩ := hK.1.1 ci _ g1
  obtain ⟨cf, kf, fi, f, hi, hsl⟩ := hS k g2
  have hlay := hts _ (g3 _ (u_in_lay g2))
  unfold u_lay at hlay
  rw [if_neg (by rw [g8]; decide)] at hlay
  have hst := (u_facts hfc hkC (u_lays hts g3 g2) hi).1
  have h6' := u_store hfc hkC hkind hlay hi (g4 k g2) (by rw [g7]; exact hn B) (by rw [g7]; exact hfit B)
  refine W.putK hx hb (f := f) ⟨hown, hts _ g9, ⟨_, _, _, by rw [← g6]; exact hi⟩, hst⟩ (by rw [q2]; exact h6') q1 q3 (by rw [hsl]; exact k2_hasslot (q4 k g2)) rfl rfl d fun H' e1 e2 e3 => ?_
  rw [hsl] at e1 ⊢
  refine kk H' _ ls kc z h1 (h2.put ?_ e3) (e2.trans h3) (h4.put e2 e3 (Nat.le_add_right B a)) h5 h6
  refine ⟨_, g1, t_OB.to (V := updV (vp_V (fs.map (xv B))) k (xv B v)) ⟨_, e1, q2, q3, t_set q4 hap g2 (xv B v)⟩ (fun j _ => ?_)⟩
  rw [vp_updV_set (by rw [List.length_map]; exact hl)]
  rw [List.map_set]
theorem xw_putF {X : XCtx} {own : String} {cc : ByteArray} {nL : Nat} {nm : String} {ret : Option FieldType} {fr lo : Nat} (C : XOK X own cc nL nm ret fr lo) {pc : Nat} {L : List (Option Value)} {st : List Value} {h : XH} {n sl : Nat} {index ci k a : Nat} {ft : FieldType} {v : Value} {h1' : XH} (d : decode cc pc = .ok (.putfield index, 3)) (hf : XF own index ci k ft true) (hp : xpf h a ci k v = some h1') (hin2 : nm = "<init>") (hdecl : (vwCl[ci]?).map (fun q => q.1) = some own) (hn : ∀ B, narrow ft (xv B v) = xv B v) (hfit : ∀ B, fits ft (xv B v) = true) (kk : XW X (pc + 3) L st h1' n sl) : XW X pc L (v :: .ref a :: st) h n sl := by
  obtain ⟨⟨p, l, e, R⟩, ⟨s, m, args, below⟩, ⟨meth, c⟩, ⟨D, aT, B⟩, ⟨n0, sl0⟩, ⟨nC, sC⟩, Qx⟩ := X
  obtain ⟨hx, hb, hml, hr, hlk, hown, hnm, hts, hK, hF, hL, hRc, hRs, hB⟩ := C
  intro H locs ls kc z h1 h2 h3 h4 h5 h6
  obtain ⟨Cn, T, N, ty, g1, g2, g3, g4, g5, g6, g7, g8, g9⟩ := hf
  obtain ⟨fs, he, hl, rfl⟩ := xpf_spec hp
  have hap := va_apart (own := own) hts g3 ty g4 g5 hK.1 g1
  obtain ⟨rr, w1, cell, q1, q2, q3, q4⟩ := h2 a _ he
  have hrr : rr = (Cn, T, N) := Option.some.inj (w1.symm.trans g1)
  subst hrr
  obtain ⟨hS, hfc, kC, hkC, hkind⟩ := hK.1.1 ci _ g1
  obtain ⟨cf, kf, fi, f, hi, hsl⟩ := hS k g2
  have hlay := hts _ (g3 _ (u_in_lay g2))
  unfold u_lay at hlay
  rw [if_pos g8] at hlay
  have hst := (u_facts hfc hkC (u_lays hts g3 g2) hi).1
  have hCo : Cn = own := by rw [g1] at hdecl; exact Option.some.inj hdecl
  have hcf : m.cls = cf := by
    obtain ⟨_, _, c', _, _, _, -, -, hf', -, -, -, hown2, -⟩ := Cond.laysFinal_spec hlay
    have e1 : c' = cf := by have := hi.symm.trans hf'; simp at this; exact this.1.symm
    rw [g6, hCo] at hown2
    rw [← e1]; exact Option.some.inj (hown.symm.trans hown2)
  have h6' := u_fits hfc hkC hkind (Or.inr hlay) hi (g4 k g2) (by rw [g7]; exact hn B) (by rw [g7]; exact hfit B)
  refine W.putFinK hx hb hown (hts _ g9) (by rw [← g6]; exact hi) hst hcf (hnm.trans hin2) (by rw [q2]; exact h6') q1 q3 (by rw [hsl]; exact k2_hasslot (q4 k g2)) rfl rfl d fun H' e1 e2 e3 => ?_
  rw [hsl] at e1 ⊢
  refine kk H' _ ls kc z h1 (h2.put ?_ e3) (e2.trans h3) (h4.put e2 e3 (Nat.le_add_right B a)) h5 h6
  refine ⟨_, g1, t_OB.to (V := updV (vp_V (fs.map (xv B))) k (xv B v)) ⟨_, e1, q2, q3, t_set q4 hap g2 (xv B v)⟩ (fun j _ => ?_)⟩
  rw [vp_updV_set (by rw [List.length_map]; exact hl)]
  rw [List.map_set]
theorem xw_iaload {X : XCtx} {own : String} {cc : ByteArray} {nL : Nat} {nm : String} {ret : Option FieldType} {fr lo : Nat} (C : XOK X own cc nL nm ret fr lo) {pc : Nat} {L : List (Option Value)} {st : List Value} {h : XH} {n sl : Nat} {a : Nat} {i v : Int32} (d : decode cc pc = .ok (.iaload, 1)) (hq0 : xaI h a 0 i = some v) (kk : XW X (pc + 1) L (.int v :: st) h n sl) : XW X pc L (.int i :: .ref a :: st) h n sl := by
  obtain ⟨⟨p, l, e, R⟩, ⟨s, m, args, below⟩, ⟨meth, c⟩, ⟨D, aT, B⟩, ⟨n0, sl0⟩, ⟨nC, sC⟩, Qx⟩ := X
  obtain ⟨hx, hb, hml, hr, hlk, hown, hnm, hts, hK, hF, hL, hRc, hRs, hB⟩ := C
  intro H locs ls kc z h1 h2 h3 h4 h5 h6
  obtain ⟨N, f, he, hi, rfl⟩ := xaI_spec hq0
  exact va_iald hx hb hK.1 (h2.one he) 0 0 rfl rfl hi d (kk H locs ls kc z h1 h2 h3 h4 h5 h6)
theorem xw_iastore {X : XCtx} {own : String} {cc : ByteArray} {nL : Nat} {nm : String} {ret : Option FieldType} {fr lo : Nat} (C : XOK X own cc nL nm ret fr lo) {pc : Nat} {L : List (Option Value)} {st : List Value} {h : XH} {n sl : Nat} {a : Nat} {i v : Int32} {h1' : XH} (d : decode cc pc = .ok (.iastore, 1)) (hq0 : xsI h a 0 i v = some h1') (kk : XW X (pc + 1) L st h1' n sl) : XW X pc L (.int v :: .int i :: .ref a :: st) h n sl := by
  obtain ⟨⟨p, l, e, R⟩, ⟨s, m, args, below⟩, ⟨meth, c⟩, ⟨D, aT, B⟩, ⟨n0, sl0⟩, ⟨nC, sC⟩, Qx⟩ := X
  obtain ⟨hx, hb, hml, hr, hlk, hown, hnm, hts, hK, hF, hL, hRc, hRs, hB⟩ := C
  intro H locs ls kc z h1 h2 h3 h4 h5 h6
  obtain ⟨N, f, he, hi, rfl⟩ := xsI_spec hq0
  refine W.iast hx hb (h2 a _ he) ((hK.1.2 0 _ rfl).1 N (fun j => .int (f j))) (fun q => by cases q) (by show ¬ (i < 0 ∨ (arrV _ _ _).slots.size ≤ _); rw [arrV_size]; exact hi) rfl rfl d fun H1 e1 e2 e3 => ?_
  refine kk H1 _ ls kc z h1 (h2.put ?_ e3) (e2.trans h3) (h4.put e2 e3 (Nat.le_add_right B a)) h5 h6
  show H1[B + a]? = some (vp_cell _ _)
  rw [e1]
  simp only [xva]
  rw [vp_cell_i, vp_cell_i, arrV_store]
  congr 2
  funext q
  by_cases hq : q = i.toNatClampNeg
  · subst hq
    simp [updV, upd, vp_nar]
    try rfl
  · simp [updV, upd, hq]
theorem xw_aaload {X : XCtx} {own : String} {cc : ByteArray} {nL : Nat} {nm : String} {ret : Option FieldType} {fr lo : Nat} (C : XOK X own cc nL nm ret fr lo) {pc : Nat} {L : List (Option Value)} {st : List Value} {h : XH} {n sl : Nat} {a : Nat} {i : Int32} {v : Option Nat} (d : decode cc pc = .ok (.aaload, 1)) (hq0 : xaQ h a i = some v) (kk : XW X (pc + 1) L (va_rf v :: st) h n sl) : XW X pc L (.int i :: .ref a :: st) h n sl := by
  obtain ⟨⟨p, l, e, R⟩, ⟨s, m, args, below⟩, ⟨meth, c⟩, ⟨D, aT, B⟩, ⟨n0, sl0⟩, ⟨nC, sC⟩, Qx⟩ := X
  obtain ⟨hx, hb, hml, hr, hlk, hown, hnm, hts, hK, hF, hL, hRc, hRs, hB⟩ := C
  intro H locs ls kc z h1 h2 h3 h4 h5 h6
  obtain ⟨N, f, he, hi, rfl⟩ := xaQ_spec hq0
  refine va_aldq hx hb hK.1 (h2.one he) 0 2 rfl rfl hi d ?_
  have k2 := (kk H locs ls kc z h1 h2 h3 h4 h5 h6)
  simp only [List.map_cons] at k2
  cases hq : f i.toNatClampNeg with
  | none => simp only [hq, Option.map_none] at k2 ⊢; exact k2
  | some q => simp only [hq, Option.map_some] at k2 ⊢; exact k2
theorem xw_aastore {X : XCtx} {own : String} {cc : ByteArray} {nL : Nat} {nm : String} {ret : Option FieldType} {fr lo : Nat} (C : XOK X own cc nL nm ret fr lo) {pc : Nat} {L : List (Option Value)} {st : List Value} {h : XH} {n sl : Nat} {a v : Nat} {i : Int32} {h1' : XH} (d : decode cc pc = .ok (.aastore, 1)) (hq0 : xsQ h a i v = some h1') (kk : XW X (pc + 1) L st h1' n sl) : XW X pc L (.ref v :: .int i :: .ref a :: st) h n sl := by
  obtain ⟨⟨p, l, e, R⟩, ⟨s, m, args, below⟩, ⟨meth, c⟩, ⟨D, aT, B⟩, ⟨n0, sl0⟩, ⟨nC, sC⟩, Qx⟩ := X
  obtain ⟨hx, hb, hml, hr, hlk, hown, hnm, hts, hK, hF, hL, hRc, hRs, hB⟩ := C
  intro H locs ls kc z h1 h2 h3 h4 h5 h6
  obtain ⟨N, f, fs, he, hv, hi, rfl⟩ := xsQ_spec hq0
  have hlt : i.toNatClampNeg < N := Nat.not_le.mp fun q => hi (Or.inr q)
  have h0 : ¬ i < 0 := fun q => hi (Or.inl q)
  obtain ⟨r5, hr5, cellV, g1, g2, g3, -⟩ := h2 v _ hv
  have hr5' : r5 = (RX5, TX5, 4) := Option.some.inj (hr5.symm.trans rfl)
  subst hr5'
  have hcls := (hK.1.1 5 _ hr5).2
  obtain ⟨kA, comp, k1, k2, k3, -⟩ := (hK.1.2 2 _ rfl).2
  have hcomp : comp = D.1 5 := Option.some.inj (k3.symm.trans hcls.1)
  subst hcomp
  obtain ⟨kC, hkC, -⟩ := hcls.2
  refine W.aast hx hb (h2 a _ he) (fun q h => by cases h) (fun h => by cases h) k1 k2 rfl hkC ⟨h0, by show _ < (arrV _ _ _).slots.size; rw [arrV_size]; exact hlt⟩ g1 (fun q h => by rw [g3] at h; cases h) (by rw [g2]; exact hkC) (by rw [g2]; exact va_assign hcls) rfl rfl d fun H1 e1 e2 e3 => ?_
  refine kk H1 _ ls kc z h1 (h2.put ?_ e3) (e2.trans h3) (h4.put e2 e3 (Nat.le_add_right B a)) h5 h6
  show H1[B + a]? = some (vp_cell _ _)
  rw [e1]
  simp only [xva]
  rw [vp_cell_q, vp_cell_q, arrV_store]
  congr 2
  funext q
  by_cases hq : q = i.toNatClampNeg
  · subst hq
    simp [updV, va_up, va_rf]
  · simp [updV, va_up, hq]
theorem xw_alen {X : XCtx} {own : String} {cc : ByteArray} {nL : Nat} {nm : String} {ret : Option FieldType} {fr lo : Nat} (C : XOK X own cc nL nm ret fr lo) {pc : Nat} {L : List (Option Value)} {st : List Value} {h : XH} {n sl : Nat} {a : Nat} {v : Int32} (d : decode cc pc = .ok (.arraylength, 1)) (hq0 : xln h a = some v) (kk : XW X (pc + 1) L (.int v :: st) h n sl) : XW X pc L (.ref a :: st) h n sl := by
  obtain ⟨⟨p, l, e, R⟩, ⟨s, m, args, below⟩, ⟨meth, c⟩, ⟨D, aT, B⟩, ⟨n0, sl0⟩, ⟨nC, sC⟩, Qx⟩ := X
  obtain ⟨hx, hb, hml, hr, hlk, hown, hnm, hts, hK, hF, hL, hRc, hRs, hB⟩ := C
  intro H locs ls kc z h1 h2 h3 h4 h5 h6
  obtain ⟨t, N, x, he, ht, rfl⟩ := xln_spec hq0
  have hN : (xva B (N, x)).1 = N := by obtain f | f | f | f | f := x <;> rfl
  rcases (show t = 0 ∨ t = 1 ∨ t = 2 by omega) with rfl | rfl | rfl
  · exact va_alen hx hb hK.1 (h2.one he) 0 0 rfl rfl (by rw [hN]) d (kk H locs ls kc z h1 h2 h3 h4 h5 h6)
  · exact va_alen hx hb hK.1 (h2.one he) 0 1 rfl rfl (by rw [hN]) d (kk H locs ls kc z h1 h2 h3 h4 h5 h6)
  · exact va_alen hx hb hK.1 (h2.one he) 0 2 rfl rfl (by rw [hN]) d (kk H locs ls kc z h1 h2 h3 h4 h5 h6)
theorem xw_newI {X : XCtx} {own : String} {cc : ByteArray} {nL : Nat} {nm : String} {ret : Option FieldType} {fr lo : Nat} (C : XOK X own cc nL nm ret fr lo) {pc : Nat} {L : List (Option Value)} {st : List Value} {h : XH} {n sl : Nat} {i : Int32} {N : Nat} (d : decode cc pc = .ok (.newarray .int, 2)) (ha : Cond.arrayClass .int ∈ tblG) (hn : ¬ i < 0) (hN : i.toNatClampNeg = N) (hsm : N ≤ 100000) (hc : XN X (n + 1) (sl + N)) (kk : XW X (pc + 2) L (.ref n :: st) (xup h n (.inr (0, N, .inl (fun _ => 0)))) (n + 1) (sl + N)) : XW X pc L (.int i :: st) h n sl := by
  obtain ⟨⟨p, l, e, R⟩, ⟨s, m, args, below⟩, ⟨meth, c⟩, ⟨D, aT, B⟩, ⟨n0, sl0⟩, ⟨nC, sC⟩, Qx⟩ := X
  obtain ⟨hx, hb, hml, hr, hlk, hown, hnm, hts, hK, hF, hL, hRc, hRs, hB⟩ := C
  intro H locs ls kc z h1 h2 h3 h4 h5 h6
  dsimp only [XN] at hc
  refine va_newaK hx hb (atype := .int) (hts _ ha) rfl d rfl hn hN (by show N * 4 ≤ 536870912; omega) (by rw [hRc]; omega) (by rw [hRs]; omega) h3 fun H1 cA e1 e2 e3 hAr hNm => ?_
  have hcA : cA = aT 0 := by
    have q := (hK.1.2 0 _ rfl).2
    exact Option.some.inj (hNm.symm.trans q)
  subst hcA
  refine kk H1 _ ls (kc + 1) (z + N) h1 (h2.push h3 ?_ (fun q hq => e3 q (by omega))) (by omega) (h4.grow (by omega) (fun q hq => e3 q (by omega))) (by omega) (by omega)
  show H1[B + n]? = some (vp_cell _ _)
  rw [e1]
  rfl
theorem xw_newQ {X : XCtx} {own : String} {cc : ByteArray} {nL : Nat} {nm : String} {ret : Option FieldType} {fr lo : Nat} (C : XOK X own cc nL nm ret fr lo) {pc : Nat} {L : List (Option Value)} {st : List Value} {h : XH} {n sl : Nat} {index : Nat} {i : Int32} {N : Nat} (d : decode cc pc = .ok (.anewarray index, 3)) (ha : Cond.classLink own index RX5 ∈ tblG) (hn : ¬ i < 0) (hN : i.toNatClampNeg = N) (hsm : N ≤ 100000) (hc : XN X (n + 1) (sl + N)) (kk : XW X (pc + 3) L (.ref n :: st) (xup h n (.inr (2, N, .inr (.inr (.inr (.inr (fun _ => none))))))) (n + 1) (sl + N)) : XW X pc L (.int i :: st) h n sl := by
  obtain ⟨⟨p, l, e, R⟩, ⟨s, m, args, below⟩, ⟨meth, c⟩, ⟨D, aT, B⟩, ⟨n0, sl0⟩, ⟨nC, sC⟩, Qx⟩ := X
  obtain ⟨hx, hb, hml, hr, hlk, hown, hnm, hts, hK, hF, hL, hRc, hRs, hB⟩ := C
  intro H locs ls kc z h1 h2 h3 h4 h5 h6
  dsimp only [XN] at hc
  subst hN
  refine W.anew hx hb hown (hts _ ha) (va_AO.use hK.2.2) rfl d rfl hn (by omega) (by rw [hRc]; omega) (by rw [hRs]; omega) fun cA kA comp f1 f2 f3 f4 => ?_
  generalize hH1 : H.push ({ cls := cA, slots := Array.replicate i.toNatClampNeg .null, vm := .none } : Cell) = H1
  have z1 : H1.size = H.size + 1 := by rw [← hH1, Array.size_push]
  have e1 : H1[H.size]? = some (arrV cA i.toNatClampNeg (fun _ => .null)) := by rw [← hH1, Array.getElem?_push_size, ← arrV_new]
  have o1 : ∀ q : Nat, q < H.size → H1[q]? = H[q]? := fun q hq => by rw [← hH1, Array.getElem?_push, if_neg (Nat.ne_of_lt hq)]
  have hcA : cA = aT 2 := by
    obtain ⟨kA', comp', k1, k2, k3, k4⟩ := (hK.1.2 2 _ rfl).2
    exact Option.some.inj (f1.symm.trans k4)
  subst hcA
  have k3 := kk H1 _ ls (kc + 1) (z + i.toNatClampNeg) h1 (h2.push h3 (by
    show H1[B + n]? = some (vp_cell _ _)
    rw [← h3, e1]
    rfl) o1) (by omega) (h4.grow (by omega) o1) (by omega) (by omega)
  rw [h3]
  exact k3
/-- what is decided of a class that is made: its words, its types, its first values -/
def XNw (ci : Nat) (C : String) (N : Nat) (fs : List Value) : Prop := ∃ (T : u_T) (ty : Nat → FieldType), vwCl[ci]? = some (C, T, N) ∧ (∀ w ∈ u_ws C T N, w ∈ tblG) ∧ (∀ j, j < N → parseFieldDescriptor (T j).2.2.1 = some (ty j)) ∧ (∀ j, j < N → defaultValue (ty j) = vp_V fs j) ∧ Cond.instantiable C N ∈ tblG ∧ Cond.initialized C ∈ tblG ∧ ∀ B, fs.map (xv B) = fs
theorem xw_new {X : XCtx} {own : String} {cc : ByteArray} {nL : Nat} {nm : String} {ret : Option FieldType} {fr lo : Nat} (C : XOK X own cc nL nm ret fr lo) {pc : Nat} {L : List (Option Value)} {st : List Value} {h : XH} {n sl : Nat} {index ci N : Nat} {Cn : String} {fs : List Value} (d : decode cc pc = .ok (.new index, 3)) (ha : Cond.classLink own index Cn ∈ tblG) (hN : XNw ci Cn N fs) (hc : XN X (n + 1) (sl + N)) (kk : XW X (pc + 3) L (.ref n :: st) (xup h n (.inl (ci, fs))) (n + 1) (sl + N)) : XW X pc L st h n sl := by
  obtain ⟨⟨p, l, e, R⟩, ⟨s, m, args, below⟩, ⟨meth, c⟩, ⟨D, aT, B⟩, ⟨n0, sl0⟩, ⟨nC, sC⟩, Qx⟩ := X
  obtain ⟨hx, hb, hml, hr, hlk, hown, hnm, hts, hK, hF, hL, hRc, hRs, hB⟩ := C
  intro H locs ls kc z h1 h2 h3 h4 h5 h6
  dsimp only [XN] at hc
  obtain ⟨T, ty, g1, g2, g3, g4, g5, g6, g7⟩ := hN
  have hKn := hK.1.1 ci _ g1
  refine W.newcK hx hb hown (hts _ ha) (hts _ g5) (hts _ g6) rfl d (by rw [hRc]; omega) (by rw [hRs]; omega) hKn.2.1 h3 fun H1 kC hkC e1 e2 e3 => ?_
  refine kk H1 _ ls (kc + 1) (z + N) h1 (h2.push h3 ?_ (fun q hq => e3 q (by omega))) (by omega) (h4.grow (by omega) (fun q hq => e3 q (by omega))) (by omega) (by omega)
  refine ⟨_, g1, ?_⟩
  show t_OB _ _ _ _ _ (vp_V (fs.map (xv B)))
  rw [g7 B]
  exact (u_born ty hts g2 hKn hkC e1 g3).to g4
theorem xw_objInit {X : XCtx} {own : String} {cc : ByteArray} {nL : Nat} {nm : String} {ret : Option FieldType} {fr lo : Nat} (C : XOK X own cc nL nm ret fr lo) {pc : Nat} {L : List (Option Value)} {st : List Value} {h : XH} {n sl : Nat} {index a : Nat} (d : decode cc pc = .ok (.invokespecial index, 3)) (hl : Cond.methodLink own index objectInit ∈ tblG) (hi : Cond.instanceMethod objectInit ∈ tblG) (hcd : Cond.code objectInit ⟨#[0xb1]⟩ 1 none ∈ tblG) (hfr : 1 ≤ fr) (hlo : (st.map fun v => v.category).sum + 12 ≤ lo) (kk : XW X (pc + 3) L st h n sl) : XW X pc L (.ref a :: st) h n sl := by
  obtain ⟨⟨p, l, e, R⟩, ⟨s, m, args, below⟩, ⟨meth, c⟩, ⟨D, aT, B⟩, ⟨n0, sl0⟩, ⟨nC, sC⟩, Qx⟩ := X
  obtain ⟨hx, hb, hml, hr, hlk, hown, hnm, hts, hK, hF, hL, hRc, hRs, hB⟩ := C
  intro H locs ls kc z h1 h2 h3 h4 h5 h6
  have hs : ((st.map (xv B)).map fun v => v.category).sum = (st.map fun v => v.category).sum := by
    rw [List.map_map]
    congr 2
    funext v
    exact xv_cat B v
  exact W.objInit hx hb hown (hts _ hl) (hts _ hi) (hts _ hcd) rfl h1.1 rfl d (by rw [hF]; exact hfr) (by rw [hL, hs]; show 2 * 0 + _ + 12 ≤ lo; omega) (kk H locs ls kc z h1 h2 h3 h4 h5 h6)
/-- what is decided of a method that is called -/
def XD (y : MethodName) (bytes : ByteArray) (maxL : Nat) (ret : Option FieldType) (np : Nat) : Prop := Cond.code y bytes maxL ret ∈ tblG ∧ Cond.initialized y.cls ∈ tblG ∧ y.cls ≠ "java/lang/invoke/MethodHandle" ∧ y.cls ≠ "java/lang/invoke/VarHandle" ∧ (parseMethodDescriptor y.desc).map (fun d => d.parameters.length) = some np
def XDV (y : MethodName) (ci : Nat) : Prop := Cond.instanceMethod y ∈ tblG ∧ Cond.selects y.cls y y ∈ tblG ∧ ∃ T N, vwCl[ci]? = some (y.cls, T, N)
theorem xgood {y : MethodName} {bytes : ByteArray} {maxL : Nat} {ret : Option FieldType} (h : Cond.code y bytes maxL ret ∈ tblG) : GoodIn tblG (Cond.code y bytes maxL ret :: tblG) := fun w hw => by
  have hm : w ∈ tblG := (List.mem_cons.mp hw).elim (fun e => e ▸ h) id
  exact ⟨hm, good_of_word (tblG_good w hm)⟩
theorem xblind {D : va_G} {aT : Nat → ClassId} {B : Nat} {av : List Value} {h : XH} {n : Nat} : FrameBlind (XP D aT B av h n) := fun a U g mk q => ⟨q.1, q.2.1, q.2.2.1, XK.same (s := U) (U := U.calling g mk a) rfl q.2.2.2⟩
theorem xblindS {D : va_G} {aT : Nat → ClassId} {B b N0 : Nat} {xs : Nat → Int32} {av : List Value} {h : XH} {n : Nat} : FrameBlind (XPS D aT B b N0 xs av h n) := fun a U g mk q => ⟨xblind a U g mk q.1, va_X.moved (u := U) (Vm.Alike.refl _) q.2.1, q.2.2.1, q.2.2.2⟩
theorem xsum8 {B : Nat} {st : List Value} {m : MethodId} {pc : Nat} {ls : Array Slot} {st' : List Value} (h : (st.map fun v => v.category).sum ≤ 8) : 2 * (F0 m pc ls st').monitorRoom + ((st.map (xv B)).map fun v => v.category).sum ≤ 8 := by
  have hs : ((st.map (xv B)).map fun v => v.category).sum = (st.map fun v => v.category).sum := by
    rw [List.map_map]
    congr 2
    funext v
    exact xv_cat B v
  rw [hs]
  show 2 * 0 + _ ≤ 8
  omega
theorem xw_callSS {X : XCtx} {own : String} {cc : ByteArray} {nL : Nat} {nm : String} {ret : Option FieldType} {fr lo : Nat} (C : XOK X own cc nL nm ret fr lo) {pc : Nat} {L : List (Option Value)} {st : List Value} {h : XH} {n sl : Nat} {b0 N0 : Nat} {xs : Nat → Int32} {y : MethodName} {bytes : ByteArray} {maxL np fr1 lo1 index : Nat} {rt : Option FieldType} {As : List Value} {r1 : Option Value} {h1' : XH} {n1 sl1 : Nat} (hS0 : XSc X b0 N0 xs) (d : decode cc pc = .ok (.invokestatic index, 3)) (hM : XMS X.1.2.1 y bytes maxL rt fr1 lo1 b0 N0 xs (As) h n sl r1 h1' n1 sl1) (hD : XD y bytes maxL rt np) (hl : Cond.methodLink own index y ∈ tblG) (hS : Cond.static y ∈ tblG) (hlen : As.length = np) (h8 : (st.map fun v => v.category).sum ≤ 8) (hfr : fr1 + 1 ≤ fr) (hlo : 8 + (maxL + 11) + lo1 ≤ lo) (hm : n ≤ n1 ∧ sl ≤ sl1) (hc : XN X n1 sl1) (kk : XW X (pc + 3) L (r1.toList ++ st) h1' n1 sl1) : XW X pc L (As.reverse ++ st) h n sl := by
  obtain ⟨⟨p, l, e, R⟩, ⟨s, m, args, below⟩, ⟨meth, c⟩, ⟨D, aT, B⟩, ⟨n0, sl0⟩, ⟨nC, sC⟩, Qx⟩ := X
  obtain ⟨hx, hb, hml, hr, hlk, hown, hnm, hts, hK, hF, hL, hRc, hRs, hB⟩ := C
  intro H locs ls kc z h1 h2 h3 h4 h5 h6
  dsimp only [XN] at hc hM
  have hst : (As.reverse ++ st).map (xv B) = (As.map (xv B)).reverse ++ st.map (xv B) := by
    rw [List.map_append, ← List.map_reverse]
  have hrun := va_runS (e := e) (below := below) (meth := meth) (H := H) (locs := locs) (cells := kc) (slots := z) (As := (As.map (xv B))) (rest := st.map (xv B)) (g := F0 m pc ls ((As.reverse ++ st).map (xv B))) ⟨hx, hb, hml, hown, hts⟩ (hM D aT B) ⟨callB_of (bytes := bytes) (maxL := maxL) (ret := rt) np hts (xgood hD.1) rfl rfl rfl (hts _ hD.2.1) (hts _ hl) hD.2.2 (by rw [hF, hL]; exact ⟨hfr, hlo⟩), hts _ hS⟩ ⟨xblindS, fun U hU hW => ⟨⟨rfl, by rw [hU]; exact h2, by rw [hU]; exact h3, hK.warm hW⟩, by rw [hU]; exact va_X.moved hW.alike (hS0.1.kept (h4.2.1 b0 hS0.2.1 hS0.2.2)), by rw [hU]; exact Nat.lt_of_lt_of_le hS0.2.1 h4.1, hS0.2.2⟩⟩ rfl (by rw [List.length_map]; exact hlen) (h1.1.trans hml) hst (xsum8 h8) d ⟨by rw [hRc]; omega, by rw [hRs]; omega⟩
  intro Tt hT Xs
  obtain ⟨v, st₀, t, T', Lc, e0, X', hLc, e1, e2, ⟨hv, hP1, hz1, hF1⟩, stp⟩ := hrun Tt hT Xs
  cases hv
  have e3 : T'.heap.size = B + n1 := by rw [e1]; exact hz1
  have hk : ∀ q : Nat, q < H.size → ¬ B ≤ q → T'.heap[q]? = H[q]? := fun q hq hq2 => by rw [e1, ← e0]; exact hF1.2 q (by rw [e0]; exact hq) hq2
  obtain ⟨t2, a2, b2⟩ := kk T'.heap (locs ++ Lc) ls (kc + (n1 - n)) (z + (sl1 - sl)) h1 (by rw [e1]; exact hP1) e3
    ⟨Nat.le_trans h4.1 (by omega), fun q q1 q2 => (hk q (Nat.lt_of_lt_of_le q1 h4.1) q2).trans (h4.2.1 q q1 q2), fun q hq => (List.mem_append.mp hq).elim (h4.2.2 q) (hLc q)⟩ (by omega) (by omega) T' rfl X'
  refine ⟨t2, stp t2 ?_, b2⟩
  cases r1 <;> exact a2
theorem xw_callV {X : XCtx} {own : String} {cc : ByteArray} {nL : Nat} {nm : String} {ret : Option FieldType} {fr lo : Nat} (C : XOK X own cc nL nm ret fr lo) {pc : Nat} {L : List (Option Value)} {st : List Value} {h : XH} {n sl : Nat} {y : MethodName} {bytes : ByteArray} {maxL np fr1 lo1 index : Nat} {rt : Option FieldType} {As : List Value} {r1 : Option Value} {h1' : XH} {n1 sl1 : Nat} {a : Nat} {ci : Nat} (d : decode cc pc = .ok (.invokevirtual index, 3)) (hM : XM X.1.2.1 y bytes maxL rt fr1 lo1 (.ref a :: As) h n sl r1 h1' n1 sl1) (hD : XD y bytes maxL rt np) (hl : Cond.methodLink own index y ∈ tblG) (hV : XDV y ci) (hco : ∃ fs, h a = some (.inl (ci, fs))) (hlen : As.length = np) (h8 : (st.map fun v => v.category).sum ≤ 8) (hfr : fr1 + 1 ≤ fr) (hlo : 8 + (maxL + 11) + lo1 ≤ lo) (hm : n ≤ n1 ∧ sl ≤ sl1) (hc : XN X n1 sl1) (kk : XW X (pc + 3) L (r1.toList ++ st) h1' n1 sl1) : XW X pc L (As.reverse ++ .ref a :: st) h n sl := by
  obtain ⟨⟨p, l, e, R⟩, ⟨s, m, args, below⟩, ⟨meth, c⟩, ⟨D, aT, B⟩, ⟨n0, sl0⟩, ⟨nC, sC⟩, Qx⟩ := X
  obtain ⟨hx, hb, hml, hr, hlk, hown, hnm, hts, hK, hF, hL, hRc, hRs, hB⟩ := C
  intro H locs ls kc z h1 h2 h3 h4 h5 h6
  dsimp only [XN] at hc hM
  obtain ⟨fs, hco⟩ := hco
  obtain ⟨T, N, hci⟩ := hV.2.2
  have hst : (As.reverse ++ .ref a :: st).map (xv B) = (As.map (xv B)).reverse ++ .ref (B + a) :: st.map (xv B) := by
    rw [List.map_append, ← List.map_reverse]; rfl
  have hrun := va_runV (C := y.cls) (e := e) (below := below) (meth := meth) (H := H) (locs := locs) (cells := kc) (slots := z) (As := (As.map (xv B))) (rest := st.map (xv B)) (g := F0 m pc ls ((As.reverse ++ .ref a :: st).map (xv B))) ⟨hx, hb, hml, hown, hts⟩ (hM D aT B) ⟨callB_of (bytes := bytes) (maxL := maxL) (ret := rt) np hts (xgood hD.1) rfl rfl rfl (hts _ hD.2.1) (hts _ hl) hD.2.2 (by rw [hF, hL]; exact ⟨hfr, hlo⟩), hts _ hV.1, hts _ hV.2.1⟩ ⟨xblind, va_recv (cl := vwCl) hK.1 (h2.one hco) hci (q0 := 0) rfl, fun U hU hW => ⟨rfl, by rw [hU]; exact h2, by rw [hU]; exact h3, hK.warm hW⟩⟩ rfl (by rw [List.length_map]; exact hlen) (h1.1.trans hml) hst (xsum8 h8) d ⟨by rw [hRc]; omega, by rw [hRs]; omega⟩
  intro Tt hT Xs
  obtain ⟨v, st₀, t, T', Lc, e0, X', hLc, e1, e2, ⟨hv, hP1, hz1, hF1⟩, stp⟩ := hrun Tt hT Xs
  cases hv
  have e3 : T'.heap.size = B + n1 := by rw [e1]; exact hz1
  have hk : ∀ q : Nat, q < H.size → ¬ B ≤ q → T'.heap[q]? = H[q]? := fun q hq hq2 => by rw [e1, ← e0]; exact hF1.2 q (by rw [e0]; exact hq) hq2
  obtain ⟨t2, a2, b2⟩ := kk T'.heap (locs ++ Lc) ls (kc + (n1 - n)) (z + (sl1 - sl)) h1 (by rw [e1]; exact hP1) e3
    ⟨Nat.le_trans h4.1 (by omega), fun q q1 q2 => (hk q (Nat.lt_of_lt_of_le q1 h4.1) q2).trans (h4.2.1 q q1 q2), fun q hq => (List.mem_append.mp hq).elim (h4.2.2 q) (hLc q)⟩ (by omega) (by omega) T' rfl X'
  refine ⟨t2, stp t2 ?_, b2⟩
  cases r1 <;> exact a2
theorem xw_callS {X : XCtx} {own : String} {cc : ByteArray} {nL : Nat} {nm : String} {ret : Option FieldType} {fr lo : Nat} (C : XOK X own cc nL nm ret fr lo) {pc : Nat} {L : List (Option Value)} {st : List Value} {h : XH} {n sl : Nat} {y : MethodName} {bytes : ByteArray} {maxL np fr1 lo1 index : Nat} {rt : Option FieldType} {As : List Value} {r1 : Option Value} {h1' : XH} {n1 sl1 : Nat} (d : decode cc pc = .ok (.invokestatic index, 3)) (hM : XM X.1.2.1 y bytes maxL rt fr1 lo1 (As) h n sl r1 h1' n1 sl1) (hD : XD y bytes maxL rt np) (hl : Cond.methodLink own index y ∈ tblG) (hS : Cond.static y ∈ tblG) (hlen : As.length = np) (h8 : (st.map fun v => v.category).sum ≤ 8) (hfr : fr1 + 1 ≤ fr) (hlo : 8 + (maxL + 11) + lo1 ≤ lo) (hm : n ≤ n1 ∧ sl ≤ sl1) (hc : XN X n1 sl1) (kk : XW X (pc + 3) L (r1.toList ++ st) h1' n1 sl1) : XW X pc L (As.reverse ++ st) h n sl := by
  obtain ⟨⟨p, l, e, R⟩, ⟨s, m, args, below⟩, ⟨meth, c⟩, ⟨D, aT, B⟩, ⟨n0, sl0⟩, ⟨nC, sC⟩, Qx⟩ := X
  obtain ⟨hx, hb, hml, hr, hlk, hown, hnm, hts, hK, hF, hL, hRc, hRs, hB⟩ := C
  intro H locs ls kc z h1 h2 h3 h4 h5 h6
  dsimp only [XN] at hc hM
  have hst : (As.reverse ++ st).map (xv B) = (As.map (xv B)).reverse ++ st.map (xv B) := by
    rw [List.map_append, ← List.map_reverse]
  have hrun := va_runS (e := e) (below := below) (meth := meth) (H := H) (locs := locs) (cells := kc) (slots := z) (As := (As.map (xv B))) (rest := st.map (xv B)) (g := F0 m pc ls ((As.reverse ++ st).map (xv B))) ⟨hx, hb, hml, hown, hts⟩ (hM D aT B) ⟨callB_of (bytes := bytes) (maxL := maxL) (ret := rt) np hts (xgood hD.1) rfl rfl rfl (hts _ hD.2.1) (hts _ hl) hD.2.2 (by rw [hF, hL]; exact ⟨hfr, hlo⟩), hts _ hS⟩ ⟨xblind, fun U hU hW => ⟨rfl, by rw [hU]; exact h2, by rw [hU]; exact h3, hK.warm hW⟩⟩ rfl (by rw [List.length_map]; exact hlen) (h1.1.trans hml) hst (xsum8 h8) d ⟨by rw [hRc]; omega, by rw [hRs]; omega⟩
  intro Tt hT Xs
  obtain ⟨v, st₀, t, T', Lc, e0, X', hLc, e1, e2, ⟨hv, hP1, hz1, hF1⟩, stp⟩ := hrun Tt hT Xs
  cases hv
  have e3 : T'.heap.size = B + n1 := by rw [e1]; exact hz1
  have hk : ∀ q : Nat, q < H.size → ¬ B ≤ q → T'.heap[q]? = H[q]? := fun q hq hq2 => by rw [e1, ← e0]; exact hF1.2 q (by rw [e0]; exact hq) hq2
  obtain ⟨t2, a2, b2⟩ := kk T'.heap (locs ++ Lc) ls (kc + (n1 - n)) (z + (sl1 - sl)) h1 (by rw [e1]; exact hP1) e3
    ⟨Nat.le_trans h4.1 (by omega), fun q q1 q2 => (hk q (Nat.lt_of_lt_of_le q1 h4.1) q2).trans (h4.2.1 q q1 q2), fun q hq => (List.mem_append.mp hq).elim (h4.2.2 q) (hLc q)⟩ (by omega) (by omega) T' rfl X'
  refine ⟨t2, stp t2 ?_, b2⟩
  cases r1 <;> exact a2
theorem xw_callI {X : XCtx} {own : String} {cc : ByteArray} {nL : Nat} {nm : String} {ret : Option FieldType} {fr lo : Nat} (C : XOK X own cc nL nm ret fr lo) {pc : Nat} {L : List (Option Value)} {st : List Value} {h : XH} {n sl : Nat} {y : MethodName} {bytes : ByteArray} {maxL np fr1 lo1 index : Nat} {As : List Value} {r1 : Option Value} {h1' : XH} {n1 sl1 : Nat} {a : Nat} (d : decode cc pc = .ok (.invokespecial index, 3)) (hM : XM X.1.2.1 y bytes maxL none fr1 lo1 (.ref a :: As) h n sl r1 h1' n1 sl1) (hD : XD y bytes maxL none np) (hl : Cond.methodLink own index y ∈ tblG) (hI : Cond.instanceMethod y ∈ tblG) (hy1 : y.name = "<init>") (hlen : As.length = np) (h8 : (st.map fun v => v.category).sum ≤ 8) (hfr : fr1 + 1 ≤ fr) (hlo : 8 + (maxL + 11) + lo1 ≤ lo) (hm : n ≤ n1 ∧ sl ≤ sl1) (hc : XN X n1 sl1) (kk : XW X (pc + 3) L (r1.toList ++ st) h1' n1 sl1) : XW X pc L (As.reverse ++ .ref a :: st) h n sl := by
  obtain ⟨⟨p, l, e, R⟩, ⟨s, m, args, below⟩, ⟨meth, c⟩, ⟨D, aT, B⟩, ⟨n0, sl0⟩, ⟨nC, sC⟩, Qx⟩ := X
  obtain ⟨hx, hb, hml, hr, hlk, hown, hnm, hts, hK, hF, hL, hRc, hRs, hB⟩ := C
  intro H locs ls kc z h1 h2 h3 h4 h5 h6
  dsimp only [XN] at hc hM
  have hst : (As.reverse ++ .ref a :: st).map (xv B) = (As.map (xv B)).reverse ++ .ref (B + a) :: st.map (xv B) := by
    rw [List.map_append, ← List.map_reverse]; rfl
  have hrun := va_runI (e := e) (below := below) (meth := meth) (H := H) (locs := locs) (cells := kc) (slots := z) (As := (As.map (xv B))) (rest := st.map (xv B)) (g := F0 m pc ls ((As.reverse ++ .ref a :: st).map (xv B))) ⟨hx, hb, hml, hown, hts⟩ (hM D aT B) ⟨callB_of (bytes := bytes) (maxL := maxL) (ret := none) np hts (xgood hD.1) rfl rfl rfl (hts _ hD.2.1) (hts _ hl) hD.2.2 (by rw [hF, hL]; exact ⟨hfr, hlo⟩), hy1, hts _ hI⟩ ⟨xblind, fun U hU hW => ⟨rfl, by rw [hU]; exact h2, by rw [hU]; exact h3, hK.warm hW⟩⟩ rfl (by rw [List.length_map]; exact hlen) (h1.1.trans hml) hst (xsum8 h8) d ⟨by rw [hRc]; omega, by rw [hRs]; omega⟩
  intro Tt hT Xs
  obtain ⟨v, st₀, t, T', Lc, e0, X', hLc, e1, e2, ⟨hv, hP1, hz1, hF1⟩, stp⟩ := hrun Tt hT Xs
  cases hv
  have e3 : T'.heap.size = B + n1 := by rw [e1]; exact hz1
  have hk : ∀ q : Nat, q < H.size → ¬ B ≤ q → T'.heap[q]? = H[q]? := fun q hq hq2 => by rw [e1, ← e0]; exact hF1.2 q (by rw [e0]; exact hq) hq2
  obtain ⟨t2, a2, b2⟩ := kk T'.heap (locs ++ Lc) ls (kc + (n1 - n)) (z + (sl1 - sl)) h1 (by rw [e1]; exact hP1) e3
    ⟨Nat.le_trans h4.1 (by omega), fun q q1 q2 => (hk q (Nat.lt_of_lt_of_le q1 h4.1) q2).trans (h4.2.1 q q1 q2), fun q hq => (List.mem_append.mp hq).elim (h4.2.2 q) (hLc q)⟩ (by omega) (by omega) T' rfl X'
  refine ⟨t2, stp t2 ?_, b2⟩
  cases r1 <;> exact a2
theorem xw_callSN {X : XCtx} {own : String} {cc : ByteArray} {nL : Nat} {nm : String} {ret : Option FieldType} {fr lo : Nat} (C : XOK X own cc nL nm ret fr lo) {pc : Nat} {L : List (Option Value)} {st : List Value} {h : XH} {n sl : Nat} {y : MethodName} {bytes : ByteArray} {maxL np fr1 lo1 index : Nat} {rt : Option FieldType} {As : List Value} {r1 : Option Value} {h1' : XH} {n1 sl1 : Nat} {host : String} (d : decode cc pc = .ok (.invokestatic index, 3)) (hM : XM X.1.2.1 y bytes maxL rt fr1 lo1 (As) h n sl r1 h1' n1 sl1) (hD : XD y bytes maxL rt np) (hl : Cond.methodLinkNest own index y host ∈ nestG) (hS : Cond.static y ∈ tblG) (hlen : As.length = np) (h8 : (st.map fun v => v.category).sum ≤ 8) (hfr : fr1 + 1 ≤ fr) (hlo : 8 + (maxL + 11) + lo1 ≤ lo) (hm : n ≤ n1 ∧ sl ≤ sl1) (hc : XN X n1 sl1) (kk : XW X (pc + 3) L (r1.toList ++ st) h1' n1 sl1) : XW X pc L (As.reverse ++ st) h n sl := by
  obtain ⟨⟨p, l, e, R⟩, ⟨s, m, args, below⟩, ⟨meth, c⟩, ⟨D, aT, B⟩, ⟨n0, sl0⟩, ⟨nC, sC⟩, Qx⟩ := X
  obtain ⟨hx, hb, hml, hr, hlk, hown, hnm, hts, hK, hF, hL, hRc, hRs, hB⟩ := C
  intro H locs ls kc z h1 h2 h3 h4 h5 h6
  dsimp only [XN] at hc hM
  have hst : (As.reverse ++ st).map (xv B) = (As.map (xv B)).reverse ++ st.map (xv B) := by
    rw [List.map_append, ← List.map_reverse]
  have hrun := va_runSN (e := e) (below := below) (meth := meth) (H := H) (locs := locs) (cells := kc) (slots := z) (As := (As.map (xv B))) (rest := st.map (xv B)) (g := F0 m pc ls ((As.reverse ++ st).map (xv B))) ⟨hx, hb, hml, hown, hts⟩ (hM D aT B) ⟨va_cnB (bytes := bytes) (maxL := maxL) (ret := rt) np hts (xgood hD.1) rfl rfl rfl (hK.2.1 _ hl) (hts _ hD.2.1) hD.2.2 (by rw [hF, hL]; exact ⟨hfr, hlo⟩), hts _ hS, trivial⟩ ⟨xblind, fun U hU hW => ⟨rfl, by rw [hU]; exact h2, by rw [hU]; exact h3, hK.warm hW⟩⟩ rfl (by rw [List.length_map]; exact hlen) (h1.1.trans hml) hst (xsum8 h8) d ⟨by rw [hRc]; omega, by rw [hRs]; omega⟩
  intro Tt hT Xs
  obtain ⟨v, st₀, t, T', Lc, e0, X', hLc, e1, e2, ⟨hv, hP1, hz1, hF1⟩, stp⟩ := hrun Tt hT Xs
  cases hv
  have e3 : T'.heap.size = B + n1 := by rw [e1]; exact hz1
  have hk : ∀ q : Nat, q < H.size → ¬ B ≤ q → T'.heap[q]? = H[q]? := fun q hq hq2 => by rw [e1, ← e0]; exact hF1.2 q (by rw [e0]; exact hq) hq2
  obtain ⟨t2, a2, b2⟩ := kk T'.heap (locs ++ Lc) ls (kc + (n1 - n)) (z + (sl1 - sl)) h1 (by rw [e1]; exact hP1) e3
    ⟨Nat.le_trans h4.1 (by omega), fun q q1 q2 => (hk q (Nat.lt_of_lt_of_le q1 h4.1) q2).trans (h4.2.1 q q1 q2), fun q hq => (List.mem_append.mp hq).elim (h4.2.2 q) (hLc q)⟩ (by omega) (by omega) T' rfl X'
  refine ⟨t2, stp t2 ?_, b2⟩
  cases r1 <;> exact a2
theorem xw_callIN {X : XCtx} {own : String} {cc : ByteArray} {nL : Nat} {nm : String} {ret : Option FieldType} {fr lo : Nat} (C : XOK X own cc nL nm ret fr lo) {pc : Nat} {L : List (Option Value)} {st : List Value} {h : XH} {n sl : Nat} {y : MethodName} {bytes : ByteArray} {maxL np fr1 lo1 index : Nat} {As : List Value} {r1 : Option Value} {h1' : XH} {n1 sl1 : Nat} {a : Nat} {host : String} (d : decode cc pc = .ok (.invokespecial index, 3)) (hM : XM X.1.2.1 y bytes maxL none fr1 lo1 (.ref a :: As) h n sl r1 h1' n1 sl1) (hD : XD y bytes maxL none np) (hl : Cond.methodLinkNest own index y host ∈ nestG) (hI : Cond.instanceMethod y ∈ tblG) (hy1 : y.name = "<init>") (hlen : As.length = np) (h8 : (st.map fun v => v.category).sum ≤ 8) (hfr : fr1 + 1 ≤ fr) (hlo : 8 + (maxL + 11) + lo1 ≤ lo) (hm : n ≤ n1 ∧ sl ≤ sl1) (hc : XN X n1 sl1) (kk : XW X (pc + 3) L (r1.toList ++ st) h1' n1 sl1) : XW X pc L (As.reverse ++ .ref a :: st) h n sl := by
  obtain ⟨⟨p, l, e, R⟩, ⟨s, m, args, below⟩, ⟨meth, c⟩, ⟨D, aT, B⟩, ⟨n0, sl0⟩, ⟨nC, sC⟩, Qx⟩ := X
  obtain ⟨hx, hb, hml, hr, hlk, hown, hnm, hts, hK, hF, hL, hRc, hRs, hB⟩ := C
  intro H locs ls kc z h1 h2 h3 h4 h5 h6
  dsimp only [XN] at hc hM
  have hst : (As.reverse ++ .ref a :: st).map (xv B) = (As.map (xv B)).reverse ++ .ref (B + a) :: st.map (xv B) := by
    rw [List.map_append, ← List.map_reverse]; rfl
  have hrun := va_runIN (e := e) (below := below) (meth := meth) (H := H) (locs := locs) (cells := kc) (slots := z) (As := (As.map (xv B))) (rest := st.map (xv B)) (g := F0 m pc ls ((As.reverse ++ .ref a :: st).map (xv B))) ⟨hx, hb, hml, hown, hts⟩ (hM D aT B) ⟨va_cnB (bytes := bytes) (maxL := maxL) (ret := none) np hts (xgood hD.1) rfl rfl rfl (hK.2.1 _ hl) (hts _ hD.2.1) hD.2.2 (by rw [hF, hL]; exact ⟨hfr, hlo⟩), hy1, hts _ hI⟩ ⟨xblind, fun U hU hW => ⟨rfl, by rw [hU]; exact h2, by rw [hU]; exact h3, hK.warm hW⟩⟩ rfl (by rw [List.length_map]; exact hlen) (h1.1.trans hml) hst (xsum8 h8) d ⟨by rw [hRc]; omega, by rw [hRs]; omega⟩
  intro Tt hT Xs
  obtain ⟨v, st₀, t, T', Lc, e0, X', hLc, e1, e2, ⟨hv, hP1, hz1, hF1⟩, stp⟩ := hrun Tt hT Xs
  cases hv
  have e3 : T'.heap.size = B + n1 := by rw [e1]; exact hz1
  have hk : ∀ q : Nat, q < H.size → ¬ B ≤ q → T'.heap[q]? = H[q]? := fun q hq hq2 => by rw [e1, ← e0]; exact hF1.2 q (by rw [e0]; exact hq) hq2
  obtain ⟨t2, a2, b2⟩ := kk T'.heap (locs ++ Lc) ls (kc + (n1 - n)) (z + (sl1 - sl)) h1 (by rw [e1]; exact hP1) e3
    ⟨Nat.le_trans h4.1 (by omega), fun q q1 q2 => (hk q (Nat.lt_of_lt_of_le q1 h4.1) q2).trans (h4.2.1 q q1 q2), fun q hq => (List.mem_append.mp hq).elim (h4.2.2 q) (hLc q)⟩ (by omega) (by omega) T' rfl X'
  refine ⟨t2, stp t2 ?_, b2⟩
  cases r1 <;> exact a2
theorem xw_ireturn {X : XCtx} {own : String} {cc : ByteArray} {nL : Nat} {nm : String} {ret : Option FieldType} {fr lo : Nat} (C : XOK X own cc nL nm ret fr lo) {pc : Nat} {L : List (Option Value)} {h : XH} {n sl : Nat} {v : Int32} (d : decode cc pc = .ok (.ireturn, 1)) (hrt : ret = some .int) (hX : XR X (some (.int v)) h n sl) : XW X pc L [.int v] h n sl := by
  obtain ⟨⟨p, l, e, R⟩, ⟨s, m, args, below⟩, ⟨meth, c⟩, ⟨D, aT, B⟩, ⟨n0, sl0⟩, ⟨nC, sC⟩, Qx⟩ := X
  obtain ⟨hx, hb, hml, hr, hlk, hown, hnm, hts, hK, hF, hL, hRc, hRs, hB⟩ := C
  intro H locs ls kc z h1 h2 h3 h4 h5 h6
  dsimp only [XR] at hX
  subst hX
  have e1 : n - n0 = kc := by omega
  have e2 : sl - sl0 = z := by omega
  rw [e1, e2]
  exact W.iret hx hb (hr.trans hrt) (fun t ht hW => ⟨rfl, by rw [ht]; exact h2, by rw [ht]; exact h3, h4.F ht⟩) h4.2.2 d hlk
theorem xw_zreturn {X : XCtx} {own : String} {cc : ByteArray} {nL : Nat} {nm : String} {ret : Option FieldType} {fr lo : Nat} (C : XOK X own cc nL nm ret fr lo) {pc : Nat} {L : List (Option Value)} {h : XH} {n sl : Nat} {v : Int32} (d : decode cc pc = .ok (.ireturn, 1)) (hrt : ret = some .boolean) (hn : narrow .boolean (.int v) = .int v) (hX : XR X (some (.int v)) h n sl) : XW X pc L [.int v] h n sl := by
  obtain ⟨⟨p, l, e, R⟩, ⟨s, m, args, below⟩, ⟨meth, c⟩, ⟨D, aT, B⟩, ⟨n0, sl0⟩, ⟨nC, sC⟩, Qx⟩ := X
  obtain ⟨hx, hb, hml, hr, hlk, hown, hnm, hts, hK, hF, hL, hRc, hRs, hB⟩ := C
  intro H locs ls kc z h1 h2 h3 h4 h5 h6
  dsimp only [XR] at hX
  subst hX
  have e1 : n - n0 = kc := by omega
  have e2 : sl - sl0 = z := by omega
  rw [e1, e2]
  exact W.zret hx hb (hr.trans hrt) hn (fun t ht hW => ⟨rfl, by rw [ht]; exact h2, by rw [ht]; exact h3, h4.F ht⟩) h4.2.2 d hlk
theorem xw_lreturn {X : XCtx} {own : String} {cc : ByteArray} {nL : Nat} {nm : String} {ret : Option FieldType} {fr lo : Nat} (C : XOK X own cc nL nm ret fr lo) {pc : Nat} {L : List (Option Value)} {h : XH} {n sl : Nat} {v : Int64} (d : decode cc pc = .ok (.lreturn, 1)) (hrt : ret = some .long) (hX : XR X (some (.long v)) h n sl) : XW X pc L [.long v] h n sl := by
  obtain ⟨⟨p, l, e, R⟩, ⟨s, m, args, below⟩, ⟨meth, c⟩, ⟨D, aT, B⟩, ⟨n0, sl0⟩, ⟨nC, sC⟩, Qx⟩ := X
  obtain ⟨hx, hb, hml, hr, hlk, hown, hnm, hts, hK, hF, hL, hRc, hRs, hB⟩ := C
  intro H locs ls kc z h1 h2 h3 h4 h5 h6
  dsimp only [XR] at hX
  subst hX
  have e1 : n - n0 = kc := by omega
  have e2 : sl - sl0 = z := by omega
  rw [e1, e2]
  exact W.lret hx hb (hr.trans hrt) (fun t ht hW => ⟨rfl, by rw [ht]; exact h2, by rw [ht]; exact h3, h4.F ht⟩) h4.2.2 d hlk
theorem xw_return {X : XCtx} {own : String} {cc : ByteArray} {nL : Nat} {nm : String} {ret : Option FieldType} {fr lo : Nat} (C : XOK X own cc nL nm ret fr lo) {pc : Nat} {L : List (Option Value)} {h : XH} {n sl : Nat}  (d : decode cc pc = .ok (.return_, 1)) (hrt : ret = none) (hX : XR X none h n sl) : XW X pc L [] h n sl := by
  obtain ⟨⟨p, l, e, R⟩, ⟨s, m, args, below⟩, ⟨meth, c⟩, ⟨D, aT, B⟩, ⟨n0, sl0⟩, ⟨nC, sC⟩, Qx⟩ := X
  obtain ⟨hx, hb, hml, hr, hlk, hown, hnm, hts, hK, hF, hL, hRc, hRs, hB⟩ := C
  intro H locs ls kc z h1 h2 h3 h4 h5 h6
  dsimp only [XR] at hX
  subst hX
  have e1 : n - n0 = kc := by omega
  have e2 : sl - sl0 = z := by omega
  rw [e1, e2]
  exact W.vret hx hb (hr.trans hrt) (fun t ht hW => ⟨rfl, by rw [ht]; exact h2, by rw [ht]; exact h3, h4.F ht⟩) h4.2.2 d hlk
theorem xw_areturn {X : XCtx} {own : String} {cc : ByteArray} {nL : Nat} {nm : String} {ret : Option FieldType} {fr lo : Nat} (C : XOK X own cc nL nm ret fr lo) {pc : Nat} {L : List (Option Value)} {h : XH} {n sl : Nat} {v : Option Nat} {rt : FieldType} (d : decode cc pc = .ok (.areturn, 1)) (hrt : ret = some rt) (hrf : (∃ n, rt = .object n) ∨ ∃ t, rt = .array t) (hX : XR X (some (va_rf v)) h n sl) : XW X pc L [va_rf v] h n sl := by
  obtain ⟨⟨p, l, e, R⟩, ⟨s, m, args, below⟩, ⟨meth, c⟩, ⟨D, aT, B⟩, ⟨n0, sl0⟩, ⟨nC, sC⟩, Qx⟩ := X
  obtain ⟨hx, hb, hml, hr, hlk, hown, hnm, hts, hK, hF, hL, hRc, hRs, hB⟩ := C
  intro H locs ls kc z h1 h2 h3 h4 h5 h6
  dsimp only [XR] at hX
  subst hX
  have e1 : n - n0 = kc := by omega
  have e2 : sl - sl0 = z := by omega
  rw [e1, e2]
  exact W.aret hx hb (hr.trans hrt) hrf (by cases v with | none => exact Or.inl rfl | some q => exact Or.inr ⟨B + q, rfl⟩) (fun t ht hW => ⟨rfl, by rw [ht]; exact h2, by rw [ht]; exact h3, h4.F ht⟩) h4.2.2 d hlk
/-! loops: a body that goes on with a new state or ends -/
def xloop {σ ε : Type} (b : σ → Option (σ ⊕ ε)) : Nat → σ → Option ε
  | 0, _ => none
  | f + 1, s => match b s with
    | none => none
    | some (.inl s') => xloop b f s'
    | some (.inr e) => some e
theorem xloop_walk {σ ε : Type} (b : σ → Option (σ ⊕ ε)) (P : σ → Prop) (E : ε → Prop) (hs : ∀ s o, b s = some o → (∀ s', o = .inl s' → P s') → (∀ e, o = .inr e → E e) → P s) : ∀ (f : Nat) (s : σ) (e : ε), xloop b f s = some e → E e → P s := by
  intro f
  induction f with
  | zero => intro s e h; simp [xloop] at h
  | succ f ih =>
    intro s e h hE
    simp only [xloop] at h
    cases hb : b s with
    | none => simp [hb] at h
    | some o =>
      cases o with
      | inl s' =>
        simp only [hb] at h
        exact hs s _ hb (fun s'' q => by cases q; exact ih _ e h hE) (fun e' q => by cases q)
      | inr e' =>
        simp only [hb] at h
        cases h
        exact hs s _ hb (fun s'' q => by cases q) (fun e'' q => by cases q; exact hE)
theorem xbind {α β : Type} {x : Option α} {f : α → Option β} {y : β} (h : x.bind f = some y) : ∃ a, x = some a ∧ f a = some y := by
  cases x with
  | none => simp at h
  | some a => exact ⟨a, rfl, h⟩
def xbi : Bool → Int32
  | true => 1
  | false => 0
theorem xbi_nar (b : Bool) : narrow .boolean (.int (xbi b)) = .int (xbi b) := by cases b <;> rfl
theorem xbi_ne {b : Bool} (h : ¬ xbi b = 0) : b = true := by cases b with | true => rfl | false => exact absurd rfl h
theorem xbi_eq {b : Bool} (h : xbi b = 0) : b = false := by cases b with | true => exact absurd h (by decide) | false => rfl
theorem xif_t {c : Prop} [Decidable c] {α : Type} {a b : Option α} {o : α} (q : c) (hm : (if c then a else b) = some o) : a = some o := by rw [if_pos q] at hm; exact hm
theorem xif_f {c : Prop} [Decidable c] {α : Type} {a b : Option α} {o : α} (q : ¬ c) (hm : (if c then a else b) = some o) : b = some o := by rw [if_neg q] at hm; exact hm
def xlet {α β : Type} (a : α) (f : α → Option β) : Option β := f a
theorem xlet_eq {α β : Type} {a : α} {f : α → Option β} {y : β} (h : xlet a f = some y) : f a = some y := h
theorem xw_if_eqZ {X : XCtx} {own : String} {cc : ByteArray} {nL : Nat} {nm : String} {ret : Option FieldType} {fr lo : Nat} (C : XOK X own cc nL nm ret fr lo) {pc : Nat} {L : List (Option Value)} {st : List Value} {h : XH} {n sl : Nat} {b : Bool} {off : Int} {tgt : Nat} (d : decode cc pc = .ok (.ifCond .eq off, 3)) (ht : (pc : Int) + off = (tgt : Int)) (kt : ¬ b = true → XW X tgt L st h n sl) (kf : b = true → XW X (pc + 3) L st h n sl) : XW X pc L (.int (xbi b) :: st) h n sl := xw_if_eq C d ht (fun q => kt (by cases b <;> simp_all [xbi])) (fun q => kf (by cases b <;> simp_all [xbi]))
theorem xw_if_neZ {X : XCtx} {own : String} {cc : ByteArray} {nL : Nat} {nm : String} {ret : Option FieldType} {fr lo : Nat} (C : XOK X own cc nL nm ret fr lo) {pc : Nat} {L : List (Option Value)} {st : List Value} {h : XH} {n sl : Nat} {b : Bool} {off : Int} {tgt : Nat} (d : decode cc pc = .ok (.ifCond .ne off, 3)) (ht : (pc : Int) + off = (tgt : Int)) (kt : b = true → XW X tgt L st h n sl) (kf : ¬ b = true → XW X (pc + 3) L st h n sl) : XW X pc L (.int (xbi b) :: st) h n sl := xw_if_ne C d ht (fun q => kt (by cases b <;> simp_all [xbi])) (fun q => kf (by cases b <;> simp_all [xbi]))
theorem xw_callV0 {X : XCtx} {own : String} {cc : ByteArray} {nL : Nat} {nm : String} {ret : Option FieldType} {fr lo : Nat} (C : XOK X own cc nL nm ret fr lo) {pc : Nat} {L : List (Option Value)} {st : List Value} {h : XH} {n sl : Nat} {y : MethodName} {bytes : ByteArray} {maxL np fr1 lo1 index : Nat} {rt : Option FieldType} {As : List Value}  {h1' : XH} {n1 sl1 : Nat} {a : Nat} {ci : Nat} (d : decode cc pc = .ok (.invokevirtual index, 3)) (hM : XM X.1.2.1 y bytes maxL rt fr1 lo1 (.ref a :: As) h n sl none h1' n1 sl1) (hD : XD y bytes maxL rt np) (hl : Cond.methodLink own index y ∈ tblG) (hV : XDV y ci) (hco : ∃ fs, h a = some (.inl (ci, fs))) (hlen : As.length = np) (h8 : (st.map fun v => v.category).sum ≤ 8) (hfr : fr1 + 1 ≤ fr) (hlo : 8 + (maxL + 11) + lo1 ≤ lo) (hm : n ≤ n1 ∧ sl ≤ sl1) (hc : XN X n1 sl1) (kk : XW X (pc + 3) L st h1' n1 sl1) : XW X pc L (As.reverse ++ .ref a :: st) h n sl := xw_callV C d hM hD hl hV hco hlen h8 hfr hlo hm hc kk
theorem xw_callV1 {X : XCtx} {own : String} {cc : ByteArray} {nL : Nat} {nm : String} {ret : Option FieldType} {fr lo : Nat} (C : XOK X own cc nL nm ret fr lo) {pc : Nat} {L : List (Option Value)} {st : List Value} {h : XH} {n sl : Nat} {y : MethodName} {bytes : ByteArray} {maxL np fr1 lo1 index : Nat} {rt : Option FieldType} {As : List Value} {v1 : Value} {h1' : XH} {n1 sl1 : Nat} {a : Nat} {ci : Nat} (d : decode cc pc = .ok (.invokevirtual index, 3)) (hM : XM X.1.2.1 y bytes maxL rt fr1 lo1 (.ref a :: As) h n sl (some v1) h1' n1 sl1) (hD : XD y bytes maxL rt np) (hl : Cond.methodLink own index y ∈ tblG) (hV : XDV y ci) (hco : ∃ fs, h a = some (.inl (ci, fs))) (hlen : As.length = np) (h8 : (st.map fun v => v.category).sum ≤ 8) (hfr : fr1 + 1 ≤ fr) (hlo : 8 + (maxL + 11) + lo1 ≤ lo) (hm : n ≤ n1 ∧ sl ≤ sl1) (hc : XN X n1 sl1) (kk : XW X (pc + 3) L (v1 :: st) h1' n1 sl1) : XW X pc L (As.reverse ++ .ref a :: st) h n sl := xw_callV C d hM hD hl hV hco hlen h8 hfr hlo hm hc kk
theorem xw_callS0 {X : XCtx} {own : String} {cc : ByteArray} {nL : Nat} {nm : String} {ret : Option FieldType} {fr lo : Nat} (C : XOK X own cc nL nm ret fr lo) {pc : Nat} {L : List (Option Value)} {st : List Value} {h : XH} {n sl : Nat} {y : MethodName} {bytes : ByteArray} {maxL np fr1 lo1 index : Nat} {rt : Option FieldType} {As : List Value}  {h1' : XH} {n1 sl1 : Nat} (d : decode cc pc = .ok (.invokestatic index, 3)) (hM : XM X.1.2.1 y bytes maxL rt fr1 lo1 (As) h n sl none h1' n1 sl1) (hD : XD y bytes maxL rt np) (hl : Cond.methodLink own index y ∈ tblG) (hS : Cond.static y ∈ tblG) (hlen : As.length = np) (h8 : (st.map fun v => v.category).sum ≤ 8) (hfr : fr1 + 1 ≤ fr) (hlo : 8 + (maxL + 11) + lo1 ≤ lo) (hm : n ≤ n1 ∧ sl ≤ sl1) (hc : XN X n1 sl1) (kk : XW X (pc + 3) L st h1' n1 sl1) : XW X pc L (As.reverse ++ st) h n sl := xw_callS C d hM hD hl hS hlen h8 hfr hlo hm hc kk
theorem xw_callS1 {X : XCtx} {own : String} {cc : ByteArray} {nL : Nat} {nm : String} {ret : Option FieldType} {fr lo : Nat} (C : XOK X own cc nL nm ret fr lo) {pc : Nat} {L : List (Option Value)} {st : List Value} {h : XH} {n sl : Nat} {y : MethodName} {bytes : ByteArray} {maxL np fr1 lo1 index : Nat} {rt : Option FieldType} {As : List Value} {v1 : Value} {h1' : XH} {n1 sl1 : Nat} (d : decode cc pc = .ok (.invokestatic index, 3)) (hM : XM X.1.2.1 y bytes maxL rt fr1 lo1 (As) h n sl (some v1) h1' n1 sl1) (hD : XD y bytes maxL rt np) (hl : Cond.methodLink own index y ∈ tblG) (hS : Cond.static y ∈ tblG) (hlen : As.length = np) (h8 : (st.map fun v => v.category).sum ≤ 8) (hfr : fr1 + 1 ≤ fr) (hlo : 8 + (maxL + 11) + lo1 ≤ lo) (hm : n ≤ n1 ∧ sl ≤ sl1) (hc : XN X n1 sl1) (kk : XW X (pc + 3) L (v1 :: st) h1' n1 sl1) : XW X pc L (As.reverse ++ st) h n sl := xw_callS C d hM hD hl hS hlen h8 hfr hlo hm hc kk
theorem xw_callI0 {X : XCtx} {own : String} {cc : ByteArray} {nL : Nat} {nm : String} {ret : Option FieldType} {fr lo : Nat} (C : XOK X own cc nL nm ret fr lo) {pc : Nat} {L : List (Option Value)} {st : List Value} {h : XH} {n sl : Nat} {y : MethodName} {bytes : ByteArray} {maxL np fr1 lo1 index : Nat} {As : List Value}  {h1' : XH} {n1 sl1 : Nat} {a : Nat} (d : decode cc pc = .ok (.invokespecial index, 3)) (hM : XM X.1.2.1 y bytes maxL none fr1 lo1 (.ref a :: As) h n sl none h1' n1 sl1) (hD : XD y bytes maxL none np) (hl : Cond.methodLink own index y ∈ tblG) (hI : Cond.instanceMethod y ∈ tblG) (hy1 : y.name = "<init>") (hlen : As.length = np) (h8 : (st.map fun v => v.category).sum ≤ 8) (hfr : fr1 + 1 ≤ fr) (hlo : 8 + (maxL + 11) + lo1 ≤ lo) (hm : n ≤ n1 ∧ sl ≤ sl1) (hc : XN X n1 sl1) (kk : XW X (pc + 3) L st h1' n1 sl1) : XW X pc L (As.reverse ++ .ref a :: st) h n sl := xw_callI C d hM hD hl hI hy1 hlen h8 hfr hlo hm hc kk
theorem xw_callSN0 {X : XCtx} {own : String} {cc : ByteArray} {nL : Nat} {nm : String} {ret : Option FieldType} {fr lo : Nat} (C : XOK X own cc nL nm ret fr lo) {pc : Nat} {L : List (Option Value)} {st : List Value} {h : XH} {n sl : Nat} {y : MethodName} {bytes : ByteArray} {maxL np fr1 lo1 index : Nat} {rt : Option FieldType} {As : List Value}  {h1' : XH} {n1 sl1 : Nat} {host : String} (d : decode cc pc = .ok (.invokestatic index, 3)) (hM : XM X.1.2.1 y bytes maxL rt fr1 lo1 (As) h n sl none h1' n1 sl1) (hD : XD y bytes maxL rt np) (hl : Cond.methodLinkNest own index y host ∈ nestG) (hS : Cond.static y ∈ tblG) (hlen : As.length = np) (h8 : (st.map fun v => v.category).sum ≤ 8) (hfr : fr1 + 1 ≤ fr) (hlo : 8 + (maxL + 11) + lo1 ≤ lo) (hm : n ≤ n1 ∧ sl ≤ sl1) (hc : XN X n1 sl1) (kk : XW X (pc + 3) L st h1' n1 sl1) : XW X pc L (As.reverse ++ st) h n sl := xw_callSN C d hM hD hl hS hlen h8 hfr hlo hm hc kk
theorem xw_callSN1 {X : XCtx} {own : String} {cc : ByteArray} {nL : Nat} {nm : String} {ret : Option FieldType} {fr lo : Nat} (C : XOK X own cc nL nm ret fr lo) {pc : Nat} {L : List (Option Value)} {st : List Value} {h : XH} {n sl : Nat} {y : MethodName} {bytes : ByteArray} {maxL np fr1 lo1 index : Nat} {rt : Option FieldType} {As : List Value} {v1 : Value} {h1' : XH} {n1 sl1 : Nat} {host : String} (d : decode cc pc = .ok (.invokestatic index, 3)) (hM : XM X.1.2.1 y bytes maxL rt fr1 lo1 (As) h n sl (some v1) h1' n1 sl1) (hD : XD y bytes maxL rt np) (hl : Cond.methodLinkNest own index y host ∈ nestG) (hS : Cond.static y ∈ tblG) (hlen : As.length = np) (h8 : (st.map fun v => v.category).sum ≤ 8) (hfr : fr1 + 1 ≤ fr) (hlo : 8 + (maxL + 11) + lo1 ≤ lo) (hm : n ≤ n1 ∧ sl ≤ sl1) (hc : XN X n1 sl1) (kk : XW X (pc + 3) L (v1 :: st) h1' n1 sl1) : XW X pc L (As.reverse ++ st) h n sl := xw_callSN C d hM hD hl hS hlen h8 hfr hlo hm hc kk
theorem xw_callIN0 {X : XCtx} {own : String} {cc : ByteArray} {nL : Nat} {nm : String} {ret : Option FieldType} {fr lo : Nat} (C : XOK X own cc nL nm ret fr lo) {pc : Nat} {L : List (Option Value)} {st : List Value} {h : XH} {n sl : Nat} {y : MethodName} {bytes : ByteArray} {maxL np fr1 lo1 index : Nat} {As : List Value}  {h1' : XH} {n1 sl1 : Nat} {a : Nat} {host : String} (d : decode cc pc = .ok (.invokespecial index, 3)) (hM : XM X.1.2.1 y bytes maxL none fr1 lo1 (.ref a :: As) h n sl none h1' n1 sl1) (hD : XD y bytes maxL none np) (hl : Cond.methodLinkNest own index y host ∈ nestG) (hI : Cond.instanceMethod y ∈ tblG) (hy1 : y.name = "<init>") (hlen : As.length = np) (h8 : (st.map fun v => v.category).sum ≤ 8) (hfr : fr1 + 1 ≤ fr) (hlo : 8 + (maxL + 11) + lo1 ≤ lo) (hm : n ≤ n1 ∧ sl ≤ sl1) (hc : XN X n1 sl1) (kk : XW X (pc + 3) L st h1' n1 sl1) : XW X pc L (As.reverse ++ .ref a :: st) h n sl := xw_callIN C d hM hD hl hI hy1 hlen h8 hfr hlo hm hc kk
theorem xw_callSS0 {X : XCtx} {own : String} {cc : ByteArray} {nL : Nat} {nm : String} {ret : Option FieldType} {fr lo : Nat} (C : XOK X own cc nL nm ret fr lo) {pc : Nat} {L : List (Option Value)} {st : List Value} {h : XH} {n sl : Nat} {b0 N0 : Nat} {xs : Nat → Int32} {y : MethodName} {bytes : ByteArray} {maxL np fr1 lo1 index : Nat} {rt : Option FieldType} {As : List Value}  {h1' : XH} {n1 sl1 : Nat} (hS0 : XSc X b0 N0 xs) (d : decode cc pc = .ok (.invokestatic index, 3)) (hM : XMS X.1.2.1 y bytes maxL rt fr1 lo1 b0 N0 xs (As) h n sl none h1' n1 sl1) (hD : XD y bytes maxL rt np) (hl : Cond.methodLink own index y ∈ tblG) (hS : Cond.static y ∈ tblG) (hlen : As.length = np) (h8 : (st.map fun v => v.category).sum ≤ 8) (hfr : fr1 + 1 ≤ fr) (hlo : 8 + (maxL + 11) + lo1 ≤ lo) (hm : n ≤ n1 ∧ sl ≤ sl1) (hc : XN X n1 sl1) (kk : XW X (pc + 3) L st h1' n1 sl1) : XW X pc L (As.reverse ++ st) h n sl := xw_callSS C hS0 d hM hD hl hS hlen h8 hfr hlo hm hc kk
theorem xw_callSS1 {X : XCtx} {own : String} {cc : ByteArray} {nL : Nat} {nm : String} {ret : Option FieldType} {fr lo : Nat} (C : XOK X own cc nL nm ret fr lo) {pc : Nat} {L : List (Option Value)} {st : List Value} {h : XH} {n sl : Nat} {b0 N0 : Nat} {xs : Nat → Int32} {y : MethodName} {bytes : ByteArray} {maxL np fr1 lo1 index : Nat} {rt : Option FieldType} {As : List Value} {v1 : Value} {h1' : XH} {n1 sl1 : Nat} (hS0 : XSc X b0 N0 xs) (d : decode cc pc = .ok (.invokestatic index, 3)) (hM : XMS X.1.2.1 y bytes maxL rt fr1 lo1 b0 N0 xs (As) h n sl (some v1) h1' n1 sl1) (hD : XD y bytes maxL rt np) (hl : Cond.methodLink own index y ∈ tblG) (hS : Cond.static y ∈ tblG) (hlen : As.length = np) (h8 : (st.map fun v => v.category).sum ≤ 8) (hfr : fr1 + 1 ≤ fr) (hlo : 8 + (maxL + 11) + lo1 ≤ lo) (hm : n ≤ n1 ∧ sl ≤ sl1) (hc : XN X n1 sl1) (kk : XW X (pc + 3) L (v1 :: st) h1' n1 sl1) : XW X pc L (As.reverse ++ st) h n sl := xw_callSS C hS0 d hM hD hl hS hlen h8 hfr hlo hm hc kk
theorem xif_n {c : Prop} [Decidable c] {α : Type} {b : Option α} {o : α} (hm : (if c then none else b) = some o) : ¬ c ∧ b = some o := by
  by_cases q : c
  · rw [if_pos q] at hm; cases hm
  · rw [if_neg q] at hm; exact ⟨q, hm⟩
theorem xlet_ex {α β : Type} {a : α} {f : α → Option β} {y : β} (h : xlet a f = some y) : ∃ z, z = a ∧ f z = some y := ⟨a, rfl, h⟩
theorem xw_topI {X : XCtx} {pc : Nat} {L : List (Option Value)} {st : List Value} {h : XH} {n sl : Nat} {x y : Int32} (e : y = x) (kk : XW X pc L (.int y :: st) h n sl) : XW X pc L (.int x :: st) h n sl := e ▸ kk
theorem xw_topJ {X : XCtx} {pc : Nat} {L : List (Option Value)} {st : List Value} {h : XH} {n sl : Nat} {x y : Int64} (e : y = x) (kk : XW X pc L (.long y :: st) h n sl) : XW X pc L (.long x :: st) h n sl := e ▸ kk
def xqc {β : Type} (x : Option Nat) (a : Option β) (f : Nat → Option β) : Option β := match x with
  | none => a
  | some k => f k
theorem xqc_n {β : Type} {x : Option Nat} {a : Option β} {f : Nat → Option β} {o : β} (q : x = none) (h : xqc x a f = some o) : a = some o := by subst q; exact h
theorem xqc_s {β : Type} {x : Option Nat} {a : Option β} {f : Nat → Option β} {o : β} {k : Nat} (q : x = some k) (h : xqc x a f = some o) : f k = some o := by subst q; exact h
def xnw (h : XH) (n : Nat) (e : XE) : Option XH := some (xup h n e)
theorem xif_s {c : Prop} [Decidable c] {α : Type} {x o : α} (hm : (if c then some x else none) = some o) : c ∧ some x = some o := by
  by_cases q : c
  · rw [if_pos q] at hm; exact ⟨q, hm⟩
  · rw [if_neg q] at hm; cases hm
theorem xw_newIB {X : XCtx} {own : String} {cc : ByteArray} {nL : Nat} {nm : String} {ret : Option FieldType} {fr lo : Nat} (C : XOK X own cc nL nm ret fr lo) {pc : Nat} {L : List (Option Value)} {st : List Value} {h : XH} {n sl : Nat} {i : Int32} {N : Nat} {h2 : XH} (d : decode cc pc = .ok (.newarray .int, 2)) (ha : Cond.arrayClass .int ∈ tblG) (hn : ¬ i < 0) (hN : i.toNatClampNeg = N) (hsm : N ≤ 100000) (hc : XN X (n + 1) (sl + N)) (q : xnw h n (.inr (0, N, .inl (fun _ => 0))) = some h2) (kk : XW X (pc + 2) L (.ref n :: st) h2 (n + 1) (sl + N)) : XW X pc L (.int i :: st) h n sl := by
  obtain rfl := Option.some.inj q
  exact xw_newI C d ha hn hN hsm hc kk
theorem xw_newQB {X : XCtx} {own : String} {cc : ByteArray} {nL : Nat} {nm : String} {ret : Option FieldType} {fr lo : Nat} (C : XOK X own cc nL nm ret fr lo) {pc : Nat} {L : List (Option Value)} {st : List Value} {h : XH} {n sl : Nat} {index : Nat} {i : Int32} {N : Nat} {h2 : XH} (d : decode cc pc = .ok (.anewarray index, 3)) (ha : Cond.classLink own index RX5 ∈ tblG) (hn : ¬ i < 0) (hN : i.toNatClampNeg = N) (hsm : N ≤ 100000) (hc : XN X (n + 1) (sl + N)) (q : xnw h n (.inr (2, N, .inr (.inr (.inr (.inr (fun _ => none)))))) = some h2) (kk : XW X (pc + 3) L (.ref n :: st) h2 (n + 1) (sl + N)) : XW X pc L (.int i :: st) h n sl := by
  obtain rfl := Option.some.inj q
  exact xw_newQ C d ha hn hN hsm hc kk
theorem xw_newB {X : XCtx} {own : String} {cc : ByteArray} {nL : Nat} {nm : String} {ret : Option FieldType} {fr lo : Nat} (C : XOK X own cc nL nm ret fr lo) {pc : Nat} {L : List (Option Value)} {st : List Value} {h : XH} {n sl : Nat} {index ci N : Nat} {Cn : String} {fs : List Value} {h2 : XH} (d : decode cc pc = .ok (.new index, 3)) (ha : Cond.classLink own index Cn ∈ tblG) (hN : XNw ci Cn N fs) (hc : XN X (n + 1) (sl + N)) (q : xnw h n (.inl (ci, fs)) = some h2) (kk : XW X (pc + 3) L (.ref n :: st) h2 (n + 1) (sl + N)) : XW X pc L st h n sl := by
  obtain rfl := Option.some.inj q
  exact xw_new C d ha hN hc kk
def xmmax (x y : Int32) : Int32 := if x < y then y else x
def xmabs (x : Int32) : Int32 := if 0 ≤ x then x else 0 - x
theorem xw_mmax {X : XCtx} {own : String} {cc : ByteArray} {nL : Nat} {nm : String} {ret : Option FieldType} {fr lo : Nat} (C : XOK X own cc nL nm ret fr lo) {pc : Nat} {L : List (Option Value)} {st : List Value} {h : XH} {n sl : Nat} {x y : Int32} {index : Nat} (d : decode cc pc = .ok (.invokestatic index, 3)) (hl : Cond.methodLink own index yJ9_max_7cf53 ∈ tblG) (hS : Cond.static yJ9_max_7cf53 ∈ tblG) (hD : XD yJ9_max_7cf53 cJ9_max_7cf53 2 (some .int) 2) (hfr : 1 ≤ fr) (hlo : (st.map fun v => v.category).sum + 13 ≤ lo) (hN : XN X n sl) (kk : XW X (pc + 3) L (.int (xmmax x y) :: st) h n sl) : XW X pc L (.int y :: .int x :: st) h n sl := by
  obtain ⟨⟨p, l, e, R⟩, ⟨s, m, args, below⟩, ⟨meth, c⟩, ⟨D, aT, B⟩, ⟨n0, sl0⟩, ⟨nC, sC⟩, Qx⟩ := X
  obtain ⟨hx, hb, hml, hr, hlk, hown, hnm, hts, hK, hF, hL, hRc, hRs, hB⟩ := C
  intro H locs ls kc z h1 h2 h3 h4 h5 h6
  dsimp only [XN] at hN
  have hs : ((st.map (xv B)).map fun v => v.category).sum = (st.map fun v => v.category).sum := by
    rw [List.map_map]
    congr 2
    funext v
    exact xv_cat B v
  exact va_mmax (ls := ls) (rest := st.map (xv B)) hx hb h1.1.symm hown (hts _ hl) (hts _ hS) (hts _ hD.2.1) (hts _ hD.1) (by rw [hF]; exact hfr) (by rw [hL, hs]; exact hlo) (by rw [hRc]; omega) (by rw [hRs]; omega) d (kk H locs ls kc z h1 h2 h3 h4 h5 h6)
theorem xw_mabs {X : XCtx} {own : String} {cc : ByteArray} {nL : Nat} {nm : String} {ret : Option FieldType} {fr lo : Nat} (C : XOK X own cc nL nm ret fr lo) {pc : Nat} {L : List (Option Value)} {st : List Value} {h : XH} {n sl : Nat} {x : Int32} {index : Nat} (d : decode cc pc = .ok (.invokestatic index, 3)) (hl : Cond.methodLink own index yJ9_abs_0f7a4 ∈ tblG) (hS : Cond.static yJ9_abs_0f7a4 ∈ tblG) (hD : XD yJ9_abs_0f7a4 cJ9_abs_0f7a4 1 (some .int) 1) (hfr : 1 ≤ fr) (hlo : (st.map fun v => v.category).sum + 13 ≤ lo) (hN : XN X n sl) (kk : XW X (pc + 3) L (.int (xmabs x) :: st) h n sl) : XW X pc L (.int x :: st) h n sl := by
  obtain ⟨⟨p, l, e, R⟩, ⟨s, m, args, below⟩, ⟨meth, c⟩, ⟨D, aT, B⟩, ⟨n0, sl0⟩, ⟨nC, sC⟩, Qx⟩ := X
  obtain ⟨hx, hb, hml, hr, hlk, hown, hnm, hts, hK, hF, hL, hRc, hRs, hB⟩ := C
  intro H locs ls kc z h1 h2 h3 h4 h5 h6
  dsimp only [XN] at hN
  have hs : ((st.map (xv B)).map fun v => v.category).sum = (st.map fun v => v.category).sum := by
    rw [List.map_map]
    congr 2
    funext v
    exact xv_cat B v
  exact va_mabs (ls := ls) (rest := st.map (xv B)) hx hb h1.1.symm hown (hts _ hl) (hts _ hS) (hts _ hD.2.1) (hts _ hD.1) (by rw [hF]; exact hfr) (by rw [hL, hs]; exact hlo) (by rw [hRc]; omega) (by rw [hRs]; omega) d (kk H locs ls kc z h1 h2 h3 h4 h5 h6)
def xsc (N0 : Nat) (xs : Nat → Int32) (i : Int32) : Option Int32 := if ¬ (i < 0 ∨ N0 ≤ i.toNatClampNeg) then some (xs i.toNatClampNeg) else none

theorem xw_aload_nS {X : XCtx} {own : String} {cc : ByteArray} {nL : Nat} {nm : String} {ret : Option FieldType} {fr lo : Nat} (C : XOK X own cc nL nm ret fr lo) {pc : Nat} {L : List (Option Value)} {st : List Value} {h : XH} {n sl : Nat} {k : Fin 4} {i x : Nat} (d : decode cc pc = .ok (.aload_n k, 1)) (hk : (k : Nat) = i) (hi : L[i]? = some (some (.retAddr x))) (kk : XW X (pc + 1) L (.retAddr x :: st) h n sl) : XW X pc L st h n sl := by
  obtain ⟨⟨p, l, e, R⟩, ⟨s, m, args, below⟩, ⟨meth, c⟩, ⟨D, aT, B⟩, ⟨n0, sl0⟩, ⟨nC, sC⟩, Qx⟩ := X
  obtain ⟨hx, hb, hml, hr, hlk, hown, hnm, hts, hK, hF, hL, hRc, hRs, hB⟩ := C
  intro H locs ls kc z h1 h2 h3 h4 h5 h6
  exact lv_aload_n hx hb d hk (h1.at hi) (kk H locs ls kc z h1 h2 h3 h4 h5 h6)
theorem xw_siaload {X : XCtx} {own : String} {cc : ByteArray} {nL : Nat} {nm : String} {ret : Option FieldType} {fr lo : Nat} (C : XOK X own cc nL nm ret fr lo) {pc : Nat} {L : List (Option Value)} {st : List Value} {h : XH} {n sl : Nat} {b N0 : Nat} {xs : Nat → Int32} {i v : Int32} (d : decode cc pc = .ok (.iaload, 1)) (hS : XSc X b N0 xs) (q : xsc N0 xs i = some v) (kk : XW X (pc + 1) L (.int v :: st) h n sl) : XW X pc L (.int i :: .retAddr b :: st) h n sl := by
  obtain ⟨⟨p, l, e, R⟩, ⟨s, m, args, below⟩, ⟨meth, c⟩, ⟨D, aT, B⟩, ⟨n0, sl0⟩, ⟨nC, sC⟩, Qx⟩ := X
  obtain ⟨hx, hb, hml, hr, hlk, hown, hnm, hts, hK, hF, hL, hRc, hRs, hB⟩ := C
  intro H locs ls kc z h1 h2 h3 h4 h5 h6
  obtain ⟨s1, s2, s3⟩ := hS
  unfold xsc at q
  by_cases hc : ¬ (i < 0 ∨ N0 ≤ i.toNatClampNeg)
  · rw [if_pos hc] at q
    obtain rfl := Option.some.inj q
    exact va_sld hx hb s1 s2 s3 h4 hc d (kk H locs ls kc z h1 h2 h3 h4 h5 h6)
  · rw [if_neg hc] at q; cases q
theorem xw_salen {X : XCtx} {own : String} {cc : ByteArray} {nL : Nat} {nm : String} {ret : Option FieldType} {fr lo : Nat} (C : XOK X own cc nL nm ret fr lo) {pc : Nat} {L : List (Option Value)} {st : List Value} {h : XH} {n sl : Nat} {b N0 : Nat} {xs : Nat → Int32} (d : decode cc pc = .ok (.arraylength, 1)) (hS : XSc X b N0 xs) (kk : XW X (pc + 1) L (.int (Int32.ofNat N0) :: st) h n sl) : XW X pc L (.retAddr b :: st) h n sl := by
  obtain ⟨⟨p, l, e, R⟩, ⟨s, m, args, below⟩, ⟨meth, c⟩, ⟨D, aT, B⟩, ⟨n0, sl0⟩, ⟨nC, sC⟩, Qx⟩ := X
  obtain ⟨hx, hb, hml, hr, hlk, hown, hnm, hts, hK, hF, hL, hRc, hRs, hB⟩ := C
  intro H locs ls kc z h1 h2 h3 h4 h5 h6
  obtain ⟨s1, s2, s3⟩ := hS
  exact va_slen hx hb s1 s2 s3 h4 d (kk H locs ls kc z h1 h2 h3 h4 h5 h6)
