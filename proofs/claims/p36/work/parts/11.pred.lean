/-! reading and writing cells that are known -/
theorem gI {h : XH} {a ci : Nat} {fs : List Value} (ha : h a = some (.inl (ci, fs))) (k : Nat) {v : Int32} (hk : fs[k]? = some (.int v)) : xgI h a ci k = some v := by simp [xgI, xgf, ha, hk]
theorem gJ {h : XH} {a ci : Nat} {fs : List Value} (ha : h a = some (.inl (ci, fs))) (k : Nat) {v : Int64} (hk : fs[k]? = some (.long v)) : xgJ h a ci k = some v := by simp [xgJ, xgf, ha, hk]
theorem gR {h : XH} {a ci : Nat} {fs : List Value} (ha : h a = some (.inl (ci, fs))) (k : Nat) {v : Nat} (hk : fs[k]? = some (.ref v)) : xgR h a ci k = some v := by simp [xgR, xgf, ha, hk]
theorem gC {h : XH} {a ci : Nat} {fs : List Value} (ha : h a = some (.inl (ci, fs))) : xco h a ci = some () := by simp [xco, ha]
theorem gP {h : XH} {a ci : Nat} {fs : List Value} (ha : h a = some (.inl (ci, fs))) (k : Nat) (v : Value) (hk : k < fs.length) : xpf h a ci k v = some (xup h a (.inl (ci, fs.set k v))) := by simp [xpf, ha, hk]
theorem gL {h : XH} {a t n : Nat} {x : _} (ha : h a = some (.inr (t, n, x))) (ht : t < 3) : xln h a = some (i32 n) := by
  simp [xln, ha, ht]
  rfl
theorem bnd_ok {i : Int} {n : Nat} (hi : 0 ≤ i ∧ i < n) (hn : n < 2147483648) : ¬ (i32 i < 0 ∨ n ≤ (i32 i).toNatClampNeg) := by
  rw [L_0, i32_lt (by omega), i32_clamp (by omega)]
  omega
theorem gA {h : XH} {a t n : Nat} {f : Nat → Int32} (ha : h a = some (.inr (t, n, .inl f))) {i : Int} (hi : 0 ≤ i ∧ i < n) (hn : n < 2147483648) : xaI h a t (i32 i) = some (f i.toNat) := by
  simp only [xaI, ha]
  rw [if_pos ⟨trivial, bnd_ok hi hn⟩, i32_clamp (by omega)]
theorem gS {h : XH} {a t n : Nat} {f : Nat → Int32} (ha : h a = some (.inr (t, n, .inl f))) {i : Int} (v : Int32) (hi : 0 ≤ i ∧ i < n) (hn : n < 2147483648) : xsI h a t (i32 i) v = some (xup h a (.inr (t, n, .inl (upd f i.toNat v)))) := by
  simp only [xsI, ha]
  rw [if_pos ⟨trivial, bnd_ok hi hn⟩, i32_clamp (by omega)]
theorem xup_s (h : XH) (a : Nat) (e : XE) : xup h a e a = some e := by simp [xup]
theorem xup_n (h : XH) {a b : Nat} (e : XE) (q : b ≠ a) : xup h a e b = h b := by simp [xup, q]
def R32 (a : Int) : Prop := -2147483648 ≤ a ∧ a < 2147483648
theorem within_ok {x a b : Int} (hx : -2147483648 ≤ x ∧ x < 2147483648) (ha : -2147483648 ≤ a ∧ a < 2147483648) (hb : -2147483648 ≤ b ∧ b < 2147483648) : fX8_within (i32 x) (i32 a) (i32 b) = some (decide (a ≤ x ∧ x ≤ b)) := by
  unfold fX8_within
  rw [clt (by omega), clt (by omega)]
  by_cases h1 : x < a
  · rw [if_pos h1, decide_eq_false (by omega)]
  · by_cases h2 : b < x
    · rw [if_neg h1, if_pos h2, decide_eq_false (by omega)]
    · rw [if_neg h1, if_neg h2, decide_eq_true (by omega)]
theorem at_ok {h : XH} {a n : Nat} {f : Nat → Int32} (ha : h a = some (.inr (0, n, .inl f))) (hn : n < 2147483648) {i : Int} (hi : -2147483648 ≤ i ∧ i < 2147483648) : fX8_at h a (i32 i) = some (if 0 ≤ i ∧ i < n then f i.toNat else 0) := by
  unfold fX8_at
  rw [L_0, clt (by omega)]
  by_cases h1 : i < 0
  · rw [if_pos h1, if_neg (by omega)]
  · rw [if_neg h1, gL ha (by omega)]
    simp only [Option.bind_some]
    rw [cle (by omega)]
    by_cases h2 : (n : Int) ≤ i
    · rw [if_pos h2, if_neg (by omega)]
    · rw [if_neg h2, gA ha (by omega) hn, if_pos (by omega)]
      rfl
theorem put_ok {h : XH} {a n : Nat} {f : Nat → Int32} (ha : h a = some (.inr (0, n, .inl f))) (hn : n < 2147483648) {i : Int} (v : Int32) (hi : -2147483648 ≤ i ∧ i < 2147483648) : fX8_put h a (i32 i) v = some (if 0 ≤ i ∧ i < n then xup h a (.inr (0, n, .inl (upd f i.toNat v))) else h) := by
  unfold fX8_put
  rw [L_0, clt (by omega)]
  by_cases h1 : i < 0
  · rw [if_pos h1, if_neg (by omega)]
  · rw [if_neg h1, gL ha (by omega)]
    simp only [Option.bind_some]
    rw [cle (by omega)]
    by_cases h2 : (n : Int) ≤ i
    · rw [if_pos h2, if_neg (by omega)]
    · rw [if_neg h2, gS ha v (by omega) hn, if_pos (by omega)]
      rfl
/-! what a page of numbers must be: 0 cells, 1.. marks, 61 start, 62 speed, 63 changes, 64.. ticks and speeds, 74 first, 75 period, 76 readings, 77.. ticks and steps, 93 limit, 94 disc, 95 open, 96 its start, 97 its speed -/
def VP (p : Nat → Int) : Prop :=
  (1 ≤ p 0 ∧ p 0 ≤ 60) ∧ (∀ k : Nat, k < 60 → 0 ≤ p (1 + k) ∧ p (1 + k) ≤ 3) ∧ (0 ≤ p 61 ∧ p 61 ≤ 59) ∧ (-1000 ≤ p 62 ∧ p 62 ≤ 1000) ∧ (0 ≤ p 63 ∧ p 63 ≤ 5) ∧
  (∀ k : Nat, (k : Int) < p 63 → (1 ≤ p (64 + 2 * k) ∧ p (64 + 2 * k) ≤ 1000) ∧ (-1000 ≤ p (65 + 2 * k) ∧ p (65 + 2 * k) ≤ 1000)) ∧ (∀ j k : Nat, j < k → (k : Int) < p 63 → p (64 + 2 * j) < p (64 + 2 * k)) ∧
  (0 ≤ p 74 ∧ p 74 ≤ 1000) ∧ (1 ≤ p 75 ∧ p 75 ≤ 500) ∧ (0 ≤ p 76 ∧ p 76 ≤ 8) ∧ (∀ k : Nat, (k : Int) < p 76 → (1 ≤ p (77 + 2 * k) ∧ p (77 + 2 * k) ≤ 500) ∧ (-30 ≤ p (78 + 2 * k) ∧ p (78 + 2 * k) ≤ 30)) ∧
  (1 ≤ p 93 ∧ p 93 ≤ 1000) ∧ (1 ≤ p 94 ∧ p 94 ≤ 30) ∧ (0 ≤ p 95 ∧ p 95 < 2 ^ (p 94).toNat) ∧ (0 ≤ p 96 ∧ p 96 ≤ 29) ∧ (-1000 ≤ p 97 ∧ p 97 ≤ 1000)
theorem VP.n {p : Nat → Int} (h : VP p) : 1 ≤ p 0 ∧ p 0 ≤ 60 := h.1
theorem VP.mk {p : Nat → Int} (h : VP p) : ∀ k : Nat, k < 60 → 0 ≤ p (1 + k) ∧ p (1 + k) ≤ 3 := h.2.1
theorem VP.start {p : Nat → Int} (h : VP p) : 0 ≤ p 61 ∧ p 61 ≤ 59 := h.2.2.1
theorem VP.speed {p : Nat → Int} (h : VP p) : -1000 ≤ p 62 ∧ p 62 ≤ 1000 := h.2.2.2.1
theorem VP.ch {p : Nat → Int} (h : VP p) : 0 ≤ p 63 ∧ p 63 ≤ 5 := h.2.2.2.2.1
theorem VP.cht {p : Nat → Int} (h : VP p) : ∀ k : Nat, (k : Int) < p 63 → (1 ≤ p (64 + 2 * k) ∧ p (64 + 2 * k) ≤ 1000) ∧ (-1000 ≤ p (65 + 2 * k) ∧ p (65 + 2 * k) ≤ 1000) := h.2.2.2.2.2.1
theorem VP.srt {p : Nat → Int} (h : VP p) : ∀ j k : Nat, j < k → (k : Int) < p 63 → p (64 + 2 * j) < p (64 + 2 * k) := h.2.2.2.2.2.2.1
theorem VP.first {p : Nat → Int} (h : VP p) : 0 ≤ p 74 ∧ p 74 ≤ 1000 := h.2.2.2.2.2.2.2.1
theorem VP.per {p : Nat → Int} (h : VP p) : 1 ≤ p 75 ∧ p 75 ≤ 500 := h.2.2.2.2.2.2.2.2.1
theorem VP.rd {p : Nat → Int} (h : VP p) : 0 ≤ p 76 ∧ p 76 ≤ 8 := h.2.2.2.2.2.2.2.2.2.1
theorem VP.rdt {p : Nat → Int} (h : VP p) : ∀ k : Nat, (k : Int) < p 76 → (1 ≤ p (77 + 2 * k) ∧ p (77 + 2 * k) ≤ 500) ∧ (-30 ≤ p (78 + 2 * k) ∧ p (78 + 2 * k) ≤ 30) := h.2.2.2.2.2.2.2.2.2.2.1
theorem VP.lim {p : Nat → Int} (h : VP p) : 1 ≤ p 93 ∧ p 93 ≤ 1000 := h.2.2.2.2.2.2.2.2.2.2.2.1
theorem VP.m {p : Nat → Int} (h : VP p) : 1 ≤ p 94 ∧ p 94 ≤ 30 := h.2.2.2.2.2.2.2.2.2.2.2.2.1
theorem VP.op {p : Nat → Int} (h : VP p) : 0 ≤ p 95 ∧ p 95 < 2 ^ (p 94).toNat := h.2.2.2.2.2.2.2.2.2.2.2.2.2.1
theorem VP.ds {p : Nat → Int} (h : VP p) : 0 ≤ p 96 ∧ p 96 ≤ 29 := h.2.2.2.2.2.2.2.2.2.2.2.2.2.2.1
theorem VP.dv {p : Nat → Int} (h : VP p) : -1000 ≤ p 97 ∧ p 97 ≤ 1000 := h.2.2.2.2.2.2.2.2.2.2.2.2.2.2.2
/-! the class's blocks -/
def WhAt (h : XH) (w : Nat) (p : Nat → Int) : Prop := ∃ fm ft fs : Nat → Int32,
  h w = some (.inl (6, [.ref (w + 1), .ref (w + 2), .ref (w + 3), .int (i32 (p 0)), .int (i32 (p 61)), .int (i32 (p 62)), .int (i32 (p 63))])) ∧
  h (w + 1) = some (.inr (0, 60, .inl fm)) ∧ h (w + 2) = some (.inr (0, 5, .inl ft)) ∧ h (w + 3) = some (.inr (0, 5, .inl fs)) ∧
  (∀ k : Nat, k < 60 → (k : Int) < p 0 → fm k = i32 (p (1 + k))) ∧ (∀ k : Nat, k < 5 → (k : Int) < p 63 → ft k = i32 (p (64 + 2 * k)) ∧ fs k = i32 (p (65 + 2 * k)))
def FlAt (h : XH) (a : Nat) (p : Nat → Int) : Prop := h a = some (.inl (2, [.int (i32 (p 74)), .int (i32 (p 75))]))
def RdAt (h : XH) (a : Nat) (p : Nat → Int) : Prop := ∃ ft fs : Nat → Int32,
  h a = some (.inl (4, [.ref (a + 1), .ref (a + 2), .int (i32 (p 76)), .int (i32 (p 93))])) ∧
  h (a + 1) = some (.inr (0, 8, .inl ft)) ∧ h (a + 2) = some (.inr (0, 8, .inl fs)) ∧ (∀ k : Nat, k < 8 → (k : Int) < p 76 → ft k = i32 (p (77 + 2 * k)) ∧ fs k = i32 (p (78 + 2 * k)))
def DiAt (h : XH) (a : Nat) (p : Nat → Int) : Prop := h a = some (.inl (1, [.int (i32 (p 94)), .int (i32 (p 95)), .int (i32 (p 96)), .int (i32 (p 97))]))
def StAt (h : XH) (a : Nat) (p : Nat → Int) : Prop := h a = some (.inl (5, [.ref (a + 1), .ref (a + 5), .ref (a + 6), .ref (a + 9)])) ∧ WhAt h (a + 1) p ∧ FlAt h (a + 5) p ∧ RdAt h (a + 6) p ∧ DiAt h (a + 9) p
theorem WhAt.c {h : XH} {w : Nat} {p : Nat → Int} (H : WhAt h w p) : xco h w 6 = some () := by obtain ⟨_, _, _, e, -⟩ := H; exact gC e
theorem WhAt.r0 {h : XH} {w : Nat} {p : Nat → Int} (H : WhAt h w p) : xgR h w 6 0 = some (w + 1) := by obtain ⟨_, _, _, e, -⟩ := H; exact gR e 0 rfl
theorem WhAt.r1 {h : XH} {w : Nat} {p : Nat → Int} (H : WhAt h w p) : xgR h w 6 1 = some (w + 2) := by obtain ⟨_, _, _, e, -⟩ := H; exact gR e 1 rfl
theorem WhAt.r2 {h : XH} {w : Nat} {p : Nat → Int} (H : WhAt h w p) : xgR h w 6 2 = some (w + 3) := by obtain ⟨_, _, _, e, -⟩ := H; exact gR e 2 rfl
theorem WhAt.i3 {h : XH} {w : Nat} {p : Nat → Int} (H : WhAt h w p) : xgI h w 6 3 = some (i32 (p 0)) := by obtain ⟨_, _, _, e, -⟩ := H; exact gI e 3 rfl
theorem WhAt.i4 {h : XH} {w : Nat} {p : Nat → Int} (H : WhAt h w p) : xgI h w 6 4 = some (i32 (p 61)) := by obtain ⟨_, _, _, e, -⟩ := H; exact gI e 4 rfl
theorem WhAt.i5 {h : XH} {w : Nat} {p : Nat → Int} (H : WhAt h w p) : xgI h w 6 5 = some (i32 (p 62)) := by obtain ⟨_, _, _, e, -⟩ := H; exact gI e 5 rfl
theorem WhAt.i6 {h : XH} {w : Nat} {p : Nat → Int} (H : WhAt h w p) : xgI h w 6 6 = some (i32 (p 63)) := by obtain ⟨_, _, _, e, -⟩ := H; exact gI e 6 rfl
theorem WhAt.mark {h : XH} {w : Nat} {p : Nat → Int} (H : WhAt h w p) (hV : VP p) {i : Int} (hi : 0 ≤ i ∧ i < p 0) : fX8_at h (w + 1) (i32 i) = some (i32 (p (1 + i.toNat))) := by
  obtain ⟨fm, _, _, -, e, -, -, q, -⟩ := H
  have := hV.n
  rw [at_ok e (by omega) (by omega), if_pos (by omega), q _ (by omega) (by omega)]
theorem WhAt.ctk {h : XH} {w : Nat} {p : Nat → Int} (H : WhAt h w p) (hV : VP p) {i : Int} (hi : 0 ≤ i ∧ i < p 63) : fX8_at h (w + 2) (i32 i) = some (i32 (p (64 + 2 * i.toNat))) := by
  obtain ⟨_, ft, _, -, -, e, -, -, q⟩ := H
  have := hV.ch
  rw [at_ok e (by omega) (by omega), if_pos (by omega), (q _ (by omega) (by omega)).1]
theorem WhAt.csp {h : XH} {w : Nat} {p : Nat → Int} (H : WhAt h w p) (hV : VP p) {i : Int} (hi : 0 ≤ i ∧ i < p 63) : fX8_at h (w + 3) (i32 i) = some (i32 (p (65 + 2 * i.toNat))) := by
  obtain ⟨_, _, fs, -, -, -, e, -, q⟩ := H
  have := hV.ch
  rw [at_ok e (by omega) (by omega), if_pos (by omega), (q _ (by omega) (by omega)).2]
theorem FlAt.c {h : XH} {a : Nat} {p : Nat → Int} (H : FlAt h a p) : xco h a 2 = some () := gC H
theorem FlAt.i0 {h : XH} {a : Nat} {p : Nat → Int} (H : FlAt h a p) : xgI h a 2 0 = some (i32 (p 74)) := gI H 0 rfl
theorem FlAt.i1 {h : XH} {a : Nat} {p : Nat → Int} (H : FlAt h a p) : xgI h a 2 1 = some (i32 (p 75)) := gI H 1 rfl
theorem RdAt.c {h : XH} {a : Nat} {p : Nat → Int} (H : RdAt h a p) : xco h a 4 = some () := by obtain ⟨_, _, e, -⟩ := H; exact gC e
theorem RdAt.r0 {h : XH} {a : Nat} {p : Nat → Int} (H : RdAt h a p) : xgR h a 4 0 = some (a + 1) := by obtain ⟨_, _, e, -⟩ := H; exact gR e 0 rfl
theorem RdAt.r1 {h : XH} {a : Nat} {p : Nat → Int} (H : RdAt h a p) : xgR h a 4 1 = some (a + 2) := by obtain ⟨_, _, e, -⟩ := H; exact gR e 1 rfl
theorem RdAt.i2 {h : XH} {a : Nat} {p : Nat → Int} (H : RdAt h a p) : xgI h a 4 2 = some (i32 (p 76)) := by obtain ⟨_, _, e, -⟩ := H; exact gI e 2 rfl
theorem RdAt.i3 {h : XH} {a : Nat} {p : Nat → Int} (H : RdAt h a p) : xgI h a 4 3 = some (i32 (p 93)) := by obtain ⟨_, _, e, -⟩ := H; exact gI e 3 rfl
theorem RdAt.tk {h : XH} {a : Nat} {p : Nat → Int} (H : RdAt h a p) (hV : VP p) {i : Int} (hi : 0 ≤ i ∧ i < p 76) : fX8_at h (a + 1) (i32 i) = some (i32 (p (77 + 2 * i.toNat))) := by
  obtain ⟨ft, _, -, e, -, q⟩ := H
  have := hV.rd
  rw [at_ok e (by omega) (by omega), if_pos (by omega), (q _ (by omega) (by omega)).1]
theorem RdAt.sp {h : XH} {a : Nat} {p : Nat → Int} (H : RdAt h a p) (hV : VP p) {i : Int} (hi : 0 ≤ i ∧ i < p 76) : fX8_at h (a + 2) (i32 i) = some (i32 (p (78 + 2 * i.toNat))) := by
  obtain ⟨_, fs, -, -, e, q⟩ := H
  have := hV.rd
  rw [at_ok e (by omega) (by omega), if_pos (by omega), (q _ (by omega) (by omega)).2]
theorem DiAt.c {h : XH} {a : Nat} {p : Nat → Int} (H : DiAt h a p) : xco h a 1 = some () := gC H
theorem DiAt.i0 {h : XH} {a : Nat} {p : Nat → Int} (H : DiAt h a p) : xgI h a 1 0 = some (i32 (p 94)) := gI H 0 rfl
theorem DiAt.i1 {h : XH} {a : Nat} {p : Nat → Int} (H : DiAt h a p) : xgI h a 1 1 = some (i32 (p 95)) := gI H 1 rfl
theorem DiAt.i2 {h : XH} {a : Nat} {p : Nat → Int} (H : DiAt h a p) : xgI h a 1 2 = some (i32 (p 96)) := gI H 2 rfl
theorem DiAt.i3 {h : XH} {a : Nat} {p : Nat → Int} (H : DiAt h a p) : xgI h a 1 3 = some (i32 (p 97)) := gI H 3 rfl
theorem StAt.c {h : XH} {a : Nat} {p : Nat → Int} (H : StAt h a p) : xco h a 5 = some () := gC H.1
theorem StAt.r0 {h : XH} {a : Nat} {p : Nat → Int} (H : StAt h a p) : xgR h a 5 0 = some (a + 1) := gR H.1 0 rfl
theorem StAt.r1 {h : XH} {a : Nat} {p : Nat → Int} (H : StAt h a p) : xgR h a 5 1 = some (a + 5) := gR H.1 1 rfl
theorem StAt.r2 {h : XH} {a : Nat} {p : Nat → Int} (H : StAt h a p) : xgR h a 5 2 = some (a + 6) := gR H.1 2 rfl
theorem StAt.r3 {h : XH} {a : Nat} {p : Nat → Int} (H : StAt h a p) : xgR h a 5 3 = some (a + 9) := gR H.1 3 rfl
theorem StAt.w {h : XH} {a : Nat} {p : Nat → Int} (H : StAt h a p) : WhAt h (a + 1) p := H.2.1
theorem StAt.f {h : XH} {a : Nat} {p : Nat → Int} (H : StAt h a p) : FlAt h (a + 5) p := H.2.2.1
theorem StAt.rd {h : XH} {a : Nat} {p : Nat → Int} (H : StAt h a p) : RdAt h (a + 6) p := H.2.2.2.1
theorem StAt.d {h : XH} {a : Nat} {p : Nat → Int} (H : StAt h a p) : DiAt h (a + 9) p := H.2.2.2.2
theorem WhAt.fr {h h' : XH} {w : Nat} {p : Nat → Int} (H : WhAt h w p) (q : ∀ k, k < 4 → h' (w + k) = h (w + k)) : WhAt h' w p := by
  obtain ⟨a, b, c, e1, e2, e3, e4, r⟩ := H
  exact ⟨a, b, c, (q 0 (by omega)).trans e1, (q 1 (by omega)).trans e2, (q 2 (by omega)).trans e3, (q 3 (by omega)).trans e4, r⟩
theorem FlAt.fr {h h' : XH} {a : Nat} {p : Nat → Int} (H : FlAt h a p) (q : h' a = h a) : FlAt h' a p := q.trans H
theorem DiAt.fr {h h' : XH} {a : Nat} {p : Nat → Int} (H : DiAt h a p) (q : h' a = h a) : DiAt h' a p := q.trans H
theorem RdAt.fr {h h' : XH} {w : Nat} {p : Nat → Int} (H : RdAt h w p) (q : ∀ k, k < 3 → h' (w + k) = h (w + k)) : RdAt h' w p := by
  obtain ⟨a, b, e1, e2, e3, r⟩ := H
  exact ⟨a, b, (q 0 (by omega)).trans e1, (q 1 (by omega)).trans e2, (q 2 (by omega)).trans e3, r⟩
theorem StAt.fr {h h' : XH} {a : Nat} {p : Nat → Int} (H : StAt h a p) (q : ∀ k, k < 10 → h' (a + k) = h (a + k)) : StAt h' a p := by
  refine ⟨(q 0 (by omega)).trans H.1, H.w.fr (fun k hk => ?_), H.f.fr (q 5 (by omega)), H.rd.fr (fun k hk => ?_), H.d.fr (q 9 (by omega))⟩
  · have := q (1 + k) (by omega); rw [← Nat.add_assoc] at this; exact this
  · have := q (6 + k) (by omega); rw [← Nat.add_assoc] at this; exact this
