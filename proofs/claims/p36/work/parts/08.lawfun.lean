def fL_cell (N0 : Nat) (xs : Nat → Int32) (x1 : Int32) : Option Int32 :=
if (Int32.ofNat N0) ≤ x1 then
some (((86028157 : Int32) * x1) + (49979693 : Int32))
else
(xsc N0 xs x1).bind fun v1 =>
some v1
def fL_mod (x0 : Int32) (x1 : Int32) : Option Int32 :=
if x1 = 0 then none else
if x1 = 0 then none else
some (xrem ((xrem x0 x1) + x1) x1)
def fL_fits_J56 (h : XH) (x0 : Nat) (x1 : Int32) (x2 : Int32) (x3 : Int32) (x5 : Int32) : Option ((XH × Bool × Int32) ⊕ (XH × Bool)) :=
some (.inl (h, false, (x5 + (1 : Int32))))
def fL_fits_J52 (h : XH) (x0 : Nat) (x1 : Int32) (x2 : Int32) (x3 : Int32) (x5 : Int32) : Option ((XH × Bool × Int32) ⊕ (XH × Bool)) :=
some (.inl (h, true, (x5 + (1 : Int32))))
def fL_fits_b6 (x0 : Nat) (x1 : Int32) (x2 : Int32) (x3 : Int32) (h : XH) (x4 : Bool) (x5 : Int32) : Option ((XH × Bool × Int32) ⊕ (XH × Bool)) :=
(xco h x0 8).bind fun _ =>
(fX8_count h x0 (9 : Int32)).bind fun v2 =>
if v2 ≤ x5 then
some (.inr (h, x4))
else
if x4 = true then
if x5 = x2 then
fL_fits_J52 h x0 x1 x2 x3 x5
else
(xco h x0 8).bind fun _ =>
(fX8_reading h x0 x5 (0 : Int32)).bind fun v5 =>
(xco v5.2 x0 8).bind fun _ =>
(fX8_reading v5.2 x0 x5 (1 : Int32)).bind fun v8 =>
(fL_mod ((x1 * v5.1) - v8.1) x3).bind fun v10 =>
if v10 = 0 then
fL_fits_J52 v8.2 x0 x1 x2 x3 x5
else
fL_fits_J56 v8.2 x0 x1 x2 x3 x5
else
fL_fits_J56 h x0 x1 x2 x3 x5
def fL_fits_B6 (x0 : Nat) (x1 : Int32) (x2 : Int32) (x3 : Int32) (s : (XH × Bool × Int32)) : Option ((XH × Bool × Int32) ⊕ (XH × Bool)) := fL_fits_b6 x0 x1 x2 x3 s.1 s.2.1 s.2.2
def fL_fits (h : XH) (x0 : Nat) (x1 : Int32) (x2 : Int32) (x3 : Int32) : Option (Bool × XH) :=
(xloop (fL_fits_B6 x0 x1 x2 x3) 5000 (h, true, (0 : Int32))).bind fun e12 =>
some (e12.2, e12.1)
def fL_low (x0 : Int32) (x1 : Int32) : Option Int32 :=
if x1 = 0 then none else
some (xrem (x0 &&& (2147483647 : Int32)) x1)
def fL_step_J68 (h : XH) (x0 : Nat) (x1 : Int32) (x2 : Int32) (x3 : Int32) (x4 : Int32) (x5 : Int32) (x7 : Int32) : Option ((Bool × Int32) ⊕ Bool) :=
some (.inl (false, (x7 + (1 : Int32))))
def fL_step_b24 (h : XH) (x0 : Nat) (x1 : Int32) (x2 : Int32) (x3 : Int32) (x4 : Int32) (x5 : Int32) (x6 : Bool) (x7 : Int32) : Option ((Bool × Int32) ⊕ Bool) :=
if x1 ≤ x7 then
some (.inr x6)
else
if x6 = true then
(fL_mod ((x7 - (x5 * x4)) - x2) x1).bind fun v1 =>
(xaI h x0 0 v1).bind fun v3 =>
(fL_mod (x7 - x3) x1).bind fun v5 =>
(xaI h x0 0 v5).bind fun v7 =>
if v3 = v7 then
some (.inl (true, (x7 + (1 : Int32))))
else
fL_step_J68 h x0 x1 x2 x3 x4 x5 x7
else
fL_step_J68 h x0 x1 x2 x3 x4 x5 x7
def fL_step_B24 (h : XH) (x0 : Nat) (x1 : Int32) (x2 : Int32) (x3 : Int32) (x4 : Int32) (x5 : Int32) (s : (Bool × Int32)) : Option ((Bool × Int32) ⊕ Bool) := fL_step_b24 h x0 x1 x2 x3 x4 x5 s.1 s.2
def fL_step_b12 (h : XH) (x0 : Nat) (x1 : Int32) (x2 : Int32) (x3 : Int32) (x4 : Int32) (x5 : Int32) : Option (Int32 ⊕ (Int32 ⊕ Unit)) :=
if x5 < (-1 : Int32) then
some (.inr (.inr ()))
else
(xloop (fL_step_B24 h x0 x1 x2 x3 x4 x5) 5000 (true, (0 : Int32))).bind fun e9 =>
if e9 = true then
some (.inr (.inl x5))
else
some (.inl (x5 + (-2 : Int32)))
def fL_step_B12 (h : XH) (x0 : Nat) (x1 : Int32) (x2 : Int32) (x3 : Int32) (x4 : Int32) (s : Int32) : Option (Int32 ⊕ (Int32 ⊕ Unit)) := fL_step_b12 h x0 x1 x2 x3 x4 s
def fL_step_b3 (h : XH) (x0 : Nat) (x1 : Int32) (x2 : Int32) (x3 : Int32) (x4 : Int32) : Option (Int32 ⊕ ((Int32 × Int32) ⊕ Unit)) :=
if x1 < x4 then
some (.inr (.inr ()))
else
(xloop (fL_step_B12 h x0 x1 x2 x3 x4) 5000 (1 : Int32)).bind fun e11 =>
(match e11 with
| .inl e11 =>
some (.inr (.inl (x4, e11)))
| .inr e11 =>
some (.inl (x4 + (1 : Int32)))
)
def fL_step_B3 (h : XH) (x0 : Nat) (x1 : Int32) (x2 : Int32) (x3 : Int32) (s : Int32) : Option (Int32 ⊕ ((Int32 × Int32) ⊕ Unit)) := fL_step_b3 h x0 x1 x2 x3 s
def fL_step (h : XH) (x0 : Nat) (x1 : Int32) (x2 : Int32) (x3 : Int32) : Option Int32 :=
(xloop (fL_step_B3 h x0 x1 x2 x3) 5000 (0 : Int32)).bind fun e13 =>
(match e13 with
| .inl e13 =>
some (e13.2 * e13.1)
| .inr e13 =>
some (1000 : Int32)
)
def fL_turn_J42 (h : XH) (x1 : Nat) (x2 : Nat) (x3 : Int32) (x4 : Int32) (x5 : Int32) (x6 : Int32) (x7 : Int32) (s0 : Int32) : Option ((Int32 × Int32) ⊕ Int32) :=
(xaI h x1 0 x7).bind fun v1 =>
if s0 ≤ v1 then
some (.inl ((x6 + (0 : Int32)), (x7 + (1 : Int32))))
else
(xaI h x2 0 x7).bind fun v3 =>
(xaI h x1 0 x7).bind fun v5 =>
some (.inl ((x6 + (v3 * (s0 - v5))), (x7 + (1 : Int32))))
def fL_turn_J40 (h : XH) (x1 : Nat) (x2 : Nat) (x3 : Int32) (x4 : Int32) (x5 : Int32) (x6 : Int32) (x7 : Int32) : Option ((Int32 × Int32) ⊕ Int32) :=
fL_turn_J42 h x1 x2 x3 x4 x5 x6 x7 x4
def fL_turn_b6 (h : XH) (x1 : Nat) (x2 : Nat) (x3 : Int32) (x4 : Int32) (x5 : Int32) (x6 : Int32) (x7 : Int32) : Option ((Int32 × Int32) ⊕ Int32) :=
if x3 ≤ x7 then
some (.inr x6)
else
if x3 ≤ (x7 + (1 : Int32)) then
fL_turn_J40 h x1 x2 x3 x4 x5 x6 x7
else
(xaI h x1 0 (x7 + (1 : Int32))).bind fun v7 =>
if x4 ≤ v7 then
fL_turn_J40 h x1 x2 x3 x4 x5 x6 x7
else
(xaI h x1 0 (x7 + (1 : Int32))).bind fun v9 =>
fL_turn_J42 h x1 x2 x3 x4 x5 x6 x7 v9
def fL_turn_B6 (h : XH) (x1 : Nat) (x2 : Nat) (x3 : Int32) (x4 : Int32) (x5 : Int32) (s : (Int32 × Int32)) : Option ((Int32 × Int32) ⊕ Int32) := fL_turn_b6 h x1 x2 x3 x4 x5 s.1 s.2
def fL_turn (h : XH) (x0 : Int32) (x1 : Nat) (x2 : Nat) (x3 : Int32) (x4 : Int32) (x5 : Int32) : Option Int32 :=
(xloop (fL_turn_B6 h x1 x2 x3 x4 x5) 5000 (x0, (0 : Int32))).bind fun e11 =>
(fL_mod e11 x5).bind fun v13 =>
some v13
def fL_flashes_b133 (h : XH) (x0 : Nat) (x1 : Nat) (x2 : Int32) (x3 : Nat) (x4 : Nat) (x5 : Int32) (x7 : Int32) (x8 : Int32) (x9 : Int32) (x10 : Int32) (x11 : Int32) (x12 : Int32) (x13 : Int32) (x14 : Int32) (x15 : Int32) : Option (Int32 ⊕ Int32) :=
(fL_turn h x10 x3 x4 x5 (x7 + (x15 * x8)) x2).bind fun v20 =>
(fL_step h x1 x2 v20 x13).bind fun v22 =>
if v22 = 0 then
some (.inr x15)
else
some (.inl (x15 + (1 : Int32)))
def fL_flashes_B133 (h : XH) (x0 : Nat) (x1 : Nat) (x2 : Int32) (x3 : Nat) (x4 : Nat) (x5 : Int32) (x7 : Int32) (x8 : Int32) (x9 : Int32) (x10 : Int32) (x11 : Int32) (x12 : Int32) (x13 : Int32) (x14 : Int32) (s : Int32) : Option (Int32 ⊕ Int32) := fL_flashes_b133 h x0 x1 x2 x3 x4 x5 x7 x8 x9 x10 x11 x12 x13 x14 s
def fL_flashes_b237 (h : XH) (x0 : Nat) (x1 : Nat) (x2 : Int32) (x3 : Nat) (x4 : Nat) (x5 : Int32) (x7 : Int32) (x8 : Int32) (x9 : Int32) (x10 : Int32) (x11 : Int32) (x12 : Int32) (x13 : Int32) (x16 : Int32) : Option (Int32 ⊕ (Unit ⊕ Unit)) :=
if x2 ≤ x16 then
some (.inr (.inr ()))
else
(xco h x0 8).bind fun _ =>
(fX8_markAt h x0 x12 x16).bind fun v36 =>
(fL_mod (x16 - x13) x2).bind fun v38 =>
(xaI h x1 0 v38).bind fun v40 =>
if v36 = v40 then
some (.inl (x16 + (1 : Int32)))
else
some (.inr (.inl ()))
def fL_flashes_B237 (h : XH) (x0 : Nat) (x1 : Nat) (x2 : Int32) (x3 : Nat) (x4 : Nat) (x5 : Int32) (x7 : Int32) (x8 : Int32) (x9 : Int32) (x10 : Int32) (x11 : Int32) (x12 : Int32) (x13 : Int32) (s : Int32) : Option (Int32 ⊕ (Unit ⊕ Unit)) := fL_flashes_b237 h x0 x1 x2 x3 x4 x5 x7 x8 x9 x10 x11 x12 x13 s
def fL_flashes_J220 (h : XH) (x0 : Nat) (x1 : Nat) (x2 : Int32) (x3 : Nat) (x4 : Nat) (x5 : Int32) (x7 : Int32) (x8 : Int32) (x9 : Int32) (x10 : Int32) (x11 : Int32) (x12 : Int32) (x13 : Int32) (x15 : Int32) : Option (Int32 ⊕ (Unit ⊕ Unit ⊕ Unit)) :=
(xco h x0 8).bind fun _ =>
(fX8_flash h x0 x11 (3 : Int32)).bind fun v33 =>
if v33 = x15 then
(xloop (fL_flashes_B237 h x0 x1 x2 x3 x4 x5 x7 x8 x9 x10 x11 x12 x13) 5000 (0 : Int32)).bind fun e42 =>
(match e42 with
| .inl e42 =>
some (.inr (.inr (.inl ())))
| .inr e42 =>
some (.inl (x11 + (1 : Int32)))
)
else
some (.inr (.inl ()))
def fL_flashes_b73 (h : XH) (x0 : Nat) (x1 : Nat) (x2 : Int32) (x3 : Nat) (x4 : Nat) (x5 : Int32) (x7 : Int32) (x8 : Int32) (x9 : Int32) (x10 : Int32) (x11 : Int32) : Option (Int32 ⊕ (Unit ⊕ Unit ⊕ Unit)) :=
if (6 : Int32) ≤ x11 then
some (.inr (.inr (.inr ())))
else
if x9 ≤ x11 then
some (.inr (.inr (.inr ())))
else
(fL_turn h x10 x3 x4 x5 (x7 + (x11 * x8)) x2).bind fun v16 =>
(fL_turn h x10 x3 x4 x5 ((x7 + (x11 * x8)) + x8) x2).bind fun v18 =>
(xloop (fL_flashes_B133 h x0 x1 x2 x3 x4 x5 x7 x8 x9 x10 x11 (x7 + (x11 * x8)) v16 v18) 5000 (0 : Int32)).bind fun e24 =>
(xco h x0 8).bind fun _ =>
(fX8_flash h x0 x11 (0 : Int32)).bind fun v27 =>
if v27 = (x7 + (x11 * x8)) then
(xco h x0 8).bind fun _ =>
(fX8_flash h x0 x11 (1 : Int32)).bind fun v30 =>
if v30 = v16 then
if x9 ≤ (x11 + (1 : Int32)) then
fL_flashes_J220 h x0 x1 x2 x3 x4 x5 x7 x8 x9 x10 x11 (x7 + (x11 * x8)) v16 e24
else
(xco h x0 8).bind fun _ =>
(fX8_flash h x0 x11 (2 : Int32)).bind fun v45 =>
(fL_step h x1 x2 v16 v18).bind fun v47 =>
if v45 = v47 then
fL_flashes_J220 h x0 x1 x2 x3 x4 x5 x7 x8 x9 x10 x11 (x7 + (x11 * x8)) v16 e24
else
some (.inr (.inl ()))
else
some (.inr (.inl ()))
else
some (.inr (.inl ()))
def fL_flashes_B73 (h : XH) (x0 : Nat) (x1 : Nat) (x2 : Int32) (x3 : Nat) (x4 : Nat) (x5 : Int32) (x7 : Int32) (x8 : Int32) (x9 : Int32) (x10 : Int32) (s : Int32) : Option (Int32 ⊕ (Unit ⊕ Unit ⊕ Unit)) := fL_flashes_b73 h x0 x1 x2 x3 x4 x5 x7 x8 x9 x10 s
def fL_flashes_J336 (h : XH) (x0 : Nat) (x9 : Int32) (x11 : Int32) (x13 : Int32) (x14 : Int32) (x15 : Int32) (s0 : Int32) (s1 : Bool) : Option ((Int32 × Int32 × Int32 × Int32) ⊕ (Int32 × Int32 × Int32)) :=
if 0 ≤ x15 then
some (.inl (x11, (s0 + (xbi s1)), (x13 + (0 : Int32)), (x14 + (1 : Int32))))
else
some (.inl (x11, (s0 + (xbi s1)), (x13 + (1 : Int32)), (x14 + (1 : Int32))))
def fL_flashes_J321 (h : XH) (x0 : Nat) (x9 : Int32) (x12 : Int32) (x13 : Int32) (x14 : Int32) (x15 : Int32) (s0 : Int32) (s1 : Bool) : Option ((Int32 × Int32 × Int32 × Int32) ⊕ (Int32 × Int32 × Int32)) :=
if x15 ≤ 0 then
fL_flashes_J336 h x0 x9 (s0 + (xbi s1)) x13 x14 x15 x12 false
else
fL_flashes_J336 h x0 x9 (s0 + (xbi s1)) x13 x14 x15 x12 true
def fL_flashes_b291 (h : XH) (x0 : Nat) (x9 : Int32) (x11 : Int32) (x12 : Int32) (x13 : Int32) (x14 : Int32) : Option ((Int32 × Int32 × Int32 × Int32) ⊕ (Int32 × Int32 × Int32)) :=
if x9 ≤ (x14 + (1 : Int32)) then
some (.inr (x11, x12, x13))
else
(xco h x0 8).bind fun _ =>
(fX8_flash h x0 x14 (2 : Int32)).bind fun v52 =>
if v52 = 0 then
fL_flashes_J321 h x0 x9 x12 x13 x14 v52 x11 true
else
fL_flashes_J321 h x0 x9 x12 x13 x14 v52 x11 false
def fL_flashes_B291 (h : XH) (x0 : Nat) (x9 : Int32) (s : (Int32 × Int32 × Int32 × Int32)) : Option ((Int32 × Int32 × Int32 × Int32) ⊕ (Int32 × Int32 × Int32)) := fL_flashes_b291 h x0 x9 s.1 s.2.1 s.2.2.1 s.2.2.2
def fL_flashes (h : XH) (x0 : Nat) (x1 : Nat) (x2 : Int32) (x3 : Nat) (x4 : Nat) (x5 : Int32) (x6 : Int32) : Option (Bool × XH) :=
(fL_low x6 (200 : Int32)).bind fun v1 =>
(fL_low (x6 >>> ((8 : Int32) &&& 31)) (30 : Int32)).bind fun v3 =>
if ((1 : Int32) + v3) = 0 then none else
xlet ((((1000 : Int32) - v1) / ((1 : Int32) + v3)) + (1 : Int32)) fun y6 =>
(xco h x0 8).bind fun _ =>
(fX8_count h x0 (3 : Int32)).bind fun v8 =>
(xco h x0 8).bind fun _ =>
(fX8_setFlash h x0 v1 ((1 : Int32) + v3)).bind fun v11 =>
if v11.1 = y6 then
(xco v11.2 x0 8).bind fun _ =>
(fX8_count v11.2 x0 (8 : Int32)).bind fun v14 =>
if v14 = y6 then
(xloop (fL_flashes_B73 v11.2 x0 x1 x2 x3 x4 x5 v1 ((1 : Int32) + v3) y6 v8) 5000 (0 : Int32)).bind fun e49 =>
(match e49 with
| .inl e49 =>
some (false, v11.2)
| .inr (.inl e49) =>
some (false, v11.2)
| .inr (.inr e49) =>
(xloop (fL_flashes_B291 v11.2 x0 y6) 5000 ((0 : Int32), (0 : Int32), (0 : Int32), (0 : Int32))).bind fun e54 =>
(xco v11.2 x0 8).bind fun _ =>
(fX8_seems v11.2 x0 (0 : Int32)).bind fun v57 =>
if v57 = e54.1 then
(xco v11.2 x0 8).bind fun _ =>
(fX8_seems v11.2 x0 (1 : Int32)).bind fun v60 =>
if v60 = e54.2.1 then
(xco v11.2 x0 8).bind fun _ =>
(fX8_seems v11.2 x0 (2 : Int32)).bind fun v63 =>
if v63 = e54.2.2 then
if ((e54.1 + e54.2.1) + e54.2.2) = (y6 - (1 : Int32)) then
(xco v11.2 x0 8).bind fun _ =>
(fX8_flash v11.2 x0 (y6 - (1 : Int32)) (2 : Int32)).bind fun v66 =>
if v66 = (-1004 : Int32) then
(xco v11.2 x0 8).bind fun _ =>
(fX8_seems v11.2 x0 (3 : Int32)).bind fun v69 =>
(xco v11.2 x0 8).bind fun _ =>
(fX8_count v11.2 x0 (2 : Int32)).bind fun v72 =>
if v72 < v69 then
some (false, v11.2)
else
some (true, v11.2)
else
some (false, v11.2)
else
some (false, v11.2)
else
some (false, v11.2)
else
some (false, v11.2)
else
some (false, v11.2)
)
else
some (false, v11.2)
else
some (false, v11.2)
def fL_isSame_J34 (h : XH) (x0 : Nat) (x1 : Int32) (x2 : Int32) (x4 : Int32) : Option ((Bool × Int32) ⊕ Bool) :=
some (.inl (false, (x4 + (1 : Int32))))
def fL_isSame_b5 (h : XH) (x0 : Nat) (x1 : Int32) (x2 : Int32) (x3 : Bool) (x4 : Int32) : Option ((Bool × Int32) ⊕ Bool) :=
if x1 ≤ x4 then
some (.inr x3)
else
if x3 = true then
if x1 = 0 then none else
(xaI h x0 0 (xrem (x4 + x2) x1)).bind fun v2 =>
(xaI h x0 0 x4).bind fun v4 =>
if v2 = v4 then
some (.inl (true, (x4 + (1 : Int32))))
else
fL_isSame_J34 h x0 x1 x2 x4
else
fL_isSame_J34 h x0 x1 x2 x4
def fL_isSame_B5 (h : XH) (x0 : Nat) (x1 : Int32) (x2 : Int32) (s : (Bool × Int32)) : Option ((Bool × Int32) ⊕ Bool) := fL_isSame_b5 h x0 x1 x2 s.1 s.2
def fL_isSame (h : XH) (x0 : Nat) (x1 : Int32) (x2 : Int32) : Option Bool :=
(xloop (fL_isSame_B5 h x0 x1 x2) 5000 (true, (0 : Int32))).bind fun e6 =>
some e6
def fL_measure_b2 (h : XH) (x0 : Nat) (x1 : Int32) (x2 : Int32) : Option (Int32 ⊕ Int32) :=
(fL_isSame h x0 x1 x2).bind fun v1 =>
if v1 = true then
some (.inr x2)
else
some (.inl (x2 + (1 : Int32)))
def fL_measure_B2 (h : XH) (x0 : Nat) (x1 : Int32) (s : Int32) : Option (Int32 ⊕ Int32) := fL_measure_b2 h x0 x1 s
def fL_measure (h : XH) (x0 : Nat) (x1 : Int32) : Option Int32 :=
(xloop (fL_measure_B2 h x0 x1) 5000 (1 : Int32)).bind fun e3 =>
some e3
def fL_readings_J211 (h : XH) (x0 : Nat) (x1 : Int32) (x3 : Int32) (x4 : Int32) (x5 : Int32) (x6 : Int32) (x7 : Int32) (x8 : Nat) (x9 : Int32) (x11 : Int32) (s0 : Int32) : Option ((XH × Int32 × Int32 × Int32 × Int32 × Int32) ⊕ (XH ⊕ (XH × Int32 × Int32 × Int32))) :=
some (.inl (h, x4, x6, x7, s0, (x11 + (1 : Int32))))
def fL_readings_J169 (h : XH) (x0 : Nat) (x1 : Int32) (x3 : Int32) (x4 : Int32) (x5 : Int32) (x6 : Int32) (x8 : Nat) (x9 : Int32) (x10 : Int32) (x11 : Int32) (s0 : Int32) : Option ((XH × Int32 × Int32 × Int32 × Int32 × Int32) ⊕ (XH ⊕ (XH × Int32 × Int32 × Int32))) :=
(fL_mod (x11 * x9) x1).bind fun v19 =>
(xaI h x8 0 v19).bind fun v21 =>
(xsI h x8 0 v19 (v21 + (1 : Int32))).bind fun h23 =>
(xaI h23 x8 0 v19).bind fun v25 =>
if v25 ≤ x10 then
fL_readings_J211 h23 x0 x1 x3 x4 x5 x6 s0 x8 x9 x11 x10
else
(xaI h23 x8 0 v19).bind fun v27 =>
fL_readings_J211 h23 x0 x1 x3 x4 x5 x6 s0 x8 x9 x11 v27
def fL_readings_J153 (h : XH) (x0 : Nat) (x1 : Int32) (x3 : Int32) (x4 : Int32) (x5 : Int32) (x7 : Int32) (x8 : Nat) (x9 : Int32) (x10 : Int32) (x11 : Int32) (x12 : Int32) (s0 : Int32) : Option ((XH × Int32 × Int32 × Int32 × Int32 × Int32) ⊕ (XH ⊕ (XH × Int32 × Int32 × Int32))) :=
if x7 ≤ x12 then
fL_readings_J169 h x0 x1 x3 x4 x5 s0 x8 x9 x10 x11 x7
else
fL_readings_J169 h x0 x1 x3 x4 x5 s0 x8 x9 x10 x11 x12
def fL_readings_J137 (h : XH) (x0 : Nat) (x1 : Int32) (x3 : Int32) (x4 : Int32) (x5 : Int32) (x6 : Int32) (x7 : Int32) (x8 : Nat) (x9 : Int32) (x10 : Int32) (x11 : Int32) (s0 : Int32) : Option ((XH × Int32 × Int32 × Int32 × Int32 × Int32) ⊕ (XH ⊕ (XH × Int32 × Int32 × Int32))) :=
if x7 ≤ s0 then
fL_readings_J153 h x0 x1 x3 x4 x5 x7 x8 x9 x10 x11 s0 x6
else
fL_readings_J153 h x0 x1 x3 x4 x5 x7 x8 x9 x10 x11 s0 x11
def fL_readings_b84 (x0 : Nat) (x1 : Int32) (x3 : Int32) (x5 : Int32) (x8 : Nat) (x9 : Int32) (h : XH) (x4 : Int32) (x6 : Int32) (x7 : Int32) (x10 : Int32) (x11 : Int32) : Option ((XH × Int32 × Int32 × Int32 × Int32 × Int32) ⊕ (XH ⊕ (XH × Int32 × Int32 × Int32))) :=
if x3 < x11 then
some (.inr (.inr (h, x4, x6, x10)))
else
(fL_fits h x0 x11 (-1 : Int32) x1).bind fun v14 =>
if v14.1 = true then
(xco v14.2 x0 8).bind fun _ =>
(fX8_candidate v14.2 x0 x4).bind fun v17 =>
if v17.1 = x11 then
if x11 ≤ x5 then
fL_readings_J137 v17.2 x0 x1 x3 (x4 + (1 : Int32)) x5 x6 x7 x8 x9 x10 x11 (x5 - x11)
else
fL_readings_J137 v17.2 x0 x1 x3 (x4 + (1 : Int32)) x5 x6 x7 x8 x9 x10 x11 (x11 - x5)
else
some (.inr (.inl v17.2))
else
some (.inl (v14.2, x4, x6, x7, x10, (x11 + (1 : Int32))))
def fL_readings_B84 (x0 : Nat) (x1 : Int32) (x3 : Int32) (x5 : Int32) (x8 : Nat) (x9 : Int32) (s : (XH × Int32 × Int32 × Int32 × Int32 × Int32)) : Option ((XH × Int32 × Int32 × Int32 × Int32 × Int32) ⊕ (XH ⊕ (XH × Int32 × Int32 × Int32))) := fL_readings_b84 x0 x1 x3 x5 x8 x9 s.1 s.2.1 s.2.2.1 s.2.2.2.1 s.2.2.2.2.1 s.2.2.2.2.2
def fL_readings_b280 (x0 : Nat) (x1 : Int32) (x3 : Int32) (x4 : Int32) (x9 : Int32) (x10 : Int32) (x11 : Int32) (x12 : Int32) (h : XH) (x13 : Int32) (x14 : Int32) : Option ((XH × Int32 × Int32) ⊕ (XH × Int32)) :=
if x3 < x14 then
some (.inr (h, x13))
else
(fL_fits h x0 x14 x12 x1).bind fun v43 =>
if v43.1 = true then
some (.inl (v43.2, (x13 + (1 : Int32)), (x14 + (1 : Int32))))
else
some (.inl (v43.2, (x13 + (0 : Int32)), (x14 + (1 : Int32))))
def fL_readings_B280 (x0 : Nat) (x1 : Int32) (x3 : Int32) (x4 : Int32) (x9 : Int32) (x10 : Int32) (x11 : Int32) (x12 : Int32) (s : (XH × Int32 × Int32)) : Option ((XH × Int32 × Int32) ⊕ (XH × Int32)) := fL_readings_b280 x0 x1 x3 x4 x9 x10 x11 x12 s.1 s.2.1 s.2.2
def fL_readings_J326 (h : XH) (x0 : Nat) (x1 : Int32) (x3 : Int32) (x4 : Int32) (x9 : Int32) (x10 : Int32) (x12 : Int32) (x13 : Int32) (s0 : Int32) : Option ((XH × Int32 × Int32) ⊕ (XH ⊕ (XH × Int32))) :=
(xco h x0 8).bind fun _ =>
(fX8_reading h x0 x12 (2 : Int32)).bind fun v48 =>
if v48.1 = x13 then
if x4 ≤ x13 then
some (.inl (v48.2, s0, (x12 + (-1 : Int32))))
else
some (.inr (.inl v48.2))
else
some (.inr (.inl v48.2))
def fL_readings_b268 (x0 : Nat) (x1 : Int32) (x3 : Int32) (x4 : Int32) (x9 : Int32) (x10 : Int32) (h : XH) (x11 : Int32) (x12 : Int32) : Option ((XH × Int32 × Int32) ⊕ (XH ⊕ (XH × Int32))) :=
if x12 < 0 then
some (.inr (.inr (h, x11)))
else
(xloop (fL_readings_B280 x0 x1 x3 x4 x9 x10 x11 x12) 5000 (h, (0 : Int32), (-x3))).bind fun e45 =>
if e45.2 ≤ 0 then
fL_readings_J326 e45.1 x0 x1 x3 x4 x9 x10 x12 e45.2 x11
else
fL_readings_J326 e45.1 x0 x1 x3 x4 x9 x10 x12 e45.2 x12
def fL_readings_B268 (x0 : Nat) (x1 : Int32) (x3 : Int32) (x4 : Int32) (x9 : Int32) (x10 : Int32) (s : (XH × Int32 × Int32)) : Option ((XH × Int32 × Int32) ⊕ (XH ⊕ (XH × Int32))) := fL_readings_b268 x0 x1 x3 x4 x9 x10 s.1 s.2.1 s.2.2
def fL_readings_J471 (h : XH) (n : Nat) (s0 : Int32) (s1 : Int32) : Option (Bool × XH) :=
if s0 = s1 then
some (true, h)
else
some (false, h)
def fL_readings_J447 (h : XH) (n : Nat) (x0 : Nat) (x4 : Int32) (x11 : Int32) (s0 : Bool) : Option (Bool × XH) :=
if s0 = true then
(xco h x0 8).bind fun _ =>
(fX8_odd h x0).bind fun v59 =>
if x4 ≤ 0 then
fL_readings_J471 v59.2 n v59.1 x11
else
fL_readings_J471 v59.2 n v59.1 (-1002 : Int32)
else
some (false, h)
def fL_readings_J446 (h : XH) (n : Nat) (x0 : Nat) (x4 : Int32) (x11 : Int32) : Option (Bool × XH) :=
fL_readings_J447 h n x0 x4 x11 false
def fL_readings_J442 (h : XH) (n : Nat) (x0 : Nat) (x4 : Int32) (x11 : Int32) : Option (Bool × XH) :=
fL_readings_J447 h n x0 x4 x11 true
def fL_readings_J398 (h : XH) (n : Nat) (x0 : Nat) (x4 : Int32) (x11 : Int32) : Option (Bool × XH) :=
fL_readings_J447 h n x0 x4 x11 false
def fL_readings_J20 (h : XH) (n : Nat) (x0 : Nat) (x1 : Int32) (x2 : Int32) (s0 : Int32) (s1 : Int32) (s2 : Int32) : Option (Bool × XH) :=
(fL_low s1 s2).bind fun v3 =>
(xco h x0 8).bind fun _ =>
(fX8_setLimit h x0 (s0 + v3)).bind fun v6 =>
(fL_low (x2 >>> ((9 : Int32) &&& 31)) (2001 : Int32)).bind fun v8 =>
(xnw v6.2 n (.inr (0, 60, .inl (fun _ => 0)))).bind fun h10 =>
(fL_low (x2 >>> ((5 : Int32) &&& 31)) (20 : Int32)).bind fun v12 =>
(xloop (fL_readings_B84 x0 x1 (s0 + v3) (v8 - (1000 : Int32)) n ((1 : Int32) + v12)) 5000 (h10, (0 : Int32), (-1004 : Int32), (100000 : Int32), (0 : Int32), (-(s0 + v3)))).bind fun e29 =>
(match e29 with
| .inl e29 =>
some (false, e29)
| .inr e29 =>
(xco e29.1 x0 8).bind fun _ =>
(fX8_candidates e29.1 x0).bind fun v32 =>
if v32.1 = e29.2.1 then
(xco v32.2 x0 8).bind fun _ =>
(fX8_candidate v32.2 x0 e29.2.1).bind fun v35 =>
if v35.1 = (-1004 : Int32) then
(xco v35.2 x0 8).bind fun _ =>
(fX8_nearest v35.2 x0 (v8 - (1000 : Int32))).bind fun v38 =>
if v38.1 = e29.2.2.1 then
(xco v38.2 x0 8).bind fun _ =>
(fX8_count v38.2 x0 (9 : Int32)).bind fun v41 =>
(xloop (fL_readings_B268 x0 x1 (s0 + v3) e29.2.1 ((1 : Int32) + v12) e29.2.2.2) 5000 (v38.2, (-1004 : Int32), (v41 - (1 : Int32)))).bind fun e50 =>
(match e50 with
| .inl e50 =>
some (false, e50)
| .inr e50 =>
(xco e50.1 x0 8).bind fun _ =>
(fX8_bestPeriod e50.1 x0 ((1 : Int32) + v12) false).bind fun v53 =>
(xco v53.2 x0 8).bind fun _ =>
(fX8_bestPeriod v53.2 x0 ((1 : Int32) + v12) true).bind fun v56 =>
if e29.2.1 = 0 then
if v53.1 = (-1004 : Int32) then
if v56.1 = (-1004 : Int32) then
fL_readings_J447 v56.2 n x0 e29.2.1 e50.2 true
else
fL_readings_J398 v56.2 n x0 e29.2.1 e50.2
else
fL_readings_J398 v56.2 n x0 e29.2.1 e50.2
else
if v53.1 < (1 : Int32) then
fL_readings_J446 v56.2 n x0 e29.2.1 e50.2
else
if ((1 : Int32) + v12) < v53.1 then
fL_readings_J446 v56.2 n x0 e29.2.1 e50.2
else
if v56.1 < (1 : Int32) then
fL_readings_J446 v56.2 n x0 e29.2.1 e50.2
else
if e29.2.2.2 < v56.1 then
fL_readings_J446 v56.2 n x0 e29.2.1 e50.2
else
if v53.1 = ((1 : Int32) + v12) then
if v56.1 = e29.2.2.2 then
fL_readings_J442 v56.2 n x0 e29.2.1 e50.2
else
fL_readings_J446 v56.2 n x0 e29.2.1 e50.2
else
fL_readings_J442 v56.2 n x0 e29.2.1 e50.2
)
else
some (false, v38.2)
else
some (false, v35.2)
else
some (false, v32.2)
)
def fL_readings (h : XH) (n : Nat) (x0 : Nat) (x1 : Int32) (x2 : Int32) : Option (Bool × XH) :=
(fL_low (x2 >>> ((4 : Int32) &&& 31)) (3 : Int32)).bind fun v1 =>
if v1 = 0 then
fL_readings_J20 h n x0 x1 x2 (1 : Int32) x2 (200 : Int32)
else
fL_readings_J20 h n x0 x1 x2 (1 : Int32) x2 (40 : Int32)
def fL_speeds_b70 (N0 : Nat) (xs : Nat → Int32) (x0 : Nat) (x2 : Int32) (x3 : Nat) (x4 : Nat) (x5 : Int32) (h : XH) (x7 : Int32) : Option ((XH × Int32) ⊕ (XH ⊕ XH)) :=
if x5 < x7 then
some (.inr (.inr h))
else
(fL_cell N0 xs (x2 + x7)).bind fun v16 =>
(xaI h x3 0 (x7 - (1 : Int32))).bind fun v18 =>
(fL_low v16 (60 : Int32)).bind fun v20 =>
(xsI h x3 0 x7 ((v18 + (1 : Int32)) + v20)).bind fun h22 =>
(fL_low (v16 >>> ((8 : Int32) &&& 31)) (61 : Int32)).bind fun v24 =>
(xsI h22 x4 0 x7 (v24 - (30 : Int32))).bind fun h26 =>
(xaI h26 x3 0 x7).bind fun v28 =>
(xaI h26 x4 0 x7).bind fun v30 =>
(xco h26 x0 8).bind fun _ =>
(fX8_setSpeed h26 x0 v28 v30).bind fun v33 =>
if v33.1 = x7 then
some (.inl (v33.2, (x7 + (1 : Int32))))
else
some (.inr (.inl v33.2))
def fL_speeds_B70 (N0 : Nat) (xs : Nat → Int32) (x0 : Nat) (x2 : Int32) (x3 : Nat) (x4 : Nat) (x5 : Int32) (s : (XH × Int32)) : Option ((XH × Int32) ⊕ (XH ⊕ XH)) := fL_speeds_b70 N0 xs x0 x2 x3 x4 x5 s.1 s.2
def fL_speeds_J52 (N0 : Nat) (xs : Nat → Int32) (h : XH) (x0 : Nat) (x2 : Int32) (x3 : Nat) (x4 : Nat) (x5 : Int32) (s0 : Nat) (s1 : Int32) (s2 : Int32) : Option (Bool × XH) :=
(xsI h s0 0 s1 s2).bind fun h9 =>
(xaI h9 x4 0 (0 : Int32)).bind fun v11 =>
(xco h9 x0 8).bind fun _ =>
(fX8_setSpeed h9 x0 (0 : Int32) v11).bind fun v14 =>
if v14.1 = 0 then
(xloop (fL_speeds_B70 N0 xs x0 x2 x3 x4 x5) 5000 (v14.2, (1 : Int32))).bind fun e35 =>
(match e35 with
| .inl e35 =>
some (false, e35)
| .inr e35 =>
(xco e35 x0 8).bind fun _ =>
(fX8_count e35 x0 (5 : Int32)).bind fun v38 =>
if v38 = x5 then
some (true, e35)
else
some (false, e35)
)
else
some (false, v14.2)
def fL_speeds (N0 : Nat) (xs : Nat → Int32) (h : XH) (x0 : Nat) (x2 : Int32) (x3 : Nat) (x4 : Nat) (x5 : Int32) : Option (Bool × XH) :=
(fL_cell N0 xs x2).bind fun v1 =>
(xsI h x3 0 (0 : Int32) (0 : Int32)).bind fun h3 =>
(fL_low v1 (3 : Int32)).bind fun v5 =>
if v5 = 0 then
(fL_low (v1 >>> ((2 : Int32) &&& 31)) (2001 : Int32)).bind fun v40 =>
fL_speeds_J52 N0 xs h3 x0 x2 x3 x4 x5 x4 (0 : Int32) (v40 - (1000 : Int32))
else
(fL_low (v1 >>> ((2 : Int32) &&& 31)) (61 : Int32)).bind fun v7 =>
fL_speeds_J52 N0 xs h3 x0 x2 x3 x4 x5 x4 (0 : Int32) (v7 - (30 : Int32))
def fL_wheel_J182 (N0 : Nat) (xs : Nat → Int32) (h : XH) (x0 : Nat) (x2 : Int32) (x3 : Nat) (x4 : Int32) (x5 : Int32) (x7 : Int32) (x8 : Int32) (s0 : Nat) (s1 : Int32) (s2 : Int32) : Option ((XH × Int32) ⊕ XH) :=
(xsI h s0 0 s1 s2).bind fun h33 =>
(xaI h33 x3 0 x8).bind fun v35 =>
if v35 = 0 then
(xco h33 x0 8).bind fun _ =>
(fX8_type h33 x0 (46 : Int32)).bind fun v43 =>
some (.inl (v43.2, (x8 + (1 : Int32))))
else
(xaI h33 x3 0 x8).bind fun v37 =>
(xco h33 x0 8).bind fun _ =>
(fX8_type h33 x0 (((97 : Int32) + v37) - (1 : Int32))).bind fun v40 =>
some (.inl (v40.2, (x8 + (1 : Int32))))
def fL_wheel_J178 (N0 : Nat) (xs : Nat → Int32) (h : XH) (x0 : Nat) (x2 : Int32) (x3 : Nat) (x4 : Int32) (x5 : Int32) (x7 : Int32) (x8 : Int32) (s0 : Nat) (s1 : Int32) : Option ((XH × Int32) ⊕ XH) :=
(xaI h x3 0 x8).bind fun v31 =>
fL_wheel_J182 N0 xs h x0 x2 x3 x4 x5 x7 x8 s0 s1 v31
def fL_wheel_J143 (N0 : Nat) (xs : Nat → Int32) (h : XH) (x0 : Nat) (x2 : Int32) (x3 : Nat) (x4 : Int32) (x5 : Int32) (x7 : Int32) (x8 : Int32) (s0 : Nat) (s1 : Int32) (s2 : Int32) : Option ((XH × Int32) ⊕ XH) :=
(xsI h s0 0 s1 s2).bind fun h27 =>
(fL_low (x4 >>> ((11 : Int32) &&& 31)) (4 : Int32)).bind fun v29 =>
if v29 = 0 then
(fL_low (x4 >>> ((13 : Int32) &&& 31)) x7).bind fun v45 =>
if x8 = v45 then
fL_wheel_J182 N0 xs h27 x0 x2 x3 x4 x5 x7 x8 x3 x8 (3 : Int32)
else
fL_wheel_J178 N0 xs h27 x0 x2 x3 x4 x5 x7 x8 x3 x8
else
fL_wheel_J178 N0 xs h27 x0 x2 x3 x4 x5 x7 x8 x3 x8
def fL_wheel_J139 (N0 : Nat) (xs : Nat → Int32) (h : XH) (x0 : Nat) (x2 : Int32) (x3 : Nat) (x4 : Int32) (x5 : Int32) (x7 : Int32) (x8 : Int32) (s0 : Nat) (s1 : Int32) (s2 : Int32) (s3 : Int32) (s4 : Int32) : Option ((XH × Int32) ⊕ XH) :=
(fL_low s3 s4).bind fun v25 =>
fL_wheel_J143 N0 xs h x0 x2 x3 x4 x5 x7 x8 s0 s1 (s2 + v25)
def fL_wheel_b65 (N0 : Nat) (xs : Nat → Int32) (x0 : Nat) (x2 : Int32) (x3 : Nat) (x4 : Int32) (x5 : Int32) (x7 : Int32) (h : XH) (x8 : Int32) : Option ((XH × Int32) ⊕ XH) :=
if x7 ≤ x8 then
some (.inr h)
else
if x5 = 0 then none else
if (6 : Int32) = 0 then none else
(fL_cell N0 xs ((x2 + (1 : Int32)) + (xrem (xrem x8 x5) (6 : Int32)))).bind fun v16 =>
if x5 = 0 then none else
if (6 : Int32) = 0 then none else
xlet (v16 >>> (((4 : Int32) * ((xrem x8 x5) / (6 : Int32))) &&& 31)) fun y20 =>
(fL_low y20 (2 : Int32)).bind fun v21 =>
if v21 = 0 then
fL_wheel_J143 N0 xs h x0 x2 x3 x4 x5 x7 x8 x3 x8 (0 : Int32)
else
(fL_low (x4 >>> ((9 : Int32) &&& 31)) (2 : Int32)).bind fun v23 =>
if v23 = 0 then
fL_wheel_J139 N0 xs h x0 x2 x3 x4 x5 x7 x8 x3 x8 (1 : Int32) (y20 >>> ((1 : Int32) &&& 31)) (1 : Int32)
else
fL_wheel_J139 N0 xs h x0 x2 x3 x4 x5 x7 x8 x3 x8 (1 : Int32) (y20 >>> ((1 : Int32) &&& 31)) (3 : Int32)
def fL_wheel_B65 (N0 : Nat) (xs : Nat → Int32) (x0 : Nat) (x2 : Int32) (x3 : Nat) (x4 : Int32) (x5 : Int32) (x7 : Int32) (s : (XH × Int32)) : Option ((XH × Int32) ⊕ XH) := fL_wheel_b65 N0 xs x0 x2 x3 x4 x5 x7 s.1 s.2
def fL_wheel_J28 (N0 : Nat) (xs : Nat → Int32) (h : XH) (x0 : Nat) (x2 : Int32) (x3 : Nat) (x4 : Int32) (s0 : Int32) (s1 : Int32) (s2 : Int32) : Option (Bool × XH) :=
(fL_low s1 s2).bind fun v5 =>
if (s0 + v5) = 0 then none else
(fL_low (x4 >>> ((5 : Int32) &&& 31)) ((60 : Int32) / (s0 + v5))).bind fun v8 =>
xlet ((s0 + v5) * ((1 : Int32) + v8)) fun y10 =>
(xco h x0 8).bind fun _ =>
(fX8_clearText h x0).bind fun v12 =>
(xloop (fL_wheel_B65 N0 xs x0 x2 x3 x4 (s0 + v5) y10) 5000 (v12.2, (0 : Int32))).bind fun e47 =>
(fL_low (x4 >>> ((16 : Int32) &&& 31)) (60 : Int32)).bind fun v49 =>
(xco e47 x0 8).bind fun _ =>
(fX8_type e47 x0 (64 : Int32)).bind fun v52 =>
if (10 : Int32) = 0 then none else
(xco v52.2 x0 8).bind fun _ =>
(fX8_type v52.2 x0 ((48 : Int32) + (v49 / (10 : Int32)))).bind fun v56 =>
if (10 : Int32) = 0 then none else
(xco v56.2 x0 8).bind fun _ =>
(fX8_type v56.2 x0 ((48 : Int32) + (xrem v49 (10 : Int32)))).bind fun v60 =>
(xco v60.2 x0 8).bind fun _ =>
(fX8_load v60.2 x0).bind fun v63 =>
if v63.1 = y10 then
(xco v63.2 x0 8).bind fun _ =>
(fX8_count v63.2 x0 (0 : Int32)).bind fun v66 =>
if v66 = y10 then
(xco v63.2 x0 8).bind fun _ =>
(fX8_count v63.2 x0 (3 : Int32)).bind fun v69 =>
if v69 = v49 then
(xco v63.2 x0 8).bind fun _ =>
(fX8_count v63.2 x0 (4 : Int32)).bind fun v72 =>
if v72 = 0 then
some (true, v63.2)
else
some (false, v63.2)
else
some (false, v63.2)
else
some (false, v63.2)
else
some (false, v63.2)
def fL_wheel (N0 : Nat) (xs : Nat → Int32) (h : XH) (x0 : Nat) (x2 : Int32) (x3 : Nat) : Option (Bool × XH) :=
(fL_cell N0 xs x2).bind fun v1 =>
(fL_low (v1 >>> ((3 : Int32) &&& 31)) (3 : Int32)).bind fun v3 =>
if v3 = 0 then
fL_wheel_J28 N0 xs h x0 x2 x3 v1 (1 : Int32) v1 (20 : Int32)
else
fL_wheel_J28 N0 xs h x0 x2 x3 v1 (1 : Int32) v1 (6 : Int32)
def fL_law_J373 (N0 : Nat) (xs : Nat → Int32) (h : XH) (x1 : Nat) (x6 : Nat) (x7 : Int32) (x8 : Int32) (x10 : Int32) (x11 : Int32) (s0 : Bool) : Option ((XH × Bool × Int32) ⊕ (XH × Bool)) :=
(fL_low (x11 >>> ((15 : Int32) &&& 31)) (20 : Int32)).bind fun v65 =>
(fL_low (x11 >>> ((19 : Int32) &&& 31)) (20 : Int32)).bind fun v67 =>
(xco h x1 8).bind fun _ =>
(fX8_setFlash h x1 v65 ((1 : Int32) + v67)).bind fun v70 =>
some (.inl (v70.2, s0, (x10 + (1 : Int32))))
def fL_law_J372 (N0 : Nat) (xs : Nat → Int32) (h : XH) (x1 : Nat) (x6 : Nat) (x7 : Int32) (x8 : Int32) (x10 : Int32) (x11 : Int32) : Option ((XH × Bool × Int32) ⊕ (XH × Bool)) :=
fL_law_J373 N0 xs h x1 x6 x7 x8 x10 x11 false
def fL_law_J323 (N0 : Nat) (xs : Nat → Int32) (h : XH) (x1 : Nat) (x6 : Nat) (x7 : Int32) (x8 : Int32) (x9 : Bool) (x10 : Int32) (x11 : Int32) (x12 : Bool) (x16 : Int32) (x17 : Int32) (s0 : Int32) : Option ((XH × Bool × Int32) ⊕ (XH × Bool)) :=
if s0 = x10 then
(xco h x1 8).bind fun _ =>
(fX8_reading h x1 x10 (0 : Int32)).bind fun v60 =>
if v60.1 = x16 then
(xco v60.2 x1 8).bind fun _ =>
(fX8_reading v60.2 x1 x10 (1 : Int32)).bind fun v63 =>
if v63.1 = x17 then
if x9 = true then
if x12 = true then
fL_law_J373 N0 xs v63.2 x1 x6 x7 x8 x10 x11 true
else
fL_law_J372 N0 xs v63.2 x1 x6 x7 x8 x10 x11
else
fL_law_J372 N0 xs v63.2 x1 x6 x7 x8 x10 x11
else
none
else
none
else
none
def fL_law_J299 (N0 : Nat) (xs : Nat → Int32) (h : XH) (x1 : Nat) (x6 : Nat) (x7 : Int32) (x8 : Int32) (x9 : Bool) (x10 : Int32) (x11 : Int32) (x12 : Bool) (x14 : Int32) (x16 : Int32) (s0 : Int32) : Option ((XH × Bool × Int32) ⊕ (XH × Bool)) :=
if x12 = true then
(xco h x1 8).bind fun _ =>
(fX8_look h x1 x14).bind fun v73 =>
fL_law_J323 N0 xs v73.2 x1 x6 x7 x8 x9 x10 x11 x12 x16 s0 v73.1
else
(xco h x1 8).bind fun _ =>
(fX8_read h x1 x16 s0).bind fun v57 =>
fL_law_J323 N0 xs v57.2 x1 x6 x7 x8 x9 x10 x11 x12 x16 s0 v57.1
def fL_law_J274 (N0 : Nat) (xs : Nat → Int32) (h : XH) (x1 : Nat) (x6 : Nat) (x7 : Int32) (x8 : Int32) (x9 : Bool) (x10 : Int32) (x11 : Int32) (x12 : Bool) (x14 : Int32) (x15 : Int32) (s0 : Int32) : Option ((XH × Bool × Int32) ⊕ (XH × Bool)) :=
if x12 = true then
fL_law_J299 N0 xs h x1 x6 x7 x8 x9 x10 x11 x12 x14 s0 x15
else
(fL_low (x11 >>> ((11 : Int32) &&& 31)) (13 : Int32)).bind fun v54 =>
fL_law_J299 N0 xs h x1 x6 x7 x8 x9 x10 x11 x12 x14 s0 (v54 - (6 : Int32))
def fL_law_J250 (N0 : Nat) (xs : Nat → Int32) (h : XH) (x1 : Nat) (x6 : Nat) (x7 : Int32) (x8 : Int32) (x9 : Bool) (x10 : Int32) (x11 : Int32) (x12 : Bool) (x13 : Int32) (x14 : Int32) (s0 : Int32) : Option ((XH × Bool × Int32) ⊕ (XH × Bool)) :=
if x12 = true then
fL_law_J274 N0 xs h x1 x6 x7 x8 x9 x10 x11 x12 x14 s0 x13
else
(fL_low (x11 >>> ((6 : Int32) &&& 31)) (30 : Int32)).bind fun v52 =>
fL_law_J274 N0 xs h x1 x6 x7 x8 x9 x10 x11 x12 x14 s0 ((1 : Int32) + v52)
def fL_law_J206 (N0 : Nat) (xs : Nat → Int32) (h : XH) (x1 : Nat) (x6 : Nat) (x7 : Int32) (x8 : Int32) (x9 : Bool) (x10 : Int32) (x11 : Int32) (s0 : Bool) : Option ((XH × Bool × Int32) ⊕ (XH × Bool)) :=
(xco h x1 8).bind fun _ =>
(fX8_count h x1 (7 : Int32)).bind fun v45 =>
(fL_low (x11 >>> ((3 : Int32) &&& 31)) (5 : Int32)).bind fun v47 =>
(xco h x1 8).bind fun _ =>
(fX8_count h x1 (8 : Int32)).bind fun v50 =>
if v50 ≤ (v47 + (1 : Int32)) then
fL_law_J250 N0 xs h x1 x6 x7 x8 x9 x10 x11 s0 v45 v47 (0 : Int32)
else
(xco h x1 8).bind fun _ =>
(fX8_flash h x1 v47 (2 : Int32)).bind fun v76 =>
fL_law_J250 N0 xs h x1 x6 x7 x8 x9 x10 x11 s0 v45 v47 v76
def fL_law_b174 (N0 : Nat) (xs : Nat → Int32) (x1 : Nat) (x6 : Nat) (x7 : Int32) (x8 : Int32) (h : XH) (x9 : Bool) (x10 : Int32) : Option ((XH × Bool × Int32) ⊕ (XH × Bool)) :=
if x8 ≤ x10 then
some (.inr (h, x9))
else
(fL_cell N0 xs ((16 : Int32) + x10)).bind fun v40 =>
(fL_low v40 (3 : Int32)).bind fun v42 =>
if v42 ≤ 0 then
fL_law_J206 N0 xs h x1 x6 x7 x8 x9 x10 v40 false
else
fL_law_J206 N0 xs h x1 x6 x7 x8 x9 x10 v40 true
def fL_law_B174 (N0 : Nat) (xs : Nat → Int32) (x1 : Nat) (x6 : Nat) (x7 : Int32) (x8 : Int32) (s : (XH × Bool × Int32)) : Option ((XH × Bool × Int32) ⊕ (XH × Bool)) := fL_law_b174 N0 xs x1 x6 x7 x8 s.1 s.2.1 s.2.2
def fL_law_b462 (N0 : Nat) (xs : Nat → Int32) (h : XH) (x1 : Nat) (x6 : Nat) (x7 : Int32) (x10 : Int32) (x11 : Int32) (x12 : Int32) : Option ((Int32 × Int32) ⊕ Int32) :=
if x12 < x10 then
some (.inr x11)
else
(xaI h x6 0 (0 : Int32)).bind fun v87 =>
(fL_mod (v87 * x12) x7).bind fun v89 =>
if v89 = 0 then
some (.inl (x12, (x12 + (-1 : Int32))))
else
some (.inl (x11, (x12 + (-1 : Int32))))
def fL_law_B462 (N0 : Nat) (xs : Nat → Int32) (h : XH) (x1 : Nat) (x6 : Nat) (x7 : Int32) (x10 : Int32) (s : (Int32 × Int32)) : Option ((Int32 × Int32) ⊕ Int32) := fL_law_b462 N0 xs h x1 x6 x7 x10 s.1 s.2
def fL_law_J438 (N0 : Nat) (xs : Nat → Int32) (h : XH) (n : Nat) (x1 : Nat) (x6 : Nat) (x7 : Int32) : Option (Unit) :=
(fL_cell N0 xs (22 : Int32)).bind fun v83 =>
(fL_low v83 (60 : Int32)).bind fun v85 =>
(xloop (fL_law_B462 N0 xs h x1 x6 x7 ((1 : Int32) + v85)) 5000 ((-1004 : Int32), (60 : Int32))).bind fun e91 =>
(xco h x1 8).bind fun _ =>
(fX8_stillPeriod h x1 ((1 : Int32) + v85) (60 : Int32)).bind fun v94 =>
if v94 = e91 then
(fL_cell N0 xs (23 : Int32)).bind fun v96 =>
(fL_readings h (n + 105) x1 x7 v96).bind fun v98 =>
if v98.1 = true then
some ()
else
none
else
none
def fL_law_J169 (N0 : Nat) (xs : Nat → Int32) (h : XH) (n : Nat) (x1 : Nat) (x6 : Nat) (x7 : Int32) (x8 : Int32) (s0 : Bool) : Option (Unit) :=
(xloop (fL_law_B174 N0 xs x1 x6 x7 x8) 5000 (h, s0, (0 : Int32))).bind fun e78 =>
(xco e78.1 x1 8).bind fun _ =>
(fX8_setLimit e78.1 x1 (1000 : Int32)).bind fun v81 =>
if e78.2 = true then
(xaI v81.2 x6 0 (0 : Int32)).bind fun v100 =>
(xco v81.2 x1 8).bind fun _ =>
(fX8_nearest v81.2 x1 v100).bind fun v103 =>
(xaI v103.2 x6 0 (0 : Int32)).bind fun v105 =>
if v103.1 = v105 then
fL_law_J438 N0 xs v103.2 n x1 x6 x7
else
none
else
fL_law_J438 N0 xs v81.2 n x1 x6 x7
def fL_law (N0 : Nat) (xs : Nat → Int32) (h : XH) (n : Nat) : Option Unit :=
(xnw h n (.inl (8, [.null, .null, .null, .null, .null]))).bind fun h1 =>
(fX8_init h1 (n + 1) n).bind fun h3 =>
(xnw h3 (n + 102) (.inr (0, 60, .inl (fun _ => 0)))).bind fun h5 =>
(fL_wheel N0 xs h5 n (1 : Int32) (n + 102)).bind fun v7 =>
if v7.1 = true then
(xco v7.2 n 8).bind fun _ =>
(fX8_count v7.2 n (0 : Int32)).bind fun v10 =>
(fL_cell N0 xs (0 : Int32)).bind fun v12 =>
(fL_low v12 (4 : Int32)).bind fun v14 =>
(xnw v7.2 (n + 103) (.inr (0, 6, .inl (fun _ => 0)))).bind fun h16 =>
(xnw h16 (n + 104) (.inr (0, 6, .inl (fun _ => 0)))).bind fun h18 =>
(fL_speeds N0 xs h18 n (8 : Int32) (n + 103) (n + 104) v14).bind fun v20 =>
if v20.1 = true then
(fL_measure v20.2 (n + 102) v10).bind fun v22 =>
(xco v20.2 n 8).bind fun _ =>
(fX8_count v20.2 n (2 : Int32)).bind fun v25 =>
if v25 = v22 then
if v22 = 0 then none else
if (xrem v10 v22) = 0 then
(fL_cell N0 xs (14 : Int32)).bind fun v28 =>
(fL_flashes v20.2 n (n + 102) v10 (n + 103) (n + 104) (v14 + (1 : Int32)) v28).bind fun v30 =>
if v30.1 = true then
(fL_cell N0 xs (15 : Int32)).bind fun v32 =>
(fL_flashes v30.2 n (n + 102) v10 (n + 103) (n + 104) (v14 + (1 : Int32)) v32).bind fun v34 =>
if v34.1 = true then
(fL_cell N0 xs (0 : Int32)).bind fun v36 =>
(fL_low (v36 >>> ((4 : Int32) &&& 31)) (5 : Int32)).bind fun v38 =>
if v14 = 0 then
fL_law_J169 N0 xs v34.2 n n (n + 104) v22 v38 true
else
fL_law_J169 N0 xs v34.2 n n (n + 104) v22 v38 false
else
none
else
none
else
none
else
none
else
none
else
none
