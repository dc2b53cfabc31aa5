def fJ13_bitCount_95d88 (x0 : Int64) : Option Int32 :=
xlet (x0 - ((xlushr x0 (1 : Int32)) &&& (6148914691236517205 : Int64))) fun y1 =>
xlet ((y1 &&& (3689348814741910323 : Int64)) + ((xlushr y1 (2 : Int32)) &&& (3689348814741910323 : Int64))) fun y2 =>
xlet ((y2 + (xlushr y2 (4 : Int32))) &&& (1085102592571150095 : Int64)) fun y3 =>
xlet (y3 + (xlushr y3 (8 : Int32))) fun y4 =>
xlet (y4 + (xlushr y4 (16 : Int32))) fun y5 =>
xlet (y5 + (xlushr y5 (32 : Int32))) fun y6 =>
some ((y6.toInt32) &&& (127 : Int32))
def fJ6_bitCount_0f7a4 (x0 : Int32) : Option Int32 :=
xlet (x0 - ((xushr x0 (1 : Int32)) &&& (1431655765 : Int32))) fun y1 =>
xlet ((y1 &&& (858993459 : Int32)) + ((xushr y1 (2 : Int32)) &&& (858993459 : Int32))) fun y2 =>
xlet ((y2 + (xushr y2 (4 : Int32))) &&& (252645135 : Int32)) fun y3 =>
xlet (y3 + (xushr y3 (8 : Int32))) fun y4 =>
xlet (y4 + (xushr y4 (16 : Int32))) fun y5 =>
some (y5 &&& (63 : Int32))
def fX8_hasBit (x0 : Int64) (x2 : Int32) : Option Bool :=
if (lg_cmp ((xlushr x0 x2) &&& (1 : Int64)) (1 : Int64)) = 0 then
some true
else
some false
def fX8_mod (x0 : Int32) (x1 : Int32) : Option Int32 :=
if 0 < x1 then
if x1 = 0 then none else
if 0 ≤ (xrem x0 x1) then
some (xrem x0 x1)
else
some ((xrem x0 x1) + x1)
else
some (0 : Int32)
def fX0_has (h : XH) (x0 : Nat) (x1 : Int32) : Option Bool :=
(xgJ h x0 0 4).bind fun v1 =>
(xgI h x0 0 2).bind fun v3 =>
(fX8_mod x1 v3).bind fun v5 =>
(fX8_hasBit v1 v5).bind fun v7 =>
some v7
def fX8_at (h : XH) (x0 : Nat) (x1 : Int32) : Option Int32 :=
if x1 < 0 then
some (0 : Int32)
else
(xln h x0).bind fun v1 =>
if v1 ≤ x1 then
some (0 : Int32)
else
(xaI h x0 0 x1).bind fun v3 =>
some v3
def fX8_put (h : XH) (x0 : Nat) (x1 : Int32) (x2 : Int32) : Option XH :=
if x1 < 0 then
some h
else
(xln h x0).bind fun v1 =>
if v1 ≤ x1 then
some h
else
(xsI h x0 0 x1 x2).bind fun h3 =>
some h3
def fX0_countByRemainder_b2 (x0 : Nat) (h : XH) (x1 : Int32) : Option ((XH × Int32) ⊕ XH) :=
(xgI h x0 0 2).bind fun v1 =>
if v1 ≤ x1 then
some (.inr h)
else
(xgR h x0 0 0).bind fun v3 =>
(fX8_put h v3 x1 (0 : Int32)).bind fun h5 =>
some (.inl (h5, (x1 + (1 : Int32))))
def fX0_countByRemainder_B2 (x0 : Nat) (s : (XH × Int32)) : Option ((XH × Int32) ⊕ XH) := fX0_countByRemainder_b2 x0 s.1 s.2
def fX0_countByRemainder_b31 (x0 : Nat) (h : XH) (x1 : Int32) : Option ((XH × Int32) ⊕ XH) :=
(xgI h x0 0 3).bind fun v11 =>
if v11 < x1 then
some (.inr h)
else
(xgI h x0 0 2).bind fun v13 =>
(fX8_mod x1 v13).bind fun v15 =>
(xco h x0 0).bind fun _ =>
(fX0_has h x0 x1).bind fun v18 =>
if v18 = true then
(xgR h x0 0 0).bind fun v20 =>
(xgR h x0 0 0).bind fun v22 =>
(fX8_at h v22 v15).bind fun v24 =>
(fX8_put h v20 v15 (v24 + (1 : Int32))).bind fun h26 =>
some (.inl (h26, (x1 + (1 : Int32))))
else
some (.inl (h, (x1 + (1 : Int32))))
def fX0_countByRemainder_B31 (x0 : Nat) (s : (XH × Int32)) : Option ((XH × Int32) ⊕ XH) := fX0_countByRemainder_b31 x0 s.1 s.2
def fX0_countByRemainder (h : XH) (x0 : Nat) : Option XH :=
(xloop (fX0_countByRemainder_B2 x0) 5000 (h, (0 : Int32))).bind fun e7 =>
(xgI e7 x0 0 3).bind fun v9 =>
(xloop (fX0_countByRemainder_B31 x0) 5000 (e7, (-v9))).bind fun e28 =>
some e28
def fX4_allFit_b3 (h : XH) (x0 : Nat) (x1 : Int32) (x2 : Int32) (x3 : Int32) (x4 : Int32) : Option (Int32 ⊕ (Unit ⊕ Unit)) :=
(xgI h x0 4 2).bind fun v1 =>
if v1 ≤ x4 then
some (.inr (.inr ()))
else
if x4 = x3 then
some (.inl (x4 + (1 : Int32)))
else
(xgR h x0 4 0).bind fun v3 =>
(fX8_at h v3 x4).bind fun v5 =>
(xgR h x0 4 1).bind fun v7 =>
(fX8_at h v7 x4).bind fun v9 =>
(fX8_mod ((x1 * v5) - v9) x2).bind fun v11 =>
if v11 = 0 then
some (.inl (x4 + (1 : Int32)))
else
some (.inr (.inl ()))
def fX4_allFit_B3 (h : XH) (x0 : Nat) (x1 : Int32) (x2 : Int32) (x3 : Int32) (s : Int32) : Option (Int32 ⊕ (Unit ⊕ Unit)) := fX4_allFit_b3 h x0 x1 x2 x3 s
def fX4_allFit (h : XH) (x0 : Nat) (x1 : Int32) (x2 : Int32) (x3 : Int32) : Option Bool :=
(xloop (fX4_allFit_B3 h x0 x1 x2 x3) 5000 (0 : Int32)).bind fun e13 =>
(match e13 with
| .inl e13 =>
some false
| .inr e13 =>
some true
)
def fX0_find_b21 (x0 : Nat) (x2 : Nat) (x3 : Int32) (h : XH) (x4 : Int32) : Option ((XH × Int32) ⊕ XH) :=
(xgI h x0 0 2).bind fun v9 =>
if v9 ≤ x4 then
some (.inr h)
else
(xgI h x0 0 2).bind fun v11 =>
(xco h x2 4).bind fun _ =>
(fX4_allFit h x2 x4 v11 x3).bind fun v14 =>
if v14 = true then
(xgJ h x0 0 4).bind fun v16 =>
(xpf h x0 0 4 (.long (v16 ||| (xlshl (1 : Int64) x4)))).bind fun h18 =>
some (.inl (h18, (x4 + (1 : Int32))))
else
some (.inl (h, (x4 + (1 : Int32))))
def fX0_find_B21 (x0 : Nat) (x2 : Nat) (x3 : Int32) (s : (XH × Int32)) : Option ((XH × Int32) ⊕ XH) := fX0_find_b21 x0 x2 x3 s.1 s.2
def fX0_find (h : XH) (x0 : Nat) (x1 : Int32) (x2 : Nat) (x3 : Int32) : Option XH :=
(xpf h x0 0 2 (.int x1)).bind fun h1 =>
(xgI h1 x2 4 3).bind fun v3 =>
(xpf h1 x0 0 3 (.int v3)).bind fun h5 =>
(xpf h5 x0 0 4 (.long (0 : Int64))).bind fun h7 =>
(xloop (fX0_find_B21 x0 x2 x3) 5000 (h7, (0 : Int32))).bind fun e20 =>
some e20
def fX0_inOrder_b8 (h : XH) (x0 : Nat) (x1 : Int32) (x2 : Int32) (x3 : Int32) : Option ((Int32 × Int32) ⊕ (Int32 ⊕ Unit)) :=
(xgI h x0 0 3).bind fun v3 =>
if v3 < x3 then
some (.inr (.inr ()))
else
(xco h x0 0).bind fun _ =>
(fX0_has h x0 x3).bind fun v6 =>
if v6 = true then
if x2 = x1 then
some (.inr (.inl x3))
else
some (.inl ((x2 + (1 : Int32)), (x3 + (1 : Int32))))
else
some (.inl (x2, (x3 + (1 : Int32))))
def fX0_inOrder_B8 (h : XH) (x0 : Nat) (x1 : Int32) (s : (Int32 × Int32)) : Option ((Int32 × Int32) ⊕ (Int32 ⊕ Unit)) := fX0_inOrder_b8 h x0 x1 s.1 s.2
def fX0_inOrder (h : XH) (x0 : Nat) (x1 : Int32) : Option Int32 :=
(xgI h x0 0 3).bind fun v1 =>
(xloop (fX0_inOrder_B8 h x0 x1) 5000 ((0 : Int32), (-v1))).bind fun e8 =>
(match e8 with
| .inl e8 =>
some e8
| .inr e8 =>
some (-1004 : Int32)
)
def fX0_init (h : XH) (n : Nat) (x0 : Nat) : Option XH :=
(xnw h n (.inr (0, 60, .inl (fun _ => 0)))).bind fun h1 =>
(xpf h1 x0 0 0 (.ref n)).bind fun h3 =>
(xnw h3 (n + 1) (.inr (0, 60, .inl (fun _ => 0)))).bind fun h5 =>
(xpf h5 x0 0 1 (.ref (n + 1))).bind fun h7 =>
some h7
def fX0_nearestTo_J44 (h : XH) (x0 : Nat) (x1 : Int32) (x2 : Int32) (x3 : Int32) (x4 : Int32) (x5 : Int32) : Option ((Int32 × Int32 × Int32) ⊕ Int32) :=
(xco h x0 0).bind fun _ =>
(fX0_has h x0 x4).bind fun v6 =>
if v6 = true then
some (.inl (x4, x5, (x4 + (1 : Int32))))
else
some (.inl (x2, x3, (x4 + (1 : Int32))))
def fX0_nearestTo_b13 (h : XH) (x0 : Nat) (x1 : Int32) (x2 : Int32) (x3 : Int32) (x4 : Int32) : Option ((Int32 × Int32 × Int32) ⊕ Int32) :=
(xgI h x0 0 3).bind fun v3 =>
if v3 < x4 then
some (.inr x2)
else
if x2 = (-1004 : Int32) then
fX0_nearestTo_J44 h x0 x1 x2 x3 x4 (xmabs (x4 - x1))
else
if x3 ≤ (xmabs (x4 - x1)) then
some (.inl (x2, x3, (x4 + (1 : Int32))))
else
fX0_nearestTo_J44 h x0 x1 x2 x3 x4 (xmabs (x4 - x1))
def fX0_nearestTo_B13 (h : XH) (x0 : Nat) (x1 : Int32) (s : (Int32 × Int32 × Int32)) : Option ((Int32 × Int32 × Int32) ⊕ Int32) := fX0_nearestTo_b13 h x0 x1 s.1 s.2.1 s.2.2
def fX0_nearestTo (h : XH) (x0 : Nat) (x1 : Int32) : Option Int32 :=
(xgI h x0 0 3).bind fun v1 =>
(xloop (fX0_nearestTo_B13 h x0 x1) 5000 ((-1004 : Int32), (0 : Int32), (-v1))).bind fun e8 =>
some e8
def fX0_number_b8 (h : XH) (x0 : Nat) (x1 : Int32) (x2 : Int32) : Option ((Int32 × Int32) ⊕ Int32) :=
(xgI h x0 0 3).bind fun v3 =>
if v3 < x2 then
some (.inr x1)
else
(xco h x0 0).bind fun _ =>
(fX0_has h x0 x2).bind fun v6 =>
if v6 = true then
some (.inl ((x1 + (1 : Int32)), (x2 + (1 : Int32))))
else
some (.inl (x1, (x2 + (1 : Int32))))
def fX0_number_B8 (h : XH) (x0 : Nat) (s : (Int32 × Int32)) : Option ((Int32 × Int32) ⊕ Int32) := fX0_number_b8 h x0 s.1 s.2
def fX0_number (h : XH) (x0 : Nat) : Option Int32 :=
(xgI h x0 0 3).bind fun v1 =>
(xloop (fX0_number_B8 h x0) 5000 ((0 : Int32), (-v1))).bind fun e8 =>
some e8
def fX0_restOf_b2 (x0 : Nat) (x1 : Int32) (h : XH) (x2 : Int32) : Option ((XH × Int32) ⊕ XH) :=
(xgI h x0 0 2).bind fun v1 =>
if v1 ≤ x2 then
some (.inr h)
else
(xgR h x0 0 1).bind fun v3 =>
(fX8_put h v3 x2 (0 : Int32)).bind fun h5 =>
some (.inl (h5, (x2 + (1 : Int32))))
def fX0_restOf_B2 (x0 : Nat) (x1 : Int32) (s : (XH × Int32)) : Option ((XH × Int32) ⊕ XH) := fX0_restOf_b2 x0 x1 s.1 s.2
def fX0_restOf_b29 (x0 : Nat) (x1 : Int32) (h : XH) (x2 : Int32) (x3 : Int32) : Option ((XH × Int32 × Int32) ⊕ (XH × Int32)) :=
(xgI h x0 0 2).bind fun v9 =>
if v9 ≤ x3 then
some (.inr (h, x2))
else
(xgI h x0 0 2).bind fun v11 =>
(fX8_mod (x3 * x1) v11).bind fun v13 =>
(xgR h x0 0 1).bind fun v15 =>
(xgR h x0 0 1).bind fun v17 =>
(fX8_at h v17 v13).bind fun v19 =>
(xgR h x0 0 0).bind fun v21 =>
(fX8_at h v21 x3).bind fun v23 =>
(fX8_put h v15 v13 (v19 + v23)).bind fun h25 =>
(xgR h25 x0 0 1).bind fun v27 =>
(fX8_at h25 v27 v13).bind fun v29 =>
some (.inl (h25, (xmmax x2 v29), (x3 + (1 : Int32))))
def fX0_restOf_B29 (x0 : Nat) (x1 : Int32) (s : (XH × Int32 × Int32)) : Option ((XH × Int32 × Int32) ⊕ (XH × Int32)) := fX0_restOf_b29 x0 x1 s.1 s.2.1 s.2.2
def fX0_restOf (h : XH) (x0 : Nat) (x1 : Int32) : Option (Int32 × XH) :=
(xloop (fX0_restOf_B2 x0 x1) 5000 (h, (0 : Int32))).bind fun e7 =>
(xloop (fX0_restOf_B29 x0 x1) 5000 (e7, (0 : Int32), (0 : Int32))).bind fun e31 =>
some (e31.2, e31.1)
def fX1_copyFrom (h : XH) (x0 : Nat) (x1 : Nat) : Option XH :=
(xgI h x1 1 0).bind fun v1 =>
(xpf h x0 1 0 (.int v1)).bind fun h3 =>
(xgI h3 x1 1 1).bind fun v5 =>
(xpf h3 x0 1 1 (.int v5)).bind fun h7 =>
(xgI h7 x1 1 2).bind fun v9 =>
(xpf h7 x0 1 2 (.int v9)).bind fun h11 =>
(xgI h11 x1 1 3).bind fun v13 =>
(xpf h11 x0 1 3 (.int v13)).bind fun h15 =>
some h15
def fX1_isOpenAt (h : XH) (x0 : Nat) (x1 : Int32) : Option Bool :=
(xgI h x0 1 1).bind fun v1 =>
(xgI h x0 1 2).bind fun v3 =>
(xgI h x0 1 3).bind fun v5 =>
(xgI h x0 1 0).bind fun v7 =>
(fX8_mod (-(v3 + (v5 * x1))) v7).bind fun v9 =>
(fX8_hasBit (v1.toInt64) v9).bind fun v11 =>
some v11
def fX1_opensAt (h : XH) (x0 : Nat) (x1 : Int32) : Option Bool :=
(xco h x0 1).bind fun _ =>
(fX1_isOpenAt h x0 x1).bind fun v2 =>
if v2 = true then
if x1 = 0 then
some true
else
(xco h x0 1).bind fun _ =>
(fX1_isOpenAt h x0 (x1 - (1 : Int32))).bind fun v5 =>
if v5 = true then
some false
else
some true
else
some false
def fX1_firstTickOf_b4 (h : XH) (x0 : Nat) (x1 : Int32) (x2 : Int32) (x3 : Int32) : Option ((Int32 × Int32) ⊕ (Int32 ⊕ Unit)) :=
if (1000 : Int32) < x3 then
some (.inr (.inr ()))
else
(xco h x0 1).bind fun _ =>
(fX1_opensAt h x0 x3).bind fun v2 =>
if v2 = true then
if x2 = x1 then
some (.inr (.inl x3))
else
some (.inl ((x2 + (1 : Int32)), (x3 + (1 : Int32))))
else
some (.inl (x2, (x3 + (1 : Int32))))
def fX1_firstTickOf_B4 (h : XH) (x0 : Nat) (x1 : Int32) (s : (Int32 × Int32)) : Option ((Int32 × Int32) ⊕ (Int32 ⊕ Unit)) := fX1_firstTickOf_b4 h x0 x1 s.1 s.2
def fX1_firstTickOf (h : XH) (x0 : Nat) (x1 : Int32) : Option Int32 :=
(xloop (fX1_firstTickOf_B4 h x0 x1) 5000 ((0 : Int32), (0 : Int32))).bind fun e4 =>
(match e4 with
| .inl e4 =>
some e4
| .inr e4 =>
some (-1 : Int32)
)
def fX1_init (h : XH) (x0 : Nat) : Option XH :=
(xpf h x0 1 0 (.int (1 : Int32))).bind fun h1 =>
(xpf h1 x0 1 1 (.int (1 : Int32))).bind fun h3 =>
some h3
def fX1_openings_b4 (h : XH) (x0 : Nat) (x1 : Int32) (x2 : Int32) : Option ((Int32 × Int32) ⊕ Int32) :=
if (1000 : Int32) < x2 then
some (.inr x1)
else
(xco h x0 1).bind fun _ =>
(fX1_opensAt h x0 x2).bind fun v2 =>
if v2 = true then
some (.inl ((x1 + (1 : Int32)), (x2 + (1 : Int32))))
else
some (.inl (x1, (x2 + (1 : Int32))))
def fX1_openings_B4 (h : XH) (x0 : Nat) (s : (Int32 × Int32)) : Option ((Int32 × Int32) ⊕ Int32) := fX1_openings_b4 h x0 s.1 s.2
def fX1_openings (h : XH) (x0 : Nat) : Option Int32 :=
(xloop (fX1_openings_B4 h x0) 5000 ((0 : Int32), (0 : Int32))).bind fun e4 =>
some e4
def fX1_ticksFrom_b2 (h : XH) (x0 : Nat) (x1 : Int32) (x2 : Int32) : Option (Int32 ⊕ Int32) :=
if (1000 : Int32) < x2 then
some (.inr x2)
else
(xco h x0 1).bind fun _ =>
(fX1_isOpenAt h x0 x2).bind fun v2 =>
if v2 = true then
some (.inl (x2 + (1 : Int32)))
else
some (.inr x2)
def fX1_ticksFrom_B2 (h : XH) (x0 : Nat) (x1 : Int32) (s : Int32) : Option (Int32 ⊕ Int32) := fX1_ticksFrom_b2 h x0 x1 s
def fX1_ticksFrom (h : XH) (x0 : Nat) (x1 : Int32) : Option Int32 :=
(xloop (fX1_ticksFrom_B2 h x0 x1) 5000 x1).bind fun e4 =>
some (e4 - x1)
def fX2_copyFrom (h : XH) (x0 : Nat) (x1 : Nat) : Option XH :=
(xgI h x1 2 0).bind fun v1 =>
(xpf h x0 2 0 (.int v1)).bind fun h3 =>
(xgI h3 x1 2 1).bind fun v5 =>
(xpf h3 x0 2 1 (.int v5)).bind fun h7 =>
some h7
def fX2_init (h : XH) (x0 : Nat) : Option XH :=
(xpf h x0 2 1 (.int (1 : Int32))).bind fun h1 =>
some h1
def fX2_number (h : XH) (x0 : Nat) : Option Int32 :=
(xgI h x0 2 1).bind fun v1 =>
if v1 ≤ 0 then
some (0 : Int32)
else
(xgI h x0 2 0).bind fun v3 =>
(xgI h x0 2 1).bind fun v5 =>
if v5 = 0 then none else
some ((((1000 : Int32) - v3) / v5) + (1 : Int32))
def fX2_tickOf (h : XH) (x0 : Nat) (x1 : Int32) : Option Int32 :=
(xgI h x0 2 0).bind fun v1 =>
(xgI h x0 2 1).bind fun v3 =>
some (v1 + (x1 * v3))
def fX4_init (h : XH) (n : Nat) (x0 : Nat) : Option XH :=
(xnw h n (.inr (0, 8, .inl (fun _ => 0)))).bind fun h1 =>
(xpf h1 x0 4 0 (.ref n)).bind fun h3 =>
(xnw h3 (n + 1) (.inr (0, 8, .inl (fun _ => 0)))).bind fun h5 =>
(xpf h5 x0 4 1 (.ref (n + 1))).bind fun h7 =>
(xpf h7 x0 4 3 (.int (100 : Int32))).bind fun h9 =>
some h9
def fX6_init_b34 (x0 : Nat) (h : XH) (x1 : Int32) : Option ((XH × Int32) ⊕ XH) :=
(xgI h x0 6 3).bind fun v15 =>
if v15 ≤ x1 then
some (.inr h)
else
(xgR h x0 6 0).bind fun v17 =>
(fX8_put h v17 x1 (1 : Int32)).bind fun h19 =>
some (.inl (h19, (x1 + (3 : Int32))))
def fX6_init_B34 (x0 : Nat) (s : (XH × Int32)) : Option ((XH × Int32) ⊕ XH) := fX6_init_b34 x0 s.1 s.2
def fX6_init (h : XH) (n : Nat) (x0 : Nat) : Option XH :=
(xnw h n (.inr (0, 60, .inl (fun _ => 0)))).bind fun h1 =>
(xpf h1 x0 6 0 (.ref n)).bind fun h3 =>
(xnw h3 (n + 1) (.inr (0, 5, .inl (fun _ => 0)))).bind fun h5 =>
(xpf h5 x0 6 1 (.ref (n + 1))).bind fun h7 =>
(xnw h7 (n + 2) (.inr (0, 5, .inl (fun _ => 0)))).bind fun h9 =>
(xpf h9 x0 6 2 (.ref (n + 2))).bind fun h11 =>
(xpf h11 x0 6 3 (.int (12 : Int32))).bind fun h13 =>
(xloop (fX6_init_B34 x0) 5000 (h13, (0 : Int32))).bind fun e21 =>
some e21
def fX5_init (h : XH) (n : Nat) (x0 : Nat) : Option XH :=
(xnw h n (.inl (6, [.null, .null, .null, .int 0, .int 0, .int 0, .int 0]))).bind fun h1 =>
(fX6_init h1 (n + 1) n).bind fun h3 =>
(xpf h3 x0 5 0 (.ref n)).bind fun h5 =>
(xnw h5 (n + 4) (.inl (2, [.int 0, .int 0]))).bind fun h7 =>
(fX2_init h7 (n + 4)).bind fun h9 =>
(xpf h9 x0 5 1 (.ref (n + 4))).bind fun h11 =>
(xnw h11 (n + 5) (.inl (4, [.null, .null, .int 0, .int 0]))).bind fun h13 =>
(fX4_init h13 (n + 6) (n + 5)).bind fun h15 =>
(xpf h15 x0 5 2 (.ref (n + 5))).bind fun h17 =>
(xnw h17 (n + 8) (.inl (1, [.int 0, .int 0, .int 0, .int 0]))).bind fun h19 =>
(fX1_init h19 (n + 8)).bind fun h21 =>
(xpf h21 x0 5 3 (.ref (n + 8))).bind fun h23 =>
some h23
def fX3_init (h : XH) (n : Nat) (x0 : Nat) : Option XH :=
(xnw h n (.inr (2, 8, .inr (.inr (.inr (.inr (fun _ => none))))))).bind fun h1 =>
(xpf h1 x0 3 0 (.ref n)).bind fun h3 =>
(xgR h3 x0 3 0).bind fun v5 =>
(xln h3 v5).bind fun v7 =>
if v7 ≤ (0 : Int32) then
none
else
(xgR h3 x0 3 0).bind fun v9 =>
(xnw h3 (n + 1) (.inl (5, [.null, .null, .null, .null]))).bind fun h11 =>
(fX5_init h11 (n + 2) (n + 1)).bind fun h13 =>
(xsQ h13 v9 (0 : Int32) (n + 1)).bind fun h15 =>
(xgR h15 x0 3 0).bind fun v17 =>
(xln h15 v17).bind fun v19 =>
if v19 ≤ (1 : Int32) then
none
else
(xgR h15 x0 3 0).bind fun v21 =>
(xnw h15 (n + 11) (.inl (5, [.null, .null, .null, .null]))).bind fun h23 =>
(fX5_init h23 (n + 12) (n + 11)).bind fun h25 =>
(xsQ h25 v21 (1 : Int32) (n + 11)).bind fun h27 =>
(xgR h27 x0 3 0).bind fun v29 =>
(xln h27 v29).bind fun v31 =>
if v31 ≤ (2 : Int32) then
none
else
(xgR h27 x0 3 0).bind fun v33 =>
(xnw h27 (n + 21) (.inl (5, [.null, .null, .null, .null]))).bind fun h35 =>
(fX5_init h35 (n + 22) (n + 21)).bind fun h37 =>
(xsQ h37 v33 (2 : Int32) (n + 21)).bind fun h39 =>
(xgR h39 x0 3 0).bind fun v41 =>
(xln h39 v41).bind fun v43 =>
if v43 ≤ (3 : Int32) then
none
else
(xgR h39 x0 3 0).bind fun v45 =>
(xnw h39 (n + 31) (.inl (5, [.null, .null, .null, .null]))).bind fun h47 =>
(fX5_init h47 (n + 32) (n + 31)).bind fun h49 =>
(xsQ h49 v45 (3 : Int32) (n + 31)).bind fun h51 =>
(xgR h51 x0 3 0).bind fun v53 =>
(xln h51 v53).bind fun v55 =>
if v55 ≤ (4 : Int32) then
none
else
(xgR h51 x0 3 0).bind fun v57 =>
(xnw h51 (n + 41) (.inl (5, [.null, .null, .null, .null]))).bind fun h59 =>
(fX5_init h59 (n + 42) (n + 41)).bind fun h61 =>
(xsQ h61 v57 (4 : Int32) (n + 41)).bind fun h63 =>
(xgR h63 x0 3 0).bind fun v65 =>
(xln h63 v65).bind fun v67 =>
if v67 ≤ (5 : Int32) then
none
else
(xgR h63 x0 3 0).bind fun v69 =>
(xnw h63 (n + 51) (.inl (5, [.null, .null, .null, .null]))).bind fun h71 =>
(fX5_init h71 (n + 52) (n + 51)).bind fun h73 =>
(xsQ h73 v69 (5 : Int32) (n + 51)).bind fun h75 =>
(xgR h75 x0 3 0).bind fun v77 =>
(xln h75 v77).bind fun v79 =>
if v79 ≤ (6 : Int32) then
none
else
(xgR h75 x0 3 0).bind fun v81 =>
(xnw h75 (n + 61) (.inl (5, [.null, .null, .null, .null]))).bind fun h83 =>
(fX5_init h83 (n + 62) (n + 61)).bind fun h85 =>
(xsQ h85 v81 (6 : Int32) (n + 61)).bind fun h87 =>
(xgR h87 x0 3 0).bind fun v89 =>
(xln h87 v89).bind fun v91 =>
if v91 ≤ (7 : Int32) then
none
else
(xgR h87 x0 3 0).bind fun v93 =>
(xnw h87 (n + 71) (.inl (5, [.null, .null, .null, .null]))).bind fun h95 =>
(fX5_init h95 (n + 72) (n + 71)).bind fun h97 =>
(xsQ h97 v93 (7 : Int32) (n + 71)).bind fun h99 =>
(xgR h99 x0 3 0).bind fun v101 =>
(xln h99 v101).bind fun v103 =>
if v103 ≤ (8 : Int32) then
some h99
else
none
def fX3_slotAt (h : XH) (x0 : Nat) (x1 : Int32) : Option (Option Nat) :=
if x1 < 0 then
some none
else
(xgR h x0 3 0).bind fun v1 =>
(xln h v1).bind fun v3 =>
if v3 ≤ x1 then
some none
else
(xgR h x0 3 0).bind fun v5 =>
(xaQ h v5 x1).bind fun v7 =>
some v7
def fX8_copyRow_b2 (x0 : Nat) (x1 : Nat) (h : XH) (x2 : Int32) : Option ((XH × Int32) ⊕ XH) :=
(xln h x0).bind fun v1 =>
if v1 ≤ x2 then
some (.inr h)
else
(xln h x1).bind fun v3 =>
if v3 ≤ x2 then
some (.inr h)
else
(xaI h x0 0 x2).bind fun v5 =>
(xsI h x1 0 x2 v5).bind fun h7 =>
some (.inl (h7, (x2 + (1 : Int32))))
def fX8_copyRow_B2 (x0 : Nat) (x1 : Nat) (s : (XH × Int32)) : Option ((XH × Int32) ⊕ XH) := fX8_copyRow_b2 x0 x1 s.1 s.2
def fX8_copyRow (h : XH) (x0 : Nat) (x1 : Nat) : Option XH :=
(xloop (fX8_copyRow_B2 x0 x1) 5000 (h, (0 : Int32))).bind fun e9 =>
some e9
def fX4_copyFrom (h : XH) (x0 : Nat) (x1 : Nat) : Option XH :=
(xgR h x1 4 0).bind fun v1 =>
(xgR h x0 4 0).bind fun v3 =>
(fX8_copyRow h v1 v3).bind fun h5 =>
(xgR h5 x1 4 1).bind fun v7 =>
(xgR h5 x0 4 1).bind fun v9 =>
(fX8_copyRow h5 v7 v9).bind fun h11 =>
(xgI h11 x1 4 2).bind fun v13 =>
(xpf h11 x0 4 2 (.int v13)).bind fun h15 =>
(xgI h15 x1 4 3).bind fun v17 =>
(xpf h15 x0 4 3 (.int v17)).bind fun h19 =>
some h19
def fX6_copyFrom (h : XH) (x0 : Nat) (x1 : Nat) : Option XH :=
(xgR h x1 6 0).bind fun v1 =>
(xgR h x0 6 0).bind fun v3 =>
(fX8_copyRow h v1 v3).bind fun h5 =>
(xgR h5 x1 6 1).bind fun v7 =>
(xgR h5 x0 6 1).bind fun v9 =>
(fX8_copyRow h5 v7 v9).bind fun h11 =>
(xgR h11 x1 6 2).bind fun v13 =>
(xgR h11 x0 6 2).bind fun v15 =>
(fX8_copyRow h11 v13 v15).bind fun h17 =>
(xgI h17 x1 6 3).bind fun v19 =>
(xpf h17 x0 6 3 (.int v19)).bind fun h21 =>
(xgI h21 x1 6 4).bind fun v23 =>
(xpf h21 x0 6 4 (.int v23)).bind fun h25 =>
(xgI h25 x1 6 5).bind fun v27 =>
(xpf h25 x0 6 5 (.int v27)).bind fun h29 =>
(xgI h29 x1 6 6).bind fun v31 =>
(xpf h29 x0 6 6 (.int v31)).bind fun h33 =>
some h33
def fX5_copyFrom (h : XH) (x0 : Nat) (x1 : Nat) : Option XH :=
(xgR h x0 5 0).bind fun v1 =>
(xgR h x1 5 0).bind fun v3 =>
(xco h v1 6).bind fun _ =>
(fX6_copyFrom h v1 v3).bind fun h6 =>
(xgR h6 x0 5 1).bind fun v8 =>
(xgR h6 x1 5 1).bind fun v10 =>
(xco h6 v8 2).bind fun _ =>
(fX2_copyFrom h6 v8 v10).bind fun h13 =>
(xgR h13 x0 5 2).bind fun v15 =>
(xgR h13 x1 5 2).bind fun v17 =>
(xco h13 v15 4).bind fun _ =>
(fX4_copyFrom h13 v15 v17).bind fun h20 =>
(xgR h20 x0 5 3).bind fun v22 =>
(xgR h20 x1 5 3).bind fun v24 =>
(xco h20 v22 1).bind fun _ =>
(fX1_copyFrom h20 v22 v24).bind fun h27 =>
some h27
def fX3_remember (h : XH) (x0 : Nat) (x1 : Nat) : Option XH :=
(xgI h x0 3 1).bind fun v1 =>
(xco h x0 3).bind fun _ =>
(fX3_slotAt h x0 v1).bind fun v4 =>
xqc v4 (some h) (fun k6 =>
(xco h k6 5).bind fun _ =>
(fX5_copyFrom h k6 x1).bind fun h8 =>
(xgI h8 x0 3 1).bind fun v10 =>
(fX8_mod (v10 + (1 : Int32)) (8 : Int32)).bind fun v12 =>
(xpf h8 x0 3 1 (.int v12)).bind fun h14 =>
(xgI h14 x0 3 2).bind fun v16 =>
if (8 : Int32) ≤ v16 then
some h14
else
(xgI h14 x0 3 2).bind fun v18 =>
(xpf h14 x0 3 2 (.int (v18 + (1 : Int32)))).bind fun h20 =>
some h20)
def fX3_restore (h : XH) (x0 : Nat) (x1 : Nat) : Option XH :=
(xgI h x0 3 1).bind fun v1 =>
(fX8_mod (v1 - (1 : Int32)) (8 : Int32)).bind fun v3 =>
(xco h x0 3).bind fun _ =>
(fX3_slotAt h x0 v3).bind fun v6 =>
xqc v6 (some h) (fun k8 =>
(xgI h x0 3 2).bind fun v9 =>
if v9 = 0 then
some h
else
(xco h x1 5).bind fun _ =>
(fX5_copyFrom h x1 k8).bind fun h12 =>
(xpf h12 x0 3 1 (.int v3)).bind fun h14 =>
(xgI h14 x0 3 2).bind fun v16 =>
(xpf h14 x0 3 2 (.int (v16 - (1 : Int32)))).bind fun h18 =>
some h18)
def fX4_add (h : XH) (x0 : Nat) (x1 : Int32) (x2 : Int32) : Option XH :=
(xgR h x0 4 0).bind fun v1 =>
(xgI h x0 4 2).bind fun v3 =>
(fX8_put h v1 v3 x1).bind fun h5 =>
(xgR h5 x0 4 1).bind fun v7 =>
(xgI h5 x0 4 2).bind fun v9 =>
(fX8_put h5 v7 v9 x2).bind fun h11 =>
(xgI h11 x0 4 2).bind fun v13 =>
(xpf h11 x0 4 2 (.int (v13 + (1 : Int32)))).bind fun h15 =>
some h15
def fX4_remove_b2 (x0 : Nat) (h : XH) (x2 : Int32) : Option ((XH × Int32) ⊕ XH) :=
(xgI h x0 4 2).bind fun v1 =>
if v1 ≤ (x2 + (1 : Int32)) then
some (.inr h)
else
(xgR h x0 4 0).bind fun v3 =>
(xgR h x0 4 0).bind fun v5 =>
(fX8_at h v5 (x2 + (1 : Int32))).bind fun v7 =>
(fX8_put h v3 x2 v7).bind fun h9 =>
(xgR h9 x0 4 1).bind fun v11 =>
(xgR h9 x0 4 1).bind fun v13 =>
(fX8_at h9 v13 (x2 + (1 : Int32))).bind fun v15 =>
(fX8_put h9 v11 x2 v15).bind fun h17 =>
some (.inl (h17, (x2 + (1 : Int32))))
def fX4_remove_B2 (x0 : Nat) (s : (XH × Int32)) : Option ((XH × Int32) ⊕ XH) := fX4_remove_b2 x0 s.1 s.2
def fX4_remove (h : XH) (x0 : Nat) (x1 : Int32) : Option XH :=
(xloop (fX4_remove_B2 x0) 5000 (h, x1)).bind fun e19 =>
(xgI e19 x0 4 2).bind fun v21 =>
(xpf e19 x0 4 2 (.int (v21 - (1 : Int32)))).bind fun h23 =>
some h23
def fX6_isSameTurnedBy_b2 (h : XH) (x0 : Nat) (x1 : Int32) (x2 : Int32) : Option (Int32 ⊕ (Unit ⊕ Unit)) :=
(xgI h x0 6 3).bind fun v1 =>
if v1 ≤ (x2 + x1) then
some (.inr (.inr ()))
else
(xgR h x0 6 0).bind fun v3 =>
(fX8_at h v3 x2).bind fun v5 =>
(xgR h x0 6 0).bind fun v7 =>
(fX8_at h v7 (x2 + x1)).bind fun v9 =>
if v5 = v9 then
some (.inl (x2 + (1 : Int32)))
else
some (.inr (.inl ()))
def fX6_isSameTurnedBy_B2 (h : XH) (x0 : Nat) (x1 : Int32) (s : Int32) : Option (Int32 ⊕ (Unit ⊕ Unit)) := fX6_isSameTurnedBy_b2 h x0 x1 s
def fX6_isSameTurnedBy (h : XH) (x0 : Nat) (x1 : Int32) : Option Bool :=
(xloop (fX6_isSameTurnedBy_B2 h x0 x1) 5000 (0 : Int32)).bind fun e11 =>
(match e11 with
| .inl e11 =>
some false
| .inr e11 =>
some true
)
def fX6_measure_b2 (h : XH) (x0 : Nat) (x1 : Int32) : Option (Int32 ⊕ (Int32 ⊕ Unit)) :=
(xgI h x0 6 3).bind fun v1 =>
if v1 ≤ x1 then
some (.inr (.inr ()))
else
(xgI h x0 6 3).bind fun v3 =>
(fX8_mod v3 x1).bind fun v5 =>
if v5 = 0 then
(xco h x0 6).bind fun _ =>
(fX6_isSameTurnedBy h x0 x1).bind fun v8 =>
if v8 = true then
some (.inr (.inl x1))
else
some (.inl (x1 + (1 : Int32)))
else
some (.inl (x1 + (1 : Int32)))
def fX6_measure_B2 (h : XH) (x0 : Nat) (s : Int32) : Option (Int32 ⊕ (Int32 ⊕ Unit)) := fX6_measure_b2 h x0 s
def fX6_measure (h : XH) (x0 : Nat) : Option Int32 :=
(xloop (fX6_measure_B2 h x0) 5000 (1 : Int32)).bind fun e10 =>
(match e10 with
| .inl e10 =>
some e10
| .inr e10 =>
(xgI h x0 6 3).bind fun v12 =>
some v12
)
def fX6_turnAt_b16 (h : XH) (x0 : Nat) (x1 : Int32) (x2 : Int32) (x3 : Int32) (x4 : Int32) (x5 : Int32) : Option ((Int32 × Int32 × Int32 × Int32) ⊕ (Int32 × Int32 × Int32)) :=
(xgI h x0 6 6).bind fun v5 =>
if v5 ≤ x5 then
some (.inr (x2, x3, x4))
else
(xgR h x0 6 1).bind fun v7 =>
(fX8_at h v7 x5).bind fun v9 =>
if x1 ≤ v9 then
some (.inr (x2, x3, x4))
else
(xgR h x0 6 1).bind fun v11 =>
(fX8_at h v11 x5).bind fun v13 =>
(xgR h x0 6 1).bind fun v15 =>
(fX8_at h v15 x5).bind fun v17 =>
(xgR h x0 6 2).bind fun v19 =>
(fX8_at h v19 x5).bind fun v21 =>
some (.inl ((x2 + (x4 * (v13 - x3))), v17, v21, (x5 + (1 : Int32))))
def fX6_turnAt_B16 (h : XH) (x0 : Nat) (x1 : Int32) (s : (Int32 × Int32 × Int32 × Int32)) : Option ((Int32 × Int32 × Int32 × Int32) ⊕ (Int32 × Int32 × Int32)) := fX6_turnAt_b16 h x0 x1 s.1 s.2.1 s.2.2.1 s.2.2.2
def fX6_turnAt (h : XH) (x0 : Nat) (x1 : Int32) : Option Int32 :=
(xgI h x0 6 4).bind fun v1 =>
(xgI h x0 6 5).bind fun v3 =>
(xloop (fX6_turnAt_B16 h x0 x1) 5000 (v1, (0 : Int32), v3, (0 : Int32))).bind fun e23 =>
some (e23.1 + (e23.2.2 * (x1 - e23.2.1)))
def fX6_stepBetween (h : XH) (x0 : Nat) (x1 : Int32) (x2 : Int32) (x3 : Int32) : Option Int32 :=
(xco h x0 6).bind fun _ =>
(fX6_turnAt h x0 x2).bind fun v2 =>
(xco h x0 6).bind fun _ =>
(fX6_turnAt h x0 x1).bind fun v5 =>
(fX8_mod (v2 - v5) x3).bind fun v7 =>
if ((2 : Int32) * v7) ≤ x3 then
some v7
else
some (v7 - x3)
def fX5_countSeeming_J79 (h : XH) (x0 : Nat) (x1 : Int32) (x2 : Int32) (x3 : Int32) (x4 : Int32) (x5 : Int32) (s0 : Int32) : Option ((Int32 × Int32) ⊕ Int32) :=
if s0 = x1 then
some (.inl ((x4 + (1 : Int32)), (x5 + (1 : Int32))))
else
some (.inl (x4, (x5 + (1 : Int32))))
def fX5_countSeeming_b22 (h : XH) (x0 : Nat) (x1 : Int32) (x2 : Int32) (x3 : Int32) (x4 : Int32) (x5 : Int32) : Option ((Int32 × Int32) ⊕ Int32) :=
if x3 ≤ (x5 + (1 : Int32)) then
some (.inr x4)
else
(xgR h x0 5 0).bind fun v11 =>
(xgR h x0 5 1).bind fun v13 =>
(xco h v13 2).bind fun _ =>
(fX2_tickOf h v13 x5).bind fun v16 =>
(xgR h x0 5 1).bind fun v18 =>
(xco h v18 2).bind fun _ =>
(fX2_tickOf h v18 (x5 + (1 : Int32))).bind fun v21 =>
(xco h v11 6).bind fun _ =>
(fX6_stepBetween h v11 v16 v21 x2).bind fun v24 =>
if v24 = 0 then
fX5_countSeeming_J79 h x0 x1 x2 x3 x4 x5 (0 : Int32)
else
if v24 ≤ 0 then
fX5_countSeeming_J79 h x0 x1 x2 x3 x4 x5 (2 : Int32)
else
fX5_countSeeming_J79 h x0 x1 x2 x3 x4 x5 (1 : Int32)
def fX5_countSeeming_B22 (h : XH) (x0 : Nat) (x1 : Int32) (x2 : Int32) (x3 : Int32) (s : (Int32 × Int32)) : Option ((Int32 × Int32) ⊕ Int32) := fX5_countSeeming_b22 h x0 x1 x2 x3 s.1 s.2
def fX5_countSeeming (h : XH) (x0 : Nat) (x1 : Int32) : Option Int32 :=
(xgR h x0 5 0).bind fun v1 =>
(xco h v1 6).bind fun _ =>
(fX6_measure h v1).bind fun v4 =>
(xgR h x0 5 1).bind fun v6 =>
(xco h v6 2).bind fun _ =>
(fX2_number h v6).bind fun v9 =>
(xloop (fX5_countSeeming_B22 h x0 x1 v4 v9) 5000 ((0 : Int32), (0 : Int32))).bind fun e26 =>
some e26
def fX6_turnsModulo_b6 (h : XH) (x0 : Nat) (x1 : Int32) (x2 : Int32) (x3 : Int32) (x4 : Int32) (x5 : Int64) (x7 : Int32) : Option ((Int64 × Int32) ⊕ Int64) :=
if x3 ≤ x7 then
some (.inr x5)
else
(xco h x0 6).bind fun _ =>
(fX6_turnAt h x0 (x2 + (x7 * x4))).bind fun v2 =>
(fX8_mod v2 x1).bind fun v4 =>
xlet (x5 ||| (xlshl (1 : Int64) v4)) fun y6 =>
some (.inl (y6, (x7 + (1 : Int32))))
def fX6_turnsModulo_B6 (h : XH) (x0 : Nat) (x1 : Int32) (x2 : Int32) (x3 : Int32) (x4 : Int32) (s : (Int64 × Int32)) : Option ((Int64 × Int32) ⊕ Int64) := fX6_turnsModulo_b6 h x0 x1 x2 x3 x4 s.1 s.2
def fX6_turnsModulo (h : XH) (x0 : Nat) (x1 : Int32) (x2 : Int32) (x3 : Int32) (x4 : Int32) : Option Int64 :=
(xloop (fX6_turnsModulo_B6 h x0 x1 x2 x3 x4) 5000 ((0 : Int64), (0 : Int32))).bind fun e7 =>
some e7
def fX5_differentPictures (h : XH) (x0 : Nat) : Option Int32 :=
(xgR h x0 5 0).bind fun v1 =>
(xgR h x0 5 0).bind fun v3 =>
(xco h v3 6).bind fun _ =>
(fX6_measure h v3).bind fun v6 =>
(xgR h x0 5 1).bind fun v8 =>
(xgI h v8 2 0).bind fun v10 =>
(xgR h x0 5 1).bind fun v12 =>
(xco h v12 2).bind fun _ =>
(fX2_number h v12).bind fun v15 =>
(xgR h x0 5 1).bind fun v17 =>
(xgI h v17 2 1).bind fun v19 =>
(xco h v1 6).bind fun _ =>
(fX6_turnsModulo h v1 v6 v10 v15 v19).bind fun v22 =>
(fJ13_bitCount_95d88 v22).bind fun v24 =>
some v24
def fX5_earliestAlike_b31 (h : XH) (x0 : Nat) (x1 : Int32) (x2 : Int32) (x3 : Int32) (x4 : Int32) : Option (Int32 ⊕ (Int32 ⊕ Unit)) :=
if x1 ≤ x4 then
some (.inr (.inr ()))
else
(xgR h x0 5 0).bind fun v18 =>
(xgR h x0 5 1).bind fun v20 =>
(xco h v20 2).bind fun _ =>
(fX2_tickOf h v20 x4).bind fun v23 =>
(xco h v18 6).bind fun _ =>
(fX6_turnAt h v18 v23).bind fun v26 =>
(fX8_mod v26 x2).bind fun v28 =>
if v28 = x3 then
some (.inr (.inl x4))
else
some (.inl (x4 + (1 : Int32)))
def fX5_earliestAlike_B31 (h : XH) (x0 : Nat) (x1 : Int32) (x2 : Int32) (x3 : Int32) (s : Int32) : Option (Int32 ⊕ (Int32 ⊕ Unit)) := fX5_earliestAlike_b31 h x0 x1 x2 x3 s
def fX5_earliestAlike (h : XH) (x0 : Nat) (x1 : Int32) : Option Int32 :=
(xgR h x0 5 0).bind fun v1 =>
(xco h v1 6).bind fun _ =>
(fX6_measure h v1).bind fun v4 =>
(xgR h x0 5 0).bind fun v6 =>
(xgR h x0 5 1).bind fun v8 =>
(xco h v8 2).bind fun _ =>
(fX2_tickOf h v8 x1).bind fun v11 =>
(xco h v6 6).bind fun _ =>
(fX6_turnAt h v6 v11).bind fun v14 =>
(fX8_mod v14 v4).bind fun v16 =>
(xloop (fX5_earliestAlike_B31 h x0 x1 v4 v16) 5000 (0 : Int32)).bind fun e30 =>
(match e30 with
| .inl e30 =>
some e30
| .inr e30 =>
some x1
)
def fX6_addCell (h : XH) (x0 : Nat) (x1 : Int32) : Option XH :=
(xgR h x0 6 0).bind fun v1 =>
(xgI h x0 6 3).bind fun v3 =>
(fX8_put h v1 v3 x1).bind fun h5 =>
(xgI h5 x0 6 3).bind fun v7 =>
(xpf h5 x0 6 3 (.int (v7 + (1 : Int32)))).bind fun h9 =>
some h9
def fX6_empty (h : XH) (x0 : Nat) : Option XH :=
(xpf h x0 6 3 (.int (0 : Int32))).bind fun h1 =>
(xpf h1 x0 6 4 (.int (0 : Int32))).bind fun h3 =>
(xpf h3 x0 6 5 (.int (0 : Int32))).bind fun h5 =>
(xpf h5 x0 6 6 (.int (0 : Int32))).bind fun h7 =>
some h7
def fX6_placeOfChange_b2 (h : XH) (x0 : Nat) (x1 : Int32) (x2 : Int32) : Option (Int32 ⊕ Int32) :=
(xgI h x0 6 6).bind fun v1 =>
if v1 ≤ x2 then
some (.inr x2)
else
(xgR h x0 6 1).bind fun v3 =>
(fX8_at h v3 x2).bind fun v5 =>
if x1 ≤ v5 then
some (.inr x2)
else
some (.inl (x2 + (1 : Int32)))
def fX6_placeOfChange_B2 (h : XH) (x0 : Nat) (x1 : Int32) (s : Int32) : Option (Int32 ⊕ Int32) := fX6_placeOfChange_b2 h x0 x1 s
def fX6_placeOfChange (h : XH) (x0 : Nat) (x1 : Int32) : Option Int32 :=
(xloop (fX6_placeOfChange_B2 h x0 x1) 5000 (0 : Int32)).bind fun e7 =>
some e7
def fX6_hasChange (h : XH) (x0 : Nat) (x1 : Int32) : Option Bool :=
(xco h x0 6).bind fun _ =>
(fX6_placeOfChange h x0 x1).bind fun v2 =>
(xgI h x0 6 6).bind fun v4 =>
if v4 ≤ v2 then
some false
else
(xgR h x0 6 1).bind fun v6 =>
(fX8_at h v6 v2).bind fun v8 =>
if v8 = x1 then
some true
else
some false
def fX6_hasRoomFor (h : XH) (x0 : Nat) (x1 : Int32) : Option Bool :=
if x1 = 0 then
some true
else
(xco h x0 6).bind fun _ =>
(fX6_hasChange h x0 x1).bind fun v2 =>
if v2 = true then
some true
else
(xgI h x0 6 6).bind fun v4 =>
if (5 : Int32) ≤ v4 then
some false
else
some true
def fX6_insertChange_b11 (x0 : Nat) (x1 : Int32) (x2 : Int32) (h : XH) (x3 : Int32) : Option ((XH × Int32) ⊕ XH) :=
if x3 ≤ x2 then
some (.inr h)
else
(xgR h x0 6 1).bind fun v6 =>
(xgR h x0 6 1).bind fun v8 =>
(fX8_at h v8 (x3 - (1 : Int32))).bind fun v10 =>
(fX8_put h v6 x3 v10).bind fun h12 =>
(xgR h12 x0 6 2).bind fun v14 =>
(xgR h12 x0 6 2).bind fun v16 =>
(fX8_at h12 v16 (x3 - (1 : Int32))).bind fun v18 =>
(fX8_put h12 v14 x3 v18).bind fun h20 =>
some (.inl (h20, (x3 + (-1 : Int32))))
def fX6_insertChange_B11 (x0 : Nat) (x1 : Int32) (x2 : Int32) (s : (XH × Int32)) : Option ((XH × Int32) ⊕ XH) := fX6_insertChange_b11 x0 x1 x2 s.1 s.2
def fX6_insertChange (h : XH) (x0 : Nat) (x1 : Int32) : Option XH :=
(xco h x0 6).bind fun _ =>
(fX6_placeOfChange h x0 x1).bind fun v2 =>
(xgI h x0 6 6).bind fun v4 =>
(xloop (fX6_insertChange_B11 x0 x1 v2) 5000 (h, v4)).bind fun e22 =>
(xgR e22 x0 6 1).bind fun v24 =>
(fX8_put e22 v24 v2 x1).bind fun h26 =>
(xgI h26 x0 6 6).bind fun v28 =>
(xpf h26 x0 6 6 (.int (v28 + (1 : Int32)))).bind fun h30 =>
some h30
def fX6_looksTheSame (h : XH) (x0 : Nat) (x1 : Int32) (x2 : Int32) : Option Bool :=
(xco h x0 6).bind fun _ =>
(fX6_measure h x0).bind fun v2 =>
(xco h x0 6).bind fun _ =>
(fX6_turnsModulo h x0 v2 x1 x2 (1 : Int32)).bind fun v5 =>
(fJ13_bitCount_95d88 v5).bind fun v7 =>
if v7 = (1 : Int32) then
some true
else
some false
def fX6_markOf (h : XH) (x0 : Nat) (x1 : Int32) : Option Int32 :=
(xgR h x0 6 0).bind fun v1 =>
(fX8_at h v1 x1).bind fun v3 =>
some v3
def fX6_markedCells_b4 (h : XH) (x0 : Nat) (x1 : Int32) (x2 : Int32) : Option ((Int32 × Int32) ⊕ Int32) :=
(xgI h x0 6 3).bind fun v1 =>
if v1 ≤ x2 then
some (.inr x1)
else
(xco h x0 6).bind fun _ =>
(fX6_markOf h x0 x2).bind fun v4 =>
if v4 = 0 then
some (.inl (x1, (x2 + (1 : Int32))))
else
some (.inl ((x1 + (1 : Int32)), (x2 + (1 : Int32))))
def fX6_markedCells_B4 (h : XH) (x0 : Nat) (s : (Int32 × Int32)) : Option ((Int32 × Int32) ⊕ Int32) := fX6_markedCells_b4 h x0 s.1 s.2
def fX6_markedCells (h : XH) (x0 : Nat) : Option Int32 :=
(xloop (fX6_markedCells_B4 h x0) 5000 ((0 : Int32), (0 : Int32))).bind fun e6 =>
some e6
def fX6_marksPassing_b6 (h : XH) (x0 : Nat) (x1 : Int32) (x2 : Int64) (x4 : Int32) (x5 : Int32) : Option ((Int32 × Int32) ⊕ Int32) :=
(xgI h x0 6 3).bind fun v1 =>
if v1 ≤ x5 then
some (.inr x4)
else
(fX8_hasBit x2 x5).bind fun v3 =>
if v3 = true then
(xgI h x0 6 3).bind fun v5 =>
(fX8_mod (x1 - x5) v5).bind fun v7 =>
(xco h x0 6).bind fun _ =>
(fX6_markOf h x0 v7).bind fun v10 =>
xlet (x4 ||| ((1 : Int32) <<< (v10 &&& 31))) fun y12 =>
some (.inl (y12, (x5 + (1 : Int32))))
else
some (.inl (x4, (x5 + (1 : Int32))))
def fX6_marksPassing_B6 (h : XH) (x0 : Nat) (x1 : Int32) (x2 : Int64) (s : (Int32 × Int32)) : Option ((Int32 × Int32) ⊕ Int32) := fX6_marksPassing_b6 h x0 x1 x2 s.1 s.2
def fX6_marksPassing (h : XH) (x0 : Nat) (x1 : Int32) (x2 : Int64) : Option Int32 :=
(xloop (fX6_marksPassing_B6 h x0 x1 x2) 5000 ((0 : Int32), (0 : Int32))).bind fun e13 =>
some (e13 >>> ((1 : Int32) &&& 31))
def fX6_putSpeed (h : XH) (x0 : Nat) (x1 : Int32) (x2 : Int32) : Option XH :=
if x1 = 0 then
(xpf h x0 6 5 (.int x2)).bind fun h21 =>
some h21
else
(xco h x0 6).bind fun _ =>
(fX6_hasChange h x0 x1).bind fun v2 =>
if v2 = true then
(xgR h x0 6 2).bind fun v4 =>
(xco h x0 6).bind fun _ =>
(fX6_placeOfChange h x0 x1).bind fun v7 =>
(fX8_put h v4 v7 x2).bind fun h9 =>
some h9
else
(xco h x0 6).bind fun _ =>
(fX6_insertChange h x0 x1).bind fun h12 =>
(xgR h12 x0 6 2).bind fun v14 =>
(xco h12 x0 6).bind fun _ =>
(fX6_placeOfChange h12 x0 x1).bind fun v17 =>
(fX8_put h12 v14 v17 x2).bind fun h19 =>
some h19
def fX6_removeChange_b6 (x0 : Nat) (h : XH) (x2 : Int32) : Option ((XH × Int32) ⊕ XH) :=
(xgI h x0 6 6).bind fun v4 =>
if v4 ≤ (x2 + (1 : Int32)) then
some (.inr h)
else
(xgR h x0 6 1).bind fun v6 =>
(xgR h x0 6 1).bind fun v8 =>
(fX8_at h v8 (x2 + (1 : Int32))).bind fun v10 =>
(fX8_put h v6 x2 v10).bind fun h12 =>
(xgR h12 x0 6 2).bind fun v14 =>
(xgR h12 x0 6 2).bind fun v16 =>
(fX8_at h12 v16 (x2 + (1 : Int32))).bind fun v18 =>
(fX8_put h12 v14 x2 v18).bind fun h20 =>
some (.inl (h20, (x2 + (1 : Int32))))
def fX6_removeChange_B6 (x0 : Nat) (s : (XH × Int32)) : Option ((XH × Int32) ⊕ XH) := fX6_removeChange_b6 x0 s.1 s.2
def fX6_removeChange (h : XH) (x0 : Nat) (x1 : Int32) : Option XH :=
(xco h x0 6).bind fun _ =>
(fX6_placeOfChange h x0 x1).bind fun v2 =>
(xloop (fX6_removeChange_B6 x0) 5000 (h, v2)).bind fun e22 =>
(xgI e22 x0 6 6).bind fun v24 =>
(xpf e22 x0 6 6 (.int (v24 - (1 : Int32)))).bind fun h26 =>
some h26
def fX6_smearedPlaces_b18 (h : XH) (x0 : Nat) (x3 : Int64) (x5 : Int32) (x6 : Int32) : Option ((Int32 × Int32) ⊕ Int32) :=
(xgI h x0 6 3).bind fun v6 =>
if v6 ≤ x6 then
some (.inr x5)
else
(xco h x0 6).bind fun _ =>
(fX6_marksPassing h x0 x6 x3).bind fun v9 =>
(fJ6_bitCount_0f7a4 v9).bind fun v11 =>
if v11 ≤ (1 : Int32) then
some (.inl (x5, (x6 + (1 : Int32))))
else
some (.inl ((x5 + (1 : Int32)), (x6 + (1 : Int32))))
def fX6_smearedPlaces_B18 (h : XH) (x0 : Nat) (x3 : Int64) (s : (Int32 × Int32)) : Option ((Int32 × Int32) ⊕ Int32) := fX6_smearedPlaces_b18 h x0 x3 s.1 s.2
def fX6_smearedPlaces (h : XH) (x0 : Nat) (x1 : Int32) (x2 : Int32) : Option Int32 :=
(xgI h x0 6 3).bind fun v1 =>
(xco h x0 6).bind fun _ =>
(fX6_turnsModulo h x0 v1 x1 x2 (1 : Int32)).bind fun v4 =>
(xloop (fX6_smearedPlaces_B18 h x0 v4) 5000 ((0 : Int32), (0 : Int32))).bind fun e13 =>
some e13
def fX7_append (h : XH) (x0 : Nat) (x1 : Int32) : Option XH :=
(xgR h x0 7 0).bind fun v1 =>
(xgI h x0 7 2).bind fun v3 =>
(fX8_put h v1 v3 x1).bind fun h5 =>
(xgI h5 x0 7 2).bind fun v7 =>
(xpf h5 x0 7 2 (.int (v7 + (1 : Int32)))).bind fun h9 =>
some h9
def fX7_code (h : XH) (x0 : Nat) : Option Int32 :=
(xgI h x0 7 1).bind fun v1 =>
(xgI h x0 7 2).bind fun v3 =>
if v3 ≤ v1 then
some (0 : Int32)
else
(xgR h x0 7 0).bind fun v5 =>
(xgI h x0 7 1).bind fun v7 =>
(fX8_at h v5 v7).bind fun v9 =>
some v9
def fX7_init (h : XH) (n : Nat) (x0 : Nat) : Option XH :=
(xnw h n (.inr (0, 80, .inl (fun _ => 0)))).bind fun h1 =>
(xpf h1 x0 7 0 (.ref n)).bind fun h3 =>
(xpf h3 x0 7 3 (.int (0 : Int32))).bind fun h5 =>
some h5
def fX8_within (x0 : Int32) (x1 : Int32) (x2 : Int32) : Option Bool :=
if x0 < x1 then
some false
else
if x2 < x0 then
some false
else
some true
def fX7_isCell (x0 : Int32) : Option Bool :=
if x0 = (46 : Int32) then
some true
else
(fX8_within x0 (97 : Int32) (99 : Int32)).bind fun v1 =>
if v1 = true then
some true
else
some false
def fX7_isDigit (x0 : Int32) : Option Bool :=
(fX8_within x0 (48 : Int32) (57 : Int32)).bind fun v1 =>
some v1
def fX7_tellFault (h : XH) (x0 : Nat) (x1 : Int32) (x2 : Int32) : Option XH :=
(xpf h x0 7 3 (.int x1)).bind fun h1 =>
(xpf h1 x0 7 4 (.int x2)).bind fun h3 =>
some h3
def fX7_readCells_b0 (x0 : Nat) (x1 : Nat) (h : XH) : Option (XH ⊕ XH) :=
(xgI h x0 7 1).bind fun v46 =>
(xgI h x0 7 2).bind fun v48 =>
if v48 ≤ v46 then
some (.inr h)
else
(xgI h x1 6 3).bind fun v50 =>
if (60 : Int32) ≤ v50 then
some (.inr h)
else
(xco h x0 7).bind fun _ =>
(fX7_code h x0).bind fun v53 =>
(fX7_isCell v53).bind fun v55 =>
if v55 = true then
(xco h x0 7).bind fun _ =>
(fX7_code h x0).bind fun v58 =>
if v58 = (46 : Int32) then
(xco h x1 6).bind fun _ =>
(fX6_addCell h x1 (0 : Int32)).bind fun h71 =>
(xgI h71 x0 7 1).bind fun v73 =>
(xpf h71 x0 7 1 (.int (v73 + (1 : Int32)))).bind fun h75 =>
some (.inl h75)
else
(xco h x0 7).bind fun _ =>
(fX7_code h x0).bind fun v61 =>
(xco h x1 6).bind fun _ =>
(fX6_addCell h x1 ((v61 - (97 : Int32)) + (1 : Int32))).bind fun h64 =>
(xgI h64 x0 7 1).bind fun v66 =>
(xpf h64 x0 7 1 (.int (v66 + (1 : Int32)))).bind fun h68 =>
some (.inl h68)
else
some (.inr h)
def fX7_readCells_B0 (x0 : Nat) (x1 : Nat) (s : XH) : Option (XH ⊕ XH) := fX7_readCells_b0 x0 x1 s
def fX7_readCells_J53 (h : XH) (x0 : Nat) (x1 : Nat) (s0 : Nat) (s1 : Int32) : Option (XH) :=
(xco h s0 6).bind fun _ =>
(fX6_addCell h s0 s1).bind fun h40 =>
(xgI h40 x0 7 1).bind fun v42 =>
(xpf h40 x0 7 1 (.int (v42 + (1 : Int32)))).bind fun h44 =>
(xloop (fX7_readCells_B0 x0 x1) 5000 h44).bind fun e77 =>
(xgI e77 x1 6 3).bind fun v79 =>
if v79 = 0 then
(xgI e77 x0 7 1).bind fun v81 =>
(xco e77 x0 7).bind fun _ =>
(fX7_tellFault e77 x0 (1 : Int32) v81).bind fun h84 =>
some h84
else
some e77
def fX7_readCells (h : XH) (x0 : Nat) (x1 : Nat) : Option XH :=
(xgI h x0 7 1).bind fun v1 =>
(xgI h x0 7 2).bind fun v3 =>
if v3 ≤ v1 then
(xgI h x1 6 3).bind fun v5 =>
if v5 = 0 then
(xgI h x0 7 1).bind fun v7 =>
(xco h x0 7).bind fun _ =>
(fX7_tellFault h x0 (1 : Int32) v7).bind fun h10 =>
some h10
else
some h
else
(xgI h x1 6 3).bind fun v12 =>
if (60 : Int32) ≤ v12 then
(xgI h x1 6 3).bind fun v14 =>
if v14 = 0 then
(xgI h x0 7 1).bind fun v16 =>
(xco h x0 7).bind fun _ =>
(fX7_tellFault h x0 (1 : Int32) v16).bind fun h19 =>
some h19
else
some h
else
(xco h x0 7).bind fun _ =>
(fX7_code h x0).bind fun v22 =>
(fX7_isCell v22).bind fun v24 =>
if v24 = true then
(xco h x0 7).bind fun _ =>
(fX7_code h x0).bind fun v34 =>
if v34 = (46 : Int32) then
fX7_readCells_J53 h x0 x1 x1 (0 : Int32)
else
(xco h x0 7).bind fun _ =>
(fX7_code h x0).bind fun v37 =>
fX7_readCells_J53 h x0 x1 x1 ((v37 - (97 : Int32)) + (1 : Int32))
else
(xgI h x1 6 3).bind fun v26 =>
if v26 = 0 then
(xgI h x0 7 1).bind fun v28 =>
(xco h x0 7).bind fun _ =>
(fX7_tellFault h x0 (1 : Int32) v28).bind fun h31 =>
some h31
else
some h
def fX7_readNumber_b8 (x0 : Nat) (x1 : Int32) (x2 : Int32) (x3 : Int32) (h : XH) (x4 : Int32) : Option ((XH × Int32) ⊕ (XH × Int32)) :=
(xco h x0 7).bind fun _ =>
(fX7_code h x0).bind fun v4 =>
(fX7_isDigit v4).bind fun v6 =>
if v6 = true then
(xgI h x0 7 1).bind fun v8 =>
if x1 ≤ (v8 - x3) then
some (.inr (h, x4))
else
(xco h x0 7).bind fun _ =>
(fX7_code h x0).bind fun v11 =>
xlet ((((10 : Int32) * x4) + v11) - (48 : Int32)) fun y13 =>
(xgI h x0 7 1).bind fun v14 =>
(xpf h x0 7 1 (.int (v14 + (1 : Int32)))).bind fun h16 =>
some (.inl (h16, y13))
else
some (.inr (h, x4))
def fX7_readNumber_B8 (x0 : Nat) (x1 : Int32) (x2 : Int32) (x3 : Int32) (s : (XH × Int32)) : Option ((XH × Int32) ⊕ (XH × Int32)) := fX7_readNumber_b8 x0 x1 x2 x3 s.1 s.2
def fX7_readNumber (h : XH) (x0 : Nat) (x1 : Int32) (x2 : Int32) : Option (Int32 × XH) :=
(xgI h x0 7 1).bind fun v1 =>
(xloop (fX7_readNumber_B8 x0 x1 x2 v1) 5000 (h, (0 : Int32))).bind fun e18 =>
(xgI e18.1 x0 7 1).bind fun v20 =>
if v20 = v1 then
(xgI e18.1 x0 7 1).bind fun v22 =>
(xco e18.1 x0 7).bind fun _ =>
(fX7_tellFault e18.1 x0 (1 : Int32) v22).bind fun h25 =>
some (e18.2, h25)
else
(xco e18.1 x0 7).bind fun _ =>
(fX7_code e18.1 x0).bind fun v28 =>
(fX7_isDigit v28).bind fun v30 =>
if v30 = true then
(xgI e18.1 x0 7 1).bind fun v35 =>
(xco e18.1 x0 7).bind fun _ =>
(fX7_tellFault e18.1 x0 (1 : Int32) v35).bind fun h38 =>
some (e18.2, h38)
else
if e18.2 ≤ x2 then
some (e18.2, e18.1)
else
(xco e18.1 x0 7).bind fun _ =>
(fX7_tellFault e18.1 x0 (2 : Int32) v1).bind fun h33 =>
some (e18.2, h33)
def fX7_takes (h : XH) (x0 : Nat) (x1 : Int32) : Option (Bool × XH) :=
(xco h x0 7).bind fun _ =>
(fX7_code h x0).bind fun v2 =>
if v2 = x1 then
(xgI h x0 7 1).bind fun v4 =>
(xpf h x0 7 1 (.int (v4 + (1 : Int32)))).bind fun h6 =>
some (true, h6)
else
some (false, h)
def fX7_readSpeed (h : XH) (x0 : Nat) : Option (Int32 × XH) :=
(xco h x0 7).bind fun _ =>
(fX7_takes h x0 (45 : Int32)).bind fun v2 =>
if v2.1 = true then
(xco v2.2 x0 7).bind fun _ =>
(fX7_readNumber v2.2 x0 (4 : Int32) (1000 : Int32)).bind fun v8 =>
some ((-v8.1), v8.2)
else
(xco v2.2 x0 7).bind fun _ =>
(fX7_readNumber v2.2 x0 (4 : Int32) (1000 : Int32)).bind fun v5 =>
some (v5.1, v5.2)
def fX7_readInto_J97 (h : XH) (x0 : Nat) : Option (Bool × XH) :=
(xgI h x0 7 3).bind fun v17 =>
if v17 = 0 then
some (true, h)
else
some (false, h)
def fX7_readInto_J70 (h : XH) (x0 : Nat) : Option (Bool × XH) :=
(xgI h x0 7 3).bind fun v15 =>
if v15 = 0 then
(xgI h x0 7 1).bind fun v19 =>
(xgI h x0 7 2).bind fun v21 =>
if v21 ≤ v19 then
fX7_readInto_J97 h x0
else
(xgI h x0 7 1).bind fun v23 =>
(xco h x0 7).bind fun _ =>
(fX7_tellFault h x0 (1 : Int32) v23).bind fun h26 =>
fX7_readInto_J97 h26 x0
else
fX7_readInto_J97 h x0
def fX7_readInto_J46 (h : XH) (x0 : Nat) (x1 : Nat) : Option (Bool × XH) :=
(xgI h x0 7 3).bind fun v13 =>
if v13 = 0 then
(xco h x0 7).bind fun _ =>
(fX7_takes h x0 (42 : Int32)).bind fun v29 =>
if v29.1 = true then
(xco v29.2 x0 7).bind fun _ =>
(fX7_readSpeed v29.2 x0).bind fun v32 =>
(xpf v32.2 x1 6 5 (.int v32.1)).bind fun h34 =>
fX7_readInto_J70 h34 x0
else
fX7_readInto_J70 v29.2 x0
else
fX7_readInto_J70 h x0
def fX7_readInto (h : XH) (x0 : Nat) (x1 : Nat) : Option (Bool × XH) :=
(xpf h x0 7 1 (.int (0 : Int32))).bind fun h1 =>
(xpf h1 x0 7 3 (.int (0 : Int32))).bind fun h3 =>
(xco h3 x1 6).bind fun _ =>
(fX6_empty h3 x1).bind fun h6 =>
(xco h6 x0 7).bind fun _ =>
(fX7_readCells h6 x0 x1).bind fun h9 =>
(xgI h9 x0 7 3).bind fun v11 =>
if v11 = 0 then
(xco h9 x0 7).bind fun _ =>
(fX7_takes h9 x0 (64 : Int32)).bind fun v37 =>
if v37.1 = true then
(xco v37.2 x0 7).bind fun _ =>
(fX7_readNumber v37.2 x0 (2 : Int32) (59 : Int32)).bind fun v40 =>
(xpf v40.2 x1 6 4 (.int v40.1)).bind fun h42 =>
fX7_readInto_J46 h42 x0 x1
else
fX7_readInto_J46 v37.2 x0 x1
else
fX7_readInto_J46 h9 x0 x1
def fX8_addReading (h : XH) (x0 : Nat) (x1 : Int32) (x2 : Int32) : Option (Int32 × XH) :=
(xgR h x0 8 0).bind fun v1 =>
(xgR h v1 5 2).bind fun v3 =>
(xgI h v3 4 2).bind fun v5 =>
if v5 < (8 : Int32) then
(xgR h x0 8 1).bind fun v7 =>
(xgR h x0 8 0).bind fun v9 =>
(xco h v7 3).bind fun _ =>
(fX3_remember h v7 v9).bind fun h12 =>
(xgR h12 x0 8 0).bind fun v14 =>
(xgR h12 v14 5 2).bind fun v16 =>
(xco h12 v16 4).bind fun _ =>
(fX4_add h12 v16 x1 x2).bind fun h19 =>
(xgR h19 x0 8 0).bind fun v21 =>
(xgR h19 v21 5 2).bind fun v23 =>
(xgI h19 v23 4 2).bind fun v25 =>
some ((v25 - (1 : Int32)), h19)
else
some ((-1003 : Int32), h)
def fX8_findWithout (h : XH) (x0 : Nat) (x1 : Int32) : Option (Nat × XH) :=
(xgR h x0 8 4).bind fun v1 =>
(xgR h x0 8 0).bind fun v3 =>
(xgR h v3 5 0).bind fun v5 =>
(xco h v5 6).bind fun _ =>
(fX6_measure h v5).bind fun v8 =>
(xgR h x0 8 0).bind fun v10 =>
(xgR h v10 5 2).bind fun v12 =>
(xco h v1 0).bind fun _ =>
(fX0_find h v1 v8 v12 x1).bind fun h15 =>
(xgR h15 x0 8 4).bind fun v17 =>
some (v17, h15)
def fX8_bestPeriod_b49 (x1 : Int32) (x2 : Bool) (x3 : Nat) (h : XH) (x4 : Int32) (x5 : Int32) (x6 : Int32) : Option ((XH × Int32 × Int32 × Int32) ⊕ (XH × Int32 × Int32)) :=
if x1 < x6 then
some (.inr (h, x4, x5))
else
(xco h x3 0).bind fun _ =>
(fX0_restOf h x3 x6).bind fun v16 =>
if x5 ≤ v16.1 then
some (.inl (v16.2, x4, x5, (x6 + (1 : Int32))))
else
some (.inl (v16.2, x6, v16.1, (x6 + (1 : Int32))))
def fX8_bestPeriod_B49 (x1 : Int32) (x2 : Bool) (x3 : Nat) (s : (XH × Int32 × Int32 × Int32)) : Option ((XH × Int32 × Int32 × Int32) ⊕ (XH × Int32 × Int32)) := fX8_bestPeriod_b49 x1 x2 x3 s.1 s.2.1 s.2.2.1 s.2.2.2
def fX8_bestPeriod (h : XH) (x0 : Nat) (x1 : Int32) (x2 : Bool) : Option (Int32 × XH) :=
(fX8_within x1 (1 : Int32) (500 : Int32)).bind fun v1 =>
if v1 = true then
(xco h x0 8).bind fun _ =>
(fX8_findWithout h x0 (-1 : Int32)).bind fun v4 =>
(xco v4.2 v4.1 0).bind fun _ =>
(fX0_number v4.2 v4.1).bind fun v7 =>
if v7 = 0 then
some ((-1004 : Int32), v4.2)
else
(xco v4.2 v4.1 0).bind fun _ =>
(fX0_countByRemainder v4.2 v4.1).bind fun h10 =>
(xco h10 v4.1 0).bind fun _ =>
(fX0_restOf h10 v4.1 (1 : Int32)).bind fun v13 =>
(xloop (fX8_bestPeriod_B49 x1 x2 v4.1) 5000 (v13.2, (1 : Int32), v13.1, (2 : Int32))).bind fun e18 =>
if x2 = true then
some (e18.2.2, e18.1)
else
some (e18.2.1, e18.1)
else
some ((-1001 : Int32), h)
def fX8_candidate (h : XH) (x0 : Nat) (x1 : Int32) : Option (Int32 × XH) :=
if 0 ≤ x1 then
(xco h x0 8).bind fun _ =>
(fX8_findWithout h x0 (-1 : Int32)).bind fun v2 =>
(xco v2.2 v2.1 0).bind fun _ =>
(fX0_inOrder v2.2 v2.1 x1).bind fun v5 =>
some (v5, v2.2)
else
some ((-1001 : Int32), h)
def fX8_candidates (h : XH) (x0 : Nat) : Option (Int32 × XH) :=
(xco h x0 8).bind fun _ =>
(fX8_findWithout h x0 (-1 : Int32)).bind fun v2 =>
(xco v2.2 v2.1 0).bind fun _ =>
(fX0_number v2.2 v2.1).bind fun v5 =>
some (v5, v2.2)
def fX8_clearText (h : XH) (x0 : Nat) : Option (Int32 × XH) :=
(xgR h x0 8 2).bind fun v1 =>
(xgI h v1 7 2).bind fun v3 =>
(xgR h x0 8 2).bind fun v5 =>
(xpf h v5 7 2 (.int (0 : Int32))).bind fun h7 =>
some (v3, h7)
def fX8_count (h : XH) (x0 : Nat) (x1 : Int32) : Option Int32 :=
if x1 = 0 then
(xgR h x0 8 0).bind fun v19 =>
(xgR h v19 5 0).bind fun v21 =>
(xgI h v21 6 3).bind fun v23 =>
some v23
else
if x1 = 1 then
(xgR h x0 8 0).bind fun v25 =>
(xgR h v25 5 0).bind fun v27 =>
(xco h v27 6).bind fun _ =>
(fX6_markedCells h v27).bind fun v30 =>
some v30
else
if x1 = 2 then
(xgR h x0 8 0).bind fun v32 =>
(xgR h v32 5 0).bind fun v34 =>
(xco h v34 6).bind fun _ =>
(fX6_measure h v34).bind fun v37 =>
some v37
else
if x1 = 3 then
(xgR h x0 8 0).bind fun v39 =>
(xgR h v39 5 0).bind fun v41 =>
(xgI h v41 6 4).bind fun v43 =>
some v43
else
if x1 = 4 then
(xgR h x0 8 0).bind fun v45 =>
(xgR h v45 5 0).bind fun v47 =>
(xgI h v47 6 5).bind fun v49 =>
some v49
else
if x1 = 5 then
(xgR h x0 8 0).bind fun v51 =>
(xgR h v51 5 0).bind fun v53 =>
(xgI h v53 6 6).bind fun v55 =>
some v55
else
if x1 = 6 then
(xgR h x0 8 0).bind fun v57 =>
(xgR h v57 5 1).bind fun v59 =>
(xgI h v59 2 0).bind fun v61 =>
some v61
else
if x1 = 7 then
(xgR h x0 8 0).bind fun v63 =>
(xgR h v63 5 1).bind fun v65 =>
(xgI h v65 2 1).bind fun v67 =>
some v67
else
if x1 = 8 then
(xgR h x0 8 0).bind fun v69 =>
(xgR h v69 5 1).bind fun v71 =>
(xco h v71 2).bind fun _ =>
(fX2_number h v71).bind fun v74 =>
some v74
else
if x1 = 9 then
(xgR h x0 8 0).bind fun v76 =>
(xgR h v76 5 2).bind fun v78 =>
(xgI h v78 4 2).bind fun v80 =>
some v80
else
if x1 = 10 then
(xgR h x0 8 0).bind fun v82 =>
(xgR h v82 5 2).bind fun v84 =>
(xgI h v84 4 3).bind fun v86 =>
some v86
else
if x1 = 11 then
(xgR h x0 8 0).bind fun v88 =>
(xgR h v88 5 3).bind fun v90 =>
(xgI h v90 1 0).bind fun v92 =>
some v92
else
if x1 = 12 then
(xgR h x0 8 0).bind fun v94 =>
(xgR h v94 5 3).bind fun v96 =>
(xgI h v96 1 1).bind fun v98 =>
some v98
else
if x1 = 13 then
(xgR h x0 8 0).bind fun v100 =>
(xgR h v100 5 3).bind fun v102 =>
(xgI h v102 1 2).bind fun v104 =>
some v104
else
if x1 = 14 then
(xgR h x0 8 0).bind fun v106 =>
(xgR h v106 5 3).bind fun v108 =>
(xgI h v108 1 3).bind fun v110 =>
some v110
else
if x1 = 15 then
(xgR h x0 8 0).bind fun v112 =>
(xgR h v112 5 3).bind fun v114 =>
(xco h v114 1).bind fun _ =>
(fX1_openings h v114).bind fun v117 =>
some v117
else
if x1 = 16 then
(xgR h x0 8 2).bind fun v119 =>
(xgI h v119 7 2).bind fun v121 =>
some v121
else
if x1 = 17 then
(xgR h x0 8 1).bind fun v123 =>
(xgI h v123 3 2).bind fun v125 =>
some v125
else
some (-1001 : Int32)
def fX8_opening (h : XH) (x0 : Nat) (x1 : Int32) (x2 : Int32) : Option Int32 :=
if x1 < 0 then
some (-1001 : Int32)
else
(fX8_within x2 (0 : Int32) (3 : Int32)).bind fun v1 =>
if v1 = true then
(xgR h x0 8 0).bind fun v3 =>
(xgR h v3 5 3).bind fun v5 =>
(xco h v5 1).bind fun _ =>
(fX1_firstTickOf h v5 x1).bind fun v8 =>
if 0 ≤ v8 then
(xgR h x0 8 0).bind fun v10 =>
(xgR h v10 5 3).bind fun v12 =>
(xco h v12 1).bind fun _ =>
(fX1_ticksFrom h v12 v8).bind fun v15 =>
if x2 = 0 then
some v8
else
if x2 = 1 then
some v15
else
if x2 = 2 then
(xgR h x0 8 0).bind fun v20 =>
(xgR h v20 5 0).bind fun v22 =>
(xco h v22 6).bind fun _ =>
(fX6_smearedPlaces h v22 v8 v15).bind fun v25 =>
some v25
else
(xgR h x0 8 0).bind fun v27 =>
(xgR h v27 5 0).bind fun v29 =>
(xco h v29 6).bind fun _ =>
(fX6_looksTheSame h v29 v8 v15).bind fun v32 =>
if v32 = true then
some (1 : Int32)
else
some (0 : Int32)
else
some (-1004 : Int32)
else
some (-1001 : Int32)
def fX8_isPlace (h : XH) (x0 : Nat) (x1 : Int32) : Option Bool :=
(xgR h x0 8 0).bind fun v1 =>
(xgR h v1 5 0).bind fun v3 =>
(xgI h v3 6 3).bind fun v5 =>
(fX8_within x1 (0 : Int32) (v5 - (1 : Int32))).bind fun v7 =>
some v7
def fX8_smear (h : XH) (x0 : Nat) (x1 : Int32) (x2 : Int32) : Option Int32 :=
if x1 < 0 then
some (-1001 : Int32)
else
(xco h x0 8).bind fun _ =>
(fX8_isPlace h x0 x2).bind fun v2 =>
if v2 = true then
(xgR h x0 8 0).bind fun v4 =>
(xgR h v4 5 3).bind fun v6 =>
(xco h v6 1).bind fun _ =>
(fX1_firstTickOf h v6 x1).bind fun v9 =>
if 0 ≤ v9 then
(xgR h x0 8 0).bind fun v11 =>
(xgR h v11 5 0).bind fun v13 =>
(xgR h x0 8 0).bind fun v15 =>
(xgR h v15 5 0).bind fun v17 =>
(xgI h v17 6 3).bind fun v19 =>
(xgR h x0 8 0).bind fun v21 =>
(xgR h v21 5 3).bind fun v23 =>
(xco h v23 1).bind fun _ =>
(fX1_ticksFrom h v23 v9).bind fun v26 =>
(xco h v13 6).bind fun _ =>
(fX6_turnsModulo h v13 v19 v9 v26 (1 : Int32)).bind fun v29 =>
(xgR h x0 8 0).bind fun v31 =>
(xgR h v31 5 0).bind fun v33 =>
(xco h v33 6).bind fun _ =>
(fX6_marksPassing h v33 x2 v29).bind fun v36 =>
some v36
else
some (-1004 : Int32)
else
some (-1001 : Int32)
def fX8_digestOfOpenings_b14 (h : XH) (x0 : Nat) (x5 : Int32) (x3 : Int64) (x6 : Int32) : Option ((Int64 × Int32) ⊕ Int64) :=
if (3 : Int32) < x6 then
some (.inr x3)
else
(xco h x0 8).bind fun _ =>
(fX8_opening h x0 x5 x6).bind fun v2 =>
xlet (((31 : Int64) * x3) + (v2.toInt64)) fun y4 =>
some (.inl (y4, (x6 + (1 : Int32))))
def fX8_digestOfOpenings_B14 (h : XH) (x0 : Nat) (x5 : Int32) (s : (Int64 × Int32)) : Option ((Int64 × Int32) ⊕ Int64) := fX8_digestOfOpenings_b14 h x0 x5 s.1 s.2
def fX8_digestOfOpenings_b5 (h : XH) (x0 : Nat) (x3 : Int64) (x5 : Int32) : Option ((Int64 × Int32) ⊕ Int64) :=
if (4 : Int32) < x5 then
some (.inr x3)
else
(xloop (fX8_digestOfOpenings_B14 h x0 x5) 5000 (x3, (0 : Int32))).bind fun e5 =>
(xco h x0 8).bind fun _ =>
(fX8_smear h x0 x5 (0 : Int32)).bind fun v8 =>
xlet (((31 : Int64) * e5) + (v8.toInt64)) fun y10 =>
some (.inl (y10, (x5 + (1 : Int32))))
def fX8_digestOfOpenings_B5 (h : XH) (x0 : Nat) (s : (Int64 × Int32)) : Option ((Int64 × Int32) ⊕ Int64) := fX8_digestOfOpenings_b5 h x0 s.1 s.2
def fX8_digestOfOpenings (h : XH) (x0 : Nat) (x1 : Int64) : Option Int64 :=
(xloop (fX8_digestOfOpenings_B5 h x0) 5000 (x1, (0 : Int32))).bind fun e11 =>
some e11
def fX8_isFlash (h : XH) (x0 : Nat) (x1 : Int32) : Option Bool :=
(xgR h x0 8 0).bind fun v1 =>
(xgR h v1 5 1).bind fun v3 =>
(xco h v3 2).bind fun _ =>
(fX2_number h v3).bind fun v6 =>
(fX8_within x1 (0 : Int32) (v6 - (1 : Int32))).bind fun v8 =>
some v8
def fX8_isTick (x0 : Int32) : Option Bool :=
(fX8_within x0 (0 : Int32) (1000 : Int32)).bind fun v1 =>
some v1
def fX8_step (h : XH) (x0 : Nat) (x1 : Int32) (x2 : Int32) : Option Int32 :=
(fX8_isTick x1).bind fun v1 =>
if v1 = true then
(fX8_isTick x2).bind fun v3 =>
if v3 = true then
(xgR h x0 8 0).bind fun v5 =>
(xgR h v5 5 0).bind fun v7 =>
(xgR h x0 8 0).bind fun v9 =>
(xgR h v9 5 0).bind fun v11 =>
(xco h v11 6).bind fun _ =>
(fX6_measure h v11).bind fun v14 =>
(xco h v7 6).bind fun _ =>
(fX6_stepBetween h v7 x1 x2 v14).bind fun v17 =>
some v17
else
some (-1001 : Int32)
else
some (-1001 : Int32)
def fX8_turn (h : XH) (x0 : Nat) (x1 : Int32) : Option Int32 :=
(fX8_isTick x1).bind fun v1 =>
if v1 = true then
(xgR h x0 8 0).bind fun v3 =>
(xgR h v3 5 0).bind fun v5 =>
(xco h v5 6).bind fun _ =>
(fX6_turnAt h v5 x1).bind fun v8 =>
(xgR h x0 8 0).bind fun v10 =>
(xgR h v10 5 0).bind fun v12 =>
(xgI h v12 6 3).bind fun v14 =>
(fX8_mod v8 v14).bind fun v16 =>
some v16
else
some (-1001 : Int32)
def fX8_flash (h : XH) (x0 : Nat) (x1 : Int32) (x2 : Int32) : Option Int32 :=
(xco h x0 8).bind fun _ =>
(fX8_isFlash h x0 x1).bind fun v2 =>
if v2 = true then
(fX8_within x2 (0 : Int32) (3 : Int32)).bind fun v4 =>
if v4 = true then
(xgR h x0 8 0).bind fun v6 =>
(xgR h v6 5 1).bind fun v8 =>
(xco h v8 2).bind fun _ =>
(fX2_tickOf h v8 x1).bind fun v11 =>
if x2 = 0 then
some v11
else
if x2 = 1 then
(xco h x0 8).bind fun _ =>
(fX8_turn h x0 v11).bind fun v17 =>
some v17
else
if x2 = 2 then
(xco h x0 8).bind fun _ =>
(fX8_isFlash h x0 (x1 + (1 : Int32))).bind fun v20 =>
if v20 = true then
(xgR h x0 8 0).bind fun v22 =>
(xgR h v22 5 1).bind fun v24 =>
(xco h v24 2).bind fun _ =>
(fX2_tickOf h v24 (x1 + (1 : Int32))).bind fun v27 =>
(xco h x0 8).bind fun _ =>
(fX8_step h x0 v11 v27).bind fun v30 =>
some v30
else
some (-1004 : Int32)
else
(xgR h x0 8 0).bind fun v32 =>
(xco h v32 5).bind fun _ =>
(fX5_earliestAlike h v32 x1).bind fun v35 =>
some v35
else
some (-1001 : Int32)
else
some (-1001 : Int32)
def fX8_markAt (h : XH) (x0 : Nat) (x1 : Int32) (x2 : Int32) : Option Int32 :=
(fX8_isTick x1).bind fun v1 =>
if v1 = true then
(xco h x0 8).bind fun _ =>
(fX8_isPlace h x0 x2).bind fun v4 =>
if v4 = true then
(xgR h x0 8 0).bind fun v6 =>
(xgR h v6 5 0).bind fun v8 =>
(xgR h x0 8 0).bind fun v10 =>
(xgR h v10 5 0).bind fun v12 =>
(xco h v12 6).bind fun _ =>
(fX6_turnAt h v12 x1).bind fun v15 =>
(xgR h x0 8 0).bind fun v17 =>
(xgR h v17 5 0).bind fun v19 =>
(xgI h v19 6 3).bind fun v21 =>
(fX8_mod (x2 - v15) v21).bind fun v23 =>
(xco h v8 6).bind fun _ =>
(fX6_markOf h v8 v23).bind fun v26 =>
some v26
else
some (-1001 : Int32)
else
some (-1001 : Int32)
def fX8_seems (h : XH) (x0 : Nat) (x1 : Int32) : Option Int32 :=
(fX8_within x1 (0 : Int32) (3 : Int32)).bind fun v1 =>
if v1 = true then
if x1 = (3 : Int32) then
(xgR h x0 8 0).bind fun v8 =>
(xco h v8 5).bind fun _ =>
(fX5_differentPictures h v8).bind fun v11 =>
some v11
else
(xgR h x0 8 0).bind fun v3 =>
(xco h v3 5).bind fun _ =>
(fX5_countSeeming h v3 x1).bind fun v6 =>
some v6
else
some (-1001 : Int32)
def fX8_digestOfPictures_b5 (h : XH) (x0 : Nat) (x3 : Int64) (x5 : Int32) : Option ((Int64 × Int32) ⊕ Int64) :=
(xgR h x0 8 0).bind fun v1 =>
(xgR h v1 5 0).bind fun v3 =>
(xgI h v3 6 3).bind fun v5 =>
if v5 ≤ x5 then
some (.inr x3)
else
(xco h x0 8).bind fun _ =>
(fX8_markAt h x0 (0 : Int32) x5).bind fun v8 =>
xlet (((31 : Int64) * x3) + (v8.toInt64)) fun y10 =>
(xco h x0 8).bind fun _ =>
(fX8_markAt h x0 (1000 : Int32) x5).bind fun v12 =>
xlet (((31 : Int64) * y10) + (v12.toInt64)) fun y14 =>
some (.inl (y14, (x5 + (1 : Int32))))
def fX8_digestOfPictures_B5 (h : XH) (x0 : Nat) (s : (Int64 × Int32)) : Option ((Int64 × Int32) ⊕ Int64) := fX8_digestOfPictures_b5 h x0 s.1 s.2
def fX8_digestOfPictures_b80 (h : XH) (x0 : Nat) (x5 : Int32) (x3 : Int64) (x6 : Int32) : Option ((Int64 × Int32) ⊕ Int64) :=
if (3 : Int32) < x6 then
some (.inr x3)
else
(xco h x0 8).bind fun _ =>
(fX8_flash h x0 x5 x6).bind fun v21 =>
xlet (((31 : Int64) * x3) + (v21.toInt64)) fun y23 =>
some (.inl (y23, (x6 + (1 : Int32))))
def fX8_digestOfPictures_B80 (h : XH) (x0 : Nat) (x5 : Int32) (s : (Int64 × Int32)) : Option ((Int64 × Int32) ⊕ Int64) := fX8_digestOfPictures_b80 h x0 x5 s.1 s.2
def fX8_digestOfPictures_b61 (h : XH) (x0 : Nat) (x3 : Int64) (x5 : Int32) : Option ((Int64 × Int32) ⊕ Int64) :=
if (20 : Int32) ≤ x5 then
some (.inr x3)
else
(xco h x0 8).bind fun _ =>
(fX8_isFlash h x0 x5).bind fun v18 =>
if v18 = true then
(xloop (fX8_digestOfPictures_B80 h x0 x5) 5000 (x3, (0 : Int32))).bind fun e24 =>
some (.inl (e24, (x5 + (1 : Int32))))
else
some (.inr x3)
def fX8_digestOfPictures_B61 (h : XH) (x0 : Nat) (s : (Int64 × Int32)) : Option ((Int64 × Int32) ⊕ Int64) := fX8_digestOfPictures_b61 h x0 s.1 s.2
def fX8_digestOfPictures_b117 (h : XH) (x0 : Nat) (x3 : Int64) (x5 : Int32) : Option ((Int64 × Int32) ⊕ Int64) :=
if (3 : Int32) < x5 then
some (.inr x3)
else
(xco h x0 8).bind fun _ =>
(fX8_seems h x0 x5).bind fun v29 =>
xlet (((31 : Int64) * x3) + (v29.toInt64)) fun y31 =>
some (.inl (y31, (x5 + (1 : Int32))))
def fX8_digestOfPictures_B117 (h : XH) (x0 : Nat) (s : (Int64 × Int32)) : Option ((Int64 × Int32) ⊕ Int64) := fX8_digestOfPictures_b117 h x0 s.1 s.2
def fX8_digestOfPictures (h : XH) (x0 : Nat) (x1 : Int64) : Option Int64 :=
(xloop (fX8_digestOfPictures_B5 h x0) 5000 (x1, (0 : Int32))).bind fun e15 =>
(xloop (fX8_digestOfPictures_B61 h x0) 5000 (e15, (0 : Int32))).bind fun e26 =>
(xloop (fX8_digestOfPictures_B117 h x0) 5000 (e26, (0 : Int32))).bind fun e32 =>
some e32
def fX8_nearest (h : XH) (x0 : Nat) (x1 : Int32) : Option (Int32 × XH) :=
(fX8_within x1 (-1000 : Int32) (1000 : Int32)).bind fun v1 =>
if v1 = true then
(xco h x0 8).bind fun _ =>
(fX8_findWithout h x0 (-1 : Int32)).bind fun v4 =>
(xco v4.2 v4.1 0).bind fun _ =>
(fX0_nearestTo v4.2 v4.1 x1).bind fun v7 =>
some (v7, v4.2)
else
some ((-1001 : Int32), h)
def fX8_isReading (h : XH) (x0 : Nat) (x1 : Int32) : Option Bool :=
(xgR h x0 8 0).bind fun v1 =>
(xgR h v1 5 2).bind fun v3 =>
(xgI h v3 4 2).bind fun v5 =>
(fX8_within x1 (0 : Int32) (v5 - (1 : Int32))).bind fun v7 =>
some v7
def fX8_reading (h : XH) (x0 : Nat) (x1 : Int32) (x2 : Int32) : Option (Int32 × XH) :=
(xco h x0 8).bind fun _ =>
(fX8_isReading h x0 x1).bind fun v2 =>
if v2 = true then
(fX8_within x2 (0 : Int32) (2 : Int32)).bind fun v4 =>
if v4 = true then
if x2 = 0 then
(xgR h x0 8 0).bind fun v8 =>
(xgR h v8 5 2).bind fun v10 =>
(xgR h v10 4 0).bind fun v12 =>
(fX8_at h v12 x1).bind fun v14 =>
some (v14, h)
else
if x2 = 1 then
(xgR h x0 8 0).bind fun v16 =>
(xgR h v16 5 2).bind fun v18 =>
(xgR h v18 4 1).bind fun v20 =>
(fX8_at h v20 x1).bind fun v22 =>
some (v22, h)
else
(xco h x0 8).bind fun _ =>
(fX8_findWithout h x0 x1).bind fun v25 =>
(xco v25.2 v25.1 0).bind fun _ =>
(fX0_number v25.2 v25.1).bind fun v28 =>
some (v28, v25.2)
else
some ((-1001 : Int32), h)
else
some ((-1001 : Int32), h)
def fX8_digestOfReadings_b23 (x0 : Nat) (x5 : Int32) (h : XH) (x3 : Int64) (x6 : Int32) : Option ((XH × Int64 × Int32) ⊕ (XH × Int64)) :=
if (2 : Int32) < x6 then
some (.inr (h, x3))
else
(xco h x0 8).bind fun _ =>
(fX8_reading h x0 x5 x6).bind fun v8 =>
xlet (((31 : Int64) * x3) + (v8.1.toInt64)) fun y10 =>
some (.inl (v8.2, y10, (x6 + (1 : Int32))))
def fX8_digestOfReadings_B23 (x0 : Nat) (x5 : Int32) (s : (XH × Int64 × Int32)) : Option ((XH × Int64 × Int32) ⊕ (XH × Int64)) := fX8_digestOfReadings_b23 x0 x5 s.1 s.2.1 s.2.2
def fX8_digestOfReadings_b5 (x0 : Nat) (h : XH) (x3 : Int64) (x5 : Int32) : Option ((XH × Int64 × Int32) ⊕ (XH × Int64)) :=
(xgR h x0 8 0).bind fun v1 =>
(xgR h v1 5 2).bind fun v3 =>
(xgI h v3 4 2).bind fun v5 =>
if v5 ≤ x5 then
some (.inr (h, x3))
else
(xloop (fX8_digestOfReadings_B23 x0 x5) 5000 (h, x3, (0 : Int32))).bind fun e11 =>
some (.inl (e11.1, e11.2, (x5 + (1 : Int32))))
def fX8_digestOfReadings_B5 (x0 : Nat) (s : (XH × Int64 × Int32)) : Option ((XH × Int64 × Int32) ⊕ (XH × Int64)) := fX8_digestOfReadings_b5 x0 s.1 s.2.1 s.2.2
def fX8_digestOfReadings_b72 (x0 : Nat) (h : XH) (x3 : Int64) (x5 : Int32) : Option ((XH × Int64 × Int32) ⊕ (XH × Int64)) :=
if (4 : Int32) < x5 then
some (.inr (h, x3))
else
(xco h x0 8).bind fun _ =>
(fX8_candidate h x0 x5).bind fun v20 =>
xlet (((31 : Int64) * x3) + (v20.1.toInt64)) fun y22 =>
some (.inl (v20.2, y22, (x5 + (1 : Int32))))
def fX8_digestOfReadings_B72 (x0 : Nat) (s : (XH × Int64 × Int32)) : Option ((XH × Int64 × Int32) ⊕ (XH × Int64)) := fX8_digestOfReadings_b72 x0 s.1 s.2.1 s.2.2
def fX8_digestOfReadings (h : XH) (x0 : Nat) (x1 : Int64) : Option (Int64 × XH) :=
(xloop (fX8_digestOfReadings_B5 x0) 5000 (h, x1, (0 : Int32))).bind fun e13 =>
(xco e13.1 x0 8).bind fun _ =>
(fX8_candidates e13.1 x0).bind fun v16 =>
xlet (((31 : Int64) * e13.2) + (v16.1.toInt64)) fun y18 =>
(xloop (fX8_digestOfReadings_B72 x0) 5000 (v16.2, y18, (0 : Int32))).bind fun e23 =>
(xco e23.1 x0 8).bind fun _ =>
(fX8_nearest e23.1 x0 (0 : Int32)).bind fun v26 =>
xlet (((31 : Int64) * e23.2) + (v26.1.toInt64)) fun y28 =>
(xco v26.2 x0 8).bind fun _ =>
(fX8_bestPeriod v26.2 x0 (20 : Int32) false).bind fun v30 =>
xlet (((31 : Int64) * y28) + (v30.1.toInt64)) fun y32 =>
(xco v30.2 x0 8).bind fun _ =>
(fX8_bestPeriod v30.2 x0 (20 : Int32) true).bind fun v34 =>
some ((((31 : Int64) * y32) + (v34.1.toInt64)), v34.2)
def fX8_digest_b6 (h : XH) (x0 : Nat) (x1 : Int64) (x3 : Int32) : Option ((Int64 × Int32) ⊕ Int64) :=
if (17 : Int32) < x3 then
some (.inr x1)
else
(xco h x0 8).bind fun _ =>
(fX8_count h x0 x3).bind fun v2 =>
xlet (((31 : Int64) * x1) + (v2.toInt64)) fun y4 =>
some (.inl (y4, (x3 + (1 : Int32))))
def fX8_digest_B6 (h : XH) (x0 : Nat) (s : (Int64 × Int32)) : Option ((Int64 × Int32) ⊕ Int64) := fX8_digest_b6 h x0 s.1 s.2
def fX8_digest (h : XH) (x0 : Nat) : Option (Int64 × XH) :=
(xloop (fX8_digest_B6 h x0) 5000 ((12956 : Int64), (0 : Int32))).bind fun e5 =>
(xco h x0 8).bind fun _ =>
(fX8_digestOfPictures h x0 e5).bind fun v8 =>
(xco h x0 8).bind fun _ =>
(fX8_digestOfReadings h x0 v8).bind fun v11 =>
(xco v11.2 x0 8).bind fun _ =>
(fX8_digestOfOpenings v11.2 x0 v11.1).bind fun v14 =>
some (v14, v11.2)
def fX8_dropChange (h : XH) (x0 : Nat) (x1 : Int32) : Option (Int32 × XH) :=
(xgR h x0 8 0).bind fun v1 =>
(xgR h v1 5 0).bind fun v3 =>
(xco h v3 6).bind fun _ =>
(fX6_hasChange h v3 x1).bind fun v6 =>
if v6 = true then
(xgR h x0 8 1).bind fun v8 =>
(xgR h x0 8 0).bind fun v10 =>
(xco h v8 3).bind fun _ =>
(fX3_remember h v8 v10).bind fun h13 =>
(xgR h13 x0 8 0).bind fun v15 =>
(xgR h13 v15 5 0).bind fun v17 =>
(xco h13 v17 6).bind fun _ =>
(fX6_removeChange h13 v17 x1).bind fun h20 =>
(xgR h20 x0 8 0).bind fun v22 =>
(xgR h20 v22 5 0).bind fun v24 =>
(xgI h20 v24 6 6).bind fun v26 =>
some (v26, h20)
else
some ((-1001 : Int32), h)
def fX8_dropReading (h : XH) (x0 : Nat) (x1 : Int32) : Option (Int32 × XH) :=
(xco h x0 8).bind fun _ =>
(fX8_isReading h x0 x1).bind fun v2 =>
if v2 = true then
(xgR h x0 8 1).bind fun v4 =>
(xgR h x0 8 0).bind fun v6 =>
(xco h v4 3).bind fun _ =>
(fX3_remember h v4 v6).bind fun h9 =>
(xgR h9 x0 8 0).bind fun v11 =>
(xgR h9 v11 5 2).bind fun v13 =>
(xco h9 v13 4).bind fun _ =>
(fX4_remove h9 v13 x1).bind fun h16 =>
(xgR h16 x0 8 0).bind fun v18 =>
(xgR h16 v18 5 2).bind fun v20 =>
(xgI h16 v20 4 2).bind fun v22 =>
some (v22, h16)
else
some ((-1001 : Int32), h)
def fX8_faultKind (h : XH) (x0 : Nat) : Option Int32 :=
(xgR h x0 8 2).bind fun v1 =>
(xgI h v1 7 3).bind fun v3 =>
some v3
def fX8_init (h : XH) (n : Nat) (x0 : Nat) : Option XH :=
(xnw h n (.inl (5, [.null, .null, .null, .null]))).bind fun h1 =>
(fX5_init h1 (n + 1) n).bind fun h3 =>
(xpf h3 x0 8 0 (.ref n)).bind fun h5 =>
(xnw h5 (n + 10) (.inl (3, [.null, .int 0, .int 0]))).bind fun h7 =>
(fX3_init h7 (n + 11) (n + 10)).bind fun h9 =>
(xpf h9 x0 8 1 (.ref (n + 10))).bind fun h11 =>
(xnw h11 (n + 92) (.inl (7, [.null, .int 0, .int 0, .int 0, .int 0]))).bind fun h13 =>
(fX7_init h13 (n + 93) (n + 92)).bind fun h15 =>
(xpf h15 x0 8 2 (.ref (n + 92))).bind fun h17 =>
(xnw h17 (n + 94) (.inl (6, [.null, .null, .null, .int 0, .int 0, .int 0, .int 0]))).bind fun h19 =>
(fX6_init h19 (n + 95) (n + 94)).bind fun h21 =>
(xpf h21 x0 8 3 (.ref (n + 94))).bind fun h23 =>
(xnw h23 (n + 98) (.inl (0, [.null, .null, .int 0, .int 0, .long 0]))).bind fun h25 =>
(fX0_init h25 (n + 99) (n + 98)).bind fun h27 =>
(xpf h27 x0 8 4 (.ref (n + 98))).bind fun h29 =>
some h29
def fX8_isSeen (h : XH) (x0 : Nat) (x1 : Int32) : Option Int32 :=
(fX8_isTick x1).bind fun v1 =>
if v1 = true then
(xgR h x0 8 0).bind fun v3 =>
(xgR h v3 5 3).bind fun v5 =>
(xco h v5 1).bind fun _ =>
(fX1_isOpenAt h v5 x1).bind fun v8 =>
if v8 = true then
some (1 : Int32)
else
some (0 : Int32)
else
some (-1001 : Int32)
def fX8_load (h : XH) (x0 : Nat) : Option (Int32 × XH) :=
(xgR h x0 8 2).bind fun v1 =>
(xgR h x0 8 3).bind fun v3 =>
(xco h v1 7).bind fun _ =>
(fX7_readInto h v1 v3).bind fun v6 =>
if v6.1 = true then
(xgR v6.2 x0 8 1).bind fun v8 =>
(xgR v6.2 x0 8 0).bind fun v10 =>
(xco v6.2 v8 3).bind fun _ =>
(fX3_remember v6.2 v8 v10).bind fun h13 =>
(xgR h13 x0 8 0).bind fun v15 =>
(xgR h13 v15 5 0).bind fun v17 =>
(xgR h13 x0 8 3).bind fun v19 =>
(xco h13 v17 6).bind fun _ =>
(fX6_copyFrom h13 v17 v19).bind fun h22 =>
(xgR h22 x0 8 0).bind fun v24 =>
(xgR h22 v24 5 0).bind fun v26 =>
(xgI h22 v26 6 3).bind fun v28 =>
some (v28, h22)
else
(xgR v6.2 x0 8 2).bind fun v30 =>
(xgI v6.2 v30 7 4).bind fun v32 =>
some (((-10 : Int32) - v32), v6.2)
def fX8_look (h : XH) (x0 : Nat) (x1 : Int32) : Option (Int32 × XH) :=
(xco h x0 8).bind fun _ =>
(fX8_isFlash h x0 x1).bind fun v2 =>
if v2 = true then
(xgR h x0 8 0).bind fun v4 =>
(xgR h v4 5 1).bind fun v6 =>
(xco h v6 2).bind fun _ =>
(fX2_number h v6).bind fun v9 =>
if x1 = (v9 - (1 : Int32)) then
some ((-1001 : Int32), h)
else
(xgR h x0 8 0).bind fun v11 =>
(xgR h v11 5 1).bind fun v13 =>
(xgI h v13 2 1).bind fun v15 =>
(xco h x0 8).bind fun _ =>
(fX8_flash h x0 x1 (2 : Int32)).bind fun v18 =>
(xco h x0 8).bind fun _ =>
(fX8_addReading h x0 v15 v18).bind fun v21 =>
some (v21.1, v21.2)
else
some ((-1001 : Int32), h)
def fX8_odd_b13 (x0 : Nat) (h : XH) (x1 : Int32) : Option ((XH × Int32) ⊕ ((XH × Int32) ⊕ XH)) :=
(xgR h x0 8 0).bind fun v4 =>
(xgR h v4 5 2).bind fun v6 =>
(xgI h v6 4 2).bind fun v8 =>
if v8 ≤ x1 then
some (.inr (.inr h))
else
(xco h x0 8).bind fun _ =>
(fX8_findWithout h x0 x1).bind fun v11 =>
(xco v11.2 v11.1 0).bind fun _ =>
(fX0_number v11.2 v11.1).bind fun v14 =>
if v14 ≤ 0 then
some (.inl (v11.2, (x1 + (1 : Int32))))
else
some (.inr (.inl (v11.2, x1)))
def fX8_odd_B13 (x0 : Nat) (s : (XH × Int32)) : Option ((XH × Int32) ⊕ ((XH × Int32) ⊕ XH)) := fX8_odd_b13 x0 s.1 s.2
def fX8_odd (h : XH) (x0 : Nat) : Option (Int32 × XH) :=
(xco h x0 8).bind fun _ =>
(fX8_candidates h x0).bind fun v2 =>
if v2.1 ≤ 0 then
(xloop (fX8_odd_B13 x0) 5000 (v2.2, (0 : Int32))).bind fun e16 =>
(match e16 with
| .inl e16 =>
some (e16.2, e16.1)
| .inr e16 =>
some ((-1004 : Int32), e16)
)
else
some ((-1002 : Int32), v2.2)
def fX8_read (h : XH) (x0 : Nat) (x1 : Int32) (x2 : Int32) : Option (Int32 × XH) :=
(fX8_within x1 (1 : Int32) (500 : Int32)).bind fun v1 =>
if v1 = true then
(fX8_within x2 (-30 : Int32) (30 : Int32)).bind fun v3 =>
if v3 = true then
(xco h x0 8).bind fun _ =>
(fX8_addReading h x0 x1 x2).bind fun v6 =>
some (v6.1, v6.2)
else
some ((-1001 : Int32), h)
else
some ((-1001 : Int32), h)
def fX8_setDisc (h : XH) (x0 : Nat) (x1 : Int32) (x2 : Int32) : Option (Int32 × XH) :=
(fX8_within x1 (1 : Int32) (30 : Int32)).bind fun v1 =>
if v1 = true then
(fX8_within x2 (0 : Int32) (((1 : Int32) <<< (x1 &&& 31)) - (1 : Int32))).bind fun v3 =>
if v3 = true then
(xgR h x0 8 1).bind fun v5 =>
(xgR h x0 8 0).bind fun v7 =>
(xco h v5 3).bind fun _ =>
(fX3_remember h v5 v7).bind fun h10 =>
(xgR h10 x0 8 0).bind fun v12 =>
(xgR h10 v12 5 3).bind fun v14 =>
(xpf h10 v14 1 0 (.int x1)).bind fun h16 =>
(xgR h16 x0 8 0).bind fun v18 =>
(xgR h16 v18 5 3).bind fun v20 =>
(xpf h16 v20 1 1 (.int x2)).bind fun h22 =>
(fJ6_bitCount_0f7a4 x2).bind fun v24 =>
some (v24, h22)
else
some ((-1001 : Int32), h)
else
some ((-1001 : Int32), h)
def fX8_setFlash (h : XH) (x0 : Nat) (x1 : Int32) (x2 : Int32) : Option (Int32 × XH) :=
(fX8_isTick x1).bind fun v1 =>
if v1 = true then
(fX8_within x2 (1 : Int32) (500 : Int32)).bind fun v3 =>
if v3 = true then
(xgR h x0 8 1).bind fun v5 =>
(xgR h x0 8 0).bind fun v7 =>
(xco h v5 3).bind fun _ =>
(fX3_remember h v5 v7).bind fun h10 =>
(xgR h10 x0 8 0).bind fun v12 =>
(xgR h10 v12 5 1).bind fun v14 =>
(xpf h10 v14 2 0 (.int x1)).bind fun h16 =>
(xgR h16 x0 8 0).bind fun v18 =>
(xgR h16 v18 5 1).bind fun v20 =>
(xpf h16 v20 2 1 (.int x2)).bind fun h22 =>
(xgR h22 x0 8 0).bind fun v24 =>
(xgR h22 v24 5 1).bind fun v26 =>
(xco h22 v26 2).bind fun _ =>
(fX2_number h22 v26).bind fun v29 =>
some (v29, h22)
else
some ((-1001 : Int32), h)
else
some ((-1001 : Int32), h)
def fX8_setLimit (h : XH) (x0 : Nat) (x1 : Int32) : Option (Int32 × XH) :=
(fX8_within x1 (1 : Int32) (1000 : Int32)).bind fun v1 =>
if v1 = true then
(xgR h x0 8 1).bind fun v3 =>
(xgR h x0 8 0).bind fun v5 =>
(xco h v3 3).bind fun _ =>
(fX3_remember h v3 v5).bind fun h8 =>
(xgR h8 x0 8 0).bind fun v10 =>
(xgR h8 v10 5 2).bind fun v12 =>
(xgI h8 v12 4 3).bind fun v14 =>
(xgR h8 x0 8 0).bind fun v16 =>
(xgR h8 v16 5 2).bind fun v18 =>
(xpf h8 v18 4 3 (.int x1)).bind fun h20 =>
some (v14, h20)
else
some ((-1001 : Int32), h)
def fX8_setMark (h : XH) (x0 : Nat) (x1 : Int32) (x2 : Int32) : Option (Int32 × XH) :=
(xco h x0 8).bind fun _ =>
(fX8_isPlace h x0 x1).bind fun v2 =>
if v2 = true then
(fX8_within x2 (0 : Int32) (3 : Int32)).bind fun v4 =>
if v4 = true then
(xgR h x0 8 1).bind fun v6 =>
(xgR h x0 8 0).bind fun v8 =>
(xco h v6 3).bind fun _ =>
(fX3_remember h v6 v8).bind fun h11 =>
(xgR h11 x0 8 0).bind fun v13 =>
(xgR h11 v13 5 0).bind fun v15 =>
(xco h11 v15 6).bind fun _ =>
(fX6_markOf h11 v15 x1).bind fun v18 =>
(xgR h11 x0 8 0).bind fun v20 =>
(xgR h11 v20 5 0).bind fun v22 =>
(xgR h11 v22 6 0).bind fun v24 =>
(fX8_put h11 v24 x1 x2).bind fun h26 =>
some (v18, h26)
else
some ((-1001 : Int32), h)
else
some ((-1001 : Int32), h)
def fX8_setSpeed (h : XH) (x0 : Nat) (x1 : Int32) (x2 : Int32) : Option (Int32 × XH) :=
(fX8_isTick x1).bind fun v1 =>
if v1 = true then
(fX8_within x2 (-1000 : Int32) (1000 : Int32)).bind fun v3 =>
if v3 = true then
(xgR h x0 8 0).bind fun v5 =>
(xgR h v5 5 0).bind fun v7 =>
(xco h v7 6).bind fun _ =>
(fX6_hasRoomFor h v7 x1).bind fun v10 =>
if v10 = true then
(xgR h x0 8 1).bind fun v12 =>
(xgR h x0 8 0).bind fun v14 =>
(xco h v12 3).bind fun _ =>
(fX3_remember h v12 v14).bind fun h17 =>
(xgR h17 x0 8 0).bind fun v19 =>
(xgR h17 v19 5 0).bind fun v21 =>
(xco h17 v21 6).bind fun _ =>
(fX6_putSpeed h17 v21 x1 x2).bind fun h24 =>
(xgR h24 x0 8 0).bind fun v26 =>
(xgR h24 v26 5 0).bind fun v28 =>
(xgI h24 v28 6 6).bind fun v30 =>
some (v30, h24)
else
some ((-1003 : Int32), h)
else
some ((-1001 : Int32), h)
else
some ((-1001 : Int32), h)
def fX8_setStart (h : XH) (x0 : Nat) (x1 : Int32) : Option (Int32 × XH) :=
(fX8_within x1 (0 : Int32) (59 : Int32)).bind fun v1 =>
if v1 = true then
(xgR h x0 8 1).bind fun v3 =>
(xgR h x0 8 0).bind fun v5 =>
(xco h v3 3).bind fun _ =>
(fX3_remember h v3 v5).bind fun h8 =>
(xgR h8 x0 8 0).bind fun v10 =>
(xgR h8 v10 5 0).bind fun v12 =>
(xgI h8 v12 6 4).bind fun v14 =>
(xgR h8 x0 8 0).bind fun v16 =>
(xgR h8 v16 5 0).bind fun v18 =>
(xpf h8 v18 6 4 (.int x1)).bind fun h20 =>
some (v14, h20)
else
some ((-1001 : Int32), h)
def fX8_stillPeriod_b40 (h : XH) (x0 : Nat) (x2 : Int32) (x3 : Int32) (x4 : Int32) : Option (Int32 ⊕ (Int32 ⊕ Unit)) :=
if x2 < x4 then
some (.inr (.inr ()))
else
(xgR h x0 8 0).bind fun v12 =>
(xgR h v12 5 0).bind fun v14 =>
(xgI h v14 6 5).bind fun v16 =>
(fX8_mod (v16 * x4) x3).bind fun v18 =>
if v18 = 0 then
some (.inr (.inl x4))
else
some (.inl (x4 + (1 : Int32)))
def fX8_stillPeriod_B40 (h : XH) (x0 : Nat) (x2 : Int32) (x3 : Int32) (s : Int32) : Option (Int32 ⊕ (Int32 ⊕ Unit)) := fX8_stillPeriod_b40 h x0 x2 x3 s
def fX8_stillPeriod (h : XH) (x0 : Nat) (x1 : Int32) (x2 : Int32) : Option Int32 :=
(fX8_within x1 (1 : Int32) (500 : Int32)).bind fun v1 =>
if v1 = true then
(fX8_within x2 x1 (500 : Int32)).bind fun v3 =>
if v3 = true then
(xgR h x0 8 0).bind fun v5 =>
(xgR h v5 5 0).bind fun v7 =>
(xco h v7 6).bind fun _ =>
(fX6_measure h v7).bind fun v10 =>
(xloop (fX8_stillPeriod_B40 h x0 x2 v10) 5000 x1).bind fun e20 =>
(match e20 with
| .inl e20 =>
some e20
| .inr e20 =>
some (-1004 : Int32)
)
else
some (-1001 : Int32)
else
some (-1001 : Int32)
def fX8_turnDisc (h : XH) (x0 : Nat) (x1 : Int32) (x2 : Int32) : Option (Int32 × XH) :=
(fX8_within x1 (0 : Int32) (29 : Int32)).bind fun v1 =>
if v1 = true then
(fX8_within x2 (-1000 : Int32) (1000 : Int32)).bind fun v3 =>
if v3 = true then
(xgR h x0 8 1).bind fun v5 =>
(xgR h x0 8 0).bind fun v7 =>
(xco h v5 3).bind fun _ =>
(fX3_remember h v5 v7).bind fun h10 =>
(xgR h10 x0 8 0).bind fun v12 =>
(xgR h10 v12 5 3).bind fun v14 =>
(xgI h10 v14 1 3).bind fun v16 =>
(xgR h10 x0 8 0).bind fun v18 =>
(xgR h10 v18 5 3).bind fun v20 =>
(xpf h10 v20 1 2 (.int x1)).bind fun h22 =>
(xgR h22 x0 8 0).bind fun v24 =>
(xgR h22 v24 5 3).bind fun v26 =>
(xpf h22 v26 1 3 (.int x2)).bind fun h28 =>
some (v16, h28)
else
some ((-1001 : Int32), h)
else
some ((-1001 : Int32), h)
def fX8_type (h : XH) (x0 : Nat) (x1 : Int32) : Option (Int32 × XH) :=
(fX8_within x1 (32 : Int32) (126 : Int32)).bind fun v1 =>
if v1 = true then
(xgR h x0 8 2).bind fun v3 =>
(xgI h v3 7 2).bind fun v5 =>
if v5 < (80 : Int32) then
(xgR h x0 8 2).bind fun v7 =>
(xco h v7 7).bind fun _ =>
(fX7_append h v7 x1).bind fun h10 =>
(xgR h10 x0 8 2).bind fun v12 =>
(xgI h10 v12 7 2).bind fun v14 =>
some (v14, h10)
else
some ((-1003 : Int32), h)
else
some ((-1001 : Int32), h)
def fX8_undo (h : XH) (x0 : Nat) : Option (Int32 × XH) :=
(xgR h x0 8 1).bind fun v1 =>
(xgI h v1 3 2).bind fun v3 =>
if v3 = 0 then
some ((-1002 : Int32), h)
else
(xgR h x0 8 1).bind fun v5 =>
(xgR h x0 8 0).bind fun v7 =>
(xco h v5 3).bind fun _ =>
(fX3_restore h v5 v7).bind fun h10 =>
(xgR h10 x0 8 1).bind fun v12 =>
(xgI h10 v12 3 2).bind fun v14 =>
some (v14, h10)
def fX9_copies_b2 (x0 : Nat) (x1 : Int32) (x2 : Int32) (h : XH) (x3 : Int32) : Option ((XH × Int32) ⊕ XH) :=
if (98 : Int32) ≤ x3 then
some (.inr h)
else
(xgR h x0 9 0).bind fun v1 =>
(xgR h x0 9 0).bind fun v3 =>
(xaI h v3 0 (((98 : Int32) * x1) + x3)).bind fun v5 =>
(xsI h v1 0 (((98 : Int32) * x2) + x3) v5).bind fun h7 =>
some (.inl (h7, (x3 + (1 : Int32))))
def fX9_copies_B2 (x0 : Nat) (x1 : Int32) (x2 : Int32) (s : (XH × Int32)) : Option ((XH × Int32) ⊕ XH) := fX9_copies_b2 x0 x1 x2 s.1 s.2
def fX9_copies (h : XH) (x0 : Nat) (x1 : Int32) (x2 : Int32) : Option XH :=
(xloop (fX9_copies_B2 x0 x1 x2) 5000 (h, (0 : Int32))).bind fun e9 =>
some e9
def fX9_records_J41 (h : XH) (x0 : Nat) : Option (XH) :=
(xgI h x0 9 1).bind fun v3 =>
(xpf h x0 9 1 (.int (v3 + (1 : Int32)))).bind fun h5 =>
(xgI h5 x0 9 1).bind fun v7 =>
(xco h5 x0 9).bind fun _ =>
(fX9_copies h5 x0 (0 : Int32) v7).bind fun h10 =>
some h10
def fX9_records_b11 (x0 : Nat) (h : XH) (x1 : Int32) : Option ((XH × Int32) ⊕ XH) :=
if (8 : Int32) ≤ x1 then
some (.inr h)
else
(xco h x0 9).bind fun _ =>
(fX9_copies h x0 (x1 + (1 : Int32)) x1).bind fun h13 =>
some (.inl (h13, (x1 + (1 : Int32))))
def fX9_records_B11 (x0 : Nat) (s : (XH × Int32)) : Option ((XH × Int32) ⊕ XH) := fX9_records_b11 x0 s.1 s.2
def fX9_records (h : XH) (x0 : Nat) : Option XH :=
(xgI h x0 9 1).bind fun v1 =>
if v1 = (8 : Int32) then
(xloop (fX9_records_B11 x0) 5000 (h, (1 : Int32))).bind fun e15 =>
(xgI e15 x0 9 1).bind fun v17 =>
(xpf e15 x0 9 1 (.int (v17 - (1 : Int32)))).bind fun h19 =>
fX9_records_J41 h19 x0
else
fX9_records_J41 h x0
def fX9_adds (h : XH) (x0 : Nat) (x1 : Int32) (x2 : Int32) : Option (Int32 × XH) :=
(xco h x0 9).bind fun _ =>
(fX9_records h x0).bind fun h2 =>
(xgR h2 x0 9 0).bind fun v4 =>
(xaI h2 v4 0 (76 : Int32)).bind fun v6 =>
(xgR h2 x0 9 0).bind fun v8 =>
(xsI h2 v8 0 ((77 : Int32) + ((2 : Int32) * v6)) x1).bind fun h10 =>
(xgR h10 x0 9 0).bind fun v12 =>
(xsI h10 v12 0 (((77 : Int32) + ((2 : Int32) * v6)) + (1 : Int32)) x2).bind fun h14 =>
(xgR h14 x0 9 0).bind fun v16 =>
(xaI h14 v16 0 (76 : Int32)).bind fun v18 =>
(xsI h14 v16 0 (76 : Int32) (v18 + (1 : Int32))).bind fun h20 =>
some (v6, h20)
def fX9_apart (x0 : Int32) (x1 : Int32) : Option Int32 :=
if x1 ≤ x0 then
some (x0 - x1)
else
some (x1 - x0)
def fX9_becomes (h : XH) (x0 : Nat) (x1 : Int32) (x2 : Int32) : Option (Int32 × XH) :=
(xco h x0 9).bind fun _ =>
(fX9_records h x0).bind fun h2 =>
(xgR h2 x0 9 0).bind fun v4 =>
(xaI h2 v4 0 x1).bind fun v6 =>
(xgR h2 x0 9 0).bind fun v8 =>
(xsI h2 v8 0 x1 x2).bind fun h10 =>
some (v6, h10)
def fX9_cells (h : XH) (x0 : Nat) : Option Int32 :=
(xgR h x0 9 0).bind fun v1 =>
(xaI h v1 0 (0 : Int32)).bind fun v3 =>
some v3
def fX9_measure_J57 (h : XH) (x0 : Nat) (x1 : Int32) (x3 : Int32) : Option ((Bool × Int32) ⊕ Bool) :=
some (.inl (false, (x3 + (1 : Int32))))
def fX9_measure_b15 (h : XH) (x0 : Nat) (x1 : Int32) (x2 : Bool) (x3 : Int32) : Option ((Bool × Int32) ⊕ Bool) :=
(xco h x0 9).bind fun _ =>
(fX9_cells h x0).bind fun v2 =>
if v2 ≤ x3 then
some (.inr x2)
else
if x2 = true then
(xgR h x0 9 0).bind fun v4 =>
(xaI h v4 0 ((1 : Int32) + x3)).bind fun v6 =>
(xgR h x0 9 0).bind fun v8 =>
(xco h x0 9).bind fun _ =>
(fX9_cells h x0).bind fun v11 =>
if v11 = 0 then none else
(xaI h v8 0 ((1 : Int32) + (xrem (x3 + x1) v11))).bind fun v14 =>
if v6 = v14 then
some (.inl (true, (x3 + (1 : Int32))))
else
fX9_measure_J57 h x0 x1 x3
else
fX9_measure_J57 h x0 x1 x3
def fX9_measure_B15 (h : XH) (x0 : Nat) (x1 : Int32) (s : (Bool × Int32)) : Option ((Bool × Int32) ⊕ Bool) := fX9_measure_b15 h x0 x1 s.1 s.2
def fX9_measure_b4 (h : XH) (x0 : Nat) (x1 : Int32) (x2 : Bool) : Option ((Int32 × Bool) ⊕ Int32) :=
if x2 = true then
some (.inr x1)
else
(xloop (fX9_measure_B15 h x0 (x1 + (1 : Int32))) 5000 (true, (0 : Int32))).bind fun e16 =>
some (.inl ((x1 + (1 : Int32)), e16))
def fX9_measure_B4 (h : XH) (x0 : Nat) (s : (Int32 × Bool)) : Option ((Int32 × Bool) ⊕ Int32) := fX9_measure_b4 h x0 s.1 s.2
def fX9_measure (h : XH) (x0 : Nat) : Option Int32 :=
(xloop (fX9_measure_B4 h x0) 5000 ((0 : Int32), false)).bind fun e18 =>
some e18
def fX9_finds_J93 (h : XH) (x0 : Nat) (x1 : Int32) (x2 : Int32) (x3 : Int32) (x5 : Int32) : Option ((Bool × Int32) ⊕ Bool) :=
some (.inl (true, (x5 + (1 : Int32))))
def fX9_finds_b36 (h : XH) (x0 : Nat) (x1 : Int32) (x2 : Int32) (x3 : Int32) (x4 : Bool) (x5 : Int32) : Option ((Bool × Int32) ⊕ Bool) :=
(xgR h x0 9 0).bind fun v14 =>
(xaI h v14 0 (76 : Int32)).bind fun v16 =>
if v16 ≤ x5 then
some (.inr x4)
else
if x4 = true then
if x5 = x1 then
fX9_finds_J93 h x0 x1 x2 x3 x5
else
(xgR h x0 9 0).bind fun v18 =>
(xaI h v18 0 ((77 : Int32) + ((2 : Int32) * x5))).bind fun v20 =>
(xgR h x0 9 0).bind fun v22 =>
(xaI h v22 0 (((77 : Int32) + ((2 : Int32) * x5)) + (1 : Int32))).bind fun v24 =>
if x2 = 0 then none else
if (xrem ((x3 * v20) - v24) x2) = 0 then
fX9_finds_J93 h x0 x1 x2 x3 x5
else
some (.inl (false, (x5 + (1 : Int32))))
else
some (.inr x4)
def fX9_finds_B36 (h : XH) (x0 : Nat) (x1 : Int32) (x2 : Int32) (x3 : Int32) (s : (Bool × Int32)) : Option ((Bool × Int32) ⊕ Bool) := fX9_finds_b36 h x0 x1 x2 x3 s.1 s.2
def fX9_finds_b19 (x0 : Nat) (x1 : Int32) (x2 : Int32) (h : XH) (x3 : Int32) : Option ((XH × Int32) ⊕ XH) :=
(xgR h x0 9 0).bind fun v10 =>
(xaI h v10 0 (93 : Int32)).bind fun v12 =>
if v12 < x3 then
some (.inr h)
else
(xloop (fX9_finds_B36 h x0 x1 x2 x3) 5000 (true, (0 : Int32))).bind fun e27 =>
if e27 = true then
(xgR h x0 9 11).bind fun v29 =>
(xgI h x0 9 12).bind fun v31 =>
(xsI h v29 0 v31 x3).bind fun h33 =>
(xgI h33 x0 9 12).bind fun v35 =>
(xpf h33 x0 9 12 (.int (v35 + (1 : Int32)))).bind fun h37 =>
some (.inl (h37, (x3 + (1 : Int32))))
else
some (.inl (h, (x3 + (1 : Int32))))
def fX9_finds_B19 (x0 : Nat) (x1 : Int32) (x2 : Int32) (s : (XH × Int32)) : Option ((XH × Int32) ⊕ XH) := fX9_finds_b19 x0 x1 x2 s.1 s.2
def fX9_finds (h : XH) (x0 : Nat) (x1 : Int32) : Option XH :=
(xco h x0 9).bind fun _ =>
(fX9_measure h x0).bind fun v2 =>
(xpf h x0 9 12 (.int (0 : Int32))).bind fun h4 =>
(xgR h4 x0 9 0).bind fun v6 =>
(xaI h4 v6 0 (93 : Int32)).bind fun v8 =>
(xloop (fX9_finds_B19 x0 x1 v2) 5000 (h4, (-v8))).bind fun e39 =>
some e39
def fX9_in (x0 : Int32) (x1 : Int32) (x2 : Int32) : Option Bool :=
if x0 < x1 then
some false
else
if x2 < x0 then
some false
else
some true
def fX9_modulo (x0 : Int32) (x1 : Int32) : Option Int32 :=
if x1 = 0 then none else
if 0 ≤ (xrem x0 x1) then
some (xrem x0 x1)
else
some ((xrem x0 x1) + x1)
def fX9_restOf_b5 (x0 : Nat) (x1 : Int32) (x2 : Int32) (x3 : Int32) (h : XH) (x4 : Int32) : Option ((XH × Int32) ⊕ XH) :=
if x2 ≤ x4 then
some (.inr h)
else
(xgR h x0 9 13).bind fun v1 =>
(xsI h v1 0 x4 (0 : Int32)).bind fun h3 =>
some (.inl (h3, (x4 + (1 : Int32))))
def fX9_restOf_B5 (x0 : Nat) (x1 : Int32) (x2 : Int32) (x3 : Int32) (s : (XH × Int32)) : Option ((XH × Int32) ⊕ XH) := fX9_restOf_b5 x0 x1 x2 x3 s.1 s.2
def fX9_restOf_b28 (x0 : Nat) (x1 : Int32) (x2 : Int32) (h : XH) (x3 : Int32) (x4 : Int32) : Option ((XH × Int32 × Int32) ⊕ (XH × Int32)) :=
(xgI h x0 9 12).bind fun v7 =>
if v7 ≤ x4 then
some (.inr (h, x3))
else
(xgR h x0 9 11).bind fun v9 =>
(xaI h v9 0 x4).bind fun v11 =>
(fX9_modulo (v11 * x1) x2).bind fun v13 =>
(xgR h x0 9 13).bind fun v15 =>
(xaI h v15 0 v13).bind fun v17 =>
(xsI h v15 0 v13 (v17 + (1 : Int32))).bind fun h19 =>
(xgR h19 x0 9 13).bind fun v21 =>
(xaI h19 v21 0 v13).bind fun v23 =>
if v23 ≤ x3 then
some (.inl (h19, x3, (x4 + (1 : Int32))))
else
(xgR h19 x0 9 13).bind fun v25 =>
(xaI h19 v25 0 v13).bind fun v27 =>
some (.inl (h19, v27, (x4 + (1 : Int32))))
def fX9_restOf_B28 (x0 : Nat) (x1 : Int32) (x2 : Int32) (s : (XH × Int32 × Int32)) : Option ((XH × Int32 × Int32) ⊕ (XH × Int32)) := fX9_restOf_b28 x0 x1 x2 s.1 s.2.1 s.2.2
def fX9_restOf (h : XH) (x0 : Nat) (x1 : Int32) (x2 : Int32) : Option (Int32 × XH) :=
(xloop (fX9_restOf_B5 x0 x1 x2 (0 : Int32)) 5000 (h, (0 : Int32))).bind fun e5 =>
(xloop (fX9_restOf_B28 x0 x1 x2) 5000 (e5, (0 : Int32), (0 : Int32))).bind fun e29 =>
some (e29.2, e29.1)
def fX9_bestPeriod_J96 (h : XH) (x0 : Nat) (x1 : Int32) (x2 : Bool) (x3 : Int32) (x5 : Int32) (x6 : Int32) (x7 : Int32) (x8 : Bool) (s0 : Int32) : Option ((XH × Int32 × Int32 × Int32) ⊕ (XH × Int32 × Int32)) :=
if x8 = true then
some (.inl (h, s0, x7, (x6 + (1 : Int32))))
else
some (.inl (h, s0, x5, (x6 + (1 : Int32))))
def fX9_bestPeriod_J82 (h : XH) (x0 : Nat) (x1 : Int32) (x2 : Bool) (x3 : Int32) (x4 : Int32) (x5 : Int32) (x6 : Int32) (x7 : Int32) (s0 : Bool) : Option ((XH × Int32 × Int32 × Int32) ⊕ (XH × Int32 × Int32)) :=
if s0 = true then
fX9_bestPeriod_J96 h x0 x1 x2 x3 x5 x6 x7 s0 x6
else
fX9_bestPeriod_J96 h x0 x1 x2 x3 x5 x6 x7 s0 x4
def fX9_bestPeriod_J77 (h : XH) (x0 : Nat) (x1 : Int32) (x2 : Bool) (x3 : Int32) (x4 : Int32) (x5 : Int32) (x6 : Int32) (x7 : Int32) : Option ((XH × Int32 × Int32 × Int32) ⊕ (XH × Int32 × Int32)) :=
fX9_bestPeriod_J82 h x0 x1 x2 x3 x4 x5 x6 x7 true
def fX9_bestPeriod_b49 (x0 : Nat) (x1 : Int32) (x2 : Bool) (x3 : Int32) (h : XH) (x4 : Int32) (x5 : Int32) (x6 : Int32) : Option ((XH × Int32 × Int32 × Int32) ⊕ (XH × Int32 × Int32)) :=
if x1 < x6 then
some (.inr (h, x4, x5))
else
(xco h x0 9).bind fun _ =>
(fX9_restOf h x0 x6 x3).bind fun v12 =>
if x6 = (1 : Int32) then
fX9_bestPeriod_J77 v12.2 x0 x1 x2 x3 x4 x5 x6 v12.1
else
if x5 ≤ v12.1 then
fX9_bestPeriod_J82 v12.2 x0 x1 x2 x3 x4 x5 x6 v12.1 false
else
fX9_bestPeriod_J77 v12.2 x0 x1 x2 x3 x4 x5 x6 v12.1
def fX9_bestPeriod_B49 (x0 : Nat) (x1 : Int32) (x2 : Bool) (x3 : Int32) (s : (XH × Int32 × Int32 × Int32)) : Option ((XH × Int32 × Int32 × Int32) ⊕ (XH × Int32 × Int32)) := fX9_bestPeriod_b49 x0 x1 x2 x3 s.1 s.2.1 s.2.2.1 s.2.2.2
def fX9_bestPeriod (h : XH) (x0 : Nat) (x1 : Int32) (x2 : Bool) : Option (Int32 × XH) :=
(fX9_in x1 (1 : Int32) (500 : Int32)).bind fun v1 =>
if v1 = true then
(xco h x0 9).bind fun _ =>
(fX9_finds h x0 (-1004 : Int32)).bind fun h4 =>
(xgI h4 x0 9 12).bind fun v6 =>
if v6 = 0 then
some ((-1004 : Int32), h4)
else
(xco h4 x0 9).bind fun _ =>
(fX9_measure h4 x0).bind fun v9 =>
(xloop (fX9_bestPeriod_B49 x0 x1 x2 v9) 5000 (h4, (-1004 : Int32), (0 : Int32), (1 : Int32))).bind fun e14 =>
if x2 = true then
some (e14.2.2, e14.1)
else
some (e14.2.1, e14.1)
else
some ((-1001 : Int32), h)
def fX9_candidate (h : XH) (x0 : Nat) (x1 : Int32) : Option (Int32 × XH) :=
if 0 ≤ x1 then
(xco h x0 9).bind fun _ =>
(fX9_finds h x0 (-1004 : Int32)).bind fun h2 =>
(xgI h2 x0 9 12).bind fun v4 =>
if v4 ≤ x1 then
some ((-1004 : Int32), h2)
else
(xgR h2 x0 9 11).bind fun v6 =>
(xaI h2 v6 0 x1).bind fun v8 =>
some (v8, h2)
else
some ((-1001 : Int32), h)
def fX9_candidates (h : XH) (x0 : Nat) : Option (Int32 × XH) :=
(xco h x0 9).bind fun _ =>
(fX9_finds h x0 (-1004 : Int32)).bind fun h2 =>
(xgI h2 x0 9 12).bind fun v4 =>
some (v4, h2)
def fX9_tickOf (h : XH) (x0 : Nat) (x1 : Int32) : Option Int32 :=
(xgR h x0 9 0).bind fun v1 =>
(xaI h v1 0 ((64 : Int32) + ((2 : Int32) * x1))).bind fun v3 =>
some v3
def fX9_changeFrom_b2 (h : XH) (x0 : Nat) (x1 : Int32) (x2 : Int32) : Option (Int32 ⊕ Int32) :=
(xgR h x0 9 0).bind fun v1 =>
(xaI h v1 0 (63 : Int32)).bind fun v3 =>
if v3 ≤ x2 then
some (.inr x2)
else
(xco h x0 9).bind fun _ =>
(fX9_tickOf h x0 x2).bind fun v6 =>
if x1 ≤ v6 then
some (.inr x2)
else
some (.inl (x2 + (1 : Int32)))
def fX9_changeFrom_B2 (h : XH) (x0 : Nat) (x1 : Int32) (s : Int32) : Option (Int32 ⊕ Int32) := fX9_changeFrom_b2 h x0 x1 s
def fX9_changeFrom (h : XH) (x0 : Nat) (x1 : Int32) : Option Int32 :=
(xloop (fX9_changeFrom_B2 h x0 x1) 5000 (0 : Int32)).bind fun e8 =>
some e8
def fX9_clearText (h : XH) (x0 : Nat) : Option (Int32 × XH) :=
(xgI h x0 9 5).bind fun v1 =>
(xpf h x0 9 5 (.int (0 : Int32))).bind fun h3 =>
some (v1, h3)
def fX9_flashes (h : XH) (x0 : Nat) : Option Int32 :=
(xgR h x0 9 0).bind fun v1 =>
(xaI h v1 0 (74 : Int32)).bind fun v3 =>
(xgR h x0 9 0).bind fun v5 =>
(xaI h v5 0 (75 : Int32)).bind fun v7 =>
if v7 = 0 then none else
some ((((1000 : Int32) - v3) / v7) + (1 : Int32))
def fX9_isOpen (h : XH) (x0 : Nat) (x1 : Int32) : Option Bool :=
(xgR h x0 9 0).bind fun v1 =>
(xaI h v1 0 (94 : Int32)).bind fun v3 =>
(xgR h x0 9 0).bind fun v5 =>
(xaI h v5 0 (96 : Int32)).bind fun v7 =>
(xgR h x0 9 0).bind fun v9 =>
(xaI h v9 0 (97 : Int32)).bind fun v11 =>
(fX9_modulo (v7 + (v11 * x1)) v3).bind fun v13 =>
if v3 = 0 then none else
(xgR h x0 9 0).bind fun v16 =>
(xaI h v16 0 (95 : Int32)).bind fun v18 =>
if ((v18 >>> ((xrem (v3 - v13) v3) &&& 31)) &&& (1 : Int32)) = (1 : Int32) then
some true
else
some false
def fX9_goesTo_J50 (h : XH) (x0 : Nat) (x1 : Int32) (x2 : Int32) (x4 : Int32) (x5 : Bool) : Option ((XH × Int32 × Bool × Int32) ⊕ ((XH × Int32) ⊕ (XH × Int32))) :=
if x5 = true then
(xpf h x0 9 15 (.int x4)).bind fun h8 =>
some (.inl (h8, x2, x5, (x4 + (1 : Int32))))
else
(xgI h x0 9 15).bind fun v4 =>
(xpf h x0 9 15 (.int v4)).bind fun h6 =>
some (.inl (h6, x2, x5, (x4 + (1 : Int32))))
def fX9_goesTo_b7 (x0 : Nat) (x1 : Int32) (h : XH) (x2 : Int32) (x3 : Bool) (x4 : Int32) : Option ((XH × Int32 × Bool × Int32) ⊕ ((XH × Int32) ⊕ (XH × Int32))) :=
if (1000 : Int32) < x4 then
some (.inr (.inr (h, x2)))
else
(xco h x0 9).bind fun _ =>
(fX9_isOpen h x0 x4).bind fun v2 =>
if v2 = true then
if x3 = true then
fX9_goesTo_J50 h x0 x1 x2 x4 v2
else
if (x2 - (1 : Int32)) = x1 then
some (.inr (.inl (h, x2)))
else
(xpf h x0 9 14 (.int x4)).bind fun h10 =>
fX9_goesTo_J50 h10 x0 x1 (x2 + (1 : Int32)) x4 v2
else
fX9_goesTo_J50 h x0 x1 x2 x4 v2
def fX9_goesTo_B7 (x0 : Nat) (x1 : Int32) (s : (XH × Int32 × Bool × Int32)) : Option ((XH × Int32 × Bool × Int32) ⊕ ((XH × Int32) ⊕ (XH × Int32))) := fX9_goesTo_b7 x0 x1 s.1 s.2.1 s.2.2.1 s.2.2.2
def fX9_goesTo (h : XH) (x0 : Nat) (x1 : Int32) : Option (Int32 × XH) :=
(xloop (fX9_goesTo_B7 x0 x1) 5000 (h, (0 : Int32), false, (0 : Int32))).bind fun e12 =>
(match e12 with
| .inl e12 =>
some (e12.2, e12.1)
| .inr e12 =>
some (e12.2, e12.1)
)
def fX9_marks_b4 (h : XH) (x0 : Nat) (x1 : Int32) (x2 : Int32) : Option ((Int32 × Int32) ⊕ Int32) :=
(xco h x0 9).bind fun _ =>
(fX9_cells h x0).bind fun v2 =>
if v2 ≤ x2 then
some (.inr x1)
else
(xgR h x0 9 0).bind fun v4 =>
(xaI h v4 0 ((1 : Int32) + x2)).bind fun v6 =>
if v6 ≤ 0 then
some (.inl ((x1 + (0 : Int32)), (x2 + (1 : Int32))))
else
some (.inl ((x1 + (1 : Int32)), (x2 + (1 : Int32))))
def fX9_marks_B4 (h : XH) (x0 : Nat) (s : (Int32 × Int32)) : Option ((Int32 × Int32) ⊕ Int32) := fX9_marks_b4 h x0 s.1 s.2
def fX9_marks (h : XH) (x0 : Nat) : Option Int32 :=
(xloop (fX9_marks_B4 h x0) 5000 ((0 : Int32), (0 : Int32))).bind fun e8 =>
some e8
def fX9_count_J103 (h : XH) (x0 : Nat) (x1 : Int32) : Option (Int32 × XH) :=
(xgR h x0 9 0).bind fun v28 =>
(xaI h v28 0 (((61 : Int32) + x1) - (3 : Int32))).bind fun v30 =>
some (v30, h)
def fX9_count_J115 (h : XH) (x0 : Nat) (x1 : Int32) : Option (Int32 × XH) :=
(xgR h x0 9 0).bind fun v32 =>
(xaI h v32 0 (((74 : Int32) + x1) - (6 : Int32))).bind fun v34 =>
some (v34, h)
def fX9_count_J141 (h : XH) (x0 : Nat) (x1 : Int32) : Option (Int32 × XH) :=
(xgR h x0 9 0).bind fun v43 =>
(xaI h v43 0 (((93 : Int32) + x1) - (10 : Int32))).bind fun v45 =>
some (v45, h)
def fX9_count (h : XH) (x0 : Nat) (x1 : Int32) : Option (Int32 × XH) :=
if x1 = 0 then
(xco h x0 9).bind fun _ =>
(fX9_cells h x0).bind fun v20 =>
some (v20, h)
else
if x1 = 1 then
(xco h x0 9).bind fun _ =>
(fX9_marks h x0).bind fun v23 =>
some (v23, h)
else
if x1 = 2 then
(xco h x0 9).bind fun _ =>
(fX9_measure h x0).bind fun v26 =>
some (v26, h)
else
if x1 = 3 then
fX9_count_J103 h x0 x1
else
if x1 = 4 then
fX9_count_J103 h x0 x1
else
if x1 = 5 then
fX9_count_J103 h x0 x1
else
if x1 = 6 then
fX9_count_J115 h x0 x1
else
if x1 = 7 then
fX9_count_J115 h x0 x1
else
if x1 = 8 then
(xco h x0 9).bind fun _ =>
(fX9_flashes h x0).bind fun v37 =>
some (v37, h)
else
if x1 = 9 then
(xgR h x0 9 0).bind fun v39 =>
(xaI h v39 0 (76 : Int32)).bind fun v41 =>
some (v41, h)
else
if x1 = 10 then
fX9_count_J141 h x0 x1
else
if x1 = 11 then
fX9_count_J141 h x0 x1
else
if x1 = 12 then
fX9_count_J141 h x0 x1
else
if x1 = 13 then
fX9_count_J141 h x0 x1
else
if x1 = 14 then
fX9_count_J141 h x0 x1
else
if x1 = 15 then
(xco h x0 9).bind fun _ =>
(fX9_goesTo h x0 (-1004 : Int32)).bind fun v48 =>
some (v48.1, v48.2)
else
if x1 = 16 then
(xgI h x0 9 5).bind fun v50 =>
some (v50, h)
else
if x1 = 17 then
(xgI h x0 9 1).bind fun v52 =>
some (v52, h)
else
some ((-1001 : Int32), h)
def fX9_stepOf (h : XH) (x0 : Nat) (x1 : Int32) (x2 : Int32) : Option Int32 :=
(xgR h x0 9 2).bind fun v1 =>
(xaI h v1 0 x2).bind fun v3 =>
(xgR h x0 9 2).bind fun v5 =>
(xaI h v5 0 x1).bind fun v7 =>
(xgI h x0 9 3).bind fun v9 =>
(fX9_modulo (v3 - v7) v9).bind fun v11 =>
(xgI h x0 9 3).bind fun v13 =>
if v13 < ((2 : Int32) * v11) then
(xgI h x0 9 3).bind fun v15 =>
some (v11 - v15)
else
some v11
def fX9_isSamePicture (h : XH) (x0 : Nat) (x1 : Int32) (x2 : Int32) : Option Bool :=
(xco h x0 9).bind fun _ =>
(fX9_stepOf h x0 x1 x2).bind fun v2 =>
if v2 = 0 then
some true
else
some false
def fX9_tickOfFlash (h : XH) (x0 : Nat) (x1 : Int32) : Option Int32 :=
(xgR h x0 9 0).bind fun v1 =>
(xaI h v1 0 (74 : Int32)).bind fun v3 =>
(xgR h x0 9 0).bind fun v5 =>
(xaI h v5 0 (75 : Int32)).bind fun v7 =>
some (v3 + (x1 * v7))
def fX9_earliest_b2 (h : XH) (x0 : Nat) (x1 : Int32) (x2 : Int32) : Option (Int32 ⊕ Int32) :=
(xco h x0 9).bind fun _ =>
(fX9_tickOfFlash h x0 x2).bind fun v2 =>
(xco h x0 9).bind fun _ =>
(fX9_tickOfFlash h x0 x1).bind fun v5 =>
(xco h x0 9).bind fun _ =>
(fX9_isSamePicture h x0 v2 v5).bind fun v8 =>
if v8 = true then
some (.inr x2)
else
some (.inl (x2 + (1 : Int32)))
def fX9_earliest_B2 (h : XH) (x0 : Nat) (x1 : Int32) (s : Int32) : Option (Int32 ⊕ Int32) := fX9_earliest_b2 h x0 x1 s
def fX9_earliest (h : XH) (x0 : Nat) (x1 : Int32) : Option Int32 :=
(xloop (fX9_earliest_B2 h x0 x1) 5000 (0 : Int32)).bind fun e10 =>
some e10
def fX9_isFlash (h : XH) (x0 : Nat) (x1 : Int32) : Option Bool :=
(xco h x0 9).bind fun _ =>
(fX9_flashes h x0).bind fun v2 =>
(fX9_in x1 (0 : Int32) (v2 - (1 : Int32))).bind fun v4 =>
some v4
def fX9_laysTurns_J84 (h : XH) (x0 : Nat) (x1 : Int32) (x2 : Int32) (x3 : Int32) : Option ((XH × Int32 × Int32 × Int32) ⊕ XH) :=
(xgR h x0 9 2).bind fun v27 =>
(xgR h x0 9 2).bind fun v29 =>
(xaI h v29 0 x3).bind fun v31 =>
(xco h x0 9).bind fun _ =>
(fX9_cells h x0).bind fun v34 =>
(fX9_modulo (v31 + x2) v34).bind fun v36 =>
(xsI h v27 0 (x3 + (1 : Int32)) v36).bind fun h38 =>
some (.inl (h38, x1, x2, (x3 + (1 : Int32))))
def fX9_laysTurns_b40 (x0 : Nat) (h : XH) (x1 : Int32) (x2 : Int32) (x3 : Int32) : Option ((XH × Int32 × Int32 × Int32) ⊕ XH) :=
if (1000 : Int32) ≤ x3 then
some (.inr h)
else
(xgR h x0 9 0).bind fun v23 =>
(xaI h v23 0 (63 : Int32)).bind fun v25 =>
if v25 ≤ x1 then
fX9_laysTurns_J84 h x0 x1 x2 x3
else
(xco h x0 9).bind fun _ =>
(fX9_tickOf h x0 x1).bind fun v41 =>
if v41 = x3 then
(xgR h x0 9 0).bind fun v43 =>
(xaI h v43 0 (((64 : Int32) + ((2 : Int32) * x1)) + (1 : Int32))).bind fun v45 =>
fX9_laysTurns_J84 h x0 (x1 + (1 : Int32)) v45 x3
else
fX9_laysTurns_J84 h x0 x1 x2 x3
def fX9_laysTurns_B40 (x0 : Nat) (s : (XH × Int32 × Int32 × Int32)) : Option ((XH × Int32 × Int32 × Int32) ⊕ XH) := fX9_laysTurns_b40 x0 s.1 s.2.1 s.2.2.1 s.2.2.2
def fX9_laysTurns (h : XH) (x0 : Nat) : Option XH :=
(xgR h x0 9 0).bind fun v1 =>
(xaI h v1 0 (62 : Int32)).bind fun v3 =>
(xco h x0 9).bind fun _ =>
(fX9_measure h x0).bind fun v6 =>
(xpf h x0 9 3 (.int v6)).bind fun h8 =>
(xgR h8 x0 9 2).bind fun v10 =>
(xgR h8 x0 9 0).bind fun v12 =>
(xaI h8 v12 0 (61 : Int32)).bind fun v14 =>
(xco h8 x0 9).bind fun _ =>
(fX9_cells h8 x0).bind fun v17 =>
(fX9_modulo v14 v17).bind fun v19 =>
(xsI h8 v10 0 (0 : Int32) v19).bind fun h21 =>
(xloop (fX9_laysTurns_B40 x0) 5000 (h21, (0 : Int32), v3, (0 : Int32))).bind fun e47 =>
some e47
def fX9_stepBehind (h : XH) (x0 : Nat) (x1 : Int32) : Option Int32 :=
(xco h x0 9).bind fun _ =>
(fX9_flashes h x0).bind fun v2 =>
if x1 = (v2 - (1 : Int32)) then
some (-1004 : Int32)
else
(xco h x0 9).bind fun _ =>
(fX9_tickOfFlash h x0 x1).bind fun v5 =>
(xco h x0 9).bind fun _ =>
(fX9_tickOfFlash h x0 (x1 + (1 : Int32))).bind fun v8 =>
(xco h x0 9).bind fun _ =>
(fX9_stepOf h x0 v5 v8).bind fun v11 =>
some v11
def fX9_flash (h : XH) (x0 : Nat) (x1 : Int32) (x2 : Int32) : Option (Int32 × XH) :=
(xco h x0 9).bind fun _ =>
(fX9_isFlash h x0 x1).bind fun v2 =>
if v2 = true then
(fX9_in x2 (0 : Int32) (3 : Int32)).bind fun v4 =>
if v4 = true then
(xco h x0 9).bind fun _ =>
(fX9_laysTurns h x0).bind fun h7 =>
if x2 = 0 then
(xco h7 x0 9).bind fun _ =>
(fX9_tickOfFlash h7 x0 x1).bind fun v13 =>
some (v13, h7)
else
if x2 = 1 then
(xgR h7 x0 9 2).bind fun v15 =>
(xco h7 x0 9).bind fun _ =>
(fX9_tickOfFlash h7 x0 x1).bind fun v18 =>
(xaI h7 v15 0 v18).bind fun v20 =>
some (v20, h7)
else
if x2 = 2 then
(xco h7 x0 9).bind fun _ =>
(fX9_stepBehind h7 x0 x1).bind fun v23 =>
some (v23, h7)
else
(xco h7 x0 9).bind fun _ =>
(fX9_earliest h7 x0 x1).bind fun v26 =>
some (v26, h7)
else
some ((-1001 : Int32), h)
else
some ((-1001 : Int32), h)
def fX9_isCell (h : XH) (x0 : Nat) (x1 : Int32) : Option Bool :=
(xco h x0 9).bind fun _ =>
(fX9_cells h x0).bind fun v2 =>
(fX9_in x1 (0 : Int32) (v2 - (1 : Int32))).bind fun v4 =>
some v4
def fX9_isTick (x0 : Int32) : Option Bool :=
(fX9_in x0 (0 : Int32) (1000 : Int32)).bind fun v1 =>
some v1
def fX9_seenAt (h : XH) (x0 : Nat) (x1 : Int32) (x2 : Int32) : Option Int32 :=
(xgR h x0 9 0).bind fun v1 =>
(xgR h x0 9 2).bind fun v3 =>
(xaI h v3 0 x1).bind fun v5 =>
(xco h x0 9).bind fun _ =>
(fX9_cells h x0).bind fun v8 =>
(fX9_modulo (x2 - v5) v8).bind fun v10 =>
(xaI h v1 0 ((1 : Int32) + v10)).bind fun v12 =>
some v12
def fX9_markAt (h : XH) (x0 : Nat) (x1 : Int32) (x2 : Int32) : Option (Int32 × XH) :=
(fX9_isTick x1).bind fun v1 =>
if v1 = true then
(xco h x0 9).bind fun _ =>
(fX9_isCell h x0 x2).bind fun v4 =>
if v4 = true then
(xco h x0 9).bind fun _ =>
(fX9_laysTurns h x0).bind fun h7 =>
(xco h7 x0 9).bind fun _ =>
(fX9_seenAt h7 x0 x1 x2).bind fun v10 =>
some (v10, h7)
else
some ((-1001 : Int32), h)
else
some ((-1001 : Int32), h)
def fX9_mixes (h : XH) (x0 : Nat) (x1 : Int32) : Option XH :=
(xgJ h x0 9 16).bind fun v1 =>
(xpf h x0 9 16 (.long (((31 : Int64) * v1) + (x1.toInt64)))).bind fun h3 =>
some h3
def fX9_nearest_J89 (h : XH) (x0 : Nat) (x1 : Int32) (x3 : Int32) (x4 : Int32) (x5 : Int32) (x6 : Bool) (s0 : Int32) : Option ((Int32 × Int32 × Int32) ⊕ Int32) :=
if x6 = true then
some (.inl (s0, x5, (x4 + (1 : Int32))))
else
some (.inl (s0, x3, (x4 + (1 : Int32))))
def fX9_nearest_J71 (h : XH) (x0 : Nat) (x1 : Int32) (x2 : Int32) (x3 : Int32) (x4 : Int32) (x5 : Int32) (s0 : Bool) : Option ((Int32 × Int32 × Int32) ⊕ Int32) :=
if s0 = true then
(xgR h x0 9 11).bind fun v14 =>
(xaI h v14 0 x4).bind fun v16 =>
fX9_nearest_J89 h x0 x1 x3 x4 x5 s0 v16
else
fX9_nearest_J89 h x0 x1 x3 x4 x5 s0 x2
def fX9_nearest_J66 (h : XH) (x0 : Nat) (x1 : Int32) (x2 : Int32) (x3 : Int32) (x4 : Int32) (x5 : Int32) : Option ((Int32 × Int32 × Int32) ⊕ Int32) :=
fX9_nearest_J71 h x0 x1 x2 x3 x4 x5 true
def fX9_nearest_b33 (h : XH) (x0 : Nat) (x1 : Int32) (x2 : Int32) (x3 : Int32) (x4 : Int32) : Option ((Int32 × Int32 × Int32) ⊕ Int32) :=
(xgI h x0 9 12).bind fun v6 =>
if v6 ≤ x4 then
some (.inr x2)
else
(xgR h x0 9 11).bind fun v8 =>
(xaI h v8 0 x4).bind fun v10 =>
(fX9_apart v10 x1).bind fun v12 =>
if x4 = 0 then
fX9_nearest_J66 h x0 x1 x2 x3 x4 v12
else
if x3 ≤ v12 then
fX9_nearest_J71 h x0 x1 x2 x3 x4 v12 false
else
fX9_nearest_J66 h x0 x1 x2 x3 x4 v12
def fX9_nearest_B33 (h : XH) (x0 : Nat) (x1 : Int32) (s : (Int32 × Int32 × Int32)) : Option ((Int32 × Int32 × Int32) ⊕ Int32) := fX9_nearest_b33 h x0 x1 s.1 s.2.1 s.2.2
def fX9_nearest (h : XH) (x0 : Nat) (x1 : Int32) : Option (Int32 × XH) :=
(fX9_in x1 (-1000 : Int32) (1000 : Int32)).bind fun v1 =>
if v1 = true then
(xco h x0 9).bind fun _ =>
(fX9_finds h x0 (-1004 : Int32)).bind fun h4 =>
(xloop (fX9_nearest_B33 h4 x0 x1) 5000 ((-1004 : Int32), (0 : Int32), (0 : Int32))).bind fun e18 =>
some (e18, h4)
else
some ((-1001 : Int32), h)
def fX9_isReading (h : XH) (x0 : Nat) (x1 : Int32) : Option Bool :=
(xgR h x0 9 0).bind fun v1 =>
(xaI h v1 0 (76 : Int32)).bind fun v3 =>
(fX9_in x1 (0 : Int32) (v3 - (1 : Int32))).bind fun v5 =>
some v5
def fX9_reading (h : XH) (x0 : Nat) (x1 : Int32) (x2 : Int32) : Option (Int32 × XH) :=
(xco h x0 9).bind fun _ =>
(fX9_isReading h x0 x1).bind fun v2 =>
if v2 = true then
(fX9_in x2 (0 : Int32) (2 : Int32)).bind fun v4 =>
if v4 = true then
if (2 : Int32) ≤ x2 then
(xco h x0 9).bind fun _ =>
(fX9_finds h x0 x1).bind fun h7 =>
(xgI h7 x0 9 12).bind fun v9 =>
some (v9, h7)
else
(xgR h x0 9 0).bind fun v11 =>
(xaI h v11 0 (((77 : Int32) + ((2 : Int32) * x1)) + x2)).bind fun v13 =>
some (v13, h)
else
some ((-1001 : Int32), h)
else
some ((-1001 : Int32), h)
def fX9_mixesReadings_b15 (x0 : Nat) (x1 : Int32) (h : XH) (x2 : Int32) : Option ((XH × Int32) ⊕ XH) :=
if (3 : Int32) ≤ x2 then
some (.inr h)
else
(xco h x0 9).bind fun _ =>
(fX9_reading h x0 x1 x2).bind fun v6 =>
(xco v6.2 x0 9).bind fun _ =>
(fX9_mixes v6.2 x0 v6.1).bind fun h9 =>
some (.inl (h9, (x2 + (1 : Int32))))
def fX9_mixesReadings_B15 (x0 : Nat) (x1 : Int32) (s : (XH × Int32)) : Option ((XH × Int32) ⊕ XH) := fX9_mixesReadings_b15 x0 x1 s.1 s.2
def fX9_mixesReadings_b2 (x0 : Nat) (h : XH) (x1 : Int32) : Option ((XH × Int32) ⊕ XH) :=
(xgR h x0 9 0).bind fun v1 =>
(xaI h v1 0 (76 : Int32)).bind fun v3 =>
if v3 ≤ x1 then
some (.inr h)
else
(xloop (fX9_mixesReadings_B15 x0 x1) 5000 (h, (0 : Int32))).bind fun e11 =>
some (.inl (e11, (x1 + (1 : Int32))))
def fX9_mixesReadings_B2 (x0 : Nat) (s : (XH × Int32)) : Option ((XH × Int32) ⊕ XH) := fX9_mixesReadings_b2 x0 s.1 s.2
def fX9_mixesReadings_b52 (x0 : Nat) (h : XH) (x1 : Int32) : Option ((XH × Int32) ⊕ XH) :=
if (5 : Int32) ≤ x1 then
some (.inr h)
else
(xco h x0 9).bind fun _ =>
(fX9_candidate h x0 x1).bind fun v22 =>
(xco v22.2 x0 9).bind fun _ =>
(fX9_mixes v22.2 x0 v22.1).bind fun h25 =>
some (.inl (h25, (x1 + (1 : Int32))))
def fX9_mixesReadings_B52 (x0 : Nat) (s : (XH × Int32)) : Option ((XH × Int32) ⊕ XH) := fX9_mixesReadings_b52 x0 s.1 s.2
def fX9_mixesReadings (h : XH) (x0 : Nat) : Option XH :=
(xloop (fX9_mixesReadings_B2 x0) 5000 (h, (0 : Int32))).bind fun e13 =>
(xco e13 x0 9).bind fun _ =>
(fX9_candidates e13 x0).bind fun v16 =>
(xco v16.2 x0 9).bind fun _ =>
(fX9_mixes v16.2 x0 v16.1).bind fun h19 =>
(xloop (fX9_mixesReadings_B52 x0) 5000 (h19, (0 : Int32))).bind fun e27 =>
(xco e27 x0 9).bind fun _ =>
(fX9_nearest e27 x0 (0 : Int32)).bind fun v30 =>
(xco v30.2 x0 9).bind fun _ =>
(fX9_mixes v30.2 x0 v30.1).bind fun h33 =>
(xco h33 x0 9).bind fun _ =>
(fX9_bestPeriod h33 x0 (20 : Int32) false).bind fun v36 =>
(xco v36.2 x0 9).bind fun _ =>
(fX9_mixes v36.2 x0 v36.1).bind fun h39 =>
(xco h39 x0 9).bind fun _ =>
(fX9_bestPeriod h39 x0 (20 : Int32) true).bind fun v42 =>
(xco v42.2 x0 9).bind fun _ =>
(fX9_mixes v42.2 x0 v42.1).bind fun h45 =>
some h45
def fX9_isStill_J49 (h : XH) (x0 : Nat) (x1 : Int32) (x3 : Int32) : Option ((Bool × Int32) ⊕ Bool) :=
some (.inl (false, (x3 + (1 : Int32))))
def fX9_isStill_b12 (h : XH) (x0 : Nat) (x1 : Int32) (x2 : Bool) (x3 : Int32) : Option ((Bool × Int32) ⊕ Bool) :=
(xgI h x0 9 15).bind fun v6 =>
if v6 < x3 then
some (.inr x2)
else
if x2 = true then
(xgR h x0 9 2).bind fun v8 =>
(xaI h v8 0 x3).bind fun v10 =>
(xgR h x0 9 2).bind fun v12 =>
(xgI h x0 9 14).bind fun v14 =>
(xaI h v12 0 v14).bind fun v16 =>
if x1 = 0 then none else
if (xrem (v10 - v16) x1) = 0 then
some (.inl (true, (x3 + (1 : Int32))))
else
fX9_isStill_J49 h x0 x1 x3
else
fX9_isStill_J49 h x0 x1 x3
def fX9_isStill_B12 (h : XH) (x0 : Nat) (x1 : Int32) (s : (Bool × Int32)) : Option ((Bool × Int32) ⊕ Bool) := fX9_isStill_b12 h x0 x1 s.1 s.2
def fX9_isStill (h : XH) (x0 : Nat) : Option Bool :=
(xco h x0 9).bind fun _ =>
(fX9_measure h x0).bind fun v2 =>
(xgI h x0 9 14).bind fun v4 =>
(xloop (fX9_isStill_B12 h x0 v2) 5000 (true, v4)).bind fun e19 =>
some e19
def fX9_smearAt_b7 (h : XH) (x0 : Nat) (x1 : Int32) (x2 : Int32) (x3 : Int32) : Option ((Int32 × Int32) ⊕ Int32) :=
(xgI h x0 9 15).bind fun v3 =>
if v3 < x3 then
some (.inr x2)
else
(xco h x0 9).bind fun _ =>
(fX9_seenAt h x0 x3 x1).bind fun v6 =>
if v6 ≤ 0 then
some (.inl ((x2 ||| (0 : Int32)), (x3 + (1 : Int32))))
else
xlet (x2 ||| ((1 : Int32) <<< ((v6 - (1 : Int32)) &&& 31))) fun y8 =>
some (.inl (y8, (x3 + (1 : Int32))))
def fX9_smearAt_B7 (h : XH) (x0 : Nat) (x1 : Int32) (s : (Int32 × Int32)) : Option ((Int32 × Int32) ⊕ Int32) := fX9_smearAt_b7 h x0 x1 s.1 s.2
def fX9_smearAt (h : XH) (x0 : Nat) (x1 : Int32) : Option Int32 :=
(xgI h x0 9 14).bind fun v1 =>
(xloop (fX9_smearAt_B7 h x0 x1) 5000 ((0 : Int32), v1)).bind fun e9 =>
some e9
def fX9_smeared_b4 (h : XH) (x0 : Nat) (x1 : Int32) (x2 : Int32) : Option ((Int32 × Int32) ⊕ Int32) :=
(xco h x0 9).bind fun _ =>
(fX9_cells h x0).bind fun v2 =>
if v2 ≤ x2 then
some (.inr x1)
else
(xco h x0 9).bind fun _ =>
(fX9_smearAt h x0 x2).bind fun v5 =>
if (v5 &&& (v5 - (1 : Int32))) = 0 then
some (.inl ((x1 + (0 : Int32)), (x2 + (1 : Int32))))
else
some (.inl ((x1 + (1 : Int32)), (x2 + (1 : Int32))))
def fX9_smeared_B4 (h : XH) (x0 : Nat) (s : (Int32 × Int32)) : Option ((Int32 × Int32) ⊕ Int32) := fX9_smeared_b4 h x0 s.1 s.2
def fX9_smeared (h : XH) (x0 : Nat) : Option Int32 :=
(xloop (fX9_smeared_B4 h x0) 5000 ((0 : Int32), (0 : Int32))).bind fun e7 =>
some e7
def fX9_opening (h : XH) (x0 : Nat) (x1 : Int32) (x2 : Int32) : Option (Int32 × XH) :=
if x1 < 0 then
some ((-1001 : Int32), h)
else
(fX9_in x2 (0 : Int32) (3 : Int32)).bind fun v1 =>
if v1 = true then
(xco h x0 9).bind fun _ =>
(fX9_goesTo h x0 x1).bind fun v4 =>
if x1 < v4.1 then
(xco v4.2 x0 9).bind fun _ =>
(fX9_laysTurns v4.2 x0).bind fun h7 =>
if x2 = 0 then
(xgI h7 x0 9 14).bind fun v12 =>
some (v12, h7)
else
if x2 = 1 then
(xgI h7 x0 9 15).bind fun v14 =>
(xgI h7 x0 9 14).bind fun v16 =>
some (((v14 - v16) + (1 : Int32)), h7)
else
if x2 = 2 then
(xco h7 x0 9).bind fun _ =>
(fX9_smeared h7 x0).bind fun v19 =>
some (v19, h7)
else
(xco h7 x0 9).bind fun _ =>
(fX9_isStill h7 x0).bind fun v22 =>
if v22 = true then
some ((1 : Int32), h7)
else
some ((0 : Int32), h7)
else
some ((-1004 : Int32), v4.2)
else
some ((-1001 : Int32), h)
def fX9_pictures_b9 (x0 : Nat) (x1 : Int32) (x2 : Int32) (h : XH) (x3 : Int32) : Option ((XH × Int32) ⊕ XH) :=
if (60 : Int32) ≤ x3 then
some (.inr h)
else
(xgR h x0 9 10).bind fun v4 =>
(xsI h v4 1 x3 (vp_nar .boolean (0 : Int32))).bind fun h6 =>
some (.inl (h6, (x3 + (1 : Int32))))
def fX9_pictures_B9 (x0 : Nat) (x1 : Int32) (x2 : Int32) (s : (XH × Int32)) : Option ((XH × Int32) ⊕ XH) := fX9_pictures_b9 x0 x1 x2 s.1 s.2
def fX9_pictures_J68 (h : XH) (x0 : Nat) (x1 : Int32) (x3 : Int32) (x4 : Int32) (s0 : Int32) (s1 : Bool) : Option ((XH × Int32 × Int32) ⊕ (XH × Int32)) :=
(xgR h x0 9 10).bind fun v25 =>
(xsI h v25 1 x4 (vp_nar .boolean (1 : Int32))).bind fun h27 =>
some (.inl (h27, (s0 + (xbi s1)), (x3 + (1 : Int32))))
def fX9_pictures_b30 (x0 : Nat) (x1 : Int32) (h : XH) (x2 : Int32) (x3 : Int32) : Option ((XH × Int32 × Int32) ⊕ (XH × Int32)) :=
(xco h x0 9).bind fun _ =>
(fX9_flashes h x0).bind fun v11 =>
if v11 ≤ x3 then
some (.inr (h, x2))
else
(xgR h x0 9 2).bind fun v13 =>
(xco h x0 9).bind fun _ =>
(fX9_tickOfFlash h x0 x3).bind fun v16 =>
(xaI h v13 0 v16).bind fun v18 =>
if x1 = 0 then none else
(xgR h x0 9 10).bind fun v21 =>
(xaI h v21 1 (xrem v18 x1)).bind fun v23 =>
if v23 = 0 then
fX9_pictures_J68 h x0 x1 x3 (xrem v18 x1) x2 true
else
fX9_pictures_J68 h x0 x1 x3 (xrem v18 x1) x2 false
def fX9_pictures_B30 (x0 : Nat) (x1 : Int32) (s : (XH × Int32 × Int32)) : Option ((XH × Int32 × Int32) ⊕ (XH × Int32)) := fX9_pictures_b30 x0 x1 s.1 s.2.1 s.2.2
def fX9_pictures (h : XH) (x0 : Nat) : Option (Int32 × XH) :=
(xco h x0 9).bind fun _ =>
(fX9_measure h x0).bind fun v2 =>
(xloop (fX9_pictures_B9 x0 v2 (0 : Int32)) 5000 (h, (0 : Int32))).bind fun e8 =>
(xloop (fX9_pictures_B30 x0 v2) 5000 (e8, (0 : Int32), (0 : Int32))).bind fun e29 =>
some (e29.2, e29.1)
def fX9_seems_J83 (h : XH) (x0 : Nat) (x1 : Int32) (x3 : Int32) (s0 : Int32) : Option ((Int32 × Int32) ⊕ Int32) :=
some (.inl ((s0 + (0 : Int32)), (x3 + (1 : Int32))))
def fX9_seems_J79 (h : XH) (x0 : Nat) (x1 : Int32) (x3 : Int32) (s0 : Int32) : Option ((Int32 × Int32) ⊕ Int32) :=
some (.inl ((s0 + (1 : Int32)), (x3 + (1 : Int32))))
def fX9_seems_b31 (h : XH) (x0 : Nat) (x1 : Int32) (x2 : Int32) (x3 : Int32) : Option ((Int32 × Int32) ⊕ Int32) :=
(xco h x0 9).bind fun _ =>
(fX9_flashes h x0).bind fun v7 =>
if v7 ≤ (x3 + (1 : Int32)) then
some (.inr x2)
else
(xco h x0 9).bind fun _ =>
(fX9_stepBehind h x0 x3).bind fun v10 =>
if x1 = 0 then
if v10 = 0 then
fX9_seems_J79 h x0 x1 x3 x2
else
fX9_seems_J83 h x0 x1 x3 x2
else
if x1 = (1 : Int32) then
if v10 ≤ 0 then
fX9_seems_J83 h x0 x1 x3 x2
else
fX9_seems_J79 h x0 x1 x3 x2
else
if 0 ≤ v10 then
fX9_seems_J83 h x0 x1 x3 x2
else
fX9_seems_J79 h x0 x1 x3 x2
def fX9_seems_B31 (h : XH) (x0 : Nat) (x1 : Int32) (s : (Int32 × Int32)) : Option ((Int32 × Int32) ⊕ Int32) := fX9_seems_b31 h x0 x1 s.1 s.2
def fX9_seems (h : XH) (x0 : Nat) (x1 : Int32) : Option (Int32 × XH) :=
(fX9_in x1 (0 : Int32) (3 : Int32)).bind fun v1 =>
if v1 = true then
(xco h x0 9).bind fun _ =>
(fX9_laysTurns h x0).bind fun h4 =>
if x1 = (3 : Int32) then
(xco h4 x0 9).bind fun _ =>
(fX9_pictures h4 x0).bind fun v15 =>
some (v15.1, v15.2)
else
(xloop (fX9_seems_B31 h4 x0 x1) 5000 ((0 : Int32), (0 : Int32))).bind fun e12 =>
some (e12, h4)
else
some ((-1001 : Int32), h)
def fX9_smear (h : XH) (x0 : Nat) (x1 : Int32) (x2 : Int32) : Option (Int32 × XH) :=
if x1 < 0 then
some ((-1001 : Int32), h)
else
(xco h x0 9).bind fun _ =>
(fX9_isCell h x0 x2).bind fun v2 =>
if v2 = true then
(xco h x0 9).bind fun _ =>
(fX9_goesTo h x0 x1).bind fun v5 =>
if x1 < v5.1 then
(xco v5.2 x0 9).bind fun _ =>
(fX9_laysTurns v5.2 x0).bind fun h8 =>
(xco h8 x0 9).bind fun _ =>
(fX9_smearAt h8 x0 x2).bind fun v11 =>
some (v11, h8)
else
some ((-1004 : Int32), v5.2)
else
some ((-1001 : Int32), h)
def fX9_digest_b9 (x0 : Nat) (h : XH) (x1 : Int32) : Option ((XH × Int32) ⊕ XH) :=
if (18 : Int32) ≤ x1 then
some (.inr h)
else
(xco h x0 9).bind fun _ =>
(fX9_count h x0 x1).bind fun v4 =>
(xco v4.2 x0 9).bind fun _ =>
(fX9_mixes v4.2 x0 v4.1).bind fun h7 =>
some (.inl (h7, (x1 + (1 : Int32))))
def fX9_digest_B9 (x0 : Nat) (s : (XH × Int32)) : Option ((XH × Int32) ⊕ XH) := fX9_digest_b9 x0 s.1 s.2
def fX9_digest_b32 (x0 : Nat) (h : XH) (x1 : Int32) : Option ((XH × Int32) ⊕ XH) :=
(xco h x0 9).bind fun _ =>
(fX9_cells h x0).bind fun v12 =>
if v12 ≤ x1 then
some (.inr h)
else
(xco h x0 9).bind fun _ =>
(fX9_markAt h x0 (0 : Int32) x1).bind fun v15 =>
(xco v15.2 x0 9).bind fun _ =>
(fX9_mixes v15.2 x0 v15.1).bind fun h18 =>
(xco h18 x0 9).bind fun _ =>
(fX9_markAt h18 x0 (1000 : Int32) x1).bind fun v21 =>
(xco v21.2 x0 9).bind fun _ =>
(fX9_mixes v21.2 x0 v21.1).bind fun h24 =>
some (.inl (h24, (x1 + (1 : Int32))))
def fX9_digest_B32 (x0 : Nat) (s : (XH × Int32)) : Option ((XH × Int32) ⊕ XH) := fX9_digest_b32 x0 s.1 s.2
def fX9_digest_b86 (x0 : Nat) (x1 : Int32) (h : XH) (x2 : Int32) : Option ((XH × Int32) ⊕ XH) :=
if (4 : Int32) ≤ x2 then
some (.inr h)
else
(xco h x0 9).bind fun _ =>
(fX9_flash h x0 x1 x2).bind fun v32 =>
(xco v32.2 x0 9).bind fun _ =>
(fX9_mixes v32.2 x0 v32.1).bind fun h35 =>
some (.inl (h35, (x2 + (1 : Int32))))
def fX9_digest_B86 (x0 : Nat) (x1 : Int32) (s : (XH × Int32)) : Option ((XH × Int32) ⊕ XH) := fX9_digest_b86 x0 x1 s.1 s.2
def fX9_digest_b70 (x0 : Nat) (h : XH) (x1 : Int32) : Option ((XH × Int32) ⊕ XH) :=
if (20 : Int32) ≤ x1 then
some (.inr h)
else
(xco h x0 9).bind fun _ =>
(fX9_flashes h x0).bind fun v29 =>
if v29 ≤ x1 then
some (.inr h)
else
(xloop (fX9_digest_B86 x0 x1) 5000 (h, (0 : Int32))).bind fun e37 =>
some (.inl (e37, (x1 + (1 : Int32))))
def fX9_digest_B70 (x0 : Nat) (s : (XH × Int32)) : Option ((XH × Int32) ⊕ XH) := fX9_digest_b70 x0 s.1 s.2
def fX9_digest_b115 (x0 : Nat) (h : XH) (x1 : Int32) : Option ((XH × Int32) ⊕ XH) :=
if (4 : Int32) ≤ x1 then
some (.inr h)
else
(xco h x0 9).bind fun _ =>
(fX9_seems h x0 x1).bind fun v42 =>
(xco v42.2 x0 9).bind fun _ =>
(fX9_mixes v42.2 x0 v42.1).bind fun h45 =>
some (.inl (h45, (x1 + (1 : Int32))))
def fX9_digest_B115 (x0 : Nat) (s : (XH × Int32)) : Option ((XH × Int32) ⊕ XH) := fX9_digest_b115 x0 s.1 s.2
def fX9_digest_b148 (x0 : Nat) (x1 : Int32) (h : XH) (x2 : Int32) : Option ((XH × Int32) ⊕ XH) :=
if (4 : Int32) ≤ x2 then
some (.inr h)
else
(xco h x0 9).bind fun _ =>
(fX9_opening h x0 x1 x2).bind fun v53 =>
(xco v53.2 x0 9).bind fun _ =>
(fX9_mixes v53.2 x0 v53.1).bind fun h56 =>
some (.inl (h56, (x2 + (1 : Int32))))
def fX9_digest_B148 (x0 : Nat) (x1 : Int32) (s : (XH × Int32)) : Option ((XH × Int32) ⊕ XH) := fX9_digest_b148 x0 x1 s.1 s.2
def fX9_digest_b141 (x0 : Nat) (h : XH) (x1 : Int32) : Option ((XH × Int32) ⊕ XH) :=
if (5 : Int32) ≤ x1 then
some (.inr h)
else
(xloop (fX9_digest_B148 x0 x1) 5000 (h, (0 : Int32))).bind fun e58 =>
(xco e58 x0 9).bind fun _ =>
(fX9_smear e58 x0 x1 (0 : Int32)).bind fun v61 =>
(xco v61.2 x0 9).bind fun _ =>
(fX9_mixes v61.2 x0 v61.1).bind fun h64 =>
some (.inl (h64, (x1 + (1 : Int32))))
def fX9_digest_B141 (x0 : Nat) (s : (XH × Int32)) : Option ((XH × Int32) ⊕ XH) := fX9_digest_b141 x0 s.1 s.2
def fX9_digest (h : XH) (x0 : Nat) : Option (Int64 × XH) :=
(xpf h x0 9 16 (.long (12956 : Int64))).bind fun h1 =>
(xloop (fX9_digest_B9 x0) 5000 (h1, (0 : Int32))).bind fun e9 =>
(xloop (fX9_digest_B32 x0) 5000 (e9, (0 : Int32))).bind fun e26 =>
(xloop (fX9_digest_B70 x0) 5000 (e26, (0 : Int32))).bind fun e39 =>
(xloop (fX9_digest_B115 x0) 5000 (e39, (0 : Int32))).bind fun e47 =>
(xco e47 x0 9).bind fun _ =>
(fX9_mixesReadings e47 x0).bind fun h50 =>
(xloop (fX9_digest_B141 x0) 5000 (h50, (0 : Int32))).bind fun e66 =>
(xgJ e66 x0 9 16).bind fun v68 =>
some (v68, e66)
def fX9_isChange (h : XH) (x0 : Nat) (x1 : Int32) : Option Bool :=
(xco h x0 9).bind fun _ =>
(fX9_changeFrom h x0 x1).bind fun v2 =>
(xgR h x0 9 0).bind fun v4 =>
(xaI h v4 0 (63 : Int32)).bind fun v6 =>
if v6 ≤ v2 then
some false
else
(xco h x0 9).bind fun _ =>
(fX9_tickOf h x0 v2).bind fun v9 =>
if v9 = x1 then
some true
else
some false
def fX9_dropChange_b37 (x0 : Nat) (h : XH) (x3 : Int32) : Option ((XH × Int32) ⊕ XH) :=
(xgR h x0 9 0).bind fun v16 =>
(xaI h v16 0 (63 : Int32)).bind fun v18 =>
if ((2 : Int32) * v18) ≤ x3 then
some (.inr h)
else
(xgR h x0 9 0).bind fun v20 =>
(xgR h x0 9 0).bind fun v22 =>
(xaI h v22 0 (((64 : Int32) + x3) + (2 : Int32))).bind fun v24 =>
(xsI h v20 0 ((64 : Int32) + x3) v24).bind fun h26 =>
some (.inl (h26, (x3 + (1 : Int32))))
def fX9_dropChange_B37 (x0 : Nat) (s : (XH × Int32)) : Option ((XH × Int32) ⊕ XH) := fX9_dropChange_b37 x0 s.1 s.2
def fX9_dropChange (h : XH) (x0 : Nat) (x1 : Int32) : Option (Int32 × XH) :=
(xco h x0 9).bind fun _ =>
(fX9_isChange h x0 x1).bind fun v2 =>
if v2 = true then
(xco h x0 9).bind fun _ =>
(fX9_records h x0).bind fun h5 =>
(xco h5 x0 9).bind fun _ =>
(fX9_changeFrom h5 x0 x1).bind fun v8 =>
(xgR h5 x0 9 0).bind fun v10 =>
(xaI h5 v10 0 (63 : Int32)).bind fun v12 =>
(xsI h5 v10 0 (63 : Int32) (v12 - (1 : Int32))).bind fun h14 =>
(xloop (fX9_dropChange_B37 x0) 5000 (h14, ((2 : Int32) * v8))).bind fun e28 =>
(xgR e28 x0 9 0).bind fun v30 =>
(xaI e28 v30 0 (63 : Int32)).bind fun v32 =>
some (v32, e28)
else
some ((-1001 : Int32), h)
def fX9_dropReading_b31 (x0 : Nat) (h : XH) (x2 : Int32) : Option ((XH × Int32) ⊕ XH) :=
(xgR h x0 9 0).bind fun v13 =>
(xaI h v13 0 (76 : Int32)).bind fun v15 =>
if ((2 : Int32) * v15) ≤ x2 then
some (.inr h)
else
(xgR h x0 9 0).bind fun v17 =>
(xgR h x0 9 0).bind fun v19 =>
(xaI h v19 0 (((77 : Int32) + x2) + (2 : Int32))).bind fun v21 =>
(xsI h v17 0 ((77 : Int32) + x2) v21).bind fun h23 =>
some (.inl (h23, (x2 + (1 : Int32))))
def fX9_dropReading_B31 (x0 : Nat) (s : (XH × Int32)) : Option ((XH × Int32) ⊕ XH) := fX9_dropReading_b31 x0 s.1 s.2
def fX9_dropReading (h : XH) (x0 : Nat) (x1 : Int32) : Option (Int32 × XH) :=
(xco h x0 9).bind fun _ =>
(fX9_isReading h x0 x1).bind fun v2 =>
if v2 = true then
(xco h x0 9).bind fun _ =>
(fX9_records h x0).bind fun h5 =>
(xgR h5 x0 9 0).bind fun v7 =>
(xaI h5 v7 0 (76 : Int32)).bind fun v9 =>
(xsI h5 v7 0 (76 : Int32) (v9 - (1 : Int32))).bind fun h11 =>
(xloop (fX9_dropReading_B31 x0) 5000 (h11, ((2 : Int32) * x1))).bind fun e25 =>
(xgR e25 x0 9 0).bind fun v27 =>
(xaI e25 v27 0 (76 : Int32)).bind fun v29 =>
some (v29, e25)
else
some ((-1001 : Int32), h)
def fX9_fails (h : XH) (x0 : Nat) (x1 : Int32) (x2 : Int32) : Option (Bool × XH) :=
(xpf h x0 9 6 (.int x1)).bind fun h1 =>
(xpf h1 x0 9 7 (.int x2)).bind fun h3 =>
some (false, h3)
def fX9_faultKind (h : XH) (x0 : Nat) : Option Int32 :=
(xgI h x0 9 6).bind fun v1 =>
some v1
def fX9_here (h : XH) (x0 : Nat) : Option Int32 :=
(xgI h x0 9 8).bind fun v1 =>
(xgI h x0 9 5).bind fun v3 =>
if v3 ≤ v1 then
some (-1004 : Int32)
else
(xgR h x0 9 4).bind fun v5 =>
(xgI h x0 9 8).bind fun v7 =>
(xaI h v5 0 v7).bind fun v9 =>
some v9
def fX9_init_b65 (x0 : Nat) (h : XH) (x1 : Int32) : Option ((XH × Int32) ⊕ XH) :=
if (12 : Int32) ≤ x1 then
some (.inr h)
else
(xgR h x0 9 0).bind fun v29 =>
(xsI h v29 0 ((1 : Int32) + x1) (1 : Int32)).bind fun h31 =>
some (.inl (h31, (x1 + (3 : Int32))))
def fX9_init_B65 (x0 : Nat) (s : (XH × Int32)) : Option ((XH × Int32) ⊕ XH) := fX9_init_b65 x0 s.1 s.2
def fX9_init (h : XH) (n : Nat) (x0 : Nat) : Option XH :=
(xnw h n (.inr (0, 980, .inl (fun _ => 0)))).bind fun h1 =>
(xpf h1 x0 9 0 (.ref n)).bind fun h3 =>
(xnw h3 (n + 1) (.inr (0, 1001, .inl (fun _ => 0)))).bind fun h5 =>
(xpf h5 x0 9 2 (.ref (n + 1))).bind fun h7 =>
(xnw h7 (n + 2) (.inr (0, 80, .inl (fun _ => 0)))).bind fun h9 =>
(xpf h9 x0 9 4 (.ref (n + 2))).bind fun h11 =>
(xnw h11 (n + 3) (.inr (1, 60, .inl (fun _ => 0)))).bind fun h13 =>
(xpf h13 x0 9 10 (.ref (n + 3))).bind fun h15 =>
(xnw h15 (n + 4) (.inr (0, 2001, .inl (fun _ => 0)))).bind fun h17 =>
(xpf h17 x0 9 11 (.ref (n + 4))).bind fun h19 =>
(xnw h19 (n + 5) (.inr (0, 60, .inl (fun _ => 0)))).bind fun h21 =>
(xpf h21 x0 9 13 (.ref (n + 5))).bind fun h23 =>
(xgR h23 x0 9 0).bind fun v25 =>
(xsI h23 v25 0 (0 : Int32) (12 : Int32)).bind fun h27 =>
(xloop (fX9_init_B65 x0) 5000 (h27, (0 : Int32))).bind fun e33 =>
(xgR e33 x0 9 0).bind fun v35 =>
(xsI e33 v35 0 (75 : Int32) (1 : Int32)).bind fun h37 =>
(xgR h37 x0 9 0).bind fun v39 =>
(xsI h37 v39 0 (93 : Int32) (100 : Int32)).bind fun h41 =>
(xgR h41 x0 9 0).bind fun v43 =>
(xsI h41 v43 0 (94 : Int32) (1 : Int32)).bind fun h45 =>
(xgR h45 x0 9 0).bind fun v47 =>
(xsI h45 v47 0 (95 : Int32) (1 : Int32)).bind fun h49 =>
some h49
def fX9_isDigit (h : XH) (x0 : Nat) : Option Bool :=
(xco h x0 9).bind fun _ =>
(fX9_here h x0).bind fun v2 =>
(fX9_in v2 (48 : Int32) (57 : Int32)).bind fun v4 =>
some v4
def fX9_isSeen (h : XH) (x0 : Nat) (x1 : Int32) : Option Int32 :=
(fX9_isTick x1).bind fun v1 =>
if v1 = true then
(xco h x0 9).bind fun _ =>
(fX9_isOpen h x0 x1).bind fun v4 =>
if v4 = true then
some (1 : Int32)
else
some (0 : Int32)
else
some (-1001 : Int32)
def fX9_readsCells_J60 (h : XH) (x0 : Nat) (x1 : Int32) (s0 : Nat) (s1 : Int32) (s2 : Int32) : Option ((XH × Int32) ⊕ (XH × Int32)) :=
(xsI h s0 0 s1 s2).bind fun h12 =>
(xgI h12 x0 9 8).bind fun v14 =>
(xpf h12 x0 9 8 (.int (v14 + (1 : Int32)))).bind fun h16 =>
some (.inl (h16, (x1 + (1 : Int32))))
def fX9_readsCells_J31 (h : XH) (x0 : Nat) (x1 : Int32) : Option ((XH × Int32) ⊕ (XH × Int32)) :=
(xgR h x0 9 0).bind fun v4 =>
(xco h x0 9).bind fun _ =>
(fX9_here h x0).bind fun v7 =>
if v7 = (46 : Int32) then
fX9_readsCells_J60 h x0 x1 v4 ((1 : Int32) + x1) (0 : Int32)
else
(xco h x0 9).bind fun _ =>
(fX9_here h x0).bind fun v10 =>
fX9_readsCells_J60 h x0 x1 v4 ((1 : Int32) + x1) ((v10 - (97 : Int32)) + (1 : Int32))
def fX9_readsCells_b2 (x0 : Nat) (h : XH) (x1 : Int32) : Option ((XH × Int32) ⊕ (XH × Int32)) :=
if (60 : Int32) ≤ x1 then
some (.inr (h, x1))
else
(xco h x0 9).bind fun _ =>
(fX9_here h x0).bind fun v2 =>
if v2 = (46 : Int32) then
fX9_readsCells_J31 h x0 x1
else
(xco h x0 9).bind fun _ =>
(fX9_here h x0).bind fun v19 =>
(fX9_in v19 (97 : Int32) (99 : Int32)).bind fun v21 =>
if v21 = true then
fX9_readsCells_J31 h x0 x1
else
some (.inr (h, x1))
def fX9_readsCells_B2 (x0 : Nat) (s : (XH × Int32)) : Option ((XH × Int32) ⊕ (XH × Int32)) := fX9_readsCells_b2 x0 s.1 s.2
def fX9_readsCells (h : XH) (x0 : Nat) : Option (Bool × XH) :=
(xloop (fX9_readsCells_B2 x0) 5000 (h, (0 : Int32))).bind fun e23 =>
(xgR e23.1 x0 9 0).bind fun v25 =>
(xsI e23.1 v25 0 (0 : Int32) e23.2).bind fun h27 =>
if 0 < e23.2 then
some (true, h27)
else
(xgI h27 x0 9 8).bind fun v29 =>
(xco h27 x0 9).bind fun _ =>
(fX9_fails h27 x0 (1 : Int32) v29).bind fun v32 =>
if v32.1 = true then
some (true, v32.2)
else
some (false, v32.2)
def fX9_readsNumber_b11 (x0 : Nat) (x1 : Int32) (x2 : Int32) (x3 : Int32) (x4 : Int32) (x5 : Int32) (h : XH) : Option (XH ⊕ XH) :=
(xco h x0 9).bind fun _ =>
(fX9_isDigit h x0).bind fun v6 =>
if v6 = true then
(xgI h x0 9 8).bind fun v8 =>
if (x5 + x1) ≤ v8 then
some (.inr h)
else
(xgI h x0 9 9).bind fun v10 =>
(xco h x0 9).bind fun _ =>
(fX9_here h x0).bind fun v13 =>
(xpf h x0 9 9 (.int ((((10 : Int32) * v10) + v13) - (48 : Int32)))).bind fun h15 =>
(xgI h15 x0 9 8).bind fun v17 =>
(xpf h15 x0 9 8 (.int (v17 + (1 : Int32)))).bind fun h19 =>
some (.inl h19)
else
some (.inr h)
def fX9_readsNumber_B11 (x0 : Nat) (x1 : Int32) (x2 : Int32) (x3 : Int32) (x4 : Int32) (x5 : Int32) (s : XH) : Option (XH ⊕ XH) := fX9_readsNumber_b11 x0 x1 x2 x3 x4 x5 s
def fX9_readsNumber (h : XH) (x0 : Nat) (x1 : Int32) (x2 : Int32) (x3 : Int32) (x4 : Int32) : Option (Bool × XH) :=
(xgI h x0 9 8).bind fun v1 =>
(xpf h x0 9 9 (.int (0 : Int32))).bind fun h3 =>
(xloop (fX9_readsNumber_B11 x0 x1 x2 x3 x4 v1) 5000 h3).bind fun e21 =>
(xgI e21 x0 9 8).bind fun v23 =>
if v23 = v1 then
(xgI e21 x0 9 8).bind fun v25 =>
(xco e21 x0 9).bind fun _ =>
(fX9_fails e21 x0 (1 : Int32) v25).bind fun v28 =>
some (v28.1, v28.2)
else
(xco e21 x0 9).bind fun _ =>
(fX9_isDigit e21 x0).bind fun v31 =>
if v31 = true then
(xgI e21 x0 9 8).bind fun v44 =>
(xco e21 x0 9).bind fun _ =>
(fX9_fails e21 x0 (1 : Int32) v44).bind fun v47 =>
some (v47.1, v47.2)
else
(xgI e21 x0 9 9).bind fun v33 =>
(xpf e21 x0 9 9 (.int (v33 * x2))).bind fun h35 =>
(xgI h35 x0 9 9).bind fun v37 =>
(fX9_in v37 x3 x4).bind fun v39 =>
if v39 = true then
some (true, h35)
else
(xco h35 x0 9).bind fun _ =>
(fX9_fails h35 x0 (2 : Int32) v1).bind fun v42 =>
if v42.1 = true then
some (true, v42.2)
else
some (false, v42.2)
def fX9_readsSpeed_J50 (h : XH) (x0 : Nat) (x1 : Int32) (s0 : Nat) (s1 : Int32) (s2 : Bool) : Option (Bool × XH) :=
(xpf h s0 9 8 (.int (s1 + (xbi s2)))).bind fun h13 =>
(xco h13 x0 9).bind fun _ =>
(fX9_readsNumber h13 x0 (4 : Int32) x1 (-1000 : Int32) (1000 : Int32)).bind fun v16 =>
(xgR v16.2 x0 9 0).bind fun v18 =>
(xgI v16.2 x0 9 9).bind fun v20 =>
(xsI v16.2 v18 0 (62 : Int32) v20).bind fun h22 =>
some (v16.1, h22)
def fX9_readsSpeed_J35 (h : XH) (x0 : Nat) (s0 : Int32) : Option (Bool × XH) :=
(xgI h x0 9 8).bind fun v11 =>
if 0 ≤ s0 then
fX9_readsSpeed_J50 h x0 s0 x0 v11 false
else
fX9_readsSpeed_J50 h x0 s0 x0 v11 true
def fX9_readsSpeed (h : XH) (x0 : Nat) : Option (Bool × XH) :=
(xco h x0 9).bind fun _ =>
(fX9_here h x0).bind fun v2 =>
if v2 = (42 : Int32) then
(xgI h x0 9 8).bind fun v4 =>
(xpf h x0 9 8 (.int (v4 + (1 : Int32)))).bind fun h6 =>
(xco h6 x0 9).bind fun _ =>
(fX9_here h6 x0).bind fun v9 =>
if v9 = (45 : Int32) then
fX9_readsSpeed_J35 h6 x0 (-1 : Int32)
else
fX9_readsSpeed_J35 h6 x0 (1 : Int32)
else
some (true, h)
def fX9_readsStart (h : XH) (x0 : Nat) : Option (Bool × XH) :=
(xco h x0 9).bind fun _ =>
(fX9_here h x0).bind fun v2 =>
if v2 = (64 : Int32) then
(xgI h x0 9 8).bind fun v4 =>
(xpf h x0 9 8 (.int (v4 + (1 : Int32)))).bind fun h6 =>
(xco h6 x0 9).bind fun _ =>
(fX9_readsNumber h6 x0 (2 : Int32) (1 : Int32) (0 : Int32) (59 : Int32)).bind fun v9 =>
(xgR v9.2 x0 9 0).bind fun v11 =>
(xgI v9.2 x0 9 9).bind fun v13 =>
(xsI v9.2 v11 0 (61 : Int32) v13).bind fun h15 =>
some (v9.1, h15)
else
some (true, h)
def fX9_load_b122 (x0 : Nat) (h : XH) (x2 : Int32) : Option ((XH × Int32) ⊕ XH) :=
if (98 : Int32) ≤ x2 then
some (.inr h)
else
(xgR h x0 9 0).bind fun v23 =>
(xaI h v23 0 x2).bind fun v25 =>
(xgR h x0 9 0).bind fun v27 =>
(xgR h x0 9 0).bind fun v29 =>
(xaI h v29 0 ((882 : Int32) + x2)).bind fun v31 =>
(xsI h v27 0 x2 v31).bind fun h33 =>
(xgR h33 x0 9 0).bind fun v35 =>
(xsI h33 v35 0 ((882 : Int32) + x2) v25).bind fun h37 =>
some (.inl (h37, (x2 + (1 : Int32))))
def fX9_load_B122 (x0 : Nat) (s : (XH × Int32)) : Option ((XH × Int32) ⊕ XH) := fX9_load_b122 x0 s.1 s.2
def fX9_load_J100 (h : XH) (x0 : Nat) (s0 : Bool) : Option (Int32 × XH) :=
if s0 = true then
(xloop (fX9_load_B122 x0) 5000 (h, (0 : Int32))).bind fun e39 =>
(xco e39 x0 9).bind fun _ =>
(fX9_records e39 x0).bind fun h42 =>
(xco h42 x0 9).bind fun _ =>
(fX9_copies h42 x0 (9 : Int32) (0 : Int32)).bind fun h45 =>
(xco h45 x0 9).bind fun _ =>
(fX9_cells h45 x0).bind fun v48 =>
some (v48, h45)
else
(xco h x0 9).bind fun _ =>
(fX9_copies h x0 (9 : Int32) (0 : Int32)).bind fun h51 =>
(xgI h51 x0 9 7).bind fun v53 =>
some (((-10 : Int32) - v53), h51)
def fX9_load_J99 (h : XH) (x0 : Nat) : Option (Int32 × XH) :=
fX9_load_J100 h x0 false
def fX9_load_J95 (h : XH) (x0 : Nat) : Option (Int32 × XH) :=
fX9_load_J100 h x0 true
def fX9_load_J67 (h : XH) (x0 : Nat) (s0 : Bool) : Option (Int32 × XH) :=
if s0 = true then
(xgI h x0 9 8).bind fun v55 =>
(xgI h x0 9 5).bind fun v57 =>
if v55 = v57 then
fX9_load_J95 h x0
else
(xgI h x0 9 8).bind fun v59 =>
(xco h x0 9).bind fun _ =>
(fX9_fails h x0 (1 : Int32) v59).bind fun v62 =>
if v62.1 = true then
fX9_load_J95 v62.2 x0
else
fX9_load_J99 v62.2 x0
else
fX9_load_J99 h x0
def fX9_load_J66 (h : XH) (x0 : Nat) : Option (Int32 × XH) :=
fX9_load_J67 h x0 false
def fX9_load (h : XH) (x0 : Nat) : Option (Int32 × XH) :=
(xco h x0 9).bind fun _ =>
(fX9_copies h x0 (0 : Int32) (9 : Int32)).bind fun h2 =>
(xpf h2 x0 9 6 (.int (0 : Int32))).bind fun h4 =>
(xpf h4 x0 9 8 (.int (0 : Int32))).bind fun h6 =>
(xgR h6 x0 9 0).bind fun v8 =>
(xsI h6 v8 0 (61 : Int32) (0 : Int32)).bind fun h10 =>
(xgR h10 x0 9 0).bind fun v12 =>
(xsI h10 v12 0 (62 : Int32) (0 : Int32)).bind fun h14 =>
(xgR h14 x0 9 0).bind fun v16 =>
(xsI h14 v16 0 (63 : Int32) (0 : Int32)).bind fun h18 =>
(xco h18 x0 9).bind fun _ =>
(fX9_readsCells h18 x0).bind fun v21 =>
if v21.1 = true then
(xco v21.2 x0 9).bind fun _ =>
(fX9_readsStart v21.2 x0).bind fun v65 =>
if v65.1 = true then
(xco v65.2 x0 9).bind fun _ =>
(fX9_readsSpeed v65.2 x0).bind fun v68 =>
if v68.1 = true then
fX9_load_J67 v68.2 x0 true
else
fX9_load_J66 v68.2 x0
else
fX9_load_J66 v65.2 x0
else
fX9_load_J66 v21.2 x0
def fX9_look (h : XH) (x0 : Nat) (x1 : Int32) : Option (Int32 × XH) :=
(xco h x0 9).bind fun _ =>
(fX9_flashes h x0).bind fun v2 =>
(fX9_in x1 (0 : Int32) (v2 - (2 : Int32))).bind fun v4 =>
if v4 = true then
(xgR h x0 9 0).bind fun v6 =>
(xaI h v6 0 (76 : Int32)).bind fun v8 =>
if v8 = (8 : Int32) then
some ((-1003 : Int32), h)
else
(xco h x0 9).bind fun _ =>
(fX9_laysTurns h x0).bind fun h11 =>
(xgR h11 x0 9 0).bind fun v13 =>
(xaI h11 v13 0 (75 : Int32)).bind fun v15 =>
(xco h11 x0 9).bind fun _ =>
(fX9_stepBehind h11 x0 x1).bind fun v18 =>
(xco h11 x0 9).bind fun _ =>
(fX9_adds h11 x0 v15 v18).bind fun v21 =>
some (v21.1, v21.2)
else
some ((-1001 : Int32), h)
def fX9_odd_b20 (x0 : Nat) (h : XH) (x1 : Int32) : Option ((XH × Int32) ⊕ ((XH × Int32) ⊕ XH)) :=
(xgR h x0 9 0).bind fun v6 =>
(xaI h v6 0 (76 : Int32)).bind fun v8 =>
if v8 ≤ x1 then
some (.inr (.inr h))
else
(xco h x0 9).bind fun _ =>
(fX9_finds h x0 x1).bind fun h11 =>
(xgI h11 x0 9 12).bind fun v13 =>
if v13 ≤ 0 then
some (.inl (h11, (x1 + (1 : Int32))))
else
some (.inr (.inl (h11, x1)))
def fX9_odd_B20 (x0 : Nat) (s : (XH × Int32)) : Option ((XH × Int32) ⊕ ((XH × Int32) ⊕ XH)) := fX9_odd_b20 x0 s.1 s.2
def fX9_odd (h : XH) (x0 : Nat) : Option (Int32 × XH) :=
(xco h x0 9).bind fun _ =>
(fX9_finds h x0 (-1004 : Int32)).bind fun h2 =>
(xgI h2 x0 9 12).bind fun v4 =>
if v4 ≤ 0 then
(xloop (fX9_odd_B20 x0) 5000 (h2, (0 : Int32))).bind fun e15 =>
(match e15 with
| .inl e15 =>
some (e15.2, e15.1)
| .inr e15 =>
some ((-1004 : Int32), e15)
)
else
some ((-1002 : Int32), h2)
def fX9_read (h : XH) (x0 : Nat) (x1 : Int32) (x2 : Int32) : Option (Int32 × XH) :=
(fX9_in x1 (1 : Int32) (500 : Int32)).bind fun v1 =>
if v1 = true then
(fX9_in x2 (-30 : Int32) (30 : Int32)).bind fun v3 =>
if v3 = true then
(xgR h x0 9 0).bind fun v5 =>
(xaI h v5 0 (76 : Int32)).bind fun v7 =>
if v7 = (8 : Int32) then
some ((-1003 : Int32), h)
else
(xco h x0 9).bind fun _ =>
(fX9_adds h x0 x1 x2).bind fun v10 =>
some (v10.1, v10.2)
else
some ((-1001 : Int32), h)
else
some ((-1001 : Int32), h)
def fX9_setDisc_b52 (h : XH) (x1 : Int32) (x2 : Int32) (x3 : Int32) (x4 : Int32) : Option ((Int32 × Int32) ⊕ Int32) :=
if x1 ≤ x4 then
some (.inr x3)
else
xlet (x3 + ((x2 >>> (x4 &&& 31)) &&& (1 : Int32))) fun y16 =>
some (.inl (y16, (x4 + (1 : Int32))))
def fX9_setDisc_B52 (h : XH) (x1 : Int32) (x2 : Int32) (s : (Int32 × Int32)) : Option ((Int32 × Int32) ⊕ Int32) := fX9_setDisc_b52 h x1 x2 s.1 s.2
def fX9_setDisc (h : XH) (x0 : Nat) (x1 : Int32) (x2 : Int32) : Option (Int32 × XH) :=
(fX9_in x1 (1 : Int32) (30 : Int32)).bind fun v1 =>
if v1 = true then
(fX9_in x2 (0 : Int32) (((1 : Int32) <<< (x1 &&& 31)) - (1 : Int32))).bind fun v3 =>
if v3 = true then
(xco h x0 9).bind fun _ =>
(fX9_records h x0).bind fun h6 =>
(xgR h6 x0 9 0).bind fun v8 =>
(xsI h6 v8 0 (94 : Int32) x1).bind fun h10 =>
(xgR h10 x0 9 0).bind fun v12 =>
(xsI h10 v12 0 (95 : Int32) x2).bind fun h14 =>
(xloop (fX9_setDisc_B52 h14 x1 x2) 5000 ((0 : Int32), (0 : Int32))).bind fun e17 =>
some (e17, h14)
else
some ((-1001 : Int32), h)
else
some ((-1001 : Int32), h)
def fX9_setFlash (h : XH) (x0 : Nat) (x1 : Int32) (x2 : Int32) : Option (Int32 × XH) :=
(fX9_isTick x1).bind fun v1 =>
if v1 = true then
(fX9_in x2 (1 : Int32) (500 : Int32)).bind fun v3 =>
if v3 = true then
(xco h x0 9).bind fun _ =>
(fX9_records h x0).bind fun h6 =>
(xgR h6 x0 9 0).bind fun v8 =>
(xsI h6 v8 0 (74 : Int32) x1).bind fun h10 =>
(xgR h10 x0 9 0).bind fun v12 =>
(xsI h10 v12 0 (75 : Int32) x2).bind fun h14 =>
(xco h14 x0 9).bind fun _ =>
(fX9_flashes h14 x0).bind fun v17 =>
some (v17, h14)
else
some ((-1001 : Int32), h)
else
some ((-1001 : Int32), h)
def fX9_setLimit (h : XH) (x0 : Nat) (x1 : Int32) : Option (Int32 × XH) :=
(fX9_in x1 (1 : Int32) (1000 : Int32)).bind fun v1 =>
if v1 = true then
(xco h x0 9).bind fun _ =>
(fX9_becomes h x0 (93 : Int32) x1).bind fun v4 =>
some (v4.1, v4.2)
else
some ((-1001 : Int32), h)
def fX9_setMark (h : XH) (x0 : Nat) (x1 : Int32) (x2 : Int32) : Option (Int32 × XH) :=
(xco h x0 9).bind fun _ =>
(fX9_isCell h x0 x1).bind fun v2 =>
if v2 = true then
(fX9_in x2 (0 : Int32) (3 : Int32)).bind fun v4 =>
if v4 = true then
(xco h x0 9).bind fun _ =>
(fX9_becomes h x0 ((1 : Int32) + x1) x2).bind fun v7 =>
some (v7.1, v7.2)
else
some ((-1001 : Int32), h)
else
some ((-1001 : Int32), h)
def fX9_setSpeed_J149 (h : XH) (x0 : Nat) (x1 : Int32) (x2 : Int32) (x4 : Int32) : Option (Int32 × XH) :=
(xgR h x0 9 0).bind fun v14 =>
(xsI h v14 0 ((64 : Int32) + ((2 : Int32) * x4)) x1).bind fun h16 =>
(xgR h16 x0 9 0).bind fun v18 =>
(xsI h16 v18 0 (((64 : Int32) + ((2 : Int32) * x4)) + (1 : Int32)) x2).bind fun h20 =>
(xgR h20 x0 9 0).bind fun v22 =>
(xaI h20 v22 0 (63 : Int32)).bind fun v24 =>
some (v24, h20)
def fX9_setSpeed_b101 (x0 : Nat) (x1 : Int32) (x2 : Int32) (x4 : Int32) (h : XH) (x5 : Int32) : Option ((XH × Int32) ⊕ XH) :=
if x5 < ((2 : Int32) * x4) then
some (.inr h)
else
(xgR h x0 9 0).bind fun v31 =>
(xgR h x0 9 0).bind fun v33 =>
(xaI h v33 0 ((64 : Int32) + x5)).bind fun v35 =>
(xsI h v31 0 (((64 : Int32) + x5) + (2 : Int32)) v35).bind fun h37 =>
some (.inl (h37, (x5 + (-1 : Int32))))
def fX9_setSpeed_B101 (x0 : Nat) (x1 : Int32) (x2 : Int32) (x4 : Int32) (s : (XH × Int32)) : Option ((XH × Int32) ⊕ XH) := fX9_setSpeed_b101 x0 x1 x2 x4 s.1 s.2
def fX9_setSpeed_J53 (h : XH) (x0 : Nat) (x1 : Int32) (x2 : Int32) (x3 : Bool) : Option (Int32 × XH) :=
(xco h x0 9).bind fun _ =>
(fX9_records h x0).bind fun h9 =>
if x1 = 0 then
(xgR h9 x0 9 0).bind fun v47 =>
(xsI h9 v47 0 (62 : Int32) x2).bind fun h49 =>
(xgR h49 x0 9 0).bind fun v51 =>
(xaI h49 v51 0 (63 : Int32)).bind fun v53 =>
some (v53, h49)
else
(xco h9 x0 9).bind fun _ =>
(fX9_changeFrom h9 x0 x1).bind fun v12 =>
if x3 = true then
fX9_setSpeed_J149 h9 x0 x1 x2 v12
else
(xgR h9 x0 9 0).bind fun v26 =>
(xaI h9 v26 0 (63 : Int32)).bind fun v28 =>
xlet (((2 : Int32) * v28) - (1 : Int32)) fun y30 =>
(xloop (fX9_setSpeed_B101 x0 x1 x2 v12) 5000 (h9, y30)).bind fun e39 =>
(xgR e39 x0 9 0).bind fun v41 =>
(xaI e39 v41 0 (63 : Int32)).bind fun v43 =>
(xsI e39 v41 0 (63 : Int32) (v43 + (1 : Int32))).bind fun h45 =>
fX9_setSpeed_J149 h45 x0 x1 x2 v12
def fX9_setSpeed (h : XH) (x0 : Nat) (x1 : Int32) (x2 : Int32) : Option (Int32 × XH) :=
(fX9_isTick x1).bind fun v1 =>
if v1 = true then
(fX9_in x2 (-1000 : Int32) (1000 : Int32)).bind fun v3 =>
if v3 = true then
(xco h x0 9).bind fun _ =>
(fX9_isChange h x0 x1).bind fun v6 =>
if x1 ≤ 0 then
fX9_setSpeed_J53 h x0 x1 x2 v6
else
if v6 = true then
fX9_setSpeed_J53 h x0 x1 x2 v6
else
(xgR h x0 9 0).bind fun v55 =>
(xaI h v55 0 (63 : Int32)).bind fun v57 =>
if v57 = (5 : Int32) then
some ((-1003 : Int32), h)
else
fX9_setSpeed_J53 h x0 x1 x2 v6
else
some ((-1001 : Int32), h)
else
some ((-1001 : Int32), h)
def fX9_setStart (h : XH) (x0 : Nat) (x1 : Int32) : Option (Int32 × XH) :=
(fX9_in x1 (0 : Int32) (59 : Int32)).bind fun v1 =>
if v1 = true then
(xco h x0 9).bind fun _ =>
(fX9_becomes h x0 (61 : Int32) x1).bind fun v4 =>
some (v4.1, v4.2)
else
some ((-1001 : Int32), h)
def fX9_step (h : XH) (x0 : Nat) (x1 : Int32) (x2 : Int32) : Option (Int32 × XH) :=
(fX9_isTick x1).bind fun v1 =>
if v1 = true then
(fX9_isTick x2).bind fun v3 =>
if v3 = true then
(xco h x0 9).bind fun _ =>
(fX9_laysTurns h x0).bind fun h6 =>
(xco h6 x0 9).bind fun _ =>
(fX9_stepOf h6 x0 x1 x2).bind fun v9 =>
some (v9, h6)
else
some ((-1001 : Int32), h)
else
some ((-1001 : Int32), h)
def fX9_stillPeriod_b34 (h : XH) (x0 : Nat) (x2 : Int32) (x3 : Int32) (x4 : Int32) : Option (Int32 ⊕ (Int32 ⊕ Unit)) :=
if x2 < x4 then
some (.inr (.inr ()))
else
(xgR h x0 9 0).bind fun v8 =>
(xaI h v8 0 (62 : Int32)).bind fun v10 =>
if x3 = 0 then none else
if (xrem (v10 * x4) x3) = 0 then
some (.inr (.inl x4))
else
some (.inl (x4 + (1 : Int32)))
def fX9_stillPeriod_B34 (h : XH) (x0 : Nat) (x2 : Int32) (x3 : Int32) (s : Int32) : Option (Int32 ⊕ (Int32 ⊕ Unit)) := fX9_stillPeriod_b34 h x0 x2 x3 s
def fX9_stillPeriod (h : XH) (x0 : Nat) (x1 : Int32) (x2 : Int32) : Option Int32 :=
(fX9_in x1 (1 : Int32) (500 : Int32)).bind fun v1 =>
if v1 = true then
(fX9_in x2 x1 (500 : Int32)).bind fun v3 =>
if v3 = true then
(xco h x0 9).bind fun _ =>
(fX9_measure h x0).bind fun v6 =>
(xloop (fX9_stillPeriod_B34 h x0 x2 v6) 5000 x1).bind fun e13 =>
(match e13 with
| .inl e13 =>
some e13
| .inr e13 =>
some (-1004 : Int32)
)
else
some (-1001 : Int32)
else
some (-1001 : Int32)
def fX9_turn (h : XH) (x0 : Nat) (x1 : Int32) : Option (Int32 × XH) :=
(fX9_isTick x1).bind fun v1 =>
if v1 = true then
(xco h x0 9).bind fun _ =>
(fX9_laysTurns h x0).bind fun h4 =>
(xgR h4 x0 9 2).bind fun v6 =>
(xaI h4 v6 0 x1).bind fun v8 =>
some (v8, h4)
else
some ((-1001 : Int32), h)
def fX9_turnDisc (h : XH) (x0 : Nat) (x1 : Int32) (x2 : Int32) : Option (Int32 × XH) :=
(fX9_in x1 (0 : Int32) (29 : Int32)).bind fun v1 =>
if v1 = true then
(fX9_in x2 (-1000 : Int32) (1000 : Int32)).bind fun v3 =>
if v3 = true then
(xco h x0 9).bind fun _ =>
(fX9_records h x0).bind fun h6 =>
(xgR h6 x0 9 0).bind fun v8 =>
(xaI h6 v8 0 (97 : Int32)).bind fun v10 =>
(xgR h6 x0 9 0).bind fun v12 =>
(xsI h6 v12 0 (96 : Int32) x1).bind fun h14 =>
(xgR h14 x0 9 0).bind fun v16 =>
(xsI h14 v16 0 (97 : Int32) x2).bind fun h18 =>
some (v10, h18)
else
some ((-1001 : Int32), h)
else
some ((-1001 : Int32), h)
def fX9_type (h : XH) (x0 : Nat) (x1 : Int32) : Option (Int32 × XH) :=
(fX9_in x1 (32 : Int32) (126 : Int32)).bind fun v1 =>
if v1 = true then
(xgI h x0 9 5).bind fun v3 =>
if v3 = (80 : Int32) then
some ((-1003 : Int32), h)
else
(xgR h x0 9 4).bind fun v5 =>
(xgI h x0 9 5).bind fun v7 =>
(xsI h v5 0 v7 x1).bind fun h9 =>
(xgI h9 x0 9 5).bind fun v11 =>
(xpf h9 x0 9 5 (.int (v11 + (1 : Int32)))).bind fun h13 =>
(xgI h13 x0 9 5).bind fun v15 =>
some (v15, h13)
else
some ((-1001 : Int32), h)
def fX9_undo (h : XH) (x0 : Nat) : Option (Int32 × XH) :=
(xgI h x0 9 1).bind fun v1 =>
if v1 = 0 then
some ((-1002 : Int32), h)
else
(xgI h x0 9 1).bind fun v3 =>
(xco h x0 9).bind fun _ =>
(fX9_copies h x0 v3 (0 : Int32)).bind fun h6 =>
(xgI h6 x0 9 1).bind fun v8 =>
(xpf h6 x0 9 1 (.int (v8 - (1 : Int32)))).bind fun h10 =>
(xgI h10 x0 9 1).bind fun v12 =>
some (v12, h10)
