def fJ13_bitCount_95d88 (x0 : Int64) : Option Int32 :=
xlet (x0 - ((xlushr x0 (1 : Int32)) &&& (6148914691236517205 : Int64))) fun y1 =>
xlet ((y1 &&& (3689348814741910323 : Int64)) + ((xlushr y1 (2 : Int32)) &&& (3689348814741910323 : Int64))) fun y2 =>
xlet ((y2 + (xlushr y2 (4 : Int32))) &&& (1085102592571150095 : Int64)) fun y3 =>
xlet (y3 + (xlushr y3 (8 : Int32))) fun y4 =>
xlet (y4 + (xlushr y4 (16 : Int32))) fun y5 =>
xlet (y5 + (xlushr y5 (32 : Int32))) fun y6 =>
some ((y6.toInt32) &&& (127 : Int32))
def fX8_hasBit (x0 : Int64) (x2 : Int32) : Option Bool :=
if (lg_cmp ((xlushr x0 x2) &&& (1 : Int64)) (1 : Int64)) = 0 then
some true
else
some false
def fX8_mod (x0 : Int32) (x1 : Int32) : Option Int32 :=
if 0 < x1 then
if x1 = 0 then none else
if 0 ≤ (xrem x0 x1) then
some (xrem x0 x1)
else
some ((xrem x0 x1) + x1)
else
some (0 : Int32)
def fX1_isOpenAt (h : XH) (x0 : Nat) (x1 : Int32) : Option Bool :=
(xgI h x0 1 1).bind fun v1 =>
(xgI h x0 1 2).bind fun v3 =>
(xgI h x0 1 3).bind fun v5 =>
(xgI h x0 1 0).bind fun v7 =>
(fX8_mod (-(v3 + (v5 * x1))) v7).bind fun v9 =>
(fX8_hasBit (v1.toInt64) v9).bind fun v11 =>
some v11
def fX1_opensAt (h : XH) (x0 : Nat) (x1 : Int32) : Option Bool :=
(xco h x0 1).bind fun _ =>
(fX1_isOpenAt h x0 x1).bind fun v2 =>
if v2 = true then
if x1 = 0 then
some true
else
(xco h x0 1).bind fun _ =>
(fX1_isOpenAt h x0 (x1 - (1 : Int32))).bind fun v5 =>
if v5 = true then
some false
else
some true
else
some false
def fX1_openings_b4 (h : XH) (x0 : Nat) (x1 : Int32) (x2 : Int32) : Option ((Int32 × Int32) ⊕ Int32) :=
if (1000 : Int32) < x2 then
some (.inr x1)
else
(xco h x0 1).bind fun _ =>
(fX1_opensAt h x0 x2).bind fun v2 =>
if v2 = true then
some (.inl ((x1 + (1 : Int32)), (x2 + (1 : Int32))))
else
some (.inl (x1, (x2 + (1 : Int32))))
def fX1_openings_B4 (h : XH) (x0 : Nat) (s : (Int32 × Int32)) : Option ((Int32 × Int32) ⊕ Int32) := fX1_openings_b4 h x0 s.1 s.2
def fX1_openings (h : XH) (x0 : Nat) : Option Int32 :=
(xloop (fX1_openings_B4 h x0) 5000 ((0 : Int32), (0 : Int32))).bind fun e4 =>
some e4
def fX2_number (h : XH) (x0 : Nat) : Option Int32 :=
(xgI h x0 2 1).bind fun v1 =>
if v1 ≤ 0 then
some (0 : Int32)
else
(xgI h x0 2 0).bind fun v3 =>
(xgI h x0 2 1).bind fun v5 =>
if v5 = 0 then none else
some ((((1000 : Int32) - v3) / v5) + (1 : Int32))
def fX8_at (h : XH) (x0 : Nat) (x1 : Int32) : Option Int32 :=
if x1 < 0 then
some (0 : Int32)
else
(xln h x0).bind fun v1 =>
if v1 ≤ x1 then
some (0 : Int32)
else
(xaI h x0 0 x1).bind fun v3 =>
some v3
def fX6_markOf (h : XH) (x0 : Nat) (x1 : Int32) : Option Int32 :=
(xgR h x0 6 0).bind fun v1 =>
(fX8_at h v1 x1).bind fun v3 =>
some v3
def fX6_markedCells_b4 (h : XH) (x0 : Nat) (x1 : Int32) (x2 : Int32) : Option ((Int32 × Int32) ⊕ Int32) :=
(xgI h x0 6 3).bind fun v1 =>
if v1 ≤ x2 then
some (.inr x1)
else
(xco h x0 6).bind fun _ =>
(fX6_markOf h x0 x2).bind fun v4 =>
if v4 = 0 then
some (.inl (x1, (x2 + (1 : Int32))))
else
some (.inl ((x1 + (1 : Int32)), (x2 + (1 : Int32))))
def fX6_markedCells_B4 (h : XH) (x0 : Nat) (s : (Int32 × Int32)) : Option ((Int32 × Int32) ⊕ Int32) := fX6_markedCells_b4 h x0 s.1 s.2
def fX6_markedCells (h : XH) (x0 : Nat) : Option Int32 :=
(xloop (fX6_markedCells_B4 h x0) 5000 ((0 : Int32), (0 : Int32))).bind fun e6 =>
some e6
def fX6_isSameTurnedBy_b2 (h : XH) (x0 : Nat) (x1 : Int32) (x2 : Int32) : Option (Int32 ⊕ (Unit ⊕ Unit)) :=
(xgI h x0 6 3).bind fun v1 =>
if v1 ≤ (x2 + x1) then
some (.inr (.inr ()))
else
(xgR h x0 6 0).bind fun v3 =>
(fX8_at h v3 x2).bind fun v5 =>
(xgR h x0 6 0).bind fun v7 =>
(fX8_at h v7 (x2 + x1)).bind fun v9 =>
if v5 = v9 then
some (.inl (x2 + (1 : Int32)))
else
some (.inr (.inl ()))
def fX6_isSameTurnedBy_B2 (h : XH) (x0 : Nat) (x1 : Int32) (s : Int32) : Option (Int32 ⊕ (Unit ⊕ Unit)) := fX6_isSameTurnedBy_b2 h x0 x1 s
def fX6_isSameTurnedBy (h : XH) (x0 : Nat) (x1 : Int32) : Option Bool :=
(xloop (fX6_isSameTurnedBy_B2 h x0 x1) 5000 (0 : Int32)).bind fun e11 =>
(match e11 with
| .inl e11 =>
some false
| .inr e11 =>
some true
)
def fX6_measure_b2 (h : XH) (x0 : Nat) (x1 : Int32) : Option (Int32 ⊕ (Int32 ⊕ Unit)) :=
(xgI h x0 6 3).bind fun v1 =>
if v1 ≤ x1 then
some (.inr (.inr ()))
else
(xgI h x0 6 3).bind fun v3 =>
(fX8_mod v3 x1).bind fun v5 =>
if v5 = 0 then
(xco h x0 6).bind fun _ =>
(fX6_isSameTurnedBy h x0 x1).bind fun v8 =>
if v8 = true then
some (.inr (.inl x1))
else
some (.inl (x1 + (1 : Int32)))
else
some (.inl (x1 + (1 : Int32)))
def fX6_measure_B2 (h : XH) (x0 : Nat) (s : Int32) : Option (Int32 ⊕ (Int32 ⊕ Unit)) := fX6_measure_b2 h x0 s
def fX6_measure (h : XH) (x0 : Nat) : Option Int32 :=
(xloop (fX6_measure_B2 h x0) 5000 (1 : Int32)).bind fun e10 =>
(match e10 with
| .inl e10 =>
some e10
| .inr e10 =>
(xgI h x0 6 3).bind fun v12 =>
some v12
)
def fX8_count (h : XH) (x0 : Nat) (x1 : Int32) : Option Int32 :=
if x1 = 0 then
(xgR h x0 8 0).bind fun v19 =>
(xgR h v19 5 0).bind fun v21 =>
(xgI h v21 6 3).bind fun v23 =>
some v23
else
if x1 = 1 then
(xgR h x0 8 0).bind fun v25 =>
(xgR h v25 5 0).bind fun v27 =>
(xco h v27 6).bind fun _ =>
(fX6_markedCells h v27).bind fun v30 =>
some v30
else
if x1 = 2 then
(xgR h x0 8 0).bind fun v32 =>
(xgR h v32 5 0).bind fun v34 =>
(xco h v34 6).bind fun _ =>
(fX6_measure h v34).bind fun v37 =>
some v37
else
if x1 = 3 then
(xgR h x0 8 0).bind fun v39 =>
(xgR h v39 5 0).bind fun v41 =>
(xgI h v41 6 4).bind fun v43 =>
some v43
else
if x1 = 4 then
(xgR h x0 8 0).bind fun v45 =>
(xgR h v45 5 0).bind fun v47 =>
(xgI h v47 6 5).bind fun v49 =>
some v49
else
if x1 = 5 then
(xgR h x0 8 0).bind fun v51 =>
(xgR h v51 5 0).bind fun v53 =>
(xgI h v53 6 6).bind fun v55 =>
some v55
else
if x1 = 6 then
(xgR h x0 8 0).bind fun v57 =>
(xgR h v57 5 1).bind fun v59 =>
(xgI h v59 2 0).bind fun v61 =>
some v61
else
if x1 = 7 then
(xgR h x0 8 0).bind fun v63 =>
(xgR h v63 5 1).bind fun v65 =>
(xgI h v65 2 1).bind fun v67 =>
some v67
else
if x1 = 8 then
(xgR h x0 8 0).bind fun v69 =>
(xgR h v69 5 1).bind fun v71 =>
(xco h v71 2).bind fun _ =>
(fX2_number h v71).bind fun v74 =>
some v74
else
if x1 = 9 then
(xgR h x0 8 0).bind fun v76 =>
(xgR h v76 5 2).bind fun v78 =>
(xgI h v78 4 2).bind fun v80 =>
some v80
else
if x1 = 10 then
(xgR h x0 8 0).bind fun v82 =>
(xgR h v82 5 2).bind fun v84 =>
(xgI h v84 4 3).bind fun v86 =>
some v86
else
if x1 = 11 then
(xgR h x0 8 0).bind fun v88 =>
(xgR h v88 5 3).bind fun v90 =>
(xgI h v90 1 0).bind fun v92 =>
some v92
else
if x1 = 12 then
(xgR h x0 8 0).bind fun v94 =>
(xgR h v94 5 3).bind fun v96 =>
(xgI h v96 1 1).bind fun v98 =>
some v98
else
if x1 = 13 then
(xgR h x0 8 0).bind fun v100 =>
(xgR h v100 5 3).bind fun v102 =>
(xgI h v102 1 2).bind fun v104 =>
some v104
else
if x1 = 14 then
(xgR h x0 8 0).bind fun v106 =>
(xgR h v106 5 3).bind fun v108 =>
(xgI h v108 1 3).bind fun v110 =>
some v110
else
if x1 = 15 then
(xgR h x0 8 0).bind fun v112 =>
(xgR h v112 5 3).bind fun v114 =>
(xco h v114 1).bind fun _ =>
(fX1_openings h v114).bind fun v117 =>
some v117
else
if x1 = 16 then
(xgR h x0 8 2).bind fun v119 =>
(xgI h v119 7 2).bind fun v121 =>
some v121
else
if x1 = 17 then
(xgR h x0 8 1).bind fun v123 =>
(xgI h v123 3 2).bind fun v125 =>
some v125
else
some (-1001 : Int32)
def fX0_has (h : XH) (x0 : Nat) (x1 : Int32) : Option Bool :=
(xgJ h x0 0 4).bind fun v1 =>
(xgI h x0 0 2).bind fun v3 =>
(fX8_mod x1 v3).bind fun v5 =>
(fX8_hasBit v1 v5).bind fun v7 =>
some v7
def fX0_number_b8 (h : XH) (x0 : Nat) (x1 : Int32) (x2 : Int32) : Option ((Int32 × Int32) ⊕ Int32) :=
(xgI h x0 0 3).bind fun v3 =>
if v3 < x2 then
some (.inr x1)
else
(xco h x0 0).bind fun _ =>
(fX0_has h x0 x2).bind fun v6 =>
if v6 = true then
some (.inl ((x1 + (1 : Int32)), (x2 + (1 : Int32))))
else
some (.inl (x1, (x2 + (1 : Int32))))
def fX0_number_B8 (h : XH) (x0 : Nat) (s : (Int32 × Int32)) : Option ((Int32 × Int32) ⊕ Int32) := fX0_number_b8 h x0 s.1 s.2
def fX0_number (h : XH) (x0 : Nat) : Option Int32 :=
(xgI h x0 0 3).bind fun v1 =>
(xloop (fX0_number_B8 h x0) 5000 ((0 : Int32), (-v1))).bind fun e8 =>
some e8
def fX4_allFit_b3 (h : XH) (x0 : Nat) (x1 : Int32) (x2 : Int32) (x3 : Int32) (x4 : Int32) : Option (Int32 ⊕ (Unit ⊕ Unit)) :=
(xgI h x0 4 2).bind fun v1 =>
if v1 ≤ x4 then
some (.inr (.inr ()))
else
if x4 = x3 then
some (.inl (x4 + (1 : Int32)))
else
(xgR h x0 4 0).bind fun v3 =>
(fX8_at h v3 x4).bind fun v5 =>
(xgR h x0 4 1).bind fun v7 =>
(fX8_at h v7 x4).bind fun v9 =>
(fX8_mod ((x1 * v5) - v9) x2).bind fun v11 =>
if v11 = 0 then
some (.inl (x4 + (1 : Int32)))
else
some (.inr (.inl ()))
def fX4_allFit_B3 (h : XH) (x0 : Nat) (x1 : Int32) (x2 : Int32) (x3 : Int32) (s : Int32) : Option (Int32 ⊕ (Unit ⊕ Unit)) := fX4_allFit_b3 h x0 x1 x2 x3 s
def fX4_allFit (h : XH) (x0 : Nat) (x1 : Int32) (x2 : Int32) (x3 : Int32) : Option Bool :=
(xloop (fX4_allFit_B3 h x0 x1 x2 x3) 5000 (0 : Int32)).bind fun e13 =>
(match e13 with
| .inl e13 =>
some false
| .inr e13 =>
some true
)
def fX0_find_b21 (x0 : Nat) (x2 : Nat) (x3 : Int32) (h : XH) (x4 : Int32) : Option ((XH × Int32) ⊕ XH) :=
(xgI h x0 0 2).bind fun v9 =>
if v9 ≤ x4 then
some (.inr h)
else
(xgI h x0 0 2).bind fun v11 =>
(xco h x2 4).bind fun _ =>
(fX4_allFit h x2 x4 v11 x3).bind fun v14 =>
if v14 = true then
(xgJ h x0 0 4).bind fun v16 =>
(xpf h x0 0 4 (.long (v16 ||| (xlshl (1 : Int64) x4)))).bind fun h18 =>
some (.inl (h18, (x4 + (1 : Int32))))
else
some (.inl (h, (x4 + (1 : Int32))))
def fX0_find_B21 (x0 : Nat) (x2 : Nat) (x3 : Int32) (s : (XH × Int32)) : Option ((XH × Int32) ⊕ XH) := fX0_find_b21 x0 x2 x3 s.1 s.2
def fX0_find (h : XH) (x0 : Nat) (x1 : Int32) (x2 : Nat) (x3 : Int32) : Option XH :=
(xpf h x0 0 2 (.int x1)).bind fun h1 =>
(xgI h1 x2 4 3).bind fun v3 =>
(xpf h1 x0 0 3 (.int v3)).bind fun h5 =>
(xpf h5 x0 0 4 (.long (0 : Int64))).bind fun h7 =>
(xloop (fX0_find_B21 x0 x2 x3) 5000 (h7, (0 : Int32))).bind fun e20 =>
some e20
def fX8_findWithout (h : XH) (x0 : Nat) (x1 : Int32) : Option (Nat × XH) :=
(xgR h x0 8 4).bind fun v1 =>
(xgR h x0 8 0).bind fun v3 =>
(xgR h v3 5 0).bind fun v5 =>
(xco h v5 6).bind fun _ =>
(fX6_measure h v5).bind fun v8 =>
(xgR h x0 8 0).bind fun v10 =>
(xgR h v10 5 2).bind fun v12 =>
(xco h v1 0).bind fun _ =>
(fX0_find h v1 v8 v12 x1).bind fun h15 =>
(xgR h15 x0 8 4).bind fun v17 =>
some (v17, h15)
def fX8_within (x0 : Int32) (x1 : Int32) (x2 : Int32) : Option Bool :=
if x0 < x1 then
some false
else
if x2 < x0 then
some false
else
some true
def fX8_isReading (h : XH) (x0 : Nat) (x1 : Int32) : Option Bool :=
(xgR h x0 8 0).bind fun v1 =>
(xgR h v1 5 2).bind fun v3 =>
(xgI h v3 4 2).bind fun v5 =>
(fX8_within x1 (0 : Int32) (v5 - (1 : Int32))).bind fun v7 =>
some v7
def fX8_reading (h : XH) (x0 : Nat) (x1 : Int32) (x2 : Int32) : Option (Int32 × XH) :=
(xco h x0 8).bind fun _ =>
(fX8_isReading h x0 x1).bind fun v2 =>
if v2 = true then
(fX8_within x2 (0 : Int32) (2 : Int32)).bind fun v4 =>
if v4 = true then
if x2 = 0 then
(xgR h x0 8 0).bind fun v8 =>
(xgR h v8 5 2).bind fun v10 =>
(xgR h v10 4 0).bind fun v12 =>
(fX8_at h v12 x1).bind fun v14 =>
some (v14, h)
else
if x2 = 1 then
(xgR h x0 8 0).bind fun v16 =>
(xgR h v16 5 2).bind fun v18 =>
(xgR h v18 4 1).bind fun v20 =>
(fX8_at h v20 x1).bind fun v22 =>
some (v22, h)
else
(xco h x0 8).bind fun _ =>
(fX8_findWithout h x0 x1).bind fun v25 =>
(xco v25.2 v25.1 0).bind fun _ =>
(fX0_number v25.2 v25.1).bind fun v28 =>
some (v28, v25.2)
else
some ((-1001 : Int32), h)
else
some ((-1001 : Int32), h)
def fX2_tickOf (h : XH) (x0 : Nat) (x1 : Int32) : Option Int32 :=
(xgI h x0 2 0).bind fun v1 =>
(xgI h x0 2 1).bind fun v3 =>
some (v1 + (x1 * v3))
def fX6_turnAt_b16 (h : XH) (x0 : Nat) (x1 : Int32) (x2 : Int32) (x3 : Int32) (x4 : Int32) (x5 : Int32) : Option ((Int32 × Int32 × Int32 × Int32) ⊕ (Int32 × Int32 × Int32)) :=
(xgI h x0 6 6).bind fun v5 =>
if v5 ≤ x5 then
some (.inr (x2, x3, x4))
else
(xgR h x0 6 1).bind fun v7 =>
(fX8_at h v7 x5).bind fun v9 =>
if x1 ≤ v9 then
some (.inr (x2, x3, x4))
else
(xgR h x0 6 1).bind fun v11 =>
(fX8_at h v11 x5).bind fun v13 =>
(xgR h x0 6 1).bind fun v15 =>
(fX8_at h v15 x5).bind fun v17 =>
(xgR h x0 6 2).bind fun v19 =>
(fX8_at h v19 x5).bind fun v21 =>
some (.inl ((x2 + (x4 * (v13 - x3))), v17, v21, (x5 + (1 : Int32))))
def fX6_turnAt_B16 (h : XH) (x0 : Nat) (x1 : Int32) (s : (Int32 × Int32 × Int32 × Int32)) : Option ((Int32 × Int32 × Int32 × Int32) ⊕ (Int32 × Int32 × Int32)) := fX6_turnAt_b16 h x0 x1 s.1 s.2.1 s.2.2.1 s.2.2.2
def fX6_turnAt (h : XH) (x0 : Nat) (x1 : Int32) : Option Int32 :=
(xgI h x0 6 4).bind fun v1 =>
(xgI h x0 6 5).bind fun v3 =>
(xloop (fX6_turnAt_B16 h x0 x1) 5000 (v1, (0 : Int32), v3, (0 : Int32))).bind fun e23 =>
some (e23.1 + (e23.2.2 * (x1 - e23.2.1)))
def fX5_earliestAlike_b31 (h : XH) (x0 : Nat) (x1 : Int32) (x2 : Int32) (x3 : Int32) (x4 : Int32) : Option (Int32 ⊕ (Int32 ⊕ Unit)) :=
if x1 ≤ x4 then
some (.inr (.inr ()))
else
(xgR h x0 5 0).bind fun v18 =>
(xgR h x0 5 1).bind fun v20 =>
(xco h v20 2).bind fun _ =>
(fX2_tickOf h v20 x4).bind fun v23 =>
(xco h v18 6).bind fun _ =>
(fX6_turnAt h v18 v23).bind fun v26 =>
(fX8_mod v26 x2).bind fun v28 =>
if v28 = x3 then
some (.inr (.inl x4))
else
some (.inl (x4 + (1 : Int32)))
def fX5_earliestAlike_B31 (h : XH) (x0 : Nat) (x1 : Int32) (x2 : Int32) (x3 : Int32) (s : Int32) : Option (Int32 ⊕ (Int32 ⊕ Unit)) := fX5_earliestAlike_b31 h x0 x1 x2 x3 s
def fX5_earliestAlike (h : XH) (x0 : Nat) (x1 : Int32) : Option Int32 :=
(xgR h x0 5 0).bind fun v1 =>
(xco h v1 6).bind fun _ =>
(fX6_measure h v1).bind fun v4 =>
(xgR h x0 5 0).bind fun v6 =>
(xgR h x0 5 1).bind fun v8 =>
(xco h v8 2).bind fun _ =>
(fX2_tickOf h v8 x1).bind fun v11 =>
(xco h v6 6).bind fun _ =>
(fX6_turnAt h v6 v11).bind fun v14 =>
(fX8_mod v14 v4).bind fun v16 =>
(xloop (fX5_earliestAlike_B31 h x0 x1 v4 v16) 5000 (0 : Int32)).bind fun e30 =>
(match e30 with
| .inl e30 =>
some e30
| .inr e30 =>
some x1
)
def fX8_isFlash (h : XH) (x0 : Nat) (x1 : Int32) : Option Bool :=
(xgR h x0 8 0).bind fun v1 =>
(xgR h v1 5 1).bind fun v3 =>
(xco h v3 2).bind fun _ =>
(fX2_number h v3).bind fun v6 =>
(fX8_within x1 (0 : Int32) (v6 - (1 : Int32))).bind fun v8 =>
some v8
def fX6_stepBetween (h : XH) (x0 : Nat) (x1 : Int32) (x2 : Int32) (x3 : Int32) : Option Int32 :=
(xco h x0 6).bind fun _ =>
(fX6_turnAt h x0 x2).bind fun v2 =>
(xco h x0 6).bind fun _ =>
(fX6_turnAt h x0 x1).bind fun v5 =>
(fX8_mod (v2 - v5) x3).bind fun v7 =>
if ((2 : Int32) * v7) ≤ x3 then
some v7
else
some (v7 - x3)
def fX8_isTick (x0 : Int32) : Option Bool :=
(fX8_within x0 (0 : Int32) (1000 : Int32)).bind fun v1 =>
some v1
def fX8_step (h : XH) (x0 : Nat) (x1 : Int32) (x2 : Int32) : Option Int32 :=
(fX8_isTick x1).bind fun v1 =>
if v1 = true then
(fX8_isTick x2).bind fun v3 =>
if v3 = true then
(xgR h x0 8 0).bind fun v5 =>
(xgR h v5 5 0).bind fun v7 =>
(xgR h x0 8 0).bind fun v9 =>
(xgR h v9 5 0).bind fun v11 =>
(xco h v11 6).bind fun _ =>
(fX6_measure h v11).bind fun v14 =>
(xco h v7 6).bind fun _ =>
(fX6_stepBetween h v7 x1 x2 v14).bind fun v17 =>
some v17
else
some (-1001 : Int32)
else
some (-1001 : Int32)
def fX8_turn (h : XH) (x0 : Nat) (x1 : Int32) : Option Int32 :=
(fX8_isTick x1).bind fun v1 =>
if v1 = true then
(xgR h x0 8 0).bind fun v3 =>
(xgR h v3 5 0).bind fun v5 =>
(xco h v5 6).bind fun _ =>
(fX6_turnAt h v5 x1).bind fun v8 =>
(xgR h x0 8 0).bind fun v10 =>
(xgR h v10 5 0).bind fun v12 =>
(xgI h v12 6 3).bind fun v14 =>
(fX8_mod v8 v14).bind fun v16 =>
some v16
else
some (-1001 : Int32)
def fX8_flash (h : XH) (x0 : Nat) (x1 : Int32) (x2 : Int32) : Option Int32 :=
(xco h x0 8).bind fun _ =>
(fX8_isFlash h x0 x1).bind fun v2 =>
if v2 = true then
(fX8_within x2 (0 : Int32) (3 : Int32)).bind fun v4 =>
if v4 = true then
(xgR h x0 8 0).bind fun v6 =>
(xgR h v6 5 1).bind fun v8 =>
(xco h v8 2).bind fun _ =>
(fX2_tickOf h v8 x1).bind fun v11 =>
if x2 = 0 then
some v11
else
if x2 = 1 then
(xco h x0 8).bind fun _ =>
(fX8_turn h x0 v11).bind fun v17 =>
some v17
else
if x2 = 2 then
(xco h x0 8).bind fun _ =>
(fX8_isFlash h x0 (x1 + (1 : Int32))).bind fun v20 =>
if v20 = true then
(xgR h x0 8 0).bind fun v22 =>
(xgR h v22 5 1).bind fun v24 =>
(xco h v24 2).bind fun _ =>
(fX2_tickOf h v24 (x1 + (1 : Int32))).bind fun v27 =>
(xco h x0 8).bind fun _ =>
(fX8_step h x0 v11 v27).bind fun v30 =>
some v30
else
some (-1004 : Int32)
else
(xgR h x0 8 0).bind fun v32 =>
(xco h v32 5).bind fun _ =>
(fX5_earliestAlike h v32 x1).bind fun v35 =>
some v35
else
some (-1001 : Int32)
else
some (-1001 : Int32)
def fX8_isPlace (h : XH) (x0 : Nat) (x1 : Int32) : Option Bool :=
(xgR h x0 8 0).bind fun v1 =>
(xgR h v1 5 0).bind fun v3 =>
(xgI h v3 6 3).bind fun v5 =>
(fX8_within x1 (0 : Int32) (v5 - (1 : Int32))).bind fun v7 =>
some v7
def fX8_markAt (h : XH) (x0 : Nat) (x1 : Int32) (x2 : Int32) : Option Int32 :=
(fX8_isTick x1).bind fun v1 =>
if v1 = true then
(xco h x0 8).bind fun _ =>
(fX8_isPlace h x0 x2).bind fun v4 =>
if v4 = true then
(xgR h x0 8 0).bind fun v6 =>
(xgR h v6 5 0).bind fun v8 =>
(xgR h x0 8 0).bind fun v10 =>
(xgR h v10 5 0).bind fun v12 =>
(xco h v12 6).bind fun _ =>
(fX6_turnAt h v12 x1).bind fun v15 =>
(xgR h x0 8 0).bind fun v17 =>
(xgR h v17 5 0).bind fun v19 =>
(xgI h v19 6 3).bind fun v21 =>
(fX8_mod (x2 - v15) v21).bind fun v23 =>
(xco h v8 6).bind fun _ =>
(fX6_markOf h v8 v23).bind fun v26 =>
some v26
else
some (-1001 : Int32)
else
some (-1001 : Int32)
def fX5_countSeeming_J79 (h : XH) (x0 : Nat) (x1 : Int32) (x2 : Int32) (x3 : Int32) (x4 : Int32) (x5 : Int32) (s0 : Int32) : Option ((Int32 × Int32) ⊕ Int32) :=
if s0 = x1 then
some (.inl ((x4 + (1 : Int32)), (x5 + (1 : Int32))))
else
some (.inl (x4, (x5 + (1 : Int32))))
def fX5_countSeeming_b22 (h : XH) (x0 : Nat) (x1 : Int32) (x2 : Int32) (x3 : Int32) (x4 : Int32) (x5 : Int32) : Option ((Int32 × Int32) ⊕ Int32) :=
if x3 ≤ (x5 + (1 : Int32)) then
some (.inr x4)
else
(xgR h x0 5 0).bind fun v11 =>
(xgR h x0 5 1).bind fun v13 =>
(xco h v13 2).bind fun _ =>
(fX2_tickOf h v13 x5).bind fun v16 =>
(xgR h x0 5 1).bind fun v18 =>
(xco h v18 2).bind fun _ =>
(fX2_tickOf h v18 (x5 + (1 : Int32))).bind fun v21 =>
(xco h v11 6).bind fun _ =>
(fX6_stepBetween h v11 v16 v21 x2).bind fun v24 =>
if v24 = 0 then
fX5_countSeeming_J79 h x0 x1 x2 x3 x4 x5 (0 : Int32)
else
if v24 ≤ 0 then
fX5_countSeeming_J79 h x0 x1 x2 x3 x4 x5 (2 : Int32)
else
fX5_countSeeming_J79 h x0 x1 x2 x3 x4 x5 (1 : Int32)
def fX5_countSeeming_B22 (h : XH) (x0 : Nat) (x1 : Int32) (x2 : Int32) (x3 : Int32) (s : (Int32 × Int32)) : Option ((Int32 × Int32) ⊕ Int32) := fX5_countSeeming_b22 h x0 x1 x2 x3 s.1 s.2
def fX5_countSeeming (h : XH) (x0 : Nat) (x1 : Int32) : Option Int32 :=
(xgR h x0 5 0).bind fun v1 =>
(xco h v1 6).bind fun _ =>
(fX6_measure h v1).bind fun v4 =>
(xgR h x0 5 1).bind fun v6 =>
(xco h v6 2).bind fun _ =>
(fX2_number h v6).bind fun v9 =>
(xloop (fX5_countSeeming_B22 h x0 x1 v4 v9) 5000 ((0 : Int32), (0 : Int32))).bind fun e26 =>
some e26
def fX6_turnsModulo_b6 (h : XH) (x0 : Nat) (x1 : Int32) (x2 : Int32) (x3 : Int32) (x4 : Int32) (x5 : Int64) (x7 : Int32) : Option ((Int64 × Int32) ⊕ Int64) :=
if x3 ≤ x7 then
some (.inr x5)
else
(xco h x0 6).bind fun _ =>
(fX6_turnAt h x0 (x2 + (x7 * x4))).bind fun v2 =>
(fX8_mod v2 x1).bind fun v4 =>
xlet (x5 ||| (xlshl (1 : Int64) v4)) fun y6 =>
some (.inl (y6, (x7 + (1 : Int32))))
def fX6_turnsModulo_B6 (h : XH) (x0 : Nat) (x1 : Int32) (x2 : Int32) (x3 : Int32) (x4 : Int32) (s : (Int64 × Int32)) : Option ((Int64 × Int32) ⊕ Int64) := fX6_turnsModulo_b6 h x0 x1 x2 x3 x4 s.1 s.2
def fX6_turnsModulo (h : XH) (x0 : Nat) (x1 : Int32) (x2 : Int32) (x3 : Int32) (x4 : Int32) : Option Int64 :=
(xloop (fX6_turnsModulo_B6 h x0 x1 x2 x3 x4) 5000 ((0 : Int64), (0 : Int32))).bind fun e7 =>
some e7
def fX5_differentPictures (h : XH) (x0 : Nat) : Option Int32 :=
(xgR h x0 5 0).bind fun v1 =>
(xgR h x0 5 0).bind fun v3 =>
(xco h v3 6).bind fun _ =>
(fX6_measure h v3).bind fun v6 =>
(xgR h x0 5 1).bind fun v8 =>
(xgI h v8 2 0).bind fun v10 =>
(xgR h x0 5 1).bind fun v12 =>
(xco h v12 2).bind fun _ =>
(fX2_number h v12).bind fun v15 =>
(xgR h x0 5 1).bind fun v17 =>
(xgI h v17 2 1).bind fun v19 =>
(xco h v1 6).bind fun _ =>
(fX6_turnsModulo h v1 v6 v10 v15 v19).bind fun v22 =>
(fJ13_bitCount_95d88 v22).bind fun v24 =>
some v24
def fX8_seems (h : XH) (x0 : Nat) (x1 : Int32) : Option Int32 :=
(fX8_within x1 (0 : Int32) (3 : Int32)).bind fun v1 =>
if v1 = true then
if x1 = (3 : Int32) then
(xgR h x0 8 0).bind fun v8 =>
(xco h v8 5).bind fun _ =>
(fX5_differentPictures h v8).bind fun v11 =>
some v11
else
(xgR h x0 8 0).bind fun v3 =>
(xco h v3 5).bind fun _ =>
(fX5_countSeeming h v3 x1).bind fun v6 =>
some v6
else
some (-1001 : Int32)
def fX3_slotAt (h : XH) (x0 : Nat) (x1 : Int32) : Option (Option Nat) :=
if x1 < 0 then
some none
else
(xgR h x0 3 0).bind fun v1 =>
(xln h v1).bind fun v3 =>
if v3 ≤ x1 then
some none
else
(xgR h x0 3 0).bind fun v5 =>
(xaQ h v5 x1).bind fun v7 =>
some v7
def fX1_copyFrom (h : XH) (x0 : Nat) (x1 : Nat) : Option XH :=
(xgI h x1 1 0).bind fun v1 =>
(xpf h x0 1 0 (.int v1)).bind fun h3 =>
(xgI h3 x1 1 1).bind fun v5 =>
(xpf h3 x0 1 1 (.int v5)).bind fun h7 =>
(xgI h7 x1 1 2).bind fun v9 =>
(xpf h7 x0 1 2 (.int v9)).bind fun h11 =>
(xgI h11 x1 1 3).bind fun v13 =>
(xpf h11 x0 1 3 (.int v13)).bind fun h15 =>
some h15
def fX2_copyFrom (h : XH) (x0 : Nat) (x1 : Nat) : Option XH :=
(xgI h x1 2 0).bind fun v1 =>
(xpf h x0 2 0 (.int v1)).bind fun h3 =>
(xgI h3 x1 2 1).bind fun v5 =>
(xpf h3 x0 2 1 (.int v5)).bind fun h7 =>
some h7
def fX8_copyRow_b2 (x0 : Nat) (x1 : Nat) (h : XH) (x2 : Int32) : Option ((XH × Int32) ⊕ XH) :=
(xln h x0).bind fun v1 =>
if v1 ≤ x2 then
some (.inr h)
else
(xln h x1).bind fun v3 =>
if v3 ≤ x2 then
some (.inr h)
else
(xaI h x0 0 x2).bind fun v5 =>
(xsI h x1 0 x2 v5).bind fun h7 =>
some (.inl (h7, (x2 + (1 : Int32))))
def fX8_copyRow_B2 (x0 : Nat) (x1 : Nat) (s : (XH × Int32)) : Option ((XH × Int32) ⊕ XH) := fX8_copyRow_b2 x0 x1 s.1 s.2
def fX8_copyRow (h : XH) (x0 : Nat) (x1 : Nat) : Option XH :=
(xloop (fX8_copyRow_B2 x0 x1) 5000 (h, (0 : Int32))).bind fun e9 =>
some e9
def fX4_copyFrom (h : XH) (x0 : Nat) (x1 : Nat) : Option XH :=
(xgR h x1 4 0).bind fun v1 =>
(xgR h x0 4 0).bind fun v3 =>
(fX8_copyRow h v1 v3).bind fun h5 =>
(xgR h5 x1 4 1).bind fun v7 =>
(xgR h5 x0 4 1).bind fun v9 =>
(fX8_copyRow h5 v7 v9).bind fun h11 =>
(xgI h11 x1 4 2).bind fun v13 =>
(xpf h11 x0 4 2 (.int v13)).bind fun h15 =>
(xgI h15 x1 4 3).bind fun v17 =>
(xpf h15 x0 4 3 (.int v17)).bind fun h19 =>
some h19
def fX6_copyFrom (h : XH) (x0 : Nat) (x1 : Nat) : Option XH :=
(xgR h x1 6 0).bind fun v1 =>
(xgR h x0 6 0).bind fun v3 =>
(fX8_copyRow h v1 v3).bind fun h5 =>
(xgR h5 x1 6 1).bind fun v7 =>
(xgR h5 x0 6 1).bind fun v9 =>
(fX8_copyRow h5 v7 v9).bind fun h11 =>
(xgR h11 x1 6 2).bind fun v13 =>
(xgR h11 x0 6 2).bind fun v15 =>
(fX8_copyRow h11 v13 v15).bind fun h17 =>
(xgI h17 x1 6 3).bind fun v19 =>
(xpf h17 x0 6 3 (.int v19)).bind fun h21 =>
(xgI h21 x1 6 4).bind fun v23 =>
(xpf h21 x0 6 4 (.int v23)).bind fun h25 =>
(xgI h25 x1 6 5).bind fun v27 =>
(xpf h25 x0 6 5 (.int v27)).bind fun h29 =>
(xgI h29 x1 6 6).bind fun v31 =>
(xpf h29 x0 6 6 (.int v31)).bind fun h33 =>
some h33
def fX5_copyFrom (h : XH) (x0 : Nat) (x1 : Nat) : Option XH :=
(xgR h x0 5 0).bind fun v1 =>
(xgR h x1 5 0).bind fun v3 =>
(xco h v1 6).bind fun _ =>
(fX6_copyFrom h v1 v3).bind fun h6 =>
(xgR h6 x0 5 1).bind fun v8 =>
(xgR h6 x1 5 1).bind fun v10 =>
(xco h6 v8 2).bind fun _ =>
(fX2_copyFrom h6 v8 v10).bind fun h13 =>
(xgR h13 x0 5 2).bind fun v15 =>
(xgR h13 x1 5 2).bind fun v17 =>
(xco h13 v15 4).bind fun _ =>
(fX4_copyFrom h13 v15 v17).bind fun h20 =>
(xgR h20 x0 5 3).bind fun v22 =>
(xgR h20 x1 5 3).bind fun v24 =>
(xco h20 v22 1).bind fun _ =>
(fX1_copyFrom h20 v22 v24).bind fun h27 =>
some h27
def fX3_remember (h : XH) (x0 : Nat) (x1 : Nat) : Option XH :=
(xgI h x0 3 1).bind fun v1 =>
(xco h x0 3).bind fun _ =>
(fX3_slotAt h x0 v1).bind fun v4 =>
xqc v4 (some h) (fun k6 =>
(xco h k6 5).bind fun _ =>
(fX5_copyFrom h k6 x1).bind fun h8 =>
(xgI h8 x0 3 1).bind fun v10 =>
(fX8_mod (v10 + (1 : Int32)) (8 : Int32)).bind fun v12 =>
(xpf h8 x0 3 1 (.int v12)).bind fun h14 =>
(xgI h14 x0 3 2).bind fun v16 =>
if (8 : Int32) ≤ v16 then
some h14
else
(xgI h14 x0 3 2).bind fun v18 =>
(xpf h14 x0 3 2 (.int (v18 + (1 : Int32)))).bind fun h20 =>
some h20)
def fX8_setFlash (h : XH) (x0 : Nat) (x1 : Int32) (x2 : Int32) : Option (Int32 × XH) :=
(fX8_isTick x1).bind fun v1 =>
if v1 = true then
(fX8_within x2 (1 : Int32) (500 : Int32)).bind fun v3 =>
if v3 = true then
(xgR h x0 8 1).bind fun v5 =>
(xgR h x0 8 0).bind fun v7 =>
(xco h v5 3).bind fun _ =>
(fX3_remember h v5 v7).bind fun h10 =>
(xgR h10 x0 8 0).bind fun v12 =>
(xgR h10 v12 5 1).bind fun v14 =>
(xpf h10 v14 2 0 (.int x1)).bind fun h16 =>
(xgR h16 x0 8 0).bind fun v18 =>
(xgR h16 v18 5 1).bind fun v20 =>
(xpf h16 v20 2 1 (.int x2)).bind fun h22 =>
(xgR h22 x0 8 0).bind fun v24 =>
(xgR h22 v24 5 1).bind fun v26 =>
(xco h22 v26 2).bind fun _ =>
(fX2_number h22 v26).bind fun v29 =>
some (v29, h22)
else
some ((-1001 : Int32), h)
else
some ((-1001 : Int32), h)
def fX8_put (h : XH) (x0 : Nat) (x1 : Int32) (x2 : Int32) : Option XH :=
if x1 < 0 then
some h
else
(xln h x0).bind fun v1 =>
if v1 ≤ x1 then
some h
else
(xsI h x0 0 x1 x2).bind fun h3 =>
some h3
def fX0_countByRemainder_b2 (x0 : Nat) (h : XH) (x1 : Int32) : Option ((XH × Int32) ⊕ XH) :=
(xgI h x0 0 2).bind fun v1 =>
if v1 ≤ x1 then
some (.inr h)
else
(xgR h x0 0 0).bind fun v3 =>
(fX8_put h v3 x1 (0 : Int32)).bind fun h5 =>
some (.inl (h5, (x1 + (1 : Int32))))
def fX0_countByRemainder_B2 (x0 : Nat) (s : (XH × Int32)) : Option ((XH × Int32) ⊕ XH) := fX0_countByRemainder_b2 x0 s.1 s.2
def fX0_countByRemainder_b31 (x0 : Nat) (h : XH) (x1 : Int32) : Option ((XH × Int32) ⊕ XH) :=
(xgI h x0 0 3).bind fun v11 =>
if v11 < x1 then
some (.inr h)
else
(xgI h x0 0 2).bind fun v13 =>
(fX8_mod x1 v13).bind fun v15 =>
(xco h x0 0).bind fun _ =>
(fX0_has h x0 x1).bind fun v18 =>
if v18 = true then
(xgR h x0 0 0).bind fun v20 =>
(xgR h x0 0 0).bind fun v22 =>
(fX8_at h v22 v15).bind fun v24 =>
(fX8_put h v20 v15 (v24 + (1 : Int32))).bind fun h26 =>
some (.inl (h26, (x1 + (1 : Int32))))
else
some (.inl (h, (x1 + (1 : Int32))))
def fX0_countByRemainder_B31 (x0 : Nat) (s : (XH × Int32)) : Option ((XH × Int32) ⊕ XH) := fX0_countByRemainder_b31 x0 s.1 s.2
def fX0_countByRemainder (h : XH) (x0 : Nat) : Option XH :=
(xloop (fX0_countByRemainder_B2 x0) 5000 (h, (0 : Int32))).bind fun e7 =>
(xgI e7 x0 0 3).bind fun v9 =>
(xloop (fX0_countByRemainder_B31 x0) 5000 (e7, (-v9))).bind fun e28 =>
some e28
def fX0_restOf_b2 (x0 : Nat) (x1 : Int32) (h : XH) (x2 : Int32) : Option ((XH × Int32) ⊕ XH) :=
(xgI h x0 0 2).bind fun v1 =>
if v1 ≤ x2 then
some (.inr h)
else
(xgR h x0 0 1).bind fun v3 =>
(fX8_put h v3 x2 (0 : Int32)).bind fun h5 =>
some (.inl (h5, (x2 + (1 : Int32))))
def fX0_restOf_B2 (x0 : Nat) (x1 : Int32) (s : (XH × Int32)) : Option ((XH × Int32) ⊕ XH) := fX0_restOf_b2 x0 x1 s.1 s.2
def fX0_restOf_b29 (x0 : Nat) (x1 : Int32) (h : XH) (x2 : Int32) (x3 : Int32) : Option ((XH × Int32 × Int32) ⊕ (XH × Int32)) :=
(xgI h x0 0 2).bind fun v9 =>
if v9 ≤ x3 then
some (.inr (h, x2))
else
(xgI h x0 0 2).bind fun v11 =>
(fX8_mod (x3 * x1) v11).bind fun v13 =>
(xgR h x0 0 1).bind fun v15 =>
(xgR h x0 0 1).bind fun v17 =>
(fX8_at h v17 v13).bind fun v19 =>
(xgR h x0 0 0).bind fun v21 =>
(fX8_at h v21 x3).bind fun v23 =>
(fX8_put h v15 v13 (v19 + v23)).bind fun h25 =>
(xgR h25 x0 0 1).bind fun v27 =>
(fX8_at h25 v27 v13).bind fun v29 =>
some (.inl (h25, (xmmax x2 v29), (x3 + (1 : Int32))))
def fX0_restOf_B29 (x0 : Nat) (x1 : Int32) (s : (XH × Int32 × Int32)) : Option ((XH × Int32 × Int32) ⊕ (XH × Int32)) := fX0_restOf_b29 x0 x1 s.1 s.2.1 s.2.2
def fX0_restOf (h : XH) (x0 : Nat) (x1 : Int32) : Option (Int32 × XH) :=
(xloop (fX0_restOf_B2 x0 x1) 5000 (h, (0 : Int32))).bind fun e7 =>
(xloop (fX0_restOf_B29 x0 x1) 5000 (e7, (0 : Int32), (0 : Int32))).bind fun e31 =>
some (e31.2, e31.1)
def fX8_bestPeriod_b49 (x1 : Int32) (x2 : Bool) (x3 : Nat) (h : XH) (x4 : Int32) (x5 : Int32) (x6 : Int32) : Option ((XH × Int32 × Int32 × Int32) ⊕ (XH × Int32 × Int32)) :=
if x1 < x6 then
some (.inr (h, x4, x5))
else
(xco h x3 0).bind fun _ =>
(fX0_restOf h x3 x6).bind fun v16 =>
if x5 ≤ v16.1 then
some (.inl (v16.2, x4, x5, (x6 + (1 : Int32))))
else
some (.inl (v16.2, x6, v16.1, (x6 + (1 : Int32))))
def fX8_bestPeriod_B49 (x1 : Int32) (x2 : Bool) (x3 : Nat) (s : (XH × Int32 × Int32 × Int32)) : Option ((XH × Int32 × Int32 × Int32) ⊕ (XH × Int32 × Int32)) := fX8_bestPeriod_b49 x1 x2 x3 s.1 s.2.1 s.2.2.1 s.2.2.2
def fX8_bestPeriod (h : XH) (x0 : Nat) (x1 : Int32) (x2 : Bool) : Option (Int32 × XH) :=
(fX8_within x1 (1 : Int32) (500 : Int32)).bind fun v1 =>
if v1 = true then
(xco h x0 8).bind fun _ =>
(fX8_findWithout h x0 (-1 : Int32)).bind fun v4 =>
(xco v4.2 v4.1 0).bind fun _ =>
(fX0_number v4.2 v4.1).bind fun v7 =>
if v7 = 0 then
some ((-1004 : Int32), v4.2)
else
(xco v4.2 v4.1 0).bind fun _ =>
(fX0_countByRemainder v4.2 v4.1).bind fun h10 =>
(xco h10 v4.1 0).bind fun _ =>
(fX0_restOf h10 v4.1 (1 : Int32)).bind fun v13 =>
(xloop (fX8_bestPeriod_B49 x1 x2 v4.1) 5000 (v13.2, (1 : Int32), v13.1, (2 : Int32))).bind fun e18 =>
if x2 = true then
some (e18.2.2, e18.1)
else
some (e18.2.1, e18.1)
else
some ((-1001 : Int32), h)
def fX0_inOrder_b8 (h : XH) (x0 : Nat) (x1 : Int32) (x2 : Int32) (x3 : Int32) : Option ((Int32 × Int32) ⊕ (Int32 ⊕ Unit)) :=
(xgI h x0 0 3).bind fun v3 =>
if v3 < x3 then
some (.inr (.inr ()))
else
(xco h x0 0).bind fun _ =>
(fX0_has h x0 x3).bind fun v6 =>
if v6 = true then
if x2 = x1 then
some (.inr (.inl x3))
else
some (.inl ((x2 + (1 : Int32)), (x3 + (1 : Int32))))
else
some (.inl (x2, (x3 + (1 : Int32))))
def fX0_inOrder_B8 (h : XH) (x0 : Nat) (x1 : Int32) (s : (Int32 × Int32)) : Option ((Int32 × Int32) ⊕ (Int32 ⊕ Unit)) := fX0_inOrder_b8 h x0 x1 s.1 s.2
def fX0_inOrder (h : XH) (x0 : Nat) (x1 : Int32) : Option Int32 :=
(xgI h x0 0 3).bind fun v1 =>
(xloop (fX0_inOrder_B8 h x0 x1) 5000 ((0 : Int32), (-v1))).bind fun e8 =>
(match e8 with
| .inl e8 =>
some e8
| .inr e8 =>
some (-1004 : Int32)
)
def fX8_candidate (h : XH) (x0 : Nat) (x1 : Int32) : Option (Int32 × XH) :=
if 0 ≤ x1 then
(xco h x0 8).bind fun _ =>
(fX8_findWithout h x0 (-1 : Int32)).bind fun v2 =>
(xco v2.2 v2.1 0).bind fun _ =>
(fX0_inOrder v2.2 v2.1 x1).bind fun v5 =>
some (v5, v2.2)
else
some ((-1001 : Int32), h)
def fX8_candidates (h : XH) (x0 : Nat) : Option (Int32 × XH) :=
(xco h x0 8).bind fun _ =>
(fX8_findWithout h x0 (-1 : Int32)).bind fun v2 =>
(xco v2.2 v2.1 0).bind fun _ =>
(fX0_number v2.2 v2.1).bind fun v5 =>
some (v5, v2.2)
def fX0_nearestTo_J44 (h : XH) (x0 : Nat) (x1 : Int32) (x2 : Int32) (x3 : Int32) (x4 : Int32) (x5 : Int32) : Option ((Int32 × Int32 × Int32) ⊕ Int32) :=
(xco h x0 0).bind fun _ =>
(fX0_has h x0 x4).bind fun v6 =>
if v6 = true then
some (.inl (x4, x5, (x4 + (1 : Int32))))
else
some (.inl (x2, x3, (x4 + (1 : Int32))))
def fX0_nearestTo_b13 (h : XH) (x0 : Nat) (x1 : Int32) (x2 : Int32) (x3 : Int32) (x4 : Int32) : Option ((Int32 × Int32 × Int32) ⊕ Int32) :=
(xgI h x0 0 3).bind fun v3 =>
if v3 < x4 then
some (.inr x2)
else
if x2 = (-1004 : Int32) then
fX0_nearestTo_J44 h x0 x1 x2 x3 x4 (xmabs (x4 - x1))
else
if x3 ≤ (xmabs (x4 - x1)) then
some (.inl (x2, x3, (x4 + (1 : Int32))))
else
fX0_nearestTo_J44 h x0 x1 x2 x3 x4 (xmabs (x4 - x1))
def fX0_nearestTo_B13 (h : XH) (x0 : Nat) (x1 : Int32) (s : (Int32 × Int32 × Int32)) : Option ((Int32 × Int32 × Int32) ⊕ Int32) := fX0_nearestTo_b13 h x0 x1 s.1 s.2.1 s.2.2
def fX0_nearestTo (h : XH) (x0 : Nat) (x1 : Int32) : Option Int32 :=
(xgI h x0 0 3).bind fun v1 =>
(xloop (fX0_nearestTo_B13 h x0 x1) 5000 ((-1004 : Int32), (0 : Int32), (-v1))).bind fun e8 =>
some e8
def fX8_nearest (h : XH) (x0 : Nat) (x1 : Int32) : Option (Int32 × XH) :=
(fX8_within x1 (-1000 : Int32) (1000 : Int32)).bind fun v1 =>
if v1 = true then
(xco h x0 8).bind fun _ =>
(fX8_findWithout h x0 (-1 : Int32)).bind fun v4 =>
(xco v4.2 v4.1 0).bind fun _ =>
(fX0_nearestTo v4.2 v4.1 x1).bind fun v7 =>
some (v7, v4.2)
else
some ((-1001 : Int32), h)
def fX8_odd_b13 (x0 : Nat) (h : XH) (x1 : Int32) : Option ((XH × Int32) ⊕ ((XH × Int32) ⊕ XH)) :=
(xgR h x0 8 0).bind fun v4 =>
(xgR h v4 5 2).bind fun v6 =>
(xgI h v6 4 2).bind fun v8 =>
if v8 ≤ x1 then
some (.inr (.inr h))
else
(xco h x0 8).bind fun _ =>
(fX8_findWithout h x0 x1).bind fun v11 =>
(xco v11.2 v11.1 0).bind fun _ =>
(fX0_number v11.2 v11.1).bind fun v14 =>
if v14 ≤ 0 then
some (.inl (v11.2, (x1 + (1 : Int32))))
else
some (.inr (.inl (v11.2, x1)))
def fX8_odd_B13 (x0 : Nat) (s : (XH × Int32)) : Option ((XH × Int32) ⊕ ((XH × Int32) ⊕ XH)) := fX8_odd_b13 x0 s.1 s.2
def fX8_odd (h : XH) (x0 : Nat) : Option (Int32 × XH) :=
(xco h x0 8).bind fun _ =>
(fX8_candidates h x0).bind fun v2 =>
if v2.1 ≤ 0 then
(xloop (fX8_odd_B13 x0) 5000 (v2.2, (0 : Int32))).bind fun e16 =>
(match e16 with
| .inl e16 =>
some (e16.2, e16.1)
| .inr e16 =>
some ((-1004 : Int32), e16)
)
else
some ((-1002 : Int32), v2.2)
def fX8_setLimit (h : XH) (x0 : Nat) (x1 : Int32) : Option (Int32 × XH) :=
(fX8_within x1 (1 : Int32) (1000 : Int32)).bind fun v1 =>
if v1 = true then
(xgR h x0 8 1).bind fun v3 =>
(xgR h x0 8 0).bind fun v5 =>
(xco h v3 3).bind fun _ =>
(fX3_remember h v3 v5).bind fun h8 =>
(xgR h8 x0 8 0).bind fun v10 =>
(xgR h8 v10 5 2).bind fun v12 =>
(xgI h8 v12 4 3).bind fun v14 =>
(xgR h8 x0 8 0).bind fun v16 =>
(xgR h8 v16 5 2).bind fun v18 =>
(xpf h8 v18 4 3 (.int x1)).bind fun h20 =>
some (v14, h20)
else
some ((-1001 : Int32), h)
def fX6_placeOfChange_b2 (h : XH) (x0 : Nat) (x1 : Int32) (x2 : Int32) : Option (Int32 ⊕ Int32) :=
(xgI h x0 6 6).bind fun v1 =>
if v1 ≤ x2 then
some (.inr x2)
else
(xgR h x0 6 1).bind fun v3 =>
(fX8_at h v3 x2).bind fun v5 =>
if x1 ≤ v5 then
some (.inr x2)
else
some (.inl (x2 + (1 : Int32)))
def fX6_placeOfChange_B2 (h : XH) (x0 : Nat) (x1 : Int32) (s : Int32) : Option (Int32 ⊕ Int32) := fX6_placeOfChange_b2 h x0 x1 s
def fX6_placeOfChange (h : XH) (x0 : Nat) (x1 : Int32) : Option Int32 :=
(xloop (fX6_placeOfChange_B2 h x0 x1) 5000 (0 : Int32)).bind fun e7 =>
some e7
def fX6_hasChange (h : XH) (x0 : Nat) (x1 : Int32) : Option Bool :=
(xco h x0 6).bind fun _ =>
(fX6_placeOfChange h x0 x1).bind fun v2 =>
(xgI h x0 6 6).bind fun v4 =>
if v4 ≤ v2 then
some false
else
(xgR h x0 6 1).bind fun v6 =>
(fX8_at h v6 v2).bind fun v8 =>
if v8 = x1 then
some true
else
some false
def fX6_hasRoomFor (h : XH) (x0 : Nat) (x1 : Int32) : Option Bool :=
if x1 = 0 then
some true
else
(xco h x0 6).bind fun _ =>
(fX6_hasChange h x0 x1).bind fun v2 =>
if v2 = true then
some true
else
(xgI h x0 6 6).bind fun v4 =>
if (5 : Int32) ≤ v4 then
some false
else
some true
def fX6_insertChange_b11 (x0 : Nat) (x1 : Int32) (x2 : Int32) (h : XH) (x3 : Int32) : Option ((XH × Int32) ⊕ XH) :=
if x3 ≤ x2 then
some (.inr h)
else
(xgR h x0 6 1).bind fun v6 =>
(xgR h x0 6 1).bind fun v8 =>
(fX8_at h v8 (x3 - (1 : Int32))).bind fun v10 =>
(fX8_put h v6 x3 v10).bind fun h12 =>
(xgR h12 x0 6 2).bind fun v14 =>
(xgR h12 x0 6 2).bind fun v16 =>
(fX8_at h12 v16 (x3 - (1 : Int32))).bind fun v18 =>
(fX8_put h12 v14 x3 v18).bind fun h20 =>
some (.inl (h20, (x3 + (-1 : Int32))))
def fX6_insertChange_B11 (x0 : Nat) (x1 : Int32) (x2 : Int32) (s : (XH × Int32)) : Option ((XH × Int32) ⊕ XH) := fX6_insertChange_b11 x0 x1 x2 s.1 s.2
def fX6_insertChange (h : XH) (x0 : Nat) (x1 : Int32) : Option XH :=
(xco h x0 6).bind fun _ =>
(fX6_placeOfChange h x0 x1).bind fun v2 =>
(xgI h x0 6 6).bind fun v4 =>
(xloop (fX6_insertChange_B11 x0 x1 v2) 5000 (h, v4)).bind fun e22 =>
(xgR e22 x0 6 1).bind fun v24 =>
(fX8_put e22 v24 v2 x1).bind fun h26 =>
(xgI h26 x0 6 6).bind fun v28 =>
(xpf h26 x0 6 6 (.int (v28 + (1 : Int32)))).bind fun h30 =>
some h30
def fX6_putSpeed (h : XH) (x0 : Nat) (x1 : Int32) (x2 : Int32) : Option XH :=
if x1 = 0 then
(xpf h x0 6 5 (.int x2)).bind fun h21 =>
some h21
else
(xco h x0 6).bind fun _ =>
(fX6_hasChange h x0 x1).bind fun v2 =>
if v2 = true then
(xgR h x0 6 2).bind fun v4 =>
(xco h x0 6).bind fun _ =>
(fX6_placeOfChange h x0 x1).bind fun v7 =>
(fX8_put h v4 v7 x2).bind fun h9 =>
some h9
else
(xco h x0 6).bind fun _ =>
(fX6_insertChange h x0 x1).bind fun h12 =>
(xgR h12 x0 6 2).bind fun v14 =>
(xco h12 x0 6).bind fun _ =>
(fX6_placeOfChange h12 x0 x1).bind fun v17 =>
(fX8_put h12 v14 v17 x2).bind fun h19 =>
some h19
def fX8_setSpeed (h : XH) (x0 : Nat) (x1 : Int32) (x2 : Int32) : Option (Int32 × XH) :=
(fX8_isTick x1).bind fun v1 =>
if v1 = true then
(fX8_within x2 (-1000 : Int32) (1000 : Int32)).bind fun v3 =>
if v3 = true then
(xgR h x0 8 0).bind fun v5 =>
(xgR h v5 5 0).bind fun v7 =>
(xco h v7 6).bind fun _ =>
(fX6_hasRoomFor h v7 x1).bind fun v10 =>
if v10 = true then
(xgR h x0 8 1).bind fun v12 =>
(xgR h x0 8 0).bind fun v14 =>
(xco h v12 3).bind fun _ =>
(fX3_remember h v12 v14).bind fun h17 =>
(xgR h17 x0 8 0).bind fun v19 =>
(xgR h17 v19 5 0).bind fun v21 =>
(xco h17 v21 6).bind fun _ =>
(fX6_putSpeed h17 v21 x1 x2).bind fun h24 =>
(xgR h24 x0 8 0).bind fun v26 =>
(xgR h24 v26 5 0).bind fun v28 =>
(xgI h24 v28 6 6).bind fun v30 =>
some (v30, h24)
else
some ((-1003 : Int32), h)
else
some ((-1001 : Int32), h)
else
some ((-1001 : Int32), h)
def fX8_clearText (h : XH) (x0 : Nat) : Option (Int32 × XH) :=
(xgR h x0 8 2).bind fun v1 =>
(xgI h v1 7 2).bind fun v3 =>
(xgR h x0 8 2).bind fun v5 =>
(xpf h v5 7 2 (.int (0 : Int32))).bind fun h7 =>
some (v3, h7)
def fX6_empty (h : XH) (x0 : Nat) : Option XH :=
(xpf h x0 6 3 (.int (0 : Int32))).bind fun h1 =>
(xpf h1 x0 6 4 (.int (0 : Int32))).bind fun h3 =>
(xpf h3 x0 6 5 (.int (0 : Int32))).bind fun h5 =>
(xpf h5 x0 6 6 (.int (0 : Int32))).bind fun h7 =>
some h7
def fX6_addCell (h : XH) (x0 : Nat) (x1 : Int32) : Option XH :=
(xgR h x0 6 0).bind fun v1 =>
(xgI h x0 6 3).bind fun v3 =>
(fX8_put h v1 v3 x1).bind fun h5 =>
(xgI h5 x0 6 3).bind fun v7 =>
(xpf h5 x0 6 3 (.int (v7 + (1 : Int32)))).bind fun h9 =>
some h9
def fX7_code (h : XH) (x0 : Nat) : Option Int32 :=
(xgI h x0 7 1).bind fun v1 =>
(xgI h x0 7 2).bind fun v3 =>
if v3 ≤ v1 then
some (0 : Int32)
else
(xgR h x0 7 0).bind fun v5 =>
(xgI h x0 7 1).bind fun v7 =>
(fX8_at h v5 v7).bind fun v9 =>
some v9
def fX7_isCell (x0 : Int32) : Option Bool :=
if x0 = (46 : Int32) then
some true
else
(fX8_within x0 (97 : Int32) (99 : Int32)).bind fun v1 =>
if v1 = true then
some true
else
some false
def fX7_tellFault (h : XH) (x0 : Nat) (x1 : Int32) (x2 : Int32) : Option XH :=
(xpf h x0 7 3 (.int x1)).bind fun h1 =>
(xpf h1 x0 7 4 (.int x2)).bind fun h3 =>
some h3
def fX7_readCells_b0 (x0 : Nat) (x1 : Nat) (h : XH) : Option (XH ⊕ XH) :=
(xgI h x0 7 1).bind fun v46 =>
(xgI h x0 7 2).bind fun v48 =>
if v48 ≤ v46 then
some (.inr h)
else
(xgI h x1 6 3).bind fun v50 =>
if (60 : Int32) ≤ v50 then
some (.inr h)
else
(xco h x0 7).bind fun _ =>
(fX7_code h x0).bind fun v53 =>
(fX7_isCell v53).bind fun v55 =>
if v55 = true then
(xco h x0 7).bind fun _ =>
(fX7_code h x0).bind fun v58 =>
if v58 = (46 : Int32) then
(xco h x1 6).bind fun _ =>
(fX6_addCell h x1 (0 : Int32)).bind fun h71 =>
(xgI h71 x0 7 1).bind fun v73 =>
(xpf h71 x0 7 1 (.int (v73 + (1 : Int32)))).bind fun h75 =>
some (.inl h75)
else
(xco h x0 7).bind fun _ =>
(fX7_code h x0).bind fun v61 =>
(xco h x1 6).bind fun _ =>
(fX6_addCell h x1 ((v61 - (97 : Int32)) + (1 : Int32))).bind fun h64 =>
(xgI h64 x0 7 1).bind fun v66 =>
(xpf h64 x0 7 1 (.int (v66 + (1 : Int32)))).bind fun h68 =>
some (.inl h68)
else
some (.inr h)
def fX7_readCells_B0 (x0 : Nat) (x1 : Nat) (s : XH) : Option (XH ⊕ XH) := fX7_readCells_b0 x0 x1 s
def fX7_readCells_J53 (h : XH) (x0 : Nat) (x1 : Nat) (s0 : Nat) (s1 : Int32) : Option (XH) :=
(xco h s0 6).bind fun _ =>
(fX6_addCell h s0 s1).bind fun h40 =>
(xgI h40 x0 7 1).bind fun v42 =>
(xpf h40 x0 7 1 (.int (v42 + (1 : Int32)))).bind fun h44 =>
(xloop (fX7_readCells_B0 x0 x1) 5000 h44).bind fun e77 =>
(xgI e77 x1 6 3).bind fun v79 =>
if v79 = 0 then
(xgI e77 x0 7 1).bind fun v81 =>
(xco e77 x0 7).bind fun _ =>
(fX7_tellFault e77 x0 (1 : Int32) v81).bind fun h84 =>
some h84
else
some e77
def fX7_readCells (h : XH) (x0 : Nat) (x1 : Nat) : Option XH :=
(xgI h x0 7 1).bind fun v1 =>
(xgI h x0 7 2).bind fun v3 =>
if v3 ≤ v1 then
(xgI h x1 6 3).bind fun v5 =>
if v5 = 0 then
(xgI h x0 7 1).bind fun v7 =>
(xco h x0 7).bind fun _ =>
(fX7_tellFault h x0 (1 : Int32) v7).bind fun h10 =>
some h10
else
some h
else
(xgI h x1 6 3).bind fun v12 =>
if (60 : Int32) ≤ v12 then
(xgI h x1 6 3).bind fun v14 =>
if v14 = 0 then
(xgI h x0 7 1).bind fun v16 =>
(xco h x0 7).bind fun _ =>
(fX7_tellFault h x0 (1 : Int32) v16).bind fun h19 =>
some h19
else
some h
else
(xco h x0 7).bind fun _ =>
(fX7_code h x0).bind fun v22 =>
(fX7_isCell v22).bind fun v24 =>
if v24 = true then
(xco h x0 7).bind fun _ =>
(fX7_code h x0).bind fun v34 =>
if v34 = (46 : Int32) then
fX7_readCells_J53 h x0 x1 x1 (0 : Int32)
else
(xco h x0 7).bind fun _ =>
(fX7_code h x0).bind fun v37 =>
fX7_readCells_J53 h x0 x1 x1 ((v37 - (97 : Int32)) + (1 : Int32))
else
(xgI h x1 6 3).bind fun v26 =>
if v26 = 0 then
(xgI h x0 7 1).bind fun v28 =>
(xco h x0 7).bind fun _ =>
(fX7_tellFault h x0 (1 : Int32) v28).bind fun h31 =>
some h31
else
some h
def fX7_isDigit (x0 : Int32) : Option Bool :=
(fX8_within x0 (48 : Int32) (57 : Int32)).bind fun v1 =>
some v1
def fX7_readNumber_b8 (x0 : Nat) (x1 : Int32) (x2 : Int32) (x3 : Int32) (h : XH) (x4 : Int32) : Option ((XH × Int32) ⊕ (XH × Int32)) :=
(xco h x0 7).bind fun _ =>
(fX7_code h x0).bind fun v4 =>
(fX7_isDigit v4).bind fun v6 =>
if v6 = true then
(xgI h x0 7 1).bind fun v8 =>
if x1 ≤ (v8 - x3) then
some (.inr (h, x4))
else
(xco h x0 7).bind fun _ =>
(fX7_code h x0).bind fun v11 =>
xlet ((((10 : Int32) * x4) + v11) - (48 : Int32)) fun y13 =>
(xgI h x0 7 1).bind fun v14 =>
(xpf h x0 7 1 (.int (v14 + (1 : Int32)))).bind fun h16 =>
some (.inl (h16, y13))
else
some (.inr (h, x4))
def fX7_readNumber_B8 (x0 : Nat) (x1 : Int32) (x2 : Int32) (x3 : Int32) (s : (XH × Int32)) : Option ((XH × Int32) ⊕ (XH × Int32)) := fX7_readNumber_b8 x0 x1 x2 x3 s.1 s.2
def fX7_readNumber (h : XH) (x0 : Nat) (x1 : Int32) (x2 : Int32) : Option (Int32 × XH) :=
(xgI h x0 7 1).bind fun v1 =>
(xloop (fX7_readNumber_B8 x0 x1 x2 v1) 5000 (h, (0 : Int32))).bind fun e18 =>
(xgI e18.1 x0 7 1).bind fun v20 =>
if v20 = v1 then
(xgI e18.1 x0 7 1).bind fun v22 =>
(xco e18.1 x0 7).bind fun _ =>
(fX7_tellFault e18.1 x0 (1 : Int32) v22).bind fun h25 =>
some (e18.2, h25)
else
(xco e18.1 x0 7).bind fun _ =>
(fX7_code e18.1 x0).bind fun v28 =>
(fX7_isDigit v28).bind fun v30 =>
if v30 = true then
(xgI e18.1 x0 7 1).bind fun v35 =>
(xco e18.1 x0 7).bind fun _ =>
(fX7_tellFault e18.1 x0 (1 : Int32) v35).bind fun h38 =>
some (e18.2, h38)
else
if e18.2 ≤ x2 then
some (e18.2, e18.1)
else
(xco e18.1 x0 7).bind fun _ =>
(fX7_tellFault e18.1 x0 (2 : Int32) v1).bind fun h33 =>
some (e18.2, h33)
def fX7_takes (h : XH) (x0 : Nat) (x1 : Int32) : Option (Bool × XH) :=
(xco h x0 7).bind fun _ =>
(fX7_code h x0).bind fun v2 =>
if v2 = x1 then
(xgI h x0 7 1).bind fun v4 =>
(xpf h x0 7 1 (.int (v4 + (1 : Int32)))).bind fun h6 =>
some (true, h6)
else
some (false, h)
def fX7_readSpeed (h : XH) (x0 : Nat) : Option (Int32 × XH) :=
(xco h x0 7).bind fun _ =>
(fX7_takes h x0 (45 : Int32)).bind fun v2 =>
if v2.1 = true then
(xco v2.2 x0 7).bind fun _ =>
(fX7_readNumber v2.2 x0 (4 : Int32) (1000 : Int32)).bind fun v8 =>
some ((-v8.1), v8.2)
else
(xco v2.2 x0 7).bind fun _ =>
(fX7_readNumber v2.2 x0 (4 : Int32) (1000 : Int32)).bind fun v5 =>
some (v5.1, v5.2)
def fX7_readInto_J97 (h : XH) (x0 : Nat) : Option (Bool × XH) :=
(xgI h x0 7 3).bind fun v17 =>
if v17 = 0 then
some (true, h)
else
some (false, h)
def fX7_readInto_J70 (h : XH) (x0 : Nat) : Option (Bool × XH) :=
(xgI h x0 7 3).bind fun v15 =>
if v15 = 0 then
(xgI h x0 7 1).bind fun v19 =>
(xgI h x0 7 2).bind fun v21 =>
if v21 ≤ v19 then
fX7_readInto_J97 h x0
else
(xgI h x0 7 1).bind fun v23 =>
(xco h x0 7).bind fun _ =>
(fX7_tellFault h x0 (1 : Int32) v23).bind fun h26 =>
fX7_readInto_J97 h26 x0
else
fX7_readInto_J97 h x0
def fX7_readInto_J46 (h : XH) (x0 : Nat) (x1 : Nat) : Option (Bool × XH) :=
(xgI h x0 7 3).bind fun v13 =>
if v13 = 0 then
(xco h x0 7).bind fun _ =>
(fX7_takes h x0 (42 : Int32)).bind fun v29 =>
if v29.1 = true then
(xco v29.2 x0 7).bind fun _ =>
(fX7_readSpeed v29.2 x0).bind fun v32 =>
(xpf v32.2 x1 6 5 (.int v32.1)).bind fun h34 =>
fX7_readInto_J70 h34 x0
else
fX7_readInto_J70 v29.2 x0
else
fX7_readInto_J70 h x0
def fX7_readInto (h : XH) (x0 : Nat) (x1 : Nat) : Option (Bool × XH) :=
(xpf h x0 7 1 (.int (0 : Int32))).bind fun h1 =>
(xpf h1 x0 7 3 (.int (0 : Int32))).bind fun h3 =>
(xco h3 x1 6).bind fun _ =>
(fX6_empty h3 x1).bind fun h6 =>
(xco h6 x0 7).bind fun _ =>
(fX7_readCells h6 x0 x1).bind fun h9 =>
(xgI h9 x0 7 3).bind fun v11 =>
if v11 = 0 then
(xco h9 x0 7).bind fun _ =>
(fX7_takes h9 x0 (64 : Int32)).bind fun v37 =>
if v37.1 = true then
(xco v37.2 x0 7).bind fun _ =>
(fX7_readNumber v37.2 x0 (2 : Int32) (59 : Int32)).bind fun v40 =>
(xpf v40.2 x1 6 4 (.int v40.1)).bind fun h42 =>
fX7_readInto_J46 h42 x0 x1
else
fX7_readInto_J46 v37.2 x0 x1
else
fX7_readInto_J46 h9 x0 x1
def fX8_load (h : XH) (x0 : Nat) : Option (Int32 × XH) :=
(xgR h x0 8 2).bind fun v1 =>
(xgR h x0 8 3).bind fun v3 =>
(xco h v1 7).bind fun _ =>
(fX7_readInto h v1 v3).bind fun v6 =>
if v6.1 = true then
(xgR v6.2 x0 8 1).bind fun v8 =>
(xgR v6.2 x0 8 0).bind fun v10 =>
(xco v6.2 v8 3).bind fun _ =>
(fX3_remember v6.2 v8 v10).bind fun h13 =>
(xgR h13 x0 8 0).bind fun v15 =>
(xgR h13 v15 5 0).bind fun v17 =>
(xgR h13 x0 8 3).bind fun v19 =>
(xco h13 v17 6).bind fun _ =>
(fX6_copyFrom h13 v17 v19).bind fun h22 =>
(xgR h22 x0 8 0).bind fun v24 =>
(xgR h22 v24 5 0).bind fun v26 =>
(xgI h22 v26 6 3).bind fun v28 =>
some (v28, h22)
else
(xgR v6.2 x0 8 2).bind fun v30 =>
(xgI v6.2 v30 7 4).bind fun v32 =>
some (((-10 : Int32) - v32), v6.2)
def fX7_append (h : XH) (x0 : Nat) (x1 : Int32) : Option XH :=
(xgR h x0 7 0).bind fun v1 =>
(xgI h x0 7 2).bind fun v3 =>
(fX8_put h v1 v3 x1).bind fun h5 =>
(xgI h5 x0 7 2).bind fun v7 =>
(xpf h5 x0 7 2 (.int (v7 + (1 : Int32)))).bind fun h9 =>
some h9
def fX8_type (h : XH) (x0 : Nat) (x1 : Int32) : Option (Int32 × XH) :=
(fX8_within x1 (32 : Int32) (126 : Int32)).bind fun v1 =>
if v1 = true then
(xgR h x0 8 2).bind fun v3 =>
(xgI h v3 7 2).bind fun v5 =>
if v5 < (80 : Int32) then
(xgR h x0 8 2).bind fun v7 =>
(xco h v7 7).bind fun _ =>
(fX7_append h v7 x1).bind fun h10 =>
(xgR h10 x0 8 2).bind fun v12 =>
(xgI h10 v12 7 2).bind fun v14 =>
some (v14, h10)
else
some ((-1003 : Int32), h)
else
some ((-1001 : Int32), h)
def fX0_init (h : XH) (n : Nat) (x0 : Nat) : Option XH :=
(xnw h n (.inr (0, 60, .inl (fun _ => 0)))).bind fun h1 =>
(xpf h1 x0 0 0 (.ref n)).bind fun h3 =>
(xnw h3 (n + 1) (.inr (0, 60, .inl (fun _ => 0)))).bind fun h5 =>
(xpf h5 x0 0 1 (.ref (n + 1))).bind fun h7 =>
some h7
def fX1_init (h : XH) (x0 : Nat) : Option XH :=
(xpf h x0 1 0 (.int (1 : Int32))).bind fun h1 =>
(xpf h1 x0 1 1 (.int (1 : Int32))).bind fun h3 =>
some h3
def fX2_init (h : XH) (x0 : Nat) : Option XH :=
(xpf h x0 2 1 (.int (1 : Int32))).bind fun h1 =>
some h1
def fX4_init (h : XH) (n : Nat) (x0 : Nat) : Option XH :=
(xnw h n (.inr (0, 8, .inl (fun _ => 0)))).bind fun h1 =>
(xpf h1 x0 4 0 (.ref n)).bind fun h3 =>
(xnw h3 (n + 1) (.inr (0, 8, .inl (fun _ => 0)))).bind fun h5 =>
(xpf h5 x0 4 1 (.ref (n + 1))).bind fun h7 =>
(xpf h7 x0 4 3 (.int (100 : Int32))).bind fun h9 =>
some h9
def fX6_init_b34 (x0 : Nat) (h : XH) (x1 : Int32) : Option ((XH × Int32) ⊕ XH) :=
(xgI h x0 6 3).bind fun v15 =>
if v15 ≤ x1 then
some (.inr h)
else
(xgR h x0 6 0).bind fun v17 =>
(fX8_put h v17 x1 (1 : Int32)).bind fun h19 =>
some (.inl (h19, (x1 + (3 : Int32))))
def fX6_init_B34 (x0 : Nat) (s : (XH × Int32)) : Option ((XH × Int32) ⊕ XH) := fX6_init_b34 x0 s.1 s.2
def fX6_init (h : XH) (n : Nat) (x0 : Nat) : Option XH :=
(xnw h n (.inr (0, 60, .inl (fun _ => 0)))).bind fun h1 =>
(xpf h1 x0 6 0 (.ref n)).bind fun h3 =>
(xnw h3 (n + 1) (.inr (0, 5, .inl (fun _ => 0)))).bind fun h5 =>
(xpf h5 x0 6 1 (.ref (n + 1))).bind fun h7 =>
(xnw h7 (n + 2) (.inr (0, 5, .inl (fun _ => 0)))).bind fun h9 =>
(xpf h9 x0 6 2 (.ref (n + 2))).bind fun h11 =>
(xpf h11 x0 6 3 (.int (12 : Int32))).bind fun h13 =>
(xloop (fX6_init_B34 x0) 5000 (h13, (0 : Int32))).bind fun e21 =>
some e21
def fX5_init (h : XH) (n : Nat) (x0 : Nat) : Option XH :=
(xnw h n (.inl (6, [.null, .null, .null, .int 0, .int 0, .int 0, .int 0]))).bind fun h1 =>
(fX6_init h1 (n + 1) n).bind fun h3 =>
(xpf h3 x0 5 0 (.ref n)).bind fun h5 =>
(xnw h5 (n + 4) (.inl (2, [.int 0, .int 0]))).bind fun h7 =>
(fX2_init h7 (n + 4)).bind fun h9 =>
(xpf h9 x0 5 1 (.ref (n + 4))).bind fun h11 =>
(xnw h11 (n + 5) (.inl (4, [.null, .null, .int 0, .int 0]))).bind fun h13 =>
(fX4_init h13 (n + 6) (n + 5)).bind fun h15 =>
(xpf h15 x0 5 2 (.ref (n + 5))).bind fun h17 =>
(xnw h17 (n + 8) (.inl (1, [.int 0, .int 0, .int 0, .int 0]))).bind fun h19 =>
(fX1_init h19 (n + 8)).bind fun h21 =>
(xpf h21 x0 5 3 (.ref (n + 8))).bind fun h23 =>
some h23
def fX3_init (h : XH) (n : Nat) (x0 : Nat) : Option XH :=
(xnw h n (.inr (2, 8, .inr (.inr (.inr (.inr (fun _ => none))))))).bind fun h1 =>
(xpf h1 x0 3 0 (.ref n)).bind fun h3 =>
(xgR h3 x0 3 0).bind fun v5 =>
(xln h3 v5).bind fun v7 =>
if v7 ≤ (0 : Int32) then
none
else
(xgR h3 x0 3 0).bind fun v9 =>
(xnw h3 (n + 1) (.inl (5, [.null, .null, .null, .null]))).bind fun h11 =>
(fX5_init h11 (n + 2) (n + 1)).bind fun h13 =>
(xsQ h13 v9 (0 : Int32) (n + 1)).bind fun h15 =>
(xgR h15 x0 3 0).bind fun v17 =>
(xln h15 v17).bind fun v19 =>
if v19 ≤ (1 : Int32) then
none
else
(xgR h15 x0 3 0).bind fun v21 =>
(xnw h15 (n + 11) (.inl (5, [.null, .null, .null, .null]))).bind fun h23 =>
(fX5_init h23 (n + 12) (n + 11)).bind fun h25 =>
(xsQ h25 v21 (1 : Int32) (n + 11)).bind fun h27 =>
(xgR h27 x0 3 0).bind fun v29 =>
(xln h27 v29).bind fun v31 =>
if v31 ≤ (2 : Int32) then
none
else
(xgR h27 x0 3 0).bind fun v33 =>
(xnw h27 (n + 21) (.inl (5, [.null, .null, .null, .null]))).bind fun h35 =>
(fX5_init h35 (n + 22) (n + 21)).bind fun h37 =>
(xsQ h37 v33 (2 : Int32) (n + 21)).bind fun h39 =>
(xgR h39 x0 3 0).bind fun v41 =>
(xln h39 v41).bind fun v43 =>
if v43 ≤ (3 : Int32) then
none
else
(xgR h39 x0 3 0).bind fun v45 =>
(xnw h39 (n + 31) (.inl (5, [.null, .null, .null, .null]))).bind fun h47 =>
(fX5_init h47 (n + 32) (n + 31)).bind fun h49 =>
(xsQ h49 v45 (3 : Int32) (n + 31)).bind fun h51 =>
(xgR h51 x0 3 0).bind fun v53 =>
(xln h51 v53).bind fun v55 =>
if v55 ≤ (4 : Int32) then
none
else
(xgR h51 x0 3 0).bind fun v57 =>
(xnw h51 (n + 41) (.inl (5, [.null, .null, .null, .null]))).bind fun h59 =>
(fX5_init h59 (n + 42) (n + 41)).bind fun h61 =>
(xsQ h61 v57 (4 : Int32) (n + 41)).bind fun h63 =>
(xgR h63 x0 3 0).bind fun v65 =>
(xln h63 v65).bind fun v67 =>
if v67 ≤ (5 : Int32) then
none
else
(xgR h63 x0 3 0).bind fun v69 =>
(xnw h63 (n + 51) (.inl (5, [.null, .null, .null, .null]))).bind fun h71 =>
(fX5_init h71 (n + 52) (n + 51)).bind fun h73 =>
(xsQ h73 v69 (5 : Int32) (n + 51)).bind fun h75 =>
(xgR h75 x0 3 0).bind fun v77 =>
(xln h75 v77).bind fun v79 =>
if v79 ≤ (6 : Int32) then
none
else
(xgR h75 x0 3 0).bind fun v81 =>
(xnw h75 (n + 61) (.inl (5, [.null, .null, .null, .null]))).bind fun h83 =>
(fX5_init h83 (n + 62) (n + 61)).bind fun h85 =>
(xsQ h85 v81 (6 : Int32) (n + 61)).bind fun h87 =>
(xgR h87 x0 3 0).bind fun v89 =>
(xln h87 v89).bind fun v91 =>
if v91 ≤ (7 : Int32) then
none
else
(xgR h87 x0 3 0).bind fun v93 =>
(xnw h87 (n + 71) (.inl (5, [.null, .null, .null, .null]))).bind fun h95 =>
(fX5_init h95 (n + 72) (n + 71)).bind fun h97 =>
(xsQ h97 v93 (7 : Int32) (n + 71)).bind fun h99 =>
(xgR h99 x0 3 0).bind fun v101 =>
(xln h99 v101).bind fun v103 =>
if v103 ≤ (8 : Int32) then
some h99
else
none
def fX4_add (h : XH) (x0 : Nat) (x1 : Int32) (x2 : Int32) : Option XH :=
(xgR h x0 4 0).bind fun v1 =>
(xgI h x0 4 2).bind fun v3 =>
(fX8_put h v1 v3 x1).bind fun h5 =>
(xgR h5 x0 4 1).bind fun v7 =>
(xgI h5 x0 4 2).bind fun v9 =>
(fX8_put h5 v7 v9 x2).bind fun h11 =>
(xgI h11 x0 4 2).bind fun v13 =>
(xpf h11 x0 4 2 (.int (v13 + (1 : Int32)))).bind fun h15 =>
some h15
def fX7_init (h : XH) (n : Nat) (x0 : Nat) : Option XH :=
(xnw h n (.inr (0, 80, .inl (fun _ => 0)))).bind fun h1 =>
(xpf h1 x0 7 0 (.ref n)).bind fun h3 =>
(xpf h3 x0 7 3 (.int (0 : Int32))).bind fun h5 =>
some h5
def fX8_addReading (h : XH) (x0 : Nat) (x1 : Int32) (x2 : Int32) : Option (Int32 × XH) :=
(xgR h x0 8 0).bind fun v1 =>
(xgR h v1 5 2).bind fun v3 =>
(xgI h v3 4 2).bind fun v5 =>
if v5 < (8 : Int32) then
(xgR h x0 8 1).bind fun v7 =>
(xgR h x0 8 0).bind fun v9 =>
(xco h v7 3).bind fun _ =>
(fX3_remember h v7 v9).bind fun h12 =>
(xgR h12 x0 8 0).bind fun v14 =>
(xgR h12 v14 5 2).bind fun v16 =>
(xco h12 v16 4).bind fun _ =>
(fX4_add h12 v16 x1 x2).bind fun h19 =>
(xgR h19 x0 8 0).bind fun v21 =>
(xgR h19 v21 5 2).bind fun v23 =>
(xgI h19 v23 4 2).bind fun v25 =>
some ((v25 - (1 : Int32)), h19)
else
some ((-1003 : Int32), h)
def fX8_init (h : XH) (n : Nat) (x0 : Nat) : Option XH :=
(xnw h n (.inl (5, [.null, .null, .null, .null]))).bind fun h1 =>
(fX5_init h1 (n + 1) n).bind fun h3 =>
(xpf h3 x0 8 0 (.ref n)).bind fun h5 =>
(xnw h5 (n + 10) (.inl (3, [.null, .int 0, .int 0]))).bind fun h7 =>
(fX3_init h7 (n + 11) (n + 10)).bind fun h9 =>
(xpf h9 x0 8 1 (.ref (n + 10))).bind fun h11 =>
(xnw h11 (n + 92) (.inl (7, [.null, .int 0, .int 0, .int 0, .int 0]))).bind fun h13 =>
(fX7_init h13 (n + 93) (n + 92)).bind fun h15 =>
(xpf h15 x0 8 2 (.ref (n + 92))).bind fun h17 =>
(xnw h17 (n + 94) (.inl (6, [.null, .null, .null, .int 0, .int 0, .int 0, .int 0]))).bind fun h19 =>
(fX6_init h19 (n + 95) (n + 94)).bind fun h21 =>
(xpf h21 x0 8 3 (.ref (n + 94))).bind fun h23 =>
(xnw h23 (n + 98) (.inl (0, [.null, .null, .int 0, .int 0, .long 0]))).bind fun h25 =>
(fX0_init h25 (n + 99) (n + 98)).bind fun h27 =>
(xpf h27 x0 8 4 (.ref (n + 98))).bind fun h29 =>
some h29
def fX8_look (h : XH) (x0 : Nat) (x1 : Int32) : Option (Int32 × XH) :=
(xco h x0 8).bind fun _ =>
(fX8_isFlash h x0 x1).bind fun v2 =>
if v2 = true then
(xgR h x0 8 0).bind fun v4 =>
(xgR h v4 5 1).bind fun v6 =>
(xco h v6 2).bind fun _ =>
(fX2_number h v6).bind fun v9 =>
if x1 = (v9 - (1 : Int32)) then
some ((-1001 : Int32), h)
else
(xgR h x0 8 0).bind fun v11 =>
(xgR h v11 5 1).bind fun v13 =>
(xgI h v13 2 1).bind fun v15 =>
(xco h x0 8).bind fun _ =>
(fX8_flash h x0 x1 (2 : Int32)).bind fun v18 =>
(xco h x0 8).bind fun _ =>
(fX8_addReading h x0 v15 v18).bind fun v21 =>
some (v21.1, v21.2)
else
some ((-1001 : Int32), h)
def fX8_read (h : XH) (x0 : Nat) (x1 : Int32) (x2 : Int32) : Option (Int32 × XH) :=
(fX8_within x1 (1 : Int32) (500 : Int32)).bind fun v1 =>
if v1 = true then
(fX8_within x2 (-30 : Int32) (30 : Int32)).bind fun v3 =>
if v3 = true then
(xco h x0 8).bind fun _ =>
(fX8_addReading h x0 x1 x2).bind fun v6 =>
some (v6.1, v6.2)
else
some ((-1001 : Int32), h)
else
some ((-1001 : Int32), h)
def fX8_stillPeriod_b40 (h : XH) (x0 : Nat) (x2 : Int32) (x3 : Int32) (x4 : Int32) : Option (Int32 ⊕ (Int32 ⊕ Unit)) :=
if x2 < x4 then
some (.inr (.inr ()))
else
(xgR h x0 8 0).bind fun v12 =>
(xgR h v12 5 0).bind fun v14 =>
(xgI h v14 6 5).bind fun v16 =>
(fX8_mod (v16 * x4) x3).bind fun v18 =>
if v18 = 0 then
some (.inr (.inl x4))
else
some (.inl (x4 + (1 : Int32)))
def fX8_stillPeriod_B40 (h : XH) (x0 : Nat) (x2 : Int32) (x3 : Int32) (s : Int32) : Option (Int32 ⊕ (Int32 ⊕ Unit)) := fX8_stillPeriod_b40 h x0 x2 x3 s
def fX8_stillPeriod (h : XH) (x0 : Nat) (x1 : Int32) (x2 : Int32) : Option Int32 :=
(fX8_within x1 (1 : Int32) (500 : Int32)).bind fun v1 =>
if v1 = true then
(fX8_within x2 x1 (500 : Int32)).bind fun v3 =>
if v3 = true then
(xgR h x0 8 0).bind fun v5 =>
(xgR h v5 5 0).bind fun v7 =>
(xco h v7 6).bind fun _ =>
(fX6_measure h v7).bind fun v10 =>
(xloop (fX8_stillPeriod_B40 h x0 x2 v10) 5000 x1).bind fun e20 =>
(match e20 with
| .inl e20 =>
some e20
| .inr e20 =>
some (-1004 : Int32)
)
else
some (-1001 : Int32)
else
some (-1001 : Int32)
