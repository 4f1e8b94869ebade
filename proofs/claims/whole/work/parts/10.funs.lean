noncomputable def f_X6_empty (q0 : Nat) (σ : St) : St :=
bnd (sI σ q0 0 0) fun σ1 =>
bnd (sI σ1 q0 1 0) fun σ3 =>
bnd (sI σ3 q0 2 0) fun σ5 =>
bnd (sI σ5 q0 3 0) fun σ7 =>
bnd (sL σ7 q0 4 1) fun σ9 =>
bnd (sL σ9 q0 5 1) fun σ11 =>
σ11
noncomputable def f_X0_makeNew (q0 : Nat) (b1 : Bool) (σ : St) : St :=
bnd (sB σ q0 7 b1) fun σ1 =>
bnd (sI σ1 q0 4 0) fun σ3 =>
bnd (sI σ3 q0 5 0) fun σ5 =>
bnd (sI σ5 q0 6 0) fun σ7 =>
bnd (sI σ7 (q0 + 1) 1 0) fun σ9 =>
bnd (f_X6_empty (q0 + 3) σ9) fun σ12 =>
σ12
noncomputable def f_X4_copyFrom (q0 : Nat) (q1 : Nat) (σ : St) : St :=
bnd (sI σ q0 1 (gI σ q1 1)) fun σ1 =>
bnd (cpI σ1 (q1 + 1) (q0 + 1) 18) fun σ3 =>
σ3
noncomputable def f_X6_copyFrom (q0 : Nat) (q1 : Nat) (σ : St) : St :=
bnd (sI σ q0 0 (gI σ q1 0)) fun σ1 =>
bnd (sI σ1 q0 1 (gI σ1 q1 1)) fun σ3 =>
bnd (sI σ3 q0 2 (gI σ3 q1 2)) fun σ5 =>
bnd (sI σ5 q0 3 (gI σ5 q1 3)) fun σ7 =>
bnd (sL σ7 q0 4 (gL σ7 q1 4)) fun σ9 =>
bnd (sL σ9 q0 5 (gL σ9 q1 5)) fun σ11 =>
σ11
noncomputable def f_X0_copyFrom (q0 : Nat) (q1 : Nat) (σ : St) : St :=
bnd (sB σ q0 7 (gB σ q1 7)) fun σ1 =>
bnd (sI σ1 q0 4 (gI σ1 q1 4)) fun σ3 =>
bnd (sI σ3 q0 5 (gI σ3 q1 5)) fun σ5 =>
bnd (sI σ5 q0 6 (gI σ5 q1 6)) fun σ7 =>
bnd (f_X4_copyFrom (q0 + 1) (q1 + 1) σ7) fun σ10 =>
bnd (f_X6_copyFrom (q0 + 3) (q1 + 3) σ10) fun σ12 =>
bnd (cpI σ12 (q1 + 4) (q0 + 4) 6) fun σ13 =>
σ13
noncomputable def f_X0_isUnderWay (q0 : Nat) (σ : St) : Bool :=
if (gI σ q0 5) = 1 then (true) else (if (gI σ q0 5) = 2 then (true) else (if (gI σ q0 5) = 4 then (true) else (false)))
noncomputable def f_X0_isWatched (q0 : Nat) (σ : St) : Bool :=
if (gI σ q0 5) = 1 then (true) else (if (gI σ q0 5) = 2 then (true) else (false))
noncomputable def f_X0_hasFurtherStage (q0 : Nat) (σ : St) : Bool :=
if (gI σ (q0 + 1) 1) ≤ (gI σ q0 6) then (false) else (true)
noncomputable def f_X4_cellsOfFirst_L4 (σ : St) (q0 : Nat) (x1 : Int32) (rec4 : Int32 → Int32 → Option Int32) (x2 : Int32) (x3 : Int32) : Option Int32 :=
if x1 ≤ x3 then (some x2) else (if (gI σ q0 1) ≤ x3 then (some x2) else (if 6 ≤ x3 then (some x2) else (bnd ((x3 * 3) + 0) fun v4 =>
if inb v4 18 = true then (bnd (x2 ||| (gI σ (q0 + 1) (Int32.toNatClampNeg v4))) fun v7 =>
bnd (x3 + 1) fun v9 =>
rec4 v7 v9) else none)))
noncomputable def f_X4_cellsOfFirst (q0 : Nat) (x1 : Int32) (σ : St) : Option Int32 :=
it2 (f_X4_cellsOfFirst_L4 σ q0 x1) sr_fuel 0 0
noncomputable def f_X0_isAt (q0 : Nat) (x1 : Int32) (σ : St) : Option Bool :=
obd (f_X4_cellsOfFirst (q0 + 1) (gI σ q0 6) σ) fun v2 =>
if ((v2 >>> (x1 &&& 31)) &&& 1) = 0 then (some false) else (some true)
noncomputable def f_X6_treated (q0 : Nat) (σ : St) : Int32 :=
((gI σ q0 0) + (gI σ q0 1))
noncomputable def f_X6_setsOf_L21 (x0 : Int32) (x1 : Int32) (rec21 : Int32 → Int64 → Int32 → Option Int64) (x2 : Int32) (w3 : Int64) (x5 : Int32) : Option Int64 :=
if x2 < x5 then (some w3) else (if ¬ (Int32.toInt64 x5) = 0 then (bnd ((w3 * (Int32.toInt64 ((x0 - x2) + x5))) / (Int32.toInt64 x5)) fun v3 =>
bnd (x5 + 1) fun v5 =>
rec21 x2 v3 v5) else none)
noncomputable def f_X6_setsOf (x0 : Int32) (x1 : Int32) : Option Int64 :=
bnd (if (x0 - x1) < x1 then (x0 - x1) else x1) fun v7 =>
if 0 ≤ v7 then (it3 (f_X6_setsOf_L21 x0 x1) sr_fuel v7 1 1) else (it3 (f_X6_setsOf_L21 x0 x1) sr_fuel v7 0 1)
noncomputable def f_X6_commonDivisor_L9 (w0 : Int64) (w2 : Int64) (rec9 : Int64 → Int64 → Int32 → Option Int64) (w4 : Int64) (w6 : Int64) (x8 : Int32) : Option Int64 :=
if 1000 ≤ x8 then (some (if 1 < w4 then w4 else 1)) else (if (lg_cmp w6 0) = 0 then (some (if 1 < w4 then w4 else 1)) else (if ¬ w6 = 0 then (bnd (w4 - w4 / w6 * w6) fun v4 =>
bnd (x8 + 1) fun v6 =>
rec9 w6 v4 v6) else none))
noncomputable def f_X6_commonDivisor (w0 : Int64) (w2 : Int64) : Option Int64 :=
it3 (f_X6_commonDivisor_L9 w0 w2) sr_fuel w0 w2 0
noncomputable def f_X6_computeChance_B72 (q0 : Nat) (x1 : Int32) (x2 : Int32) (x3 : Int32) (w4 : Int64) (σ : St) : Option St :=
obd (f_X6_setsOf (x2 + x3) x1) fun v2 =>
obd (f_X6_commonDivisor w4 v2) fun v4 =>
if ¬ v4 = 0 then (bnd (sL σ q0 4 (w4 / v4)) fun σ6 =>
if ¬ v4 = 0 then (bnd (sL σ6 q0 5 (v2 / v4)) fun σ9 =>
some σ9) else none) else none
noncomputable def f_X6_computeChance_L34 (q0 : Nat) (rec34 : Int32 → Int32 → Int32 → Int64 → Int32 → St → Option St) (x1 : Int32) (x2 : Int32) (x3 : Int32) (w4 : Int64) (x6 : Int32) (σ : St) : Option St :=
if x1 < x6 then (f_X6_computeChance_B72 q0 x1 x2 x3 w4 σ) else (if x2 < x6 then (f_X6_computeChance_B72 q0 x1 x2 x3 w4 σ) else (obd (f_X6_setsOf x2 x6) fun v14 =>
obd (f_X6_setsOf x3 (x1 - x6)) fun v16 =>
bnd (w4 + (v14 * v16)) fun v17 =>
bnd (x6 + 1) fun v19 =>
rec34 x1 x2 x3 v17 v19 σ))
noncomputable def f_X6_computeChance (q0 : Nat) (σ : St) : Option St :=
bnd (f_X6_treated q0 σ) fun v22 =>
bnd ((gI σ q0 0) + (gI σ q0 2)) fun v23 =>
bnd ((gI σ q0 1) + (gI σ q0 3)) fun v25 =>
bnd (gI σ q0 0) fun v27 =>
it6 (f_X6_computeChance_L34 q0) sr_fuel v22 v23 v25 0 v27 σ
noncomputable def f_X6_takesTreated (q0 : Nat) (x1 : Int32) (x2 : Int32) (σ : St) : Option (Bool × St) :=
bnd (f_X6_treated q0 σ) fun v2 =>
if ((v2 + x1) + x2) ≤ 25 then (bnd (sI σ q0 0 ((gI σ q0 0) + x1)) fun σ4 =>
bnd (sI σ4 q0 1 ((gI σ4 q0 1) + x2)) fun σ6 =>
obd (f_X6_computeChance q0 σ6) fun σ9 =>
some (true, σ9)) else (some (false, σ))
noncomputable def f_X6_control (q0 : Nat) (σ : St) : Int32 :=
((gI σ q0 2) + (gI σ q0 3))
noncomputable def f_X6_takesControl (q0 : Nat) (x1 : Int32) (x2 : Int32) (σ : St) : Option (Bool × St) :=
bnd (f_X6_control q0 σ) fun v2 =>
if ((v2 + x1) + x2) ≤ 25 then (bnd (sI σ q0 2 ((gI σ q0 2) + x1)) fun σ4 =>
bnd (sI σ4 q0 3 ((gI σ4 q0 3) + x2)) fun σ6 =>
obd (f_X6_computeChance q0 σ6) fun σ9 =>
some (true, σ9)) else (some (false, σ))
noncomputable def f_X0_takesProbes (q0 : Nat) (x1 : Int32) (x2 : Int32) (x3 : Int32) (σ : St) : Option (Bool × St) :=
bnd (f_X0_isWatched q0 σ) fun v2 =>
if v2 = true then (if (gI σ q0 6) = 0 then (some (false, σ)) else (obd (f_X0_isAt q0 x1 σ) fun v6 =>
if v6 = true then (ob2 (f_X6_takesTreated (q0 + 3) x2 x3 σ) fun v12 σ13 =>
some (v12, σ13)) else (ob2 (f_X6_takesControl (q0 + 3) x2 x3 σ) fun v9 σ10 =>
some (v9, σ10)))) else (some (false, σ))
noncomputable def f_X0_hoursSinceLatest (q0 : Nat) (x1 : Int32) (σ : St) : Option Int32 :=
bnd ((gI σ q0 6) - 1) fun v1 =>
if v1 < 0 then (some 0) else (if 6 ≤ v1 then (some 0) else (if inb v1 6 = true then (some (x1 - (gI σ (q0 + 4) (Int32.toNatClampNeg v1)))) else none))
noncomputable def f_X7_isWithin (x0 : Int32) (x1 : Int32) (x2 : Int32) : Bool :=
if x0 < x1 then (false) else (if x2 < x0 then (false) else (true))
noncomputable def f_X4_number_B28 (σ : St) (q0 : Nat) (x1 : Int32) (x2 : Int32) (sb0 : Bool) : Option Int32 :=
bnd ((x1 * 3) + x2) fun v1 =>
if sb0 = true then (if 18 ≤ v1 then (some 0) else (if inb v1 18 = true then (some (gI σ (q0 + 1) (Int32.toNatClampNeg v1))) else none)) else (some 0)
noncomputable def f_X4_number (q0 : Nat) (x1 : Int32) (x2 : Int32) (σ : St) : Option Int32 :=
bnd (f_X7_isWithin x1 0 ((gI σ q0 1) - 1)) fun v7 =>
if v7 = true then (bnd (f_X7_isWithin x2 0 2) fun v10 =>
if v10 = true then (f_X4_number_B28 σ q0 x1 x2 true) else (f_X4_number_B28 σ q0 x1 x2 false)) else (f_X4_number_B28 σ q0 x1 x2 false)
noncomputable def f_X0_waitsAt (q0 : Nat) (x1 : Int32) (σ : St) : Option Bool :=
if (gI σ q0 6) ≤ 0 then (some false) else (obd (f_X0_hoursSinceLatest q0 x1 σ) fun v3 =>
obd (f_X4_number (q0 + 1) ((gI σ q0 6) - 1) 1 σ) fun v5 =>
if v5 ≤ v3 then (some false) else (some true))
noncomputable def f_X0_lacksSamples_B44 (σ : St) (q0 : Nat) (x1 : Int32) (x2 : Int32) (sb0 : Bool) : Option Bool :=
bnd (f_X6_treated (q0 + 3) σ) fun v2 =>
if v2 < x2 then (some true) else (if sb0 = true then (bnd (f_X6_control (q0 + 3) σ) fun v6 =>
if x2 ≤ v6 then (some false) else (some true)) else (some false))
noncomputable def f_X0_lacksSamples (q0 : Nat) (x1 : Int32) (σ : St) : Option Bool :=
if (gI σ q0 6) = 0 then (some false) else (obd (f_X4_number (q0 + 1) ((gI σ q0 6) - 1) 2 σ) fun v10 =>
obd (f_X4_cellsOfFirst (q0 + 1) (gI σ q0 6) σ) fun v12 =>
if v12 = x1 then (f_X0_lacksSamples_B44 σ q0 x1 v10 false) else (f_X0_lacksSamples_B44 σ q0 x1 v10 true))
noncomputable def f_X0_beginStage (q0 : Nat) (x1 : Int32) (σ : St) : Option St :=
if (gI σ q0 6) < 0 then (some σ) else (if 6 ≤ (gI σ q0 6) then (some σ) else (bnd (gI σ q0 6) fun v3 =>
if inb v3 6 = true then (bnd (sI σ (q0 + 4) (Int32.toNatClampNeg v3) x1) fun σ6 =>
bnd (sI σ6 q0 6 ((gI σ6 q0 6) + 1)) fun σ8 =>
bnd (f_X6_empty (q0 + 3) σ8) fun σ11 =>
some σ11) else none))
noncomputable def f_X3_empty (q0 : Nat) (σ : St) : St :=
bnd (sI σ q0 1 0) fun σ1 =>
bnd (sI σ1 q0 2 0) fun σ3 =>
σ3
noncomputable def f_X1_beginAnew (q0 : Nat) (x1 : Int32) (σ : St) : St :=
bnd (sI σ q0 5 x1) fun σ1 =>
bnd (sI σ1 q0 4 0) fun σ3 =>
bnd (sI σ3 q0 6 0) fun σ5 =>
bnd (sI σ5 (q0 + 27) 2 0) fun σ7 =>
bnd (f_X3_empty (q0 + 30) σ7) fun σ10 =>
σ10
noncomputable def f_X2_copyFrom (q0 : Nat) (q1 : Nat) (σ : St) : St :=
bnd (sI σ q0 2 (gI σ q1 2)) fun σ1 =>
bnd (cpI σ1 (q1 + 1) (q0 + 1) 3) fun σ3 =>
bnd (cpI σ3 (q1 + 2) (q0 + 2) 3) fun σ5 =>
σ5
noncomputable def f_X3_copyFrom (q0 : Nat) (q1 : Nat) (σ : St) : St :=
bnd (sI σ q0 1 (gI σ q1 1)) fun σ1 =>
bnd (sI σ1 q0 2 (gI σ1 q1 2)) fun σ3 =>
bnd (cpI σ3 (q1 + 1) (q0 + 1) 80) fun σ5 =>
σ5
noncomputable def f_X1_copyFrom_L56 (q0 : Nat) (q1 : Nat) (rec56 : Int32 → St → Option St) (x2 : Int32) (σ : St) : Option St :=
if (gI σ q0 4) ≤ x2 then (some σ) else (if 5 ≤ x2 then (some σ) else (if inb x2 5 = true then (if inb x2 5 = true then (bnd (f_X0_copyFrom ((q0 + 1) + 1 + 5 * (Int32.toNatClampNeg x2)) ((q1 + 1) + 1 + 5 * (Int32.toNatClampNeg x2)) σ) fun σ6 =>
bnd (x2 + 1) fun v7 =>
rec56 v7 σ6) else none) else none))
noncomputable def f_X1_copyFrom (q0 : Nat) (q1 : Nat) (σ : St) : Option St :=
bnd (sI σ q0 4 (gI σ q1 4)) fun σ9 =>
bnd (sI σ9 q0 5 (gI σ9 q1 5)) fun σ11 =>
bnd (sI σ11 q0 6 (gI σ11 q1 6)) fun σ13 =>
bnd (sI σ13 q0 7 (gI σ13 q1 7)) fun σ15 =>
bnd (f_X2_copyFrom (q0 + 27) (q1 + 27) σ15) fun σ18 =>
bnd (f_X3_copyFrom (q0 + 30) (q1 + 30) σ18) fun σ20 =>
it2 (f_X1_copyFrom_L56 q0 q1) sr_fuel 0 σ20
noncomputable def f_X1_find (q0 : Nat) (x1 : Int32) (σ : St) : Option (Option Nat) :=
if x1 < 0 then (some none) else (if (gI σ q0 4) ≤ x1 then (some none) else (if 5 ≤ x1 then (some none) else (if inb x1 5 = true then (some (some ((q0 + 1) + 1 + 5 * (Int32.toNatClampNeg x1)))) else none)))
noncomputable def f_X1_putChange (q0 : Nat) (b1 : Bool) (σ : St) : Option (Bool × St) :=
if (gI σ q0 4) < 0 then (some (false, σ)) else (if (gI σ q0 4) < 5 then (bnd (gI σ q0 4) fun v3 =>
if inb v3 5 = true then (bnd (f_X0_makeNew ((q0 + 1) + 1 + 5 * (Int32.toNatClampNeg v3)) b1 σ) fun σ7 =>
bnd (sI σ7 q0 4 ((gI σ7 q0 4) + 1)) fun σ8 =>
some (true, σ8)) else none) else (some (false, σ)))
noncomputable def f_X1_isCell (q0 : Nat) (x1 : Int32) (σ : St) : Bool :=
if x1 < 0 then (false) else (if (gI σ q0 5) ≤ x1 then (false) else (true))
noncomputable def f_X1_allCells (q0 : Nat) (σ : St) : Int32 :=
((1 <<< ((gI σ q0 5) &&& 31)) - 1)
noncomputable def f_X1_changesOf_L4 (σ : St) (q0 : Nat) (x1 : Int32) (rec4 : Int32 → Int32 → Option Int32) (x2 : Int32) (x3 : Int32) : Option Int32 :=
if (gI σ q0 4) ≤ x3 then (some x2) else (if 5 ≤ x3 then (some x2) else (if inb x3 5 = true then (obd (f_X0_isAt ((q0 + 1) + 1 + 5 * (Int32.toNatClampNeg x3)) x1 σ) fun v5 =>
if v5 = true then (bnd (x2 ||| (1 <<< (x3 &&& 31))) fun v9 =>
bnd (x3 + 1) fun v11 =>
rec4 v9 v11) else (bnd (x3 + 1) fun v7 =>
rec4 x2 v7)) else none))
noncomputable def f_X1_changesOf (q0 : Nat) (x1 : Int32) (σ : St) : Option Int32 :=
it2 (f_X1_changesOf_L4 σ q0 x1) sr_fuel 0 0
noncomputable def f_X1_isOver (q0 : Nat) (x1 : Int32) (σ : St) : Option Bool :=
obd (f_X1_find q0 x1 σ) fun v2 =>
opt v2 (some false) fun q3 =>
if shC q3 = 1 then (if (gI σ q3 5) = 3 then (some true) else (if (gI σ q3 5) = 5 then (some true) else (some false))) else none
noncomputable def f_X1_takeProbes_L6 (q0 : Nat) (x1 : Int32) (x2 : Int32) (x3 : Int32) (rec6 : Int32 → Int32 → St → Option (Int32 × St)) (x4 : Int32) (x5 : Int32) (σ : St) : Option (Int32 × St) :=
if (gI σ q0 4) ≤ x5 then (some (x4, σ)) else (if 5 ≤ x5 then (some (x4, σ)) else (if inb x5 5 = true then (ob2 (f_X0_takesProbes ((q0 + 1) + 1 + 5 * (Int32.toNatClampNeg x5)) x1 x2 x3 σ) fun v5 σ6 =>
if v5 = true then (bnd (x4 + 1) fun v10 =>
bnd (x5 + 1) fun v12 =>
rec6 v10 v12 σ6) else (bnd (x5 + 1) fun v8 =>
rec6 x4 v8 σ6)) else none))
noncomputable def f_X1_takeProbes (q0 : Nat) (x1 : Int32) (x2 : Int32) (x3 : Int32) (σ : St) : Option (Int32 × St) :=
it3 (f_X1_takeProbes_L6 q0 x1 x2 x3) sr_fuel 0 0 σ
noncomputable def f_X2_covers_L2 (σ : St) (q0 : Nat) (x1 : Int32) (rec2 : Int32 → Option Bool) (x2 : Int32) : Option Bool :=
if (gI σ q0 2) ≤ x2 then (some false) else (if 3 ≤ x2 then (some false) else (if inb x2 3 = true then (if x1 < (gI σ (q0 + 1) (Int32.toNatClampNeg x2)) then (bnd (x2 + 1) fun v5 =>
rec2 v5) else (if inb x2 3 = true then (if (gI σ (q0 + 2) (Int32.toNatClampNeg x2)) ≤ x1 then (bnd (x2 + 1) fun v9 =>
rec2 v9) else (some true)) else none)) else none))
noncomputable def f_X2_covers (q0 : Nat) (x1 : Int32) (σ : St) : Option Bool :=
it1 (f_X2_covers_L2 σ q0 x1) sr_fuel 0
noncomputable def f_X1_lacksDone_L2 (σ : St) (q0 : Nat) (x1 : Int32) (rec2 : Int32 → Option Bool) (x2 : Int32) : Option Bool :=
if (gI σ q0 4) ≤ x2 then (some false) else (if 5 ≤ x2 then (some false) else (if ((x1 >>> (x2 &&& 31)) &&& 1) = 0 then (bnd (x2 + 1) fun v4 =>
rec2 v4) else (if inb x2 5 = true then (if (gI σ ((q0 + 1) + 1 + 5 * (Int32.toNatClampNeg x2)) 5) = 3 then (bnd (x2 + 1) fun v8 =>
rec2 v8) else (some true)) else none)))
noncomputable def f_X1_lacksDone (q0 : Nat) (x1 : Int32) (σ : St) : Option Bool :=
it1 (f_X1_lacksDone_L2 σ q0 x1) sr_fuel 0
noncomputable def f_X1_meetsOtherRisk_L2 (σ : St) (q0 : Nat) (q1 : Nat) (rec2 : Int32 → Option Bool) (x2 : Int32) : Option Bool :=
if (gI σ q0 4) ≤ x2 then (some false) else (if 5 ≤ x2 then (some false) else (if inb x2 5 = true then (if ((q0 + 1) + 1 + 5 * (Int32.toNatClampNeg x2)) = q1 then (bnd (x2 + 1) fun v5 =>
rec2 v5) else (if (gB σ ((q0 + 1) + 1 + 5 * (Int32.toNatClampNeg x2)) 7) = true then (bnd (f_X0_isUnderWay ((q0 + 1) + 1 + 5 * (Int32.toNatClampNeg x2)) σ) fun v11 =>
if v11 = true then (if (gI σ ((q0 + 1) + 1 + 5 * (Int32.toNatClampNeg x2)) 6) ≤ 0 then (bnd (x2 + 1) fun v16 =>
rec2 v16) else (some true)) else (bnd (x2 + 1) fun v13 =>
rec2 v13)) else (bnd (x2 + 1) fun v8 =>
rec2 v8))) else none))
noncomputable def f_X1_meetsOtherRisk (q0 : Nat) (q1 : Nat) (σ : St) : Option Bool :=
it1 (f_X1_meetsOtherRisk_L2 σ q0 q1) sr_fuel 0
noncomputable def f_X1_reasonBeforeFirstStage (q0 : Nat) (q1 : Nat) (σ : St) : Option Int32 :=
obd (f_X1_lacksDone q0 (gI σ q1 4) σ) fun v2 =>
if v2 = true then (some 7) else (if (gB σ q1 7) = true then (obd (f_X1_meetsOtherRisk q0 q1 σ) fun v6 =>
if v6 = true then (some 8) else (some 0)) else (some 0))
noncomputable def f_X1_reasonOf_B90 (σ : St) (q0 : Nat) (q1 : Nat)  : Option Int32 :=
if (gI σ q1 6) ≤ 0 then (obd (f_X1_reasonBeforeFirstStage q0 q1 σ) fun v3 =>
some v3) else (some 0)
noncomputable def f_X1_reasonOf_B62 (σ : St) (q0 : Nat) (q1 : Nat)  : Option Int32 :=
bnd (f_X0_hasFurtherStage q1 σ) fun v5 =>
if v5 = true then (obd (f_X2_covers (q0 + 27) (irm (gI σ q0 6) 168) σ) fun v8 =>
if v8 = true then (some 6) else (f_X1_reasonOf_B90 σ q0 q1 )) else (f_X1_reasonOf_B90 σ q0 q1 )
noncomputable def f_X1_reasonOf (q0 : Nat) (q1 : Nat) (σ : St) : Option Int32 :=
bnd (f_X0_isUnderWay q1 σ) fun v11 =>
if v11 = true then (if (gI σ q1 5) = 4 then (some 2) else (if (gI σ q1 5) = 2 then (some 3) else (obd (f_X0_waitsAt q1 (gI σ q0 6) σ) fun v16 =>
if v16 = true then (some 4) else (if (gB σ q0 3) = true then (f_X1_reasonOf_B62 σ q0 q1 ) else (bnd (f_X1_allCells q0 σ) fun v20 =>
obd (f_X0_lacksSamples q1 v20 σ) fun v22 =>
if v22 = true then (some 5) else (f_X1_reasonOf_B62 σ q0 q1 )))))) else (some 1)
noncomputable def f_X3_placeOf (q0 : Nat) (x1 : Int32) (x2 : Int32) (σ : St) : Int32 :=
(((irm ((gI σ q0 1) + x1) 20) * 4) + x2)
noncomputable def f_X3_put_B28 (q0 : Nat) (x1 : Int32) (x2 : Int32) (x3 : Int32) (x4 : Int32)  (σ : St) : Option St :=
bnd (f_X3_placeOf q0 (gI σ q0 2) 0 σ) fun v2 =>
bnd (sI σ q0 2 ((gI σ q0 2) + 1)) fun σ3 =>
bnd (sI σ3 q0 3 ((gI σ3 q0 3) + 1)) fun σ5 =>
bnd (f_X7_isWithin v2 0 (80 - 4)) fun v8 =>
if v8 = true then (bnd (v2 + 0) fun v10 =>
if inb v10 80 = true then (bnd (sI σ5 (q0 + 1) (Int32.toNatClampNeg v10) x1) fun σ13 =>
bnd (v2 + 1) fun v15 =>
if inb v15 80 = true then (bnd (sI σ13 (q0 + 1) (Int32.toNatClampNeg v15) x2) fun σ18 =>
bnd (v2 + 2) fun v20 =>
if inb v20 80 = true then (bnd (sI σ18 (q0 + 1) (Int32.toNatClampNeg v20) x3) fun σ23 =>
bnd (v2 + 3) fun v25 =>
if inb v25 80 = true then (bnd (sI σ23 (q0 + 1) (Int32.toNatClampNeg v25) x4) fun σ28 =>
some σ28) else none) else none) else none) else none) else (some σ5)
noncomputable def f_X3_put (q0 : Nat) (x1 : Int32) (x2 : Int32) (x3 : Int32) (x4 : Int32) (σ : St) : Option St :=
if (gI σ q0 2) < 20 then (f_X3_put_B28 q0 x1 x2 x3 x4  σ) else (bnd (sI σ q0 1 (irm ((gI σ q0 1) + 1) 20)) fun σ31 =>
bnd (sI σ31 q0 2 19) fun σ33 =>
f_X3_put_B28 q0 x1 x2 x3 x4  σ33)
noncomputable def f_X1_become (q0 : Nat) (q1 : Nat) (x2 : Int32) (x3 : Int32) (σ : St) : Option St :=
bnd (sI σ q1 5 x2) fun σ1 =>
obd (f_X3_put (q0 + 30) (gI σ1 q0 6) (gI σ1 q1 0) x3 (-15) σ1) fun σ4 =>
some σ4
noncomputable def f_X6_isAtMost (q0 : Nat) (x1 : Int32) (σ : St) : Bool :=
if 0 < (lg_cmp ((gL σ q0 4) * 1000) ((Int32.toInt64 x1) * (gL σ q0 5))) then (false) else (true)
noncomputable def f_X1_hasBadChance (q0 : Nat) (q1 : Nat) (σ : St) : Bool :=
if (gB σ q0 3) = true then (false) else (bnd (f_X0_isWatched q1 σ) fun v3 =>
if v3 = true then (if (gI σ q1 6) ≤ 0 then (false) else (bnd (f_X6_isAtMost (q1 + 3) (gI σ q0 7) σ) fun v7 =>
if v7 = true then (true) else (false))) else (false))
noncomputable def f_X1_turnStage_B37 (q0 : Nat) (q1 : Nat)  (σ : St) : Option St :=
if (gI σ q1 6) = 0 then (obd (f_X1_become q0 q1 5 5 σ) fun σ3 =>
some σ3) else (some σ)
noncomputable def f_X1_turnStage (q0 : Nat) (q1 : Nat) (σ : St) : Option St :=
if (gI σ q1 6) ≤ 0 then (f_X1_turnStage_B37 q0 q1  σ) else (bnd (sI σ q1 6 ((gI σ q1 6) - 1)) fun σ5 =>
obd (f_X3_put (q0 + 30) (gI σ5 q0 6) (gI σ5 q1 0) 4 (gI σ5 q1 6) σ5) fun σ8 =>
f_X1_turnStage_B37 q0 q1  σ8)
noncomputable def f_X1_goOn (q0 : Nat) (q1 : Nat) (σ : St) : Option St :=
bnd (f_X0_hasFurtherStage q1 σ) fun v2 =>
if v2 = true then (obd (f_X3_put (q0 + 30) (gI σ q0 6) (gI σ q1 0) 1 (gI σ q1 6) σ) fun σ7 =>
obd (f_X0_beginStage q1 (gI σ7 q0 6) σ7) fun σ9 =>
some σ9) else (obd (f_X1_become q0 q1 3 2 σ) fun σ5 =>
some σ5)
noncomputable def f_X1_moveInHour (q0 : Nat) (q1 : Nat) (σ : St) : Option St :=
bnd (f_X1_hasBadChance q0 q1 σ) fun v2 =>
if v2 = true then (obd (f_X1_become q0 q1 4 3 σ) fun σ14 =>
some σ14) else (if (gI σ q1 5) = 4 then (obd (f_X1_turnStage q0 q1 σ) fun σ12 =>
some σ12) else (if (gI σ q1 5) = 1 then (obd (f_X1_reasonOf q0 q1 σ) fun v7 =>
if v7 = 0 then (obd (f_X1_goOn q0 q1 σ) fun σ10 =>
some σ10) else (some σ)) else (some σ)))
noncomputable def f_X1_passHour_L2 (q0 : Nat) (rec2 : Int32 → St → Option St) (x1 : Int32) (σ : St) : Option St :=
if (gI σ q0 4) ≤ x1 then (bnd (sI σ q0 6 ((gI σ q0 6) + 1)) fun σ2 =>
some σ2) else (if 5 ≤ x1 then (bnd (sI σ q0 6 ((gI σ q0 6) + 1)) fun σ5 =>
some σ5) else (if inb x1 5 = true then (obd (f_X1_moveInHour q0 ((q0 + 1) + 1 + 5 * (Int32.toNatClampNeg x1)) σ) fun σ9 =>
bnd (x1 + 1) fun v10 =>
rec2 v10 σ9) else none))
noncomputable def f_X1_passHour (q0 : Nat) (σ : St) : Option St :=
it2 (f_X1_passHour_L2 q0) sr_fuel 0 σ
noncomputable def f_X2_put (q0 : Nat) (x1 : Int32) (x2 : Int32) (σ : St) : Option (Bool × St) :=
if (gI σ q0 2) < 0 then (some (false, σ)) else (if (gI σ q0 2) < 3 then (bnd (gI σ q0 2) fun v3 =>
if inb v3 3 = true then (bnd (sI σ (q0 + 1) (Int32.toNatClampNeg v3) x1) fun σ6 =>
bnd (gI σ6 q0 2) fun v8 =>
if inb v8 3 = true then (bnd (sI σ6 (q0 + 2) (Int32.toNatClampNeg v8) x2) fun σ11 =>
bnd (sI σ11 q0 2 ((gI σ11 q0 2) + 1)) fun σ13 =>
some (true, σ13)) else none) else none) else (some (false, σ)))
noncomputable def f_X3_number (q0 : Nat) (x1 : Int32) (x2 : Int32) (σ : St) : Option Int32 :=
bnd (f_X3_placeOf q0 x1 x2 σ) fun v2 =>
bnd (f_X7_isWithin v2 0 (80 - 1)) fun v4 =>
if v4 = true then (if inb v2 80 = true then (some (gI σ (q0 + 1) (Int32.toNatClampNeg v2))) else none) else (some 0)
noncomputable def f_X3_countOf_B42 (σ : St) (q0 : Nat) (x1 : Int32) (x2 : Int32) (rec5 : Int32 → Int32 → Option Int32) (x3 : Int32) (x4 : Int32) (sb0 : Bool) : Option Int32 :=
if sb0 = true then (obd (f_X3_number q0 x4 2 σ) fun v5 =>
if v5 = x1 then (bnd (x3 + 1) fun v9 =>
bnd (x4 + 1) fun v11 =>
rec5 v9 v11) else (bnd (x4 + 1) fun v7 =>
rec5 x3 v7)) else (bnd (x4 + 1) fun v2 =>
rec5 x3 v2)
noncomputable def f_X3_countOf_L5 (σ : St) (q0 : Nat) (x1 : Int32) (x2 : Int32) (rec5 : Int32 → Int32 → Option Int32) (x3 : Int32) (x4 : Int32) : Option Int32 :=
if (gI σ q0 2) ≤ x4 then (some x3) else (if 20 ≤ x4 then (some x3) else (if x2 = (-1) then (f_X3_countOf_B42 σ q0 x1 x2 rec5 x3 x4 true) else (obd (f_X3_number q0 x4 1 σ) fun v17 =>
if v17 = x2 then (f_X3_countOf_B42 σ q0 x1 x2 rec5 x3 x4 true) else (f_X3_countOf_B42 σ q0 x1 x2 rec5 x3 x4 false))))
noncomputable def f_X3_countOf (q0 : Nat) (x1 : Int32) (x2 : Int32) (σ : St) : Option Int32 :=
it2 (f_X3_countOf_L5 σ q0 x1 x2) sr_fuel 0 0
noncomputable def f_X4_put (q0 : Nat) (x1 : Int32) (x2 : Int32) (x3 : Int32) (σ : St) : Option (Bool × St) :=
if (gI σ q0 1) < 0 then (some (false, σ)) else (if (gI σ q0 1) < 6 then (bnd ((gI σ q0 1) * 3) fun v3 =>
bnd (v3 + 0) fun v5 =>
if inb v5 18 = true then (bnd (sI σ (q0 + 1) (Int32.toNatClampNeg v5) x1) fun σ8 =>
bnd (v3 + 1) fun v10 =>
if inb v10 18 = true then (bnd (sI σ8 (q0 + 1) (Int32.toNatClampNeg v10) x2) fun σ13 =>
bnd (v3 + 2) fun v15 =>
if inb v15 18 = true then (bnd (sI σ13 (q0 + 1) (Int32.toNatClampNeg v15) x3) fun σ18 =>
bnd (sI σ18 q0 1 ((gI σ18 q0 1) + 1)) fun σ20 =>
some (true, σ20)) else none) else none) else none) else (some (false, σ)))
noncomputable def f_X5_put (q0 : Nat) (x1 : Int32) (σ : St) : Option (Bool × St) :=
if (gI σ q0 2) < 0 then (some (false, σ)) else (if (gI σ q0 2) < 60 then (bnd (gI σ q0 2) fun v3 =>
if inb v3 60 = true then (bnd (sI σ (q0 + 1) (Int32.toNatClampNeg v3) ((Int32.toInt8 ((Int32.toInt8 x1).toInt32)).toInt32)) fun σ6 =>
bnd (sI σ6 q0 2 ((gI σ6 q0 2) + 1)) fun σ8 =>
some (true, σ8)) else none) else (some (false, σ)))
noncomputable def f_X5_letterAt (q0 : Nat) (x1 : Int32) (σ : St) : Option Int32 :=
bnd (f_X7_isWithin x1 0 ((gI σ q0 2) - 1)) fun v2 =>
if v2 = true then (if 60 ≤ x1 then (some (-1)) else (if inb x1 60 = true then (some (gI σ (q0 + 1) (Int32.toNatClampNeg x1))) else none)) else (some (-1))
noncomputable def f_X5_digitAt (q0 : Nat) (x1 : Int32) (σ : St) : Option Int32 :=
obd (f_X5_letterAt q0 x1 σ) fun v2 =>
bnd (v2 - 48) fun v3 =>
bnd (f_X7_isWithin v3 0 9) fun v6 =>
if v6 = true then (some v3) else (some (-1))
noncomputable def f_X5_parseCells_L18 (q0 : Nat) (x1 : Int32) (rec18 : Int32 → Int32 → Int32 → Int32 → St → Option (Int32 × St)) (x2 : Int32) (x3 : Int32) (x4 : Int32) (x5 : Int32) (σ : St) : Option (Int32 × St) :=
if 8 ≤ x5 then (some (x3, σ)) else (obd (f_X5_digitAt q0 (gI σ q0 3) σ) fun v3 =>
if v3 < x4 then (some (x3, σ)) else (if x1 ≤ v3 then (some (x3, σ)) else (if ((x2 >>> (v3 &&& 31)) &&& 1) = 0 then (bnd (x3 ||| (1 <<< (v3 &&& 31))) fun v7 =>
bnd (v3 + 1) fun v9 =>
bnd (sI σ q0 3 ((gI σ q0 3) + 1)) fun σ11 =>
bnd (x5 + 1) fun v13 =>
rec18 x2 v7 v9 v13 σ11) else (some (x3, σ)))))
noncomputable def f_X5_parseCells (q0 : Nat) (x1 : Int32) (σ : St) : Option (Int32 × St) :=
obd (f_X4_cellsOfFirst (q0 + 2) 6 σ) fun v16 =>
it5 (f_X5_parseCells_L18 q0 x1) sr_fuel v16 0 0 0 σ
noncomputable def f_X5_skip (q0 : Nat) (x1 : Int32) (σ : St) : Option (Bool × St) :=
obd (f_X5_letterAt q0 (gI σ q0 3) σ) fun v2 =>
if v2 = x1 then (bnd (sI σ q0 3 ((gI σ q0 3) + 1)) fun σ4 =>
some (true, σ4)) else (some (false, σ))
noncomputable def f_X5_parseNumber_B56 (q0 : Nat) (x1 : Int32) (x2 : Int32) (x4 : Int32) (σ : St) : Option (Int32 × St) :=
if x2 ≤ x1 then (bnd (sI σ q0 3 ((gI σ q0 3) + x4)) fun σ2 =>
some (x2, σ2)) else (some ((-1), σ))
noncomputable def f_X5_parseNumber_B43 (q0 : Nat) (x1 : Int32) (x2 : Int32) (x3 : Int32) (sx0 : Int32) (σ : St) : Option (Int32 × St) :=
if x3 < 0 then (f_X5_parseNumber_B56 q0 x1 x2 sx0 σ) else (bnd ((10 * x2) + x3) fun v5 =>
f_X5_parseNumber_B56 q0 x1 v5 sx0 σ)
noncomputable def f_X5_parseNumber (q0 : Nat) (x1 : Int32) (σ : St) : Option (Int32 × St) :=
obd (f_X5_digitAt q0 (gI σ q0 3) σ) fun v8 =>
if 0 ≤ v8 then (if v8 = 0 then (if 0 ≤ ((-1) : Int32) then (f_X5_parseNumber_B43 q0 x1 v8 (-1) 2 σ) else (f_X5_parseNumber_B43 q0 x1 v8 (-1) 1 σ)) else (obd (f_X5_digitAt q0 ((gI σ q0 3) + 1) σ) fun v12 =>
if 0 ≤ v12 then (f_X5_parseNumber_B43 q0 x1 v8 v12 2 σ) else (f_X5_parseNumber_B43 q0 x1 v8 v12 1 σ))) else (some ((-1), σ))
noncomputable def f_X5_parseStage (q0 : Nat) (x1 : Int32) (σ : St) : Option (Bool × St) :=
ob2 (f_X5_parseCells q0 x1 σ) fun v2 σ3 =>
if v2 = 0 then (some (false, σ3)) else (ob2 (f_X5_skip q0 58 σ3) fun v6 σ7 =>
if v6 = true then (ob2 (f_X5_parseNumber q0 48 σ7) fun v10 σ11 =>
if v10 < 0 then (some (false, σ11)) else (ob2 (f_X5_skip q0 47 σ11) fun v14 σ15 =>
if v14 = true then (ob2 (f_X5_parseNumber q0 25 σ15) fun v18 σ19 =>
if v18 < 0 then (some (false, σ19)) else (ob2 (f_X5_skip q0 59 σ19) fun v22 σ23 =>
if v22 = true then (ob2 (f_X4_put (q0 + 2) v2 v10 v18 σ23) fun v26 σ27 =>
some (v26, σ27)) else (some (false, σ23)))) else (some (false, σ15)))) else (some (false, σ7)))
noncomputable def f_X5_parse_B48 (q0 : Nat) (x1 : Int32)  (σ : St) : Option (Bool × St) :=
if (gI σ q0 3) < (gI σ q0 2) then (some (false, σ)) else (some (true, σ))
noncomputable def f_X5_parse_L15 (q0 : Nat) (x1 : Int32) (rec15 : Int32 → St → Option (Bool × St)) (x2 : Int32) (σ : St) : Option (Bool × St) :=
if 6 ≤ x2 then (f_X5_parse_B48 q0 x1  σ) else (if (gI σ q0 2) ≤ (gI σ q0 3) then (f_X5_parse_B48 q0 x1  σ) else (ob2 (f_X5_parseStage q0 x1 σ) fun v5 σ6 =>
if v5 = true then (bnd (x2 + 1) fun v8 =>
rec15 v8 σ6) else (some (false, σ6))))
noncomputable def f_X5_parse (q0 : Nat) (x1 : Int32) (σ : St) : Option (Bool × St) :=
bnd (sI σ q0 3 0) fun σ10 =>
bnd (sI σ10 (q0 + 2) 1 0) fun σ12 =>
it2 (f_X5_parse_L15 q0 x1) sr_fuel 0 σ12
noncomputable def f_X7_begin (q0 : Nat) (x1 : Int32) (σ : St) : Int32 × St :=
bnd (f_X7_isWithin x1 1 8) fun v2 =>
if v2 = true then (bnd (gI σ (q0 + 1) 5) fun v4 =>
bnd (f_X1_beginAnew (q0 + 1) x1 σ) fun σ7 =>
(v4, σ7)) else (((-12), σ))
noncomputable def f_X7_setLimit (q0 : Nat) (x1 : Int32) (σ : St) : Int32 × St :=
bnd (f_X7_isWithin x1 0 1000) fun v2 =>
if v2 = true then (bnd (gI σ (q0 + 1) 7) fun v4 =>
bnd (sI σ (q0 + 1) 7 x1) fun σ6 =>
(v4, σ6)) else (((-12), σ))
noncomputable def f_X7_freeze (q0 : Nat) (x1 : Int32) (x2 : Int32) (σ : St) : Option (Int32 × St) :=
bnd (f_X7_isWithin x1 0 167) fun v2 =>
if v2 = true then (bnd (f_X7_isWithin x2 (x1 + 1) 168) fun v5 =>
if v5 = true then (ob2 (f_X2_put ((q0 + 1) + 27) x1 x2 σ) fun v8 σ9 =>
if v8 = true then (some ((gI σ9 ((q0 + 1) + 27) 2), σ9)) else (some ((-14), σ9))) else (some ((-12), σ))) else (some ((-12), σ))
noncomputable def f_X7_thaw (q0 : Nat) (σ : St) : Int32 × St :=
bnd (gI σ ((q0 + 1) + 27) 2) fun v1 =>
bnd (sI σ ((q0 + 1) + 27) 2 0) fun σ3 =>
(v1, σ3)
noncomputable def f_X7_addChange (q0 : Nat) (b1 : Bool) (σ : St) : Option (Int32 × St) :=
ob2 (f_X1_putChange (q0 + 1) b1 σ) fun v2 σ3 =>
if v2 = true then (some (((gI σ3 (q0 + 1) 4) - 1), σ3)) else (some ((-14), σ3))
noncomputable def f_X7_addStage (q0 : Nat) (x1 : Int32) (x2 : Int32) (x3 : Int32) (x4 : Int32) (σ : St) : Option (Int32 × St) :=
obd (f_X1_find (q0 + 1) x1 σ) fun v2 =>
opt v2 (some ((-11), σ)) fun q3 =>
if shC q3 = 1 then (bnd (f_X1_allCells (q0 + 1) σ) fun v6 =>
bnd (f_X7_isWithin x2 1 v6) fun v8 =>
if v8 = true then (bnd (f_X7_isWithin x3 0 48) fun v11 =>
if v11 = true then (bnd (f_X7_isWithin x4 0 25) fun v14 =>
if v14 = true then (if (gI σ q3 5) = 0 then (obd (f_X4_cellsOfFirst (q3 + 1) 6 σ) fun v18 =>
if (v18 &&& x2) = 0 then (ob2 (f_X4_put (q3 + 1) x2 x3 x4 σ) fun v21 σ22 =>
if v21 = true then (some ((gI σ22 (q3 + 1) 1), σ22)) else (some ((-14), σ22))) else (some ((-13), σ))) else (some ((-13), σ))) else (some ((-12), σ))) else (some ((-12), σ))) else (some ((-12), σ))) else none
noncomputable def f_J6_bitCount_0f7a4 (x0 : Int32) : Int32 :=
bnd (x0 - ((((x0).toUInt32 >>> ((1 : Int32).toUInt32 &&& Int32.toUInt32 31)).toInt32) &&& 1431655765)) fun v1 =>
bnd ((v1 &&& 858993459) + ((((v1).toUInt32 >>> ((2 : Int32).toUInt32 &&& Int32.toUInt32 31)).toInt32) &&& 858993459)) fun v3 =>
bnd ((v3 + (((v3).toUInt32 >>> ((4 : Int32).toUInt32 &&& Int32.toUInt32 31)).toInt32)) &&& 252645135) fun v5 =>
bnd (v5 + (((v5).toUInt32 >>> ((8 : Int32).toUInt32 &&& Int32.toUInt32 31)).toInt32)) fun v7 =>
bnd (v7 + (((v7).toUInt32 >>> ((16 : Int32).toUInt32 &&& Int32.toUInt32 31)).toInt32)) fun v9 =>
(v9 &&& 63)
noncomputable def f_X7_putAfter (q0 : Nat) (x1 : Int32) (x2 : Int32) (σ : St) : Option (Int32 × St) :=
obd (f_X1_find (q0 + 1) x1 σ) fun v2 =>
opt v2 (some ((-11), σ)) fun q3 =>
if shC q3 = 1 then (bnd (f_X7_isWithin x2 0 (x1 - 1)) fun v6 =>
if v6 = true then (if (gI σ q3 5) = 0 then (bnd (sI σ q3 4 ((gI σ q3 4) ||| (1 <<< (x2 &&& 31)))) fun σ9 =>
bnd (f_J6_bitCount_0f7a4 (gI σ9 q3 4)) fun v12 =>
some (v12, σ9)) else (some ((-13), σ))) else (some ((-11), σ))) else none
noncomputable def f_X7_changes (q0 : Nat) (σ : St) : Int32 :=
(gI σ (q0 + 1) 4)
noncomputable def f_X7_stage (q0 : Nat) (x1 : Int32) (x2 : Int32) (x3 : Int32) (σ : St) : Option Int32 :=
obd (f_X1_find (q0 + 1) x1 σ) fun v2 =>
opt v2 (some (-11)) fun q3 =>
if shC q3 = 1 then (bnd (f_X7_isWithin x2 0 ((gI σ (q3 + 1) 1) - 1)) fun v6 =>
if v6 = true then (bnd (f_X7_isWithin x3 0 2) fun v9 =>
if v9 = true then (obd (f_X4_number (q3 + 1) x2 x3 σ) fun v12 =>
some v12) else (some (-12))) else (some (-11))) else none
noncomputable def f_X7_append (q0 : Nat) (x1 : Int32) (σ : St) : Option (Int32 × St) :=
bnd (f_X7_isWithin x1 0 127) fun v2 =>
if v2 = true then (ob2 (f_X5_put (q0 + 131) x1 σ) fun v5 σ6 =>
if v5 = true then (some ((gI σ6 (q0 + 131) 2), σ6)) else (some ((-14), σ6))) else (some ((-12), σ))
noncomputable def f_X7_clearText (q0 : Nat) (σ : St) : Int32 × St :=
bnd (gI σ (q0 + 131) 2) fun v1 =>
bnd (sI σ (q0 + 131) 2 0) fun σ3 =>
(v1, σ3)
noncomputable def f_X7_faultPosition (q0 : Nat) (σ : St) : Option (Int32 × St) :=
ob2 (f_X5_parse (q0 + 131) (gI σ (q0 + 1) 5) σ) fun v2 σ3 =>
if v2 = true then (some ((-15), σ3)) else (some ((gI σ3 (q0 + 131) 3), σ3))
noncomputable def f_X7_read (q0 : Nat) (x1 : Int32) (σ : St) : Option (Int32 × St) :=
obd (f_X1_find (q0 + 1) x1 σ) fun v2 =>
opt v2 (some ((-11), σ)) fun q3 =>
if shC q3 = 1 then (if (gI σ q3 5) = 0 then (ob2 (f_X5_parse (q0 + 131) (gI σ (q0 + 1) 5) σ) fun v7 σ8 =>
if v7 = true then (bnd (f_X4_copyFrom (q3 + 1) ((q0 + 131) + 2) σ8) fun σ11 =>
some ((gI σ11 (q3 + 1) 1), σ11)) else (some ((-13), σ8))) else (some ((-13), σ))) else none
noncomputable def f_X7_start (q0 : Nat) (x1 : Int32) (σ : St) : Option (Int32 × St) :=
obd (f_X1_find (q0 + 1) x1 σ) fun v2 =>
opt v2 (some ((-11), σ)) fun q3 =>
if shC q3 = 1 then (if (gI σ q3 5) = 0 then (if (gI σ (q3 + 1) 1) = 0 then (some ((-13), σ)) else (bnd (sI σ q3 5 1) fun σ7 =>
some ((gI σ7 (q3 + 1) 1), σ7))) else (some ((-13), σ))) else none
noncomputable def f_X7_move (q0 : Nat) (x1 : Int32) (x2 : Int32) (x3 : Int32) (x4 : Int32) (σ : St) : Option (Int32 × St) :=
obd (f_X1_find (q0 + 1) x1 σ) fun v2 =>
opt v2 (some ((-11), σ)) fun q3 =>
if shC q3 = 1 then (if ((x2 >>> ((gI σ q3 5) &&& 31)) &&& 1) = 0 then (some ((-13), σ)) else (obd (f_X1_become (q0 + 1) q3 x3 x4 σ) fun σ7 =>
some ((gI σ7 q3 6), σ7))) else none
noncomputable def f_X7_hold (q0 : Nat) (x1 : Int32) (σ : St) : Option (Int32 × St) :=
ob2 (f_X7_move q0 x1 2 2 6 σ) fun v2 σ3 =>
some (v2, σ3)
noncomputable def f_X7_resume (q0 : Nat) (x1 : Int32) (σ : St) : Option (Int32 × St) :=
ob2 (f_X7_move q0 x1 4 1 7 σ) fun v2 σ3 =>
some (v2, σ3)
noncomputable def f_X7_turnBack (q0 : Nat) (x1 : Int32) (σ : St) : Option (Int32 × St) :=
ob2 (f_X7_move q0 x1 14 4 3 σ) fun v2 σ3 =>
some (v2, σ3)
noncomputable def f_X7_report (q0 : Nat) (x1 : Int32) (x2 : Int32) (x3 : Int32) (σ : St) : Option (Int32 × St) :=
bnd (f_X1_isCell (q0 + 1) x1 σ) fun v2 =>
if v2 = true then (bnd (f_X7_isWithin x2 0 9) fun v5 =>
if v5 = true then (bnd (f_X7_isWithin x3 0 9) fun v8 =>
if v8 = true then (ob2 (f_X1_takeProbes (q0 + 1) x1 x2 x3 σ) fun v11 σ12 =>
some (v11, σ12)) else (some ((-12), σ))) else (some ((-12), σ))) else (some ((-11), σ))
noncomputable def f_X7_pass_L26 (q0 : Nat) (x1 : Int32) (rec26 : Int32 → Int32 → St → Option (Int32 × St)) (x2 : Int32) (x3 : Int32) (σ : St) : Option (Int32 × St) :=
if x1 ≤ x3 then (some (((gI σ ((q0 + 1) + 30) 3) - x2), σ)) else (obd (f_X1_passHour (q0 + 1) σ) fun σ3 =>
bnd (x3 + 1) fun v4 =>
rec26 x2 v4 σ3)
noncomputable def f_X7_pass (q0 : Nat) (x1 : Int32) (σ : St) : Option (Int32 × St) :=
bnd (f_X7_isWithin x1 1 100) fun v7 =>
if v7 = true then (bnd (gI σ ((q0 + 1) + 30) 3) fun v9 =>
it3 (f_X7_pass_L26 q0 x1) sr_fuel v9 0 σ) else (some ((-12), σ))
noncomputable def f_X7_time (q0 : Nat) (σ : St) : Int32 :=
(gI σ (q0 + 1) 6)
noncomputable def f_X7_change (q0 : Nat) (x1 : Int32) (x2 : Int32) (σ : St) : Option Int32 :=
obd (f_X1_find (q0 + 1) x1 σ) fun v2 =>
opt v2 (some (-11)) fun q3 =>
if shC q3 = 1 then (if x2 = 0 then (some (gI σ q3 5)) else if x2 = 1 then (some (gI σ (q3 + 1) 1)) else if x2 = 2 then (some (gI σ q3 6)) else if x2 = 3 then (obd (f_X0_hoursSinceLatest q3 (gI σ (q0 + 1) 6) σ) fun v10 =>
some v10) else if x2 = 4 then (obd (f_X1_reasonOf (q0 + 1) q3 σ) fun v13 =>
some v13) else if x2 = 5 then (some (gI σ q3 4)) else if x2 = 6 then (if (gB σ q3 7) = true then (some 1) else (some 0)) else (some (-12))) else none
noncomputable def f_X7_probes (q0 : Nat) (x1 : Int32) (x2 : Int32) (σ : St) : Option Int32 :=
obd (f_X1_find (q0 + 1) x1 σ) fun v2 =>
opt v2 (some (-11)) fun q3 =>
if shC q3 = 1 then (if x2 = 0 then (some (gI σ (q3 + 3) 0)) else if x2 = 1 then (some (gI σ (q3 + 3) 1)) else if x2 = 2 then (some (gI σ (q3 + 3) 2)) else if x2 = 3 then (some (gI σ (q3 + 3) 3)) else (some (-12))) else none
noncomputable def f_X7_chance (q0 : Nat) (x1 : Int32) (b2 : Bool) (σ : St) : Option Int64 :=
obd (f_X1_find (q0 + 1) x1 σ) fun v2 =>
opt v2 (some (-11)) fun q3 =>
if shC q3 = 1 then (if b2 = true then (some (gL σ (q3 + 3) 5)) else (some (gL σ (q3 + 3) 4))) else none
noncomputable def f_X7_has (q0 : Nat) (x1 : Int32) (σ : St) : Option Int32 :=
bnd (f_X1_isCell (q0 + 1) x1 σ) fun v2 =>
if v2 = true then (obd (f_X1_changesOf (q0 + 1) x1 σ) fun v5 =>
some v5) else (some (-11))
noncomputable def f_X7_isFrozen (q0 : Nat) (x1 : Int32) (σ : St) : Option Int32 :=
bnd (f_X7_isWithin x1 0 167) fun v2 =>
if v2 = true then (obd (f_X2_covers ((q0 + 1) + 27) x1 σ) fun v5 =>
if v5 = true then (some 1) else (some 0)) else (some (-12))
noncomputable def f_X7_forecast_L47 (q0 : Nat) (x1 : Int32) (rec47 : Int32 → St → Option (Int32 × St)) (x3 : Int32) (σ : St) : Option (Int32 × St) :=
if 400 < x3 then (some ((-15), σ)) else (obd (f_X1_isOver (q0 + 33) x1 σ) fun v3 =>
if v3 = true then (some (x3, σ)) else (obd (f_X1_passHour (q0 + 33) σ) fun σ6 =>
bnd (x3 + 1) fun v7 =>
rec47 v7 σ6))
noncomputable def f_X7_forecast (q0 : Nat) (x1 : Int32) (σ : St) : Option (Int32 × St) :=
obd (f_X1_find (q0 + 1) x1 σ) fun v10 =>
opt v10 (some ((-11), σ)) fun q11 =>
if shC q11 = 1 then (if (gI σ q11 5) = 0 then (some ((-15), σ)) else (if (gI σ q11 5) = 2 then (some ((-15), σ)) else (obd (f_X1_copyFrom (q0 + 33) (q0 + 1) σ) fun σ16 =>
it2 (f_X7_forecast_L47 q0 x1) sr_fuel 0 σ16))) else none
noncomputable def f_X7_entries (q0 : Nat) (σ : St) : Int32 :=
(gI σ ((q0 + 1) + 30) 2)
noncomputable def f_X7_entry (q0 : Nat) (x1 : Int32) (x2 : Int32) (σ : St) : Option Int32 :=
bnd (f_X7_isWithin x1 0 ((gI σ ((q0 + 1) + 30) 2) - 1)) fun v2 =>
if v2 = true then (bnd (f_X7_isWithin x2 0 3) fun v5 =>
if v5 = true then (obd (f_X3_number ((q0 + 1) + 30) x1 x2 σ) fun v8 =>
some v8) else (some (-12))) else (some (-11))
noncomputable def f_X7_count (q0 : Nat) (x1 : Int32) (x2 : Int32) (σ : St) : Option Int32 :=
bnd (f_X7_isWithin x1 1 7) fun v2 =>
if v2 = true then (bnd (f_X7_isWithin x2 (-1) ((gI σ (q0 + 1) 4) - 1)) fun v5 =>
if v5 = true then (obd (f_X3_countOf ((q0 + 1) + 30) x1 x2 σ) fun v8 =>
some v8) else (some (-11))) else (some (-12))
noncomputable def f_X7_save (q0 : Nat) (x1 : Int32) (σ : St) : Option (Int32 × St) :=
bnd (f_X7_isWithin x1 0 1) fun v2 =>
if v2 = true then (if inb x1 2 = true then (obd (f_X1_copyFrom ((q0 + 65) + 2 + 32 * (Int32.toNatClampNeg x1)) (q0 + 1) σ) fun σ6 =>
if inb x1 2 = true then (bnd (sB σ6 (q0 + 66) (Int32.toNatClampNeg x1) true) fun σ8 =>
some ((gI σ8 (q0 + 1) 6), σ8)) else none) else none) else (some ((-11), σ))
noncomputable def f_X7_restore (q0 : Nat) (x1 : Int32) (σ : St) : Option (Int32 × St) :=
bnd (f_X7_isWithin x1 0 1) fun v2 =>
if v2 = true then (if inb x1 2 = true then (if (gB σ (q0 + 66) (Int32.toNatClampNeg x1)) = true then (if inb x1 2 = true then (obd (f_X1_copyFrom (q0 + 1) ((q0 + 65) + 2 + 32 * (Int32.toNatClampNeg x1)) σ) fun σ8 =>
some ((gI σ8 (q0 + 1) 6), σ8)) else none) else (some ((-13), σ))) else none) else (some ((-11), σ))
noncomputable def f_X7_mix (w0 : Int64) (w2 : Int64) : Int64 :=
((31 * w0) + w2)
noncomputable def f_X7_mixChange_L37 (σ : St) (q0 : Nat) (w1 : Int64) (x3 : Int32) (rec37 : Int64 → Int32 → Option Int64) (w4 : Int64) (x6 : Int32) : Option Int64 :=
if 4 ≤ x6 then (obd (f_X7_chance q0 x3 false σ) fun v3 =>
bnd (f_X7_mix w4 v3) fun v5 =>
obd (f_X7_chance q0 x3 true σ) fun v7 =>
bnd (f_X7_mix v5 v7) fun v9 =>
some v9) else (obd (f_X7_probes q0 x3 x6 σ) fun v11 =>
bnd (f_X7_mix w4 (Int32.toInt64 v11)) fun v13 =>
bnd (x6 + 1) fun v14 =>
rec37 v13 v14)
noncomputable def f_X7_mixChange_L6 (σ : St) (q0 : Nat) (w1 : Int64) (x3 : Int32) (rec6 : Int64 → Int32 → Option Int64) (w4 : Int64) (x6 : Int32) : Option Int64 :=
if 7 ≤ x6 then (it2 (f_X7_mixChange_L37 σ q0 w1 x3) sr_fuel w4 0) else (obd (f_X7_change q0 x3 x6 σ) fun v18 =>
bnd (f_X7_mix w4 (Int32.toInt64 v18)) fun v20 =>
bnd (x6 + 1) fun v21 =>
rec6 v20 v21)
noncomputable def f_X7_mixChange (q0 : Nat) (w1 : Int64) (x3 : Int32) (σ : St) : Option Int64 :=
it2 (f_X7_mixChange_L6 σ q0 w1 x3) sr_fuel w1 0
noncomputable def f_X7_checksum_L124 (σ : St) (q0 : Nat) (rec107 : Int64 → Int32 → Option Int64) (rec124 : Int64 → Int32 → Int32 → Option Int64) (w1 : Int64) (x3 : Int32) (x4 : Int32) : Option Int64 :=
if 4 ≤ x4 then (bnd (x3 + 1) fun v2 =>
rec107 w1 v2) else (obd (f_X3_number ((q0 + 1) + 30) x3 x4 σ) fun v5 =>
bnd (f_X7_mix w1 (Int32.toInt64 v5)) fun v7 =>
bnd (x4 + 1) fun v8 =>
rec124 v7 x3 v8)
noncomputable def f_X7_checksum_L107 (σ : St) (q0 : Nat) (rec107 : Int64 → Int32 → Option Int64) (w1 : Int64) (x3 : Int32) : Option Int64 :=
if (gI σ ((q0 + 1) + 30) 2) ≤ x3 then (some w1) else (it3 (f_X7_checksum_L124 σ q0 rec107) sr_fuel w1 x3 0)
noncomputable def f_X7_checksum_L58 (σ : St) (q0 : Nat) (rec58 : Int64 → Int32 → Option Int64) (w1 : Int64) (x3 : Int32) : Option Int64 :=
if (gI σ (q0 + 1) 5) ≤ x3 then (bnd (f_X7_mix w1 (Int32.toInt64 (gI σ ((q0 + 1) + 30) 2))) fun v13 =>
it2 (f_X7_checksum_L107 σ q0) sr_fuel v13 0) else (obd (f_X1_changesOf (q0 + 1) x3 σ) fun v15 =>
bnd (f_X7_mix w1 (Int32.toInt64 v15)) fun v17 =>
bnd (x3 + 1) fun v18 =>
rec58 v17 v18)
noncomputable def f_X7_checksum_L32 (σ : St) (q0 : Nat) (rec32 : Int64 → Int32 → Option Int64) (w1 : Int64) (x3 : Int32) : Option Int64 :=
if (gI σ (q0 + 1) 4) ≤ x3 then (it2 (f_X7_checksum_L58 σ q0) sr_fuel w1 0) else (obd (f_X7_mixChange q0 w1 x3 σ) fun v22 =>
bnd (x3 + 1) fun v23 =>
rec32 v22 v23)
noncomputable def f_X7_checksum (q0 : Nat) (σ : St) : Option Int64 :=
bnd (f_X7_mix 79 (Int32.toInt64 (gI σ (q0 + 1) 6))) fun v26 =>
bnd (f_X7_mix v26 (Int32.toInt64 (gI σ (q0 + 1) 4))) fun v28 =>
it2 (f_X7_checksum_L32 σ q0) sr_fuel v28 0
noncomputable def f_X8_in (x0 : Int32) (x1 : Int32) (x2 : Int32) : Bool :=
if x0 < x1 then (false) else (if x2 < x0 then (false) else (true))
noncomputable def f_X8_at (x0 : Int32) (x1 : Int32) : Int32 :=
((92 + (33 * x0)) + x1)
noncomputable def f_X8_stageAt (x0 : Int32) (x1 : Int32) (x2 : Int32) : Int32 :=
bnd (f_X8_at x0 ((9 + (4 * x1)) + x2)) fun v2 =>
v2
noncomputable def f_X8_isChange (q0 : Nat) (x1 : Int32) (σ : St) : Bool :=
bnd (f_X8_in x1 0 ((gI σ (q0 + 1) (Int32.toNatClampNeg 10)) - 1)) fun v2 =>
v2
noncomputable def f_X8_isCell (q0 : Nat) (x1 : Int32) (σ : St) : Bool :=
bnd (f_X8_in x1 0 ((gI σ (q0 + 1) (Int32.toNatClampNeg 0)) - 1)) fun v2 =>
v2
noncomputable def f_X8_puts (q0 : Nat) (x1 : Int32) (x2 : Int32) (σ : St) : Option (Int32 × St) :=
if inb x1 257 = true then (bnd (gI σ (q0 + 1) (Int32.toNatClampNeg x1)) fun v2 =>
if inb x1 257 = true then (bnd (sI σ (q0 + 1) (Int32.toNatClampNeg x1) x2) fun σ5 =>
some (v2, σ5)) else none) else none
noncomputable def f_X8_begin_L30 (q0 : Nat) (x1 : Int32) (rec30 : Int32 → Int32 → Int32 → St → Option (Int32 × St)) (x2 : Int32) (x3 : Int32) (x4 : Int32) (σ : St) : Option (Int32 × St) :=
if 257 ≤ x4 then (bnd (sI σ (q0 + 1) (Int32.toNatClampNeg 0) x1) fun σ2 =>
bnd (sI σ2 (q0 + 1) (Int32.toNatClampNeg 2) x2) fun σ4 =>
some (x3, σ4)) else (if inb x4 257 = true then (bnd (sI σ (q0 + 1) (Int32.toNatClampNeg x4) 0) fun σ7 =>
bnd (x4 + 1) fun v9 =>
rec30 x2 x3 v9 σ7) else none)
noncomputable def f_X8_begin (q0 : Nat) (x1 : Int32) (σ : St) : Option (Int32 × St) :=
bnd (f_X8_in x1 1 8) fun v12 =>
if v12 = true then (bnd (gI σ (q0 + 1) (Int32.toNatClampNeg 2)) fun v14 =>
bnd (gI σ (q0 + 1) (Int32.toNatClampNeg 0)) fun v16 =>
it4 (f_X8_begin_L30 q0 x1) sr_fuel v14 v16 0 σ) else (some ((-12), σ))
noncomputable def f_X8_setLimit (q0 : Nat) (x1 : Int32) (σ : St) : Option (Int32 × St) :=
bnd (f_X8_in x1 0 1000) fun v2 =>
if v2 = true then (ob2 (f_X8_puts q0 2 x1 σ) fun v5 σ6 =>
some (v5, σ6)) else (some ((-12), σ))
noncomputable def f_X8_freeze (q0 : Nat) (x1 : Int32) (x2 : Int32) (σ : St) : Option (Int32 × St) :=
bnd (f_X8_in x1 0 167) fun v2 =>
if v2 = true then (bnd (f_X8_in x2 (x1 + 1) 168) fun v5 =>
if v5 = true then (if (gI σ (q0 + 1) (Int32.toNatClampNeg 3)) = 3 then (some ((-14), σ)) else (bnd (4 + (2 * (gI σ (q0 + 1) (Int32.toNatClampNeg 3)))) fun v8 =>
if inb v8 257 = true then (bnd (sI σ (q0 + 1) (Int32.toNatClampNeg v8) x1) fun σ11 =>
bnd ((4 + (2 * (gI σ11 (q0 + 1) (Int32.toNatClampNeg 3)))) + 1) fun v13 =>
if inb v13 257 = true then (bnd (sI σ11 (q0 + 1) (Int32.toNatClampNeg v13) x2) fun σ16 =>
bnd (sI σ16 (q0 + 1) (Int32.toNatClampNeg 3) ((gI σ16 (q0 + 1) (Int32.toNatClampNeg 3)) + 1)) fun σ18 =>
some ((gI σ18 (q0 + 1) (Int32.toNatClampNeg 3)), σ18)) else none) else none)) else (some ((-12), σ))) else (some ((-12), σ))
noncomputable def f_X8_thaw (q0 : Nat) (σ : St) : Option (Int32 × St) :=
ob2 (f_X8_puts q0 3 0 σ) fun v2 σ3 =>
some (v2, σ3)
noncomputable def f_X8_addChange_B65 (q0 : Nat) (b1 : Bool) (x2 : Int32) (sq0 : Nat) (sx1 : Int32) (sb2 : Bool) (σ : St) : Option (Int32 × St) :=
if inb sx1 257 = true then (bnd (sI σ sq0 (Int32.toNatClampNeg sx1) (bI sb2)) fun σ2 =>
bnd (sI σ2 (q0 + 1) (Int32.toNatClampNeg 10) ((gI σ2 (q0 + 1) (Int32.toNatClampNeg 10)) + 1)) fun σ4 =>
some (x2, σ4)) else none
noncomputable def f_X8_addChange_L24 (q0 : Nat) (b1 : Bool) (rec24 : Int32 → Int32 → St → Option (Int32 × St)) (x2 : Int32) (x3 : Int32) (σ : St) : Option (Int32 × St) :=
if 33 ≤ x3 then (bnd (f_X8_at x2 0) fun v8 =>
if b1 = true then (f_X8_addChange_B65 q0 b1 x2 (q0 + 1) v8 true σ) else (f_X8_addChange_B65 q0 b1 x2 (q0 + 1) v8 false σ)) else (bnd (f_X8_at x2 x3) fun v11 =>
if inb v11 257 = true then (bnd (sI σ (q0 + 1) (Int32.toNatClampNeg v11) 0) fun σ13 =>
bnd (x3 + 1) fun v15 =>
rec24 x2 v15 σ13) else none)
noncomputable def f_X8_addChange (q0 : Nat) (b1 : Bool) (σ : St) : Option (Int32 × St) :=
if (gI σ (q0 + 1) (Int32.toNatClampNeg 10)) = 5 then (some ((-14), σ)) else (bnd (gI σ (q0 + 1) (Int32.toNatClampNeg 10)) fun v18 =>
it3 (f_X8_addChange_L24 q0 b1) sr_fuel v18 0 σ)
noncomputable def f_X8_cellsOf_L5 (σ : St) (q0 : Nat) (x1 : Int32) (x2 : Int32) (rec5 : Int32 → Int32 → Option Int32) (x3 : Int32) (x4 : Int32) : Option Int32 :=
if x2 ≤ x4 then (some x3) else (bnd (f_X8_stageAt x1 x4 0) fun v3 =>
if inb v3 257 = true then (bnd (x3 ||| (gI σ (q0 + 1) (Int32.toNatClampNeg v3))) fun v5 =>
bnd (x4 + 1) fun v7 =>
rec5 v5 v7) else none)
noncomputable def f_X8_cellsOf (q0 : Nat) (x1 : Int32) (x2 : Int32) (σ : St) : Option Int32 :=
it2 (f_X8_cellsOf_L5 σ q0 x1 x2) sr_fuel 0 0
noncomputable def f_X8_adds (q0 : Nat) (x1 : Int32) (x2 : Int32) (x3 : Int32) (x4 : Int32) (σ : St) : Option St :=
bnd (f_X8_at x1 2) fun v2 =>
if inb v2 257 = true then (bnd (gI σ (q0 + 1) (Int32.toNatClampNeg v2)) fun v4 =>
bnd (f_X8_stageAt x1 v4 0) fun v7 =>
if inb v7 257 = true then (bnd (sI σ (q0 + 1) (Int32.toNatClampNeg v7) x2) fun σ9 =>
bnd (f_X8_stageAt x1 v4 1) fun v12 =>
if inb v12 257 = true then (bnd (sI σ9 (q0 + 1) (Int32.toNatClampNeg v12) x3) fun σ14 =>
bnd (f_X8_stageAt x1 v4 2) fun v17 =>
if inb v17 257 = true then (bnd (sI σ14 (q0 + 1) (Int32.toNatClampNeg v17) x4) fun σ19 =>
bnd (f_X8_stageAt x1 v4 3) fun v22 =>
if inb v22 257 = true then (bnd (sI σ19 (q0 + 1) (Int32.toNatClampNeg v22) 0) fun σ24 =>
bnd (f_X8_at x1 2) fun v27 =>
if inb v27 257 = true then (if inb v27 257 = true then (bnd (sI σ24 (q0 + 1) (Int32.toNatClampNeg v27) ((gI σ24 (q0 + 1) (Int32.toNatClampNeg v27)) + 1)) fun σ30 =>
some σ30) else none) else none) else none) else none) else none) else none) else none
noncomputable def f_X8_addStage (q0 : Nat) (x1 : Int32) (x2 : Int32) (x3 : Int32) (x4 : Int32) (σ : St) : Option (Int32 × St) :=
bnd (f_X8_isChange q0 x1 σ) fun v2 =>
if v2 = true then (bnd (f_X8_in x2 1 ((1 <<< ((gI σ (q0 + 1) (Int32.toNatClampNeg 0)) &&& 31)) - 1)) fun v5 =>
if v5 = true then (bnd (f_X8_in x3 0 48) fun v8 =>
if v8 = true then (bnd (f_X8_in x4 0 25) fun v11 =>
if v11 = true then (bnd (f_X8_at x1 2) fun v14 =>
if inb v14 257 = true then (bnd (gI σ (q0 + 1) (Int32.toNatClampNeg v14)) fun v16 =>
bnd (f_X8_at x1 1) fun v19 =>
if inb v19 257 = true then (if (gI σ (q0 + 1) (Int32.toNatClampNeg v19)) = 0 then (obd (f_X8_cellsOf q0 x1 v16 σ) fun v23 =>
if (v23 &&& x2) = 0 then (if v16 = 6 then (some ((-14), σ)) else (obd (f_X8_adds q0 x1 x2 x3 x4 σ) fun σ27 =>
some ((v16 + 1), σ27))) else (some ((-13), σ))) else (some ((-13), σ))) else none) else none) else (some ((-12), σ))) else (some ((-12), σ))) else (some ((-12), σ))) else (some ((-11), σ))
noncomputable def f_X8_size_L4 (x0 : Int32) (rec4 : Int32 → Int32 → Option Int32) (x1 : Int32) (x2 : Int32) : Option Int32 :=
if x2 = 0 then (some x1) else (bnd (x1 + 1) fun v2 =>
bnd (x2 &&& (x2 - 1)) fun v4 =>
rec4 v2 v4)
noncomputable def f_X8_size (x0 : Int32) : Option Int32 :=
it2 (f_X8_size_L4 x0) sr_fuel 0 x0
noncomputable def f_X8_putAfter (q0 : Nat) (x1 : Int32) (x2 : Int32) (σ : St) : Option (Int32 × St) :=
bnd (f_X8_isChange q0 x1 σ) fun v2 =>
if v2 = true then (bnd (f_X8_in x2 0 (x1 - 1)) fun v5 =>
if v5 = true then (bnd (f_X8_at x1 1) fun v8 =>
if inb v8 257 = true then (if (gI σ (q0 + 1) (Int32.toNatClampNeg v8)) = 0 then (bnd (f_X8_at x1 4) fun v12 =>
if inb v12 257 = true then (if inb v12 257 = true then (bnd (sI σ (q0 + 1) (Int32.toNatClampNeg v12) ((gI σ (q0 + 1) (Int32.toNatClampNeg v12)) ||| (1 <<< (x2 &&& 31)))) fun σ15 =>
bnd (f_X8_at x1 4) fun v18 =>
if inb v18 257 = true then (obd (f_X8_size (gI σ15 (q0 + 1) (Int32.toNatClampNeg v18))) fun v21 =>
some (v21, σ15)) else none) else none) else none) else (some ((-13), σ))) else none) else (some ((-11), σ))) else (some ((-11), σ))
noncomputable def f_X8_changes (q0 : Nat) (σ : St) : Int32 :=
(gI σ (q0 + 1) (Int32.toNatClampNeg 10))
noncomputable def f_X8_stage (q0 : Nat) (x1 : Int32) (x2 : Int32) (x3 : Int32) (σ : St) : Option Int32 :=
bnd (f_X8_isChange q0 x1 σ) fun v2 =>
if v2 = true then (bnd (f_X8_at x1 2) fun v5 =>
if inb v5 257 = true then (bnd (f_X8_in x2 0 ((gI σ (q0 + 1) (Int32.toNatClampNeg v5)) - 1)) fun v8 =>
if v8 = true then (bnd (f_X8_in x3 0 2) fun v11 =>
if v11 = true then (bnd (f_X8_stageAt x1 x2 x3) fun v14 =>
if inb v14 257 = true then (some (gI σ (q0 + 1) (Int32.toNatClampNeg v14))) else none) else (some (-12))) else (some (-11))) else none) else (some (-11))
noncomputable def f_X8_append (q0 : Nat) (x1 : Int32) (σ : St) : Option (Int32 × St) :=
bnd (f_X8_in x1 0 127) fun v2 =>
if v2 = true then (if (gI σ q0 5) = 60 then (some ((-14), σ)) else (bnd (gI σ q0 5) fun v5 =>
if inb v5 60 = true then (bnd (sI σ (q0 + 5) (Int32.toNatClampNeg v5) x1) fun σ8 =>
bnd (sI σ8 q0 5 ((gI σ8 q0 5) + 1)) fun σ10 =>
some ((gI σ10 q0 5), σ10)) else none)) else (some ((-12), σ))
noncomputable def f_X8_clearText (q0 : Nat) (σ : St) : Int32 × St :=
bnd (gI σ q0 5) fun v1 =>
bnd (sI σ q0 5 0) fun σ3 =>
(v1, σ3)
noncomputable def f_X8_here (q0 : Nat) (σ : St) : Option Int32 :=
if (gI σ q0 5) ≤ (gI σ q0 8) then (some (-1)) else (bnd (gI σ q0 8) fun v2 =>
if inb v2 60 = true then (some (gI σ (q0 + 5) (Int32.toNatClampNeg v2))) else none)
noncomputable def f_X8_takes_B13 (q0 : Nat) (x1 : Int32) (sb0 : Bool) (σ : St) : Option (Bool × St) :=
if sb0 = true then (bnd (sI σ q0 8 ((gI σ q0 8) + 1)) fun σ4 =>
some (sb0, σ4)) else (bnd (sI σ q0 8 ((gI σ q0 8) + 0)) fun σ2 =>
some (sb0, σ2))
noncomputable def f_X8_takes (q0 : Nat) (x1 : Int32) (σ : St) : Option (Bool × St) :=
obd (f_X8_here q0 σ) fun v7 =>
if v7 = x1 then (f_X8_takes_B13 q0 x1 true σ) else (f_X8_takes_B13 q0 x1 false σ)
noncomputable def f_X8_digit (q0 : Nat) (σ : St) : Option Int32 :=
obd (f_X8_here q0 σ) fun v2 =>
bnd (f_X8_in v2 48 57) fun v4 =>
if v4 = true then (obd (f_X8_here q0 σ) fun v7 =>
some (v7 - 48)) else (some (-1))
noncomputable def f_X8_number_B85 (q0 : Nat) (x1 : Int32) (x2 : Int32) (sb0 : Bool) (σ : St) : Option (Bool × St) :=
if sb0 = true then (bnd (sI σ q0 8 (gI σ q0 8)) fun σ4 =>
some (sb0, σ4)) else (bnd (sI σ q0 8 x2) fun σ2 =>
some (sb0, σ2))
noncomputable def f_X8_number_B72 (q0 : Nat) (x1 : Int32) (x2 : Int32) (σ : St) : Option (Bool × St) :=
if x1 < (gI σ q0 11) then (f_X8_number_B85 q0 x1 x2 false σ) else (f_X8_number_B85 q0 x1 x2 true σ)
noncomputable def f_X8_number (q0 : Nat) (x1 : Int32) (σ : St) : Option (Bool × St) :=
bnd (gI σ q0 8) fun v7 =>
obd (f_X8_digit q0 σ) fun v10 =>
if 0 ≤ v10 then (obd (f_X8_digit q0 σ) fun v13 =>
bnd (sI σ q0 11 v13) fun σ14 =>
bnd (sI σ14 q0 8 ((gI σ14 q0 8) + 1)) fun σ16 =>
if (gI σ16 q0 11) ≤ 0 then (f_X8_number_B72 q0 x1 v7 σ16) else (obd (f_X8_digit q0 σ16) fun v20 =>
if v20 < 0 then (f_X8_number_B72 q0 x1 v7 σ16) else (obd (f_X8_digit q0 σ16) fun v23 =>
bnd (sI σ16 q0 11 ((10 * (gI σ16 q0 11)) + v23)) fun σ24 =>
bnd (sI σ24 q0 8 ((gI σ24 q0 8) + 1)) fun σ26 =>
f_X8_number_B72 q0 x1 v7 σ26))) else (some (false, σ))
noncomputable def f_X8_cells_L4 (q0 : Nat) (x1 : Int32) (rec4 : Int32 → Int32 → St → Option (Bool × St)) (x2 : Int32) (x3 : Int32) (σ : St) : Option (Bool × St) :=
obd (f_X8_digit q0 σ) fun v2 =>
if v2 < 0 then (bnd (sI σ q0 11 x2) fun σ4 =>
if x2 = 0 then (some (false, σ4)) else (some (true, σ4))) else (obd (f_X8_digit q0 σ) fun v8 =>
if v8 ≤ x3 then (some (false, σ)) else (bnd (f_X8_isCell q0 v8 σ) fun v11 =>
if v11 = true then (if ((x1 >>> (v8 &&& 31)) &&& 1) = 1 then (some (false, σ)) else (bnd (x2 ||| (1 <<< (v8 &&& 31))) fun v14 =>
bnd (sI σ q0 8 ((gI σ q0 8) + 1)) fun σ16 =>
rec4 v14 v8 σ16)) else (some (false, σ))))
noncomputable def f_X8_cells (q0 : Nat) (x1 : Int32) (σ : St) : Option (Bool × St) :=
it3 (f_X8_cells_L4 q0 x1) sr_fuel 0 (-1) σ
noncomputable def f_X8_isStage (q0 : Nat) (x1 : Int32) (σ : St) : Option (Bool × St) :=
bnd (3 * (gI σ q0 10)) fun v1 =>
if (gI σ q0 10) = 6 then (some (false, σ)) else (ob2 (f_X8_cells q0 x1 σ) fun v5 σ6 =>
if v5 = true then (if inb v1 18 = true then (bnd (sI σ6 (q0 + 6) (Int32.toNatClampNeg v1) (gI σ6 q0 11)) fun σ9 =>
ob2 (f_X8_takes q0 58 σ9) fun v12 σ13 =>
if v12 = true then (ob2 (f_X8_number q0 48 σ13) fun v16 σ17 =>
if v16 = true then (bnd (v1 + 1) fun v19 =>
if inb v19 18 = true then (bnd (sI σ17 (q0 + 6) (Int32.toNatClampNeg v19) (gI σ17 q0 11)) fun σ22 =>
ob2 (f_X8_takes q0 47 σ22) fun v25 σ26 =>
if v25 = true then (ob2 (f_X8_number q0 25 σ26) fun v29 σ30 =>
if v29 = true then (bnd (v1 + 2) fun v32 =>
if inb v32 18 = true then (bnd (sI σ30 (q0 + 6) (Int32.toNatClampNeg v32) (gI σ30 q0 11)) fun σ35 =>
bnd (sI σ35 q0 10 ((gI σ35 q0 10) + 1)) fun σ37 =>
ob2 (f_X8_takes q0 59 σ37) fun v40 σ41 =>
some (v40, σ41)) else none) else (some (false, σ30))) else (some (false, σ26))) else none) else (some (false, σ17))) else (some (false, σ13))) else none) else (some (false, σ6)))
noncomputable def f_X8_isText_L14 (q0 : Nat) (rec14 : Int32 → Bool → St → Option (Bool × St)) (x1 : Int32) (b2 : Bool) (σ : St) : Option (Bool × St) :=
if b2 = true then (if (gI σ q0 5) ≤ (gI σ q0 8) then (some (b2, σ)) else (ob2 (f_X8_isStage q0 x1 σ) fun v4 σ5 =>
if v4 = true then (bnd ((3 * (gI σ5 q0 10)) - 3) fun v9 =>
if inb v9 18 = true then (bnd (x1 ||| (gI σ5 (q0 + 6) (Int32.toNatClampNeg v9))) fun v12 =>
rec14 v12 v4 σ5) else none) else (bnd (x1 ||| 0) fun v7 =>
rec14 v7 v4 σ5))) else (some (b2, σ))
noncomputable def f_X8_isText (q0 : Nat) (σ : St) : Option (Bool × St) :=
bnd (sI σ q0 8 0) fun σ14 =>
bnd (sI σ14 q0 10 0) fun σ16 =>
it3 (f_X8_isText_L14 q0) sr_fuel 0 true σ16
noncomputable def f_X8_faultPosition (q0 : Nat) (σ : St) : Option (Int32 × St) :=
ob2 (f_X8_isText q0 σ) fun v2 σ3 =>
if v2 = true then (some ((-15), σ3)) else (some ((gI σ3 q0 8), σ3))
noncomputable def f_X8_read_L47 (q0 : Nat) (x1 : Int32) (rec47 : Int32 → St → Option (Int32 × St)) (x2 : Int32) (σ : St) : Option (Int32 × St) :=
if (gI σ q0 10) ≤ x2 then (some ((gI σ q0 10), σ)) else (bnd (3 * x2) fun v2 =>
if inb v2 18 = true then (bnd ((3 * x2) + 1) fun v5 =>
if inb v5 18 = true then (bnd ((3 * x2) + 2) fun v8 =>
if inb v8 18 = true then (obd (f_X8_adds q0 x1 (gI σ (q0 + 6) (Int32.toNatClampNeg v2)) (gI σ (q0 + 6) (Int32.toNatClampNeg v5)) (gI σ (q0 + 6) (Int32.toNatClampNeg v8)) σ) fun σ12 =>
bnd (x2 + 1) fun v13 =>
rec47 v13 σ12) else none) else none) else none)
noncomputable def f_X8_read (q0 : Nat) (x1 : Int32) (σ : St) : Option (Int32 × St) :=
bnd (f_X8_isChange q0 x1 σ) fun v16 =>
if v16 = true then (ob2 (f_X8_isText q0 σ) fun v19 σ20 =>
if v19 = true then (bnd (f_X8_at x1 1) fun v23 =>
if inb v23 257 = true then (if (gI σ20 (q0 + 1) (Int32.toNatClampNeg v23)) = 0 then (bnd (f_X8_at x1 2) fun v27 =>
if inb v27 257 = true then (bnd (sI σ20 (q0 + 1) (Int32.toNatClampNeg v27) 0) fun σ29 =>
it2 (f_X8_read_L47 q0 x1) sr_fuel 0 σ29) else none) else (some ((-13), σ20))) else none) else (some ((-13), σ20))) else (some ((-11), σ))
noncomputable def f_X8_notes_B54 (q0 : Nat) (x1 : Int32) (x2 : Int32) (x3 : Int32)  (σ : St) : Option St :=
bnd (12 + (4 * (gI σ (q0 + 1) (Int32.toNatClampNeg 11)))) fun v1 =>
if inb v1 257 = true then (bnd (sI σ (q0 + 1) (Int32.toNatClampNeg v1) (gI σ (q0 + 1) (Int32.toNatClampNeg 1))) fun σ4 =>
bnd (v1 + 1) fun v6 =>
if inb v6 257 = true then (bnd (sI σ4 (q0 + 1) (Int32.toNatClampNeg v6) x1) fun σ9 =>
bnd (v1 + 2) fun v11 =>
if inb v11 257 = true then (bnd (sI σ9 (q0 + 1) (Int32.toNatClampNeg v11) x2) fun σ14 =>
bnd (v1 + 3) fun v16 =>
if inb v16 257 = true then (bnd (sI σ14 (q0 + 1) (Int32.toNatClampNeg v16) x3) fun σ19 =>
bnd (sI σ19 (q0 + 1) (Int32.toNatClampNeg 11) ((gI σ19 (q0 + 1) (Int32.toNatClampNeg 11)) + 1)) fun σ21 =>
bnd (sI σ21 q0 7 ((gI σ21 q0 7) + 1)) fun σ23 =>
some σ23) else none) else none) else none) else none
noncomputable def f_X8_notes_L16 (q0 : Nat) (x1 : Int32) (x2 : Int32) (x3 : Int32) (rec16 : Int32 → St → Option St) (x4 : Int32) (σ : St) : Option St :=
if 88 ≤ x4 then (bnd (sI σ (q0 + 1) (Int32.toNatClampNeg 11) 19) fun σ26 =>
f_X8_notes_B54 q0 x1 x2 x3  σ26) else (bnd (x4 + 4) fun v28 =>
if inb v28 257 = true then (if inb x4 257 = true then (bnd (sI σ (q0 + 1) (Int32.toNatClampNeg x4) (gI σ (q0 + 1) (Int32.toNatClampNeg v28))) fun σ32 =>
bnd (x4 + 1) fun v34 =>
rec16 v34 σ32) else none) else none)
noncomputable def f_X8_notes (q0 : Nat) (x1 : Int32) (x2 : Int32) (x3 : Int32) (σ : St) : Option St :=
if (gI σ (q0 + 1) (Int32.toNatClampNeg 11)) = 20 then (it2 (f_X8_notes_L16 q0 x1 x2 x3) sr_fuel 12 σ) else (f_X8_notes_B54 q0 x1 x2 x3  σ)
noncomputable def f_X8_start (q0 : Nat) (x1 : Int32) (σ : St) : Option (Int32 × St) :=
bnd (f_X8_isChange q0 x1 σ) fun v2 =>
if v2 = true then (bnd (f_X8_at x1 1) fun v5 =>
if inb v5 257 = true then (if (gI σ (q0 + 1) (Int32.toNatClampNeg v5)) = 0 then (bnd (f_X8_at x1 2) fun v9 =>
if inb v9 257 = true then (if (gI σ (q0 + 1) (Int32.toNatClampNeg v9)) = 0 then (some ((-13), σ)) else (bnd (f_X8_at x1 1) fun v13 =>
if inb v13 257 = true then (bnd (sI σ (q0 + 1) (Int32.toNatClampNeg v13) 1) fun σ15 =>
bnd (f_X8_at x1 2) fun v18 =>
if inb v18 257 = true then (some ((gI σ15 (q0 + 1) (Int32.toNatClampNeg v18)), σ15)) else none) else none)) else none) else (some ((-13), σ))) else none) else (some ((-11), σ))
noncomputable def f_X8_becomes (q0 : Nat) (x1 : Int32) (x2 : Int32) (x3 : Int32) (σ : St) : Option (Int32 × St) :=
bnd (f_X8_at x1 1) fun v2 =>
if inb v2 257 = true then (bnd (sI σ (q0 + 1) (Int32.toNatClampNeg v2) x2) fun σ4 =>
obd (f_X8_notes q0 x1 x3 (-15) σ4) fun σ7 =>
bnd (f_X8_at x1 3) fun v9 =>
if inb v9 257 = true then (some ((gI σ7 (q0 + 1) (Int32.toNatClampNeg v9)), σ7)) else none) else none
noncomputable def f_X8_hold (q0 : Nat) (x1 : Int32) (σ : St) : Option (Int32 × St) :=
bnd (f_X8_isChange q0 x1 σ) fun v2 =>
if v2 = true then (bnd (f_X8_at x1 1) fun v5 =>
if inb v5 257 = true then (if (gI σ (q0 + 1) (Int32.toNatClampNeg v5)) = 1 then (ob2 (f_X8_becomes q0 x1 2 6 σ) fun v9 σ10 =>
some (v9, σ10)) else (some ((-13), σ))) else none) else (some ((-11), σ))
noncomputable def f_X8_resume (q0 : Nat) (x1 : Int32) (σ : St) : Option (Int32 × St) :=
bnd (f_X8_isChange q0 x1 σ) fun v2 =>
if v2 = true then (bnd (f_X8_at x1 1) fun v5 =>
if inb v5 257 = true then (if (gI σ (q0 + 1) (Int32.toNatClampNeg v5)) = 2 then (ob2 (f_X8_becomes q0 x1 1 7 σ) fun v9 σ10 =>
some (v9, σ10)) else (some ((-13), σ))) else none) else (some ((-11), σ))
noncomputable def f_X8_turnBack (q0 : Nat) (x1 : Int32) (σ : St) : Option (Int32 × St) :=
bnd (f_X8_isChange q0 x1 σ) fun v2 =>
if v2 = true then (bnd (f_X8_at x1 1) fun v5 =>
if inb v5 257 = true then (bnd (f_X8_in (gI σ (q0 + 1) (Int32.toNatClampNeg v5)) 1 3) fun v8 =>
if v8 = true then (ob2 (f_X8_becomes q0 x1 4 3 σ) fun v11 σ12 =>
some (v11, σ12)) else (some ((-13), σ))) else none) else (some ((-11), σ))
noncomputable def f_X8_isOut (q0 : Nat) (x1 : Int32) (σ : St) : Option Bool :=
bnd (f_X8_at x1 1) fun v2 =>
if inb v2 257 = true then (bnd (f_X8_in (gI σ (q0 + 1) (Int32.toNatClampNeg v2)) 1 2) fun v5 =>
if v5 = true then (bnd (f_X8_at x1 3) fun v8 =>
if inb v8 257 = true then (if (gI σ (q0 + 1) (Int32.toNatClampNeg v8)) ≤ 0 then (some false) else (some true)) else none) else (some false)) else none
noncomputable def f_X8_reached (q0 : Nat) (x1 : Int32) (σ : St) : Option Int32 :=
bnd (f_X8_at x1 3) fun v2 =>
if inb v2 257 = true then (obd (f_X8_cellsOf q0 x1 (gI σ (q0 + 1) (Int32.toNatClampNeg v2)) σ) fun v5 =>
some v5) else none
noncomputable def f_X8_report_B77 (q0 : Nat) (x1 : Int32) (x2 : Int32) (x3 : Int32) (rec40 : Int32 → Int32 → St → Option (Int32 × St)) (x4 : Int32) (x5 : Int32) (sx0 : Int32) (sx1 : Int32) (σ : St) : Option (Int32 × St) :=
bnd (sx0 + sx1) fun v1 =>
obd (f_X8_isOut q0 x5 σ) fun v4 =>
if v4 = true then (if inb v1 257 = true then (bnd (v1 + 1) fun v9 =>
if inb v9 257 = true then (if 25 < ((((gI σ (q0 + 1) (Int32.toNatClampNeg v1)) + (gI σ (q0 + 1) (Int32.toNatClampNeg v9))) + x2) + x3) then (bnd (x5 + 1) fun v13 =>
rec40 x4 v13 σ) else (if inb v1 257 = true then (if inb v1 257 = true then (bnd (sI σ (q0 + 1) (Int32.toNatClampNeg v1) ((gI σ (q0 + 1) (Int32.toNatClampNeg v1)) + x2)) fun σ17 =>
bnd (v1 + 1) fun v19 =>
if inb v19 257 = true then (if inb v19 257 = true then (bnd (sI σ17 (q0 + 1) (Int32.toNatClampNeg v19) ((gI σ17 (q0 + 1) (Int32.toNatClampNeg v19)) + x3)) fun σ23 =>
bnd (x4 + 1) fun v25 =>
bnd (x5 + 1) fun v27 =>
rec40 v25 v27 σ23) else none) else none) else none) else none)) else none) else none) else (bnd (x5 + 1) fun v6 =>
rec40 x4 v6 σ)
noncomputable def f_X8_report_L40 (q0 : Nat) (x1 : Int32) (x2 : Int32) (x3 : Int32) (rec40 : Int32 → Int32 → St → Option (Int32 × St)) (x4 : Int32) (x5 : Int32) (σ : St) : Option (Int32 × St) :=
if (gI σ (q0 + 1) (Int32.toNatClampNeg 10)) ≤ x5 then (some (x4, σ)) else (bnd (f_X8_at x5 5) fun v31 =>
obd (f_X8_reached q0 x5 σ) fun v33 =>
if ((v33 >>> (x1 &&& 31)) &&& 1) = 1 then (f_X8_report_B77 q0 x1 x2 x3 rec40 x4 x5 v31 0 σ) else (f_X8_report_B77 q0 x1 x2 x3 rec40 x4 x5 v31 2 σ))
noncomputable def f_X8_report (q0 : Nat) (x1 : Int32) (x2 : Int32) (x3 : Int32) (σ : St) : Option (Int32 × St) :=
bnd (f_X8_isCell q0 x1 σ) fun v36 =>
if v36 = true then (bnd (f_X8_in x2 0 9) fun v39 =>
if v39 = true then (bnd (f_X8_in x3 0 9) fun v42 =>
if v42 = true then (it3 (f_X8_report_L40 q0 x1 x2 x3) sr_fuel 0 0 σ) else (some ((-12), σ))) else (some ((-12), σ))) else (some ((-11), σ))
noncomputable def f_X8_sets_B116 (q0 : Nat) (x1 : Int32) (x2 : Int32)  (σ : St) : Option (Int64 × St) :=
bnd ((51 * x1) + x2) fun v1 =>
if inb v1 2601 = true then (some ((gL σ (q0 + 7) (Int32.toNatClampNeg v1)), σ)) else none
noncomputable def f_X8_sets_L43 (q0 : Nat) (x1 : Int32) (x2 : Int32) (rec24 : Int32 → St → Option (Int64 × St)) (rec43 : Int32 → Int32 → St → Option (Int64 × St)) (x3 : Int32) (x4 : Int32) (σ : St) : Option (Int64 × St) :=
if x3 < x4 then (bnd (x3 + 1) fun v5 =>
rec24 v5 σ) else (bnd ((((51 * x3) - 51) + x4) - 1) fun v7 =>
if inb v7 2601 = true then (if x3 ≤ x4 then (bnd ((51 * x3) + x4) fun v11 =>
if inb v11 2601 = true then (bnd (sL σ (q0 + 7) (Int32.toNatClampNeg v11) ((gL σ (q0 + 7) (Int32.toNatClampNeg v7)) + 0)) fun σ14 =>
bnd (x4 + 1) fun v16 =>
rec43 x3 v16 σ14) else none) else (bnd (((51 * x3) - 51) + x4) fun v18 =>
if inb v18 2601 = true then (bnd ((51 * x3) + x4) fun v21 =>
if inb v21 2601 = true then (bnd (sL σ (q0 + 7) (Int32.toNatClampNeg v21) ((gL σ (q0 + 7) (Int32.toNatClampNeg v7)) + (gL σ (q0 + 7) (Int32.toNatClampNeg v18)))) fun σ24 =>
bnd (x4 + 1) fun v26 =>
rec43 x3 v26 σ24) else none) else none)) else none)
noncomputable def f_X8_sets_L24 (q0 : Nat) (x1 : Int32) (x2 : Int32) (rec24 : Int32 → St → Option (Int64 × St)) (x3 : Int32) (σ : St) : Option (Int64 × St) :=
if 50 < x3 then (f_X8_sets_B116 q0 x1 x2  σ) else (bnd (51 * x3) fun v29 =>
if inb v29 2601 = true then (bnd (sL σ (q0 + 7) (Int32.toNatClampNeg v29) 1) fun σ32 =>
it3 (f_X8_sets_L43 q0 x1 x2 rec24) sr_fuel x3 1 σ32) else none)
noncomputable def f_X8_sets (q0 : Nat) (x1 : Int32) (x2 : Int32) (σ : St) : Option (Int64 × St) :=
if x2 < 0 then (some (0, σ)) else (if x2 ≤ x1 then (if (lg_cmp (gL σ (q0 + 7) (Int32.toNatClampNeg 0)) 0) = 0 then (it2 (f_X8_sets_L24 q0 x1 x2) sr_fuel 0 σ) else (f_X8_sets_B116 q0 x1 x2  σ)) else (some (0, σ)))
noncomputable def f_X8_findChance_L85 (q0 : Nat) (x1 : Int32) (rec85 : Int32 → Int32 → Int32 → Int32 → St → Option St) (x3 : Int32) (x4 : Int32) (x5 : Int32) (x6 : Int32) (σ : St) : Option St :=
if x3 < x6 then (some σ) else (if x4 < x6 then (some σ) else (ob2 (f_X8_sets q0 x4 x6 σ) fun v4 σ5 =>
ob2 (f_X8_sets q0 x5 (x3 - x6) σ5) fun v7 σ8 =>
bnd (sL σ8 q0 13 ((gL σ q0 13) + (v4 * v7))) fun σ9 =>
bnd (x6 + 1) fun v11 =>
rec85 x3 x4 x5 v11 σ9))
noncomputable def f_X8_findChance (q0 : Nat) (x1 : Int32) (σ : St) : Option St :=
bnd (f_X8_at x1 5) fun v14 =>
if inb v14 257 = true then (bnd (v14 + 1) fun v16 =>
if inb v16 257 = true then (bnd ((gI σ (q0 + 1) (Int32.toNatClampNeg v14)) + (gI σ (q0 + 1) (Int32.toNatClampNeg v16))) fun v19 =>
if inb v14 257 = true then (bnd (v14 + 2) fun v22 =>
if inb v22 257 = true then (bnd ((gI σ (q0 + 1) (Int32.toNatClampNeg v14)) + (gI σ (q0 + 1) (Int32.toNatClampNeg v22))) fun v25 =>
bnd (v14 + 1) fun v27 =>
if inb v27 257 = true then (bnd (v14 + 3) fun v30 =>
if inb v30 257 = true then (bnd ((gI σ (q0 + 1) (Int32.toNatClampNeg v27)) + (gI σ (q0 + 1) (Int32.toNatClampNeg v30))) fun v33 =>
bnd (sL σ q0 13 0) fun σ35 =>
ob2 (f_X8_sets q0 (v25 + v33) v19 σ35) fun v38 σ39 =>
bnd (sL σ39 q0 14 v38) fun σ40 =>
if inb v14 257 = true then (bnd (gI σ40 (q0 + 1) (Int32.toNatClampNeg v14)) fun v43 =>
it5 (f_X8_findChance_L85 q0 x1) sr_fuel v19 v25 v33 v43 σ40) else none) else none) else none) else none) else none) else none) else none
noncomputable def f_X8_isBad (q0 : Nat) (x1 : Int32) (σ : St) : Option (Bool × St) :=
obd (f_X8_findChance q0 x1 σ) fun σ2 =>
if (gB σ2 q0 6) = true then (some (false, σ2)) else (if 0 < (lg_cmp (1000 * (gL σ2 q0 13)) ((Int32.toInt64 (gI σ2 (q0 + 1) (Int32.toNatClampNeg 2))) * (gL σ2 q0 14))) then (some (false, σ2)) else (some (true, σ2)))
noncomputable def f_X8_divisor_L6 (w0 : Int64) (w2 : Int64) (rec6 : Int64 → Int64 → Option Int64) (w4 : Int64) (w6 : Int64) : Option Int64 :=
if (lg_cmp w6 0) = 0 then (some w4) else (if ¬ w6 = 0 then (bnd (w4 - w4 / w6 * w6) fun v3 =>
rec6 w6 v3) else none)
noncomputable def f_X8_divisor (w0 : Int64) (w2 : Int64) : Option Int64 :=
it2 (f_X8_divisor_L6 w0 w2) sr_fuel w0 w2
noncomputable def f_X8_isFrozenHour_L4 (σ : St) (q0 : Nat) (x1 : Int32) (rec4 : Bool → Int32 → Option Bool) (b2 : Bool) (x3 : Int32) : Option Bool :=
if (gI σ (q0 + 1) (Int32.toNatClampNeg 3)) ≤ x3 then (some b2) else (if b2 = true then (bnd (x3 + 1) fun v3 =>
rec4 true v3) else (bnd (4 + (2 * x3)) fun v5 =>
if inb v5 257 = true then (bnd ((4 + (2 * x3)) + 1) fun v8 =>
if inb v8 257 = true then (bnd (f_X8_in x1 (gI σ (q0 + 1) (Int32.toNatClampNeg v5)) ((gI σ (q0 + 1) (Int32.toNatClampNeg v8)) - 1)) fun v12 =>
if v12 = true then (bnd (x3 + 1) fun v16 =>
rec4 true v16) else (bnd (x3 + 1) fun v14 =>
rec4 false v14)) else none) else none))
noncomputable def f_X8_isFrozenHour (q0 : Nat) (x1 : Int32) (σ : St) : Option Bool :=
it2 (f_X8_isFrozenHour_L4 σ q0 x1) sr_fuel false 0
noncomputable def f_X8_hoursSince (q0 : Nat) (x1 : Int32) (σ : St) : Option Int32 :=
bnd (f_X8_at x1 3) fun v2 =>
if inb v2 257 = true then (bnd (gI σ (q0 + 1) (Int32.toNatClampNeg v2)) fun v4 =>
if v4 = 0 then (some 0) else (bnd (f_X8_stageAt x1 (v4 - 1) 3) fun v8 =>
if inb v8 257 = true then (some ((gI σ (q0 + 1) (Int32.toNatClampNeg 1)) - (gI σ (q0 + 1) (Int32.toNatClampNeg v8)))) else none)) else none
noncomputable def f_X8_lacks_B52 (σ : St) (q0 : Nat) (x1 : Int32) (x2 : Int32) (x3 : Int32) (sb0 : Bool) : Option Bool :=
if (gB σ q0 6) = true then (some false) else (if inb x2 257 = true then (bnd (x2 + 1) fun v3 =>
if inb v3 257 = true then (if ((gI σ (q0 + 1) (Int32.toNatClampNeg x2)) + (gI σ (q0 + 1) (Int32.toNatClampNeg v3))) < x3 then (some true) else (if sb0 = true then (some false) else (bnd (x2 + 2) fun v8 =>
if inb v8 257 = true then (bnd (x2 + 3) fun v11 =>
if inb v11 257 = true then (if x3 ≤ ((gI σ (q0 + 1) (Int32.toNatClampNeg v8)) + (gI σ (q0 + 1) (Int32.toNatClampNeg v11))) then (some false) else (some true)) else none) else none))) else none) else none)
noncomputable def f_X8_lacks (q0 : Nat) (x1 : Int32) (σ : St) : Option Bool :=
bnd (f_X8_at x1 5) fun v16 =>
bnd (f_X8_at x1 3) fun v18 =>
if inb v18 257 = true then (bnd (f_X8_stageAt x1 ((gI σ (q0 + 1) (Int32.toNatClampNeg v18)) - 1) 2) fun v21 =>
if inb v21 257 = true then (bnd (gI σ (q0 + 1) (Int32.toNatClampNeg v21)) fun v23 =>
obd (f_X8_reached q0 x1 σ) fun v26 =>
if v26 = ((1 <<< ((gI σ (q0 + 1) (Int32.toNatClampNeg 0)) &&& 31)) - 1) then (f_X8_lacks_B52 σ q0 x1 v16 v23 true) else (f_X8_lacks_B52 σ q0 x1 v16 v23 false)) else none) else none
noncomputable def f_X8_areAllDone_L4 (σ : St) (q0 : Nat) (x1 : Int32) (rec4 : Bool → Int32 → Option Bool) (b2 : Bool) (x3 : Int32) : Option Bool :=
if 5 ≤ x3 then (some b2) else (if b2 = true then (if ((x1 >>> (x3 &&& 31)) &&& 1) = 0 then (bnd (x3 + 1) fun v6 =>
rec4 true v6) else (bnd (f_X8_at x3 1) fun v9 =>
if inb v9 257 = true then (if (gI σ (q0 + 1) (Int32.toNatClampNeg v9)) = 3 then (bnd (x3 + 1) fun v14 =>
rec4 true v14) else (bnd (x3 + 1) fun v12 =>
rec4 false v12)) else none)) else (bnd (x3 + 1) fun v3 =>
rec4 false v3))
noncomputable def f_X8_areAllDone (q0 : Nat) (x1 : Int32) (σ : St) : Option Bool :=
it2 (f_X8_areAllDone_L4 σ q0 x1) sr_fuel true 0
noncomputable def f_X8_isOtherRisk_B48 (σ : St) (q0 : Nat) (x1 : Int32) (rec4 : Bool → Int32 → Option Bool) (b2 : Bool) (x3 : Int32) (sb0 : Bool) : Option Bool :=
if b2 = true then (bnd (x3 + 1) fun v2 =>
rec4 true v2) else (if x3 = x1 then (bnd (x3 + 1) fun v5 =>
rec4 false v5) else (bnd (f_X8_at x3 0) fun v8 =>
if inb v8 257 = true then (if (gI σ (q0 + 1) (Int32.toNatClampNeg v8)) = 1 then (if sb0 = true then (bnd (f_X8_at x3 3) fun v17 =>
if inb v17 257 = true then (if (gI σ (q0 + 1) (Int32.toNatClampNeg v17)) ≤ 0 then (bnd (x3 + 1) fun v20 =>
rec4 false v20) else (bnd (x3 + 1) fun v22 =>
rec4 true v22)) else none) else (bnd (x3 + 1) fun v14 =>
rec4 false v14)) else (bnd (x3 + 1) fun v11 =>
rec4 false v11)) else none))
noncomputable def f_X8_isOtherRisk_L4 (σ : St) (q0 : Nat) (x1 : Int32) (rec4 : Bool → Int32 → Option Bool) (b2 : Bool) (x3 : Int32) : Option Bool :=
if (gI σ (q0 + 1) (Int32.toNatClampNeg 10)) ≤ x3 then (if b2 = true then (bnd (f_X8_at x1 0) fun v27 =>
if inb v27 257 = true then (if (gI σ (q0 + 1) (Int32.toNatClampNeg v27)) = 1 then (some true) else (some false)) else none) else (some false)) else (bnd (f_X8_at x3 1) fun v31 =>
if inb v31 257 = true then (bnd (gI σ (q0 + 1) (Int32.toNatClampNeg v31)) fun v33 =>
bnd (f_X8_in v33 1 2) fun v36 =>
if v36 = true then (f_X8_isOtherRisk_B48 σ q0 x1 rec4 b2 x3 true) else (if v33 = 4 then (f_X8_isOtherRisk_B48 σ q0 x1 rec4 b2 x3 true) else (f_X8_isOtherRisk_B48 σ q0 x1 rec4 b2 x3 false))) else none)
noncomputable def f_X8_isOtherRisk (q0 : Nat) (x1 : Int32) (σ : St) : Option Bool :=
it2 (f_X8_isOtherRisk_L4 σ q0 x1) sr_fuel false 0
noncomputable def f_X8_reason_B149 (σ : St) (q0 : Nat) (x1 : Int32) (x3 : Int32) : Option Int32 :=
if x3 = 0 then (obd (f_X8_isOtherRisk q0 x1 σ) fun v3 =>
if v3 = true then (some 8) else (some 0)) else (some 0)
noncomputable def f_X8_reason_B125 (σ : St) (q0 : Nat) (x1 : Int32) (x3 : Int32) : Option Int32 :=
if x3 = 0 then (bnd (f_X8_at x1 4) fun v7 =>
if inb v7 257 = true then (obd (f_X8_areAllDone q0 (gI σ (q0 + 1) (Int32.toNatClampNeg v7)) σ) fun v10 =>
if v10 = true then (f_X8_reason_B149 σ q0 x1 x3) else (some 7)) else none) else (f_X8_reason_B149 σ q0 x1 x3)
noncomputable def f_X8_reason_B91 (σ : St) (q0 : Nat) (x1 : Int32) (x3 : Int32) : Option Int32 :=
bnd (f_X8_at x1 2) fun v13 =>
if inb v13 257 = true then (if (gI σ (q0 + 1) (Int32.toNatClampNeg v13)) ≤ x3 then (f_X8_reason_B125 σ q0 x1 x3) else (obd (f_X8_isFrozenHour q0 (irm (gI σ (q0 + 1) (Int32.toNatClampNeg 1)) 168) σ) fun v17 =>
if v17 = true then (some 6) else (f_X8_reason_B125 σ q0 x1 x3))) else none
noncomputable def f_X8_reason_B77 (σ : St) (q0 : Nat) (x1 : Int32) (x3 : Int32) : Option Int32 :=
if x3 ≤ 0 then (f_X8_reason_B91 σ q0 x1 x3) else (obd (f_X8_lacks q0 x1 σ) fun v21 =>
if v21 = true then (some 5) else (f_X8_reason_B91 σ q0 x1 x3))
noncomputable def f_X8_reason (q0 : Nat) (x1 : Int32) (σ : St) : Option Int32 :=
bnd (f_X8_at x1 1) fun v24 =>
if inb v24 257 = true then (bnd (gI σ (q0 + 1) (Int32.toNatClampNeg v24)) fun v26 =>
bnd (f_X8_at x1 3) fun v29 =>
if inb v29 257 = true then (bnd (gI σ (q0 + 1) (Int32.toNatClampNeg v29)) fun v31 =>
if v26 = 4 then (if v26 = 4 then (some 2) else (some 3)) else (if v26 = 2 then (if v26 = 4 then (some 2) else (some 3)) else (if v26 = 1 then (if v31 ≤ 0 then (f_X8_reason_B77 σ q0 x1 v31) else (obd (f_X8_hoursSince q0 x1 σ) fun v39 =>
bnd (f_X8_stageAt x1 (v31 - 1) 1) fun v41 =>
if inb v41 257 = true then (if (gI σ (q0 + 1) (Int32.toNatClampNeg v41)) ≤ v39 then (f_X8_reason_B77 σ q0 x1 v31) else (some 4)) else none)) else (some 1)))) else none) else none
noncomputable def f_X8_turnsOn_B43 (q0 : Nat) (x1 : Int32)  (σ : St) : Option St :=
bnd (f_X8_at x1 3) fun v2 =>
if inb v2 257 = true then (if (gI σ (q0 + 1) (Int32.toNatClampNeg v2)) = 0 then (ob2 (f_X8_becomes q0 x1 5 5 σ) fun v6 σ7 =>
some σ7) else (some σ)) else none
noncomputable def f_X8_turnsOn (q0 : Nat) (x1 : Int32) (σ : St) : Option St :=
bnd (f_X8_at x1 3) fun v9 =>
if inb v9 257 = true then (if (gI σ (q0 + 1) (Int32.toNatClampNeg v9)) ≤ 0 then (f_X8_turnsOn_B43 q0 x1  σ) else (bnd (f_X8_at x1 3) fun v13 =>
if inb v13 257 = true then (if inb v13 257 = true then (bnd (sI σ (q0 + 1) (Int32.toNatClampNeg v13) ((gI σ (q0 + 1) (Int32.toNatClampNeg v13)) - 1)) fun σ16 =>
bnd (f_X8_at x1 3) fun v19 =>
if inb v19 257 = true then (obd (f_X8_notes q0 x1 4 (gI σ16 (q0 + 1) (Int32.toNatClampNeg v19)) σ16) fun σ22 =>
f_X8_turnsOn_B43 q0 x1  σ22) else none) else none) else none)) else none
noncomputable def f_X8_goesOn_L67 (q0 : Nat) (x1 : Int32) (rec67 : Int32 → Int32 → St → Option St) (x2 : Int32) (x3 : Int32) (σ : St) : Option St :=
if 4 ≤ x3 then (obd (f_X8_notes q0 x1 1 x2 σ) fun σ3 =>
some σ3) else (bnd (f_X8_at x1 (5 + x3)) fun v5 =>
if inb v5 257 = true then (bnd (sI σ (q0 + 1) (Int32.toNatClampNeg v5) 0) fun σ7 =>
bnd (x3 + 1) fun v9 =>
rec67 x2 v9 σ7) else none)
noncomputable def f_X8_goesOn (q0 : Nat) (x1 : Int32) (σ : St) : Option St :=
bnd (f_X8_at x1 3) fun v12 =>
if inb v12 257 = true then (bnd (gI σ (q0 + 1) (Int32.toNatClampNeg v12)) fun v14 =>
bnd (f_X8_at x1 2) fun v17 =>
if inb v17 257 = true then (if v14 = (gI σ (q0 + 1) (Int32.toNatClampNeg v17)) then (ob2 (f_X8_becomes q0 x1 3 2 σ) fun v32 σ33 =>
some σ33) else (bnd (f_X8_stageAt x1 v14 3) fun v21 =>
if inb v21 257 = true then (bnd (sI σ (q0 + 1) (Int32.toNatClampNeg v21) (gI σ (q0 + 1) (Int32.toNatClampNeg 1))) fun σ23 =>
bnd (f_X8_at x1 3) fun v26 =>
if inb v26 257 = true then (if inb v26 257 = true then (bnd (sI σ23 (q0 + 1) (Int32.toNatClampNeg v26) ((gI σ23 (q0 + 1) (Int32.toNatClampNeg v26)) + 1)) fun σ29 =>
it3 (f_X8_goesOn_L67 q0 x1) sr_fuel v14 0 σ29) else none) else none) else none)) else none) else none
noncomputable def f_X8_passes_B40 (q0 : Nat) (rec2 : Int32 → St → Option St) (x1 : Int32) (σ : St) : Option St :=
bnd (f_X8_at x1 1) fun v2 =>
if inb v2 257 = true then (if (gI σ (q0 + 1) (Int32.toNatClampNeg v2)) = 4 then (obd (f_X8_turnsOn q0 x1 σ) fun σ21 =>
bnd (x1 + 1) fun v22 =>
rec2 v22 σ21) else (bnd (f_X8_at x1 1) fun v6 =>
if inb v6 257 = true then (if (gI σ (q0 + 1) (Int32.toNatClampNeg v6)) = 1 then (obd (f_X8_reason q0 x1 σ) fun v12 =>
if v12 = 0 then (obd (f_X8_goesOn q0 x1 σ) fun σ17 =>
bnd (x1 + 1) fun v18 =>
rec2 v18 σ17) else (bnd (x1 + 1) fun v14 =>
rec2 v14 σ)) else (bnd (x1 + 1) fun v9 =>
rec2 v9 σ)) else none)) else none
noncomputable def f_X8_passes_L2 (q0 : Nat) (rec2 : Int32 → St → Option St) (x1 : Int32) (σ : St) : Option St :=
if (gI σ (q0 + 1) (Int32.toNatClampNeg 10)) ≤ x1 then (bnd (sI σ (q0 + 1) (Int32.toNatClampNeg 1) ((gI σ (q0 + 1) (Int32.toNatClampNeg 1)) + 1)) fun σ25 =>
some σ25) else (obd (f_X8_isOut q0 x1 σ) fun v28 =>
if v28 = true then (ob2 (f_X8_isBad q0 x1 σ) fun v31 σ32 =>
if v31 = true then (ob2 (f_X8_becomes q0 x1 4 3 σ32) fun v35 σ36 =>
bnd (x1 + 1) fun v37 =>
rec2 v37 σ36) else (f_X8_passes_B40 q0 rec2 x1 σ32)) else (f_X8_passes_B40 q0 rec2 x1 σ))
noncomputable def f_X8_passes (q0 : Nat) (σ : St) : Option St :=
it2 (f_X8_passes_L2 q0) sr_fuel 0 σ
noncomputable def f_X8_pass_L20 (q0 : Nat) (x1 : Int32) (rec20 : Int32 → St → Option (Int32 × St)) (x2 : Int32) (σ : St) : Option (Int32 × St) :=
if x1 ≤ x2 then (some ((gI σ q0 7), σ)) else (obd (f_X8_passes q0 σ) fun σ3 =>
bnd (x2 + 1) fun v4 =>
rec20 v4 σ3)
noncomputable def f_X8_pass (q0 : Nat) (x1 : Int32) (σ : St) : Option (Int32 × St) :=
bnd (f_X8_in x1 1 100) fun v7 =>
if v7 = true then (bnd (sI σ q0 7 0) fun σ9 =>
it2 (f_X8_pass_L20 q0 x1) sr_fuel 0 σ9) else (some ((-12), σ))
noncomputable def f_X8_time (q0 : Nat) (σ : St) : Int32 :=
(gI σ (q0 + 1) (Int32.toNatClampNeg 1))
noncomputable def f_X8_tells (q0 : Nat) (x1 : Int32) (x2 : Int32) (σ : St) : Option Int32 :=
if x2 = 0 then (bnd (f_X8_at x1 1) fun v3 =>
if inb v3 257 = true then (some (gI σ (q0 + 1) (Int32.toNatClampNeg v3))) else none) else if x2 = 1 then (bnd (f_X8_at x1 2) fun v7 =>
if inb v7 257 = true then (some (gI σ (q0 + 1) (Int32.toNatClampNeg v7))) else none) else if x2 = 2 then (bnd (f_X8_at x1 3) fun v11 =>
if inb v11 257 = true then (some (gI σ (q0 + 1) (Int32.toNatClampNeg v11))) else none) else if x2 = 3 then (obd (f_X8_hoursSince q0 x1 σ) fun v15 =>
some v15) else if x2 = 4 then (obd (f_X8_reason q0 x1 σ) fun v18 =>
some v18) else if x2 = 5 then (bnd (f_X8_at x1 4) fun v21 =>
if inb v21 257 = true then (some (gI σ (q0 + 1) (Int32.toNatClampNeg v21))) else none) else (bnd (f_X8_at x1 0) fun v24 =>
if inb v24 257 = true then (some (gI σ (q0 + 1) (Int32.toNatClampNeg v24))) else none)
noncomputable def f_X8_change (q0 : Nat) (x1 : Int32) (x2 : Int32) (σ : St) : Option Int32 :=
bnd (f_X8_isChange q0 x1 σ) fun v2 =>
if v2 = true then (bnd (f_X8_in x2 0 6) fun v5 =>
if v5 = true then (obd (f_X8_tells q0 x1 x2 σ) fun v8 =>
some v8) else (some (-12))) else (some (-11))
noncomputable def f_X8_probes (q0 : Nat) (x1 : Int32) (x2 : Int32) (σ : St) : Option Int32 :=
bnd (f_X8_isChange q0 x1 σ) fun v2 =>
if v2 = true then (bnd (f_X8_in x2 0 3) fun v5 =>
if v5 = true then (bnd (f_X8_at x1 (5 + x2)) fun v8 =>
if inb v8 257 = true then (some (gI σ (q0 + 1) (Int32.toNatClampNeg v8))) else none) else (some (-12))) else (some (-11))
noncomputable def f_X8_chance (q0 : Nat) (x1 : Int32) (b2 : Bool) (σ : St) : Option (Int64 × St) :=
bnd (f_X8_isChange q0 x1 σ) fun v2 =>
if v2 = true then (obd (f_X8_findChance q0 x1 σ) fun σ5 =>
if b2 = true then (obd (f_X8_divisor (gL σ5 q0 13) (gL σ5 q0 14)) fun v11 =>
if ¬ v11 = 0 then (some (((gL σ5 q0 14) / v11), σ5)) else none) else (obd (f_X8_divisor (gL σ5 q0 13) (gL σ5 q0 14)) fun v8 =>
if ¬ v8 = 0 then (some (((gL σ5 q0 13) / v8), σ5)) else none)) else (some ((-11), σ))
noncomputable def f_X8_having_L4 (σ : St) (q0 : Nat) (x1 : Int32) (rec4 : Int32 → Int32 → Option Int32) (x2 : Int32) (x3 : Int32) : Option Int32 :=
if (gI σ (q0 + 1) (Int32.toNatClampNeg 10)) ≤ x3 then (some x2) else (obd (f_X8_reached q0 x3 σ) fun v3 =>
bnd (x2 ||| (((v3 >>> (x1 &&& 31)) &&& 1) <<< (x3 &&& 31))) fun v4 =>
bnd (x3 + 1) fun v6 =>
rec4 v4 v6)
noncomputable def f_X8_having (q0 : Nat) (x1 : Int32) (σ : St) : Option Int32 :=
it2 (f_X8_having_L4 σ q0 x1) sr_fuel 0 0
noncomputable def f_X8_has (q0 : Nat) (x1 : Int32) (σ : St) : Option Int32 :=
bnd (f_X8_isCell q0 x1 σ) fun v2 =>
if v2 = true then (obd (f_X8_having q0 x1 σ) fun v5 =>
some v5) else (some (-11))
noncomputable def f_X8_isFrozen (q0 : Nat) (x1 : Int32) (σ : St) : Option Int32 :=
bnd (f_X8_in x1 0 167) fun v2 =>
if v2 = true then (obd (f_X8_isFrozenHour q0 x1 σ) fun v5 =>
if v5 = true then (some 1) else (some 0)) else (some (-12))
noncomputable def f_X8_isOver (q0 : Nat) (x1 : Int32) (σ : St) : Option Bool :=
bnd (f_X8_at x1 1) fun v2 =>
if inb v2 257 = true then (if (gI σ (q0 + 1) (Int32.toNatClampNeg v2)) = 3 then (some true) else (bnd (f_X8_at x1 1) fun v6 =>
if inb v6 257 = true then (if (gI σ (q0 + 1) (Int32.toNatClampNeg v6)) = 5 then (some true) else (some false)) else none)) else none
noncomputable def f_X8_forecast_L93 (q0 : Nat) (x1 : Int32) (rec93 : Int32 → Int32 → St → Option (Int32 × St)) (x3 : Int32) (x4 : Int32) (σ : St) : Option (Int32 × St) :=
if 257 ≤ x4 then (some (x3, σ)) else (if inb x4 257 = true then (if inb x4 257 = true then (bnd (sI σ (q0 + 1) (Int32.toNatClampNeg x4) (gI σ (q0 + 2) (Int32.toNatClampNeg x4))) fun σ4 =>
bnd (x4 + 1) fun v6 =>
rec93 x3 v6 σ4) else none) else none)
noncomputable def f_X8_forecast_B70 (q0 : Nat) (x1 : Int32) (x2 : Int32) (σ : St) : Option (Int32 × St) :=
obd (f_X8_isOver q0 x1 σ) fun v9 =>
if v9 = true then (bnd (sB σ q0 6 false) fun σ13 =>
it3 (f_X8_forecast_L93 q0 x1) sr_fuel x2 0 σ13) else (bnd (sB σ q0 6 false) fun σ11 =>
it3 (f_X8_forecast_L93 q0 x1) sr_fuel (-15) 0 σ11)
noncomputable def f_X8_forecast_L45 (q0 : Nat) (x1 : Int32) (rec45 : Int32 → St → Option (Int32 × St)) (x2 : Int32) (σ : St) : Option (Int32 × St) :=
if 400 ≤ x2 then (f_X8_forecast_B70 q0 x1 x2 σ) else (obd (f_X8_isOver q0 x1 σ) fun v17 =>
if v17 = true then (f_X8_forecast_B70 q0 x1 x2 σ) else (obd (f_X8_passes q0 σ) fun σ20 =>
bnd (x2 + 1) fun v21 =>
rec45 v21 σ20))
noncomputable def f_X8_forecast_L13 (q0 : Nat) (x1 : Int32) (rec13 : Int32 → St → Option (Int32 × St)) (x2 : Int32) (σ : St) : Option (Int32 × St) :=
if 257 ≤ x2 then (bnd (sB σ q0 6 true) fun σ24 =>
it2 (f_X8_forecast_L45 q0 x1) sr_fuel 0 σ24) else (if inb x2 257 = true then (if inb x2 257 = true then (bnd (sI σ (q0 + 2) (Int32.toNatClampNeg x2) (gI σ (q0 + 1) (Int32.toNatClampNeg x2))) fun σ28 =>
bnd (x2 + 1) fun v30 =>
rec13 v30 σ28) else none) else none)
noncomputable def f_X8_forecast (q0 : Nat) (x1 : Int32) (σ : St) : Option (Int32 × St) :=
bnd (f_X8_isChange q0 x1 σ) fun v33 =>
if v33 = true then (it2 (f_X8_forecast_L13 q0 x1) sr_fuel 0 σ) else (some ((-11), σ))
noncomputable def f_X8_entries (q0 : Nat) (σ : St) : Int32 :=
(gI σ (q0 + 1) (Int32.toNatClampNeg 11))
noncomputable def f_X8_entry (q0 : Nat) (x1 : Int32) (x2 : Int32) (σ : St) : Option Int32 :=
bnd (f_X8_in x1 0 ((gI σ (q0 + 1) (Int32.toNatClampNeg 11)) - 1)) fun v2 =>
if v2 = true then (bnd (f_X8_in x2 0 3) fun v5 =>
if v5 = true then (bnd ((12 + (4 * x1)) + x2) fun v7 =>
if inb v7 257 = true then (some (gI σ (q0 + 1) (Int32.toNatClampNeg v7))) else none) else (some (-12))) else (some (-11))
noncomputable def f_X8_count_L35 (σ : St) (q0 : Nat) (x1 : Int32) (x2 : Int32) (rec35 : Int32 → Int32 → Option Int32) (x3 : Int32) (x4 : Int32) : Option Int32 :=
if (12 + (4 * (gI σ (q0 + 1) (Int32.toNatClampNeg 11)))) ≤ x4 then (some x3) else (bnd (x4 + 2) fun v2 =>
if inb v2 257 = true then (if (gI σ (q0 + 1) (Int32.toNatClampNeg v2)) = x1 then (if x2 = (-1) then (bnd (x3 + 1) fun v11 =>
bnd (x4 + 4) fun v13 =>
rec35 v11 v13) else (bnd (x4 + 1) fun v15 =>
if inb v15 257 = true then (if (gI σ (q0 + 1) (Int32.toNatClampNeg v15)) = x2 then (bnd (x3 + 1) fun v23 =>
bnd (x4 + 4) fun v25 =>
rec35 v23 v25) else (bnd (x3 + 0) fun v19 =>
bnd (x4 + 4) fun v21 =>
rec35 v19 v21)) else none)) else (bnd (x3 + 0) fun v6 =>
bnd (x4 + 4) fun v8 =>
rec35 v6 v8)) else none)
noncomputable def f_X8_count (q0 : Nat) (x1 : Int32) (x2 : Int32) (σ : St) : Option Int32 :=
bnd (f_X8_in x1 1 7) fun v28 =>
if v28 = true then (if x2 = (-1) then (it2 (f_X8_count_L35 σ q0 x1 x2) sr_fuel 0 12) else (bnd (f_X8_isChange q0 x2 σ) fun v32 =>
if v32 = true then (it2 (f_X8_count_L35 σ q0 x1 x2) sr_fuel 0 12) else (some (-11)))) else (some (-12))
noncomputable def f_X8_save_L14 (q0 : Nat) (x1 : Int32) (rec14 : Int32 → St → Option (Int32 × St)) (x2 : Int32) (σ : St) : Option (Int32 × St) :=
if 257 ≤ x2 then (if inb x1 2 = true then (bnd (sB σ (q0 + 4) (Int32.toNatClampNeg x1) true) fun σ3 =>
some ((gI σ3 (q0 + 1) (Int32.toNatClampNeg 1)), σ3)) else none) else (if inb x2 257 = true then (bnd ((257 * x1) + x2) fun v6 =>
if inb v6 514 = true then (bnd (sI σ (q0 + 3) (Int32.toNatClampNeg v6) (gI σ (q0 + 1) (Int32.toNatClampNeg x2))) fun σ9 =>
bnd (x2 + 1) fun v11 =>
rec14 v11 σ9) else none) else none)
noncomputable def f_X8_save (q0 : Nat) (x1 : Int32) (σ : St) : Option (Int32 × St) :=
bnd (f_X8_in x1 0 1) fun v14 =>
if v14 = true then (it2 (f_X8_save_L14 q0 x1) sr_fuel 0 σ) else (some ((-11), σ))
noncomputable def f_X8_restore_L26 (q0 : Nat) (x1 : Int32) (rec26 : Int32 → St → Option (Int32 × St)) (x2 : Int32) (σ : St) : Option (Int32 × St) :=
if 257 ≤ x2 then (some ((gI σ (q0 + 1) (Int32.toNatClampNeg 1)), σ)) else (bnd ((257 * x1) + x2) fun v2 =>
if inb v2 514 = true then (if inb x2 257 = true then (bnd (sI σ (q0 + 1) (Int32.toNatClampNeg x2) (gI σ (q0 + 3) (Int32.toNatClampNeg v2))) fun σ6 =>
bnd (x2 + 1) fun v8 =>
rec26 v8 σ6) else none) else none)
noncomputable def f_X8_restore (q0 : Nat) (x1 : Int32) (σ : St) : Option (Int32 × St) :=
bnd (f_X8_in x1 0 1) fun v11 =>
if v11 = true then (if inb x1 2 = true then (if (gB σ (q0 + 4) (Int32.toNatClampNeg x1)) = true then (it2 (f_X8_restore_L26 q0 x1) sr_fuel 0 σ) else (some ((-13), σ))) else none) else (some ((-11), σ))
noncomputable def f_X8_more (w0 : Int64) (w2 : Int64) : Int64 :=
((31 * w0) + w2)
noncomputable def f_X8_checksum_L172 (q0 : Nat) (rec172 : Int64 → Int32 → St → Option (Int64 × St)) (w1 : Int64) (x3 : Int32) (σ : St) : Option (Int64 × St) :=
if (12 + (4 * (gI σ (q0 + 1) (Int32.toNatClampNeg 11)))) ≤ x3 then (some (w1, σ)) else (if inb x3 257 = true then (bnd (f_X8_more w1 (Int32.toInt64 (gI σ (q0 + 1) (Int32.toNatClampNeg x3)))) fun v4 =>
bnd (x3 + 1) fun v5 =>
rec172 v4 v5 σ) else none)
noncomputable def f_X8_checksum_L129 (q0 : Nat) (rec129 : Int64 → Int32 → St → Option (Int64 × St)) (w1 : Int64) (x3 : Int32) (σ : St) : Option (Int64 × St) :=
if (gI σ (q0 + 1) (Int32.toNatClampNeg 0)) ≤ x3 then (bnd (f_X8_more w1 (Int32.toInt64 (gI σ (q0 + 1) (Int32.toNatClampNeg 11)))) fun v9 =>
it3 (f_X8_checksum_L172 q0) sr_fuel v9 12 σ) else (obd (f_X8_having q0 x3 σ) fun v11 =>
bnd (f_X8_more w1 (Int32.toInt64 v11)) fun v13 =>
bnd (x3 + 1) fun v14 =>
rec129 v13 v14 σ)
noncomputable def f_X8_checksum_L70 (q0 : Nat) (rec27 : Int64 → Int32 → St → Option (Int64 × St)) (rec70 : Int64 → Int32 → Int32 → St → Option (Int64 × St)) (w1 : Int64) (x3 : Int32) (x4 : Int32) (σ : St) : Option (Int64 × St) :=
if 4 ≤ x4 then (ob2 (f_X8_chance q0 x3 false σ) fun v18 σ19 =>
bnd (f_X8_more w1 v18) fun v21 =>
ob2 (f_X8_chance q0 x3 true σ19) fun v23 σ24 =>
bnd (f_X8_more v21 v23) fun v26 =>
bnd (x3 + 1) fun v27 =>
rec27 v26 v27 σ24) else (bnd (f_X8_at x3 (5 + x4)) fun v30 =>
if inb v30 257 = true then (bnd (f_X8_more w1 (Int32.toInt64 (gI σ (q0 + 1) (Int32.toNatClampNeg v30)))) fun v33 =>
bnd (x4 + 1) fun v34 =>
rec70 v33 x3 v34 σ) else none)
noncomputable def f_X8_checksum_L41 (q0 : Nat) (rec27 : Int64 → Int32 → St → Option (Int64 × St)) (rec41 : Int64 → Int32 → Int32 → St → Option (Int64 × St)) (w1 : Int64) (x3 : Int32) (x4 : Int32) (σ : St) : Option (Int64 × St) :=
if 7 ≤ x4 then (it4 (f_X8_checksum_L70 q0 rec27) sr_fuel w1 x3 0 σ) else (obd (f_X8_tells q0 x3 x4 σ) fun v38 =>
bnd (f_X8_more w1 (Int32.toInt64 v38)) fun v40 =>
bnd (x4 + 1) fun v41 =>
rec41 v40 x3 v41 σ)
noncomputable def f_X8_checksum_L27 (q0 : Nat) (rec27 : Int64 → Int32 → St → Option (Int64 × St)) (w1 : Int64) (x3 : Int32) (σ : St) : Option (Int64 × St) :=
if (gI σ (q0 + 1) (Int32.toNatClampNeg 10)) ≤ x3 then (it3 (f_X8_checksum_L129 q0) sr_fuel w1 0 σ) else (it4 (f_X8_checksum_L41 q0 rec27) sr_fuel w1 x3 0 σ)
noncomputable def f_X8_checksum (q0 : Nat) (σ : St) : Option (Int64 × St) :=
bnd (f_X8_more 79 (Int32.toInt64 (gI σ (q0 + 1) (Int32.toNatClampNeg 1)))) fun v45 =>
bnd (f_X8_more v45 (Int32.toInt64 (gI σ (q0 + 1) (Int32.toNatClampNeg 10)))) fun v47 =>
it3 (f_X8_checksum_L27 q0) sr_fuel v47 0 σ
