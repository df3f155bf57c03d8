def f_X4_leftOf (σ0 : St) (o : Int) (a1 : Int) : Option Int :=
if 0 < wI a1 then
  if wI a1 < wI (σ0 o 3) then
    rdA 8 σ0 (o + 1) (a1 - 1) fun v3 =>
    some v3
  else
    some 6
else
  some 6
def f_X4_rightOf (σ0 : St) (o : Int) (a1 : Int) : Option Int :=
if wI a1 < 0 then
  some 6
else
  if wI a1 < wI ((σ0 o 3) - 1) then
    rdA 8 σ0 (o + 1) (a1 + 1) fun v3 =>
    some v3
  else
    some 6
def f_X3_besidePart (σ0 : St) (a1 : Int) (a2 : Int) : Option Int :=
rdA 40 σ0 3 a1 fun v1 =>
bd1 (f_X4_leftOf σ0 10 a2) fun v2 =>
bnd (if wI v1 = wI v2 then 0 else 2) fun v4 =>
rdA 40 σ0 4 a1 fun v5 =>
bd1 (f_X4_rightOf σ0 10 a2) fun v6 =>
bnd (if wI v5 = wI v6 then 0 else 2) fun v8 =>
some (v4 + v8)
def f_X3_ofFit (σ0 : St) (a1 : Int) (a2 : Int) (a3 : Int) : Option Int :=
rdA 40 σ0 5 a2 fun v1 =>
rdA 8 σ0 12 a3 fun v2 =>
bnd (f_J9_abs_0f7a4 (v1 - v2)) fun v3 =>
rdA 40 σ0 6 a2 fun v4 =>
rdA 8 σ0 13 a3 fun v5 =>
bnd (v3 + (f_J9_abs_0f7a4 (v4 - v5))) fun v6 =>
if wI a1 = 1 then
  bd1 (f_X3_besidePart σ0 a2 a3) fun v8 =>
  some (v6 + v8)
else
  if wI a1 = 2 then
    some (v6 + v3)
  else
    if wI a1 = 3 then
      bd1 (f_X3_besidePart σ0 a2 a3) fun v11 =>
      some (2 * (v6 + v11))
    else
      if wI a1 = 4 then
        some (divI (v6 + v3) 2)
      else
        some v6
def f_X5_begin (σ : St) (o : Int) (a1 : Int) : Option (Int × St) :=
wrA (uvLn (o + 1)) σ (o + 1) a1 1000000 fun σ1 =>
wrA (uvLn (o + 2)) σ1 (o + 2) a1 1000000 fun σ2 =>
wrA (uvLn (o + 3)) σ2 (o + 3) a1 0 fun σ3 =>
wrA (uvLn (o + 4)) σ3 (o + 4) a1 0 fun σ4 =>
wrA (uvLn (o + 5)) σ4 (o + 5) a1 0 fun σ5 =>
some (0, σ5)
def f_X5_offer (σ : St) (o : Int) (a1 : Int) (a2 : Int) (a3 : Int) (a4 : Int) : Option (Int × St) :=
rdA (uvLn (a3 + 1)) σ (a3 + 1) a4 fun v1 =>
bnd (a2 + v1) fun v2 =>
rdA (uvLn (o + 3)) σ (o + 3) a1 fun v3 =>
rdA (uvLn (a3 + 3)) σ (a3 + 3) a4 fun v4 =>
wrA (uvLn (o + 3)) σ (o + 3) a1 (f_J9_max_7cf53 v3 (a2 + v4)) fun σ5 =>
rdA (uvLn (o + 1)) σ5 (o + 1) a1 fun v6 =>
if wI v2 < wI v6 then
  rdA (uvLn (o + 1)) σ5 (o + 1) a1 fun v8 =>
  rdA (uvLn (a3 + 2)) σ5 (a3 + 2) a4 fun v9 =>
  wrA (uvLn (o + 2)) σ5 (o + 2) a1 (f_J9_min_7cf53 v8 (a2 + v9)) fun σ10 =>
  wrA (uvLn (o + 1)) σ10 (o + 1) a1 v2 fun σ11 =>
  rdA (uvLn (a3 + 4)) σ11 (a3 + 4) a4 fun v12 =>
  wrA (uvLn (o + 4)) σ11 (o + 4) a1 v12 fun σ13 =>
  wrA (uvLn (o + 5)) σ13 (o + 5) a1 a4 fun σ14 =>
  some (0, σ14)
else
  rdA (uvLn (o + 2)) σ5 (o + 2) a1 fun v15 =>
  wrA (uvLn (o + 2)) σ5 (o + 2) a1 (f_J9_min_7cf53 v15 v2) fun σ16 =>
  rdA (uvLn (o + 1)) σ16 (o + 1) a1 fun v17 =>
  if wI v2 = wI v17 then
    rdA (uvLn (o + 4)) σ16 (o + 4) a1 fun v19 =>
    rdA (uvLn (a3 + 4)) σ16 (a3 + 4) a4 fun v20 =>
    wrA (uvLn (o + 4)) σ16 (o + 4) a1 (f_J9_min_7cf53 1000000000 (v19 + v20)) fun σ21 =>
    some (0, σ21)
  else
    some (0, σ16)
def f_X3_ofJoint (σ0 : St) (a1 : Int) (a2 : Int) : Option Int :=
rdA 40 σ0 8 a1 fun v1 =>
if wI v1 = wI a2 then
  some 0
else
  rdA 40 σ0 4 a1 fun v3 =>
  rdA 40 σ0 2 a2 fun v4 =>
  bnd (if wI v3 = wI v4 then 0 else 2) fun v6 =>
  rdA 40 σ0 3 a2 fun v7 =>
  rdA 40 σ0 2 a1 fun v8 =>
  bnd (if wI v7 = wI v8 then 0 else 2) fun v10 =>
  rdA 40 σ0 5 a1 fun v11 =>
  rdA 40 σ0 5 a2 fun v12 =>
  some (((3 + (f_J9_abs_0f7a4 (v11 - v12))) + v6) + v10)
def lp_X0_weighEntry_80 (x2 : Int) (x3 : Int) (x4 : Int) (x5 : Int) (x6 : Int) (kx : St → Option (Int × St)) : Nat → St → Int → Option (Int × St)
  | 0, _, _ => none
  | n + 1, σ, x7 =>
    if wI x7 < wI (σ x6 1) then
      rdA 40 σ (x6 + 1) x7 fun v10 =>
      bd1 (f_X3_ofJoint σ x4 v10) fun v11 =>
      ixA 8 x2 <|
      ixA 8 (x2 + 1) <|
      bd2 (f_X5_offer σ (70 + 6 * x2) x3 (x5 + v11) (70 + 6 * (x2 + 1)) x7) fun v14 σ15 =>
      lp_X0_weighEntry_80 x2 x3 x4 x5 x6 kx n σ15 (x7 + 1)
    else
      kx σ
def f_X0_weighEntry (σ : St) (a1 : Int) (a2 : Int) (a3 : Int) : Option (Int × St) :=
ixA 8 a2 <|
rdA 40 σ (38 + 2 * a2 + 1) a3 fun v2 =>
bd1 (f_X3_ofFit σ a1 v2 a2) fun v3 =>
ixA 8 a2 <|
bd2 (f_X5_begin σ (70 + 6 * a2) a3) fun v5 σ6 =>
if wI (a2 + 1) < wI (σ6 10 3) then
  ixA 8 (a2 + 1) <|
  lp_X0_weighEntry_80 a2 a3 v2 v3 (38 + 2 * (a2 + 1)) (fun σ16 =>
      some (0, σ16)) 1000 σ6 0
else
  ixA 8 a2 <|
  bd2 (f_X5_offer σ6 (70 + 6 * a2) a3 v3 63 0) fun v18 σ19 =>
  some (0, σ19)
def lp_X0_weigh_16 (x1 : Int) (x2 : Int) (kx : St → Option (Int × St)) : Nat → St → Int → Option (Int × St)
  | 0, _, _ => none
  | n + 1, σ, x3 =>
    ixA 8 x2 <|
    if wI x3 < wI (σ (38 + 2 * x2) 1) then
      bd2 (f_X0_weighEntry σ x1 x2 x3) fun v5 σ6 =>
      lp_X0_weigh_16 x1 x2 kx n σ6 (x3 + 1)
    else
      kx σ
def lp_X0_weigh_10 (x1 : Int) (kx : St → Option (Int × St)) : Nat → St → Int → Option (Int × St)
  | 0, _, _ => none
  | n + 1, σ, x2 =>
    if wI x2 < 0 then
      kx σ
    else
      lp_X0_weigh_16 x1 x2 (fun σ7 =>
          lp_X0_weigh_10 x1 kx n σ7 (x2 + (-1))) 1000 σ 0
def lp_X0_weigh_58 (kx : St → Option (Int × St)) : Nat → St → Int → Option (Int × St)
  | 0, _, _ => none
  | n + 1, σ, x2 =>
    ixA 8 0 <|
    if wI x2 < wI (σ (38 + 2 * 0) 1) then
      ixA 8 0 <|
      bd2 (f_X5_offer σ 57 0 0 (70 + 6 * 0) x2) fun v14 σ15 =>
      lp_X0_weigh_58 kx n σ15 (x2 + 1)
    else
      kx σ
def f_X0_weigh (σ : St) (a1 : Int) : Option (Int × St) :=
bnd ((σ 10 3) - 1) fun v1 =>
lp_X0_weigh_10 a1 (fun σ8 =>
    bd2 (f_X5_begin σ8 57 0) fun v9 σ10 =>
    lp_X0_weigh_58 (fun σ16 =>
        some (0, σ16)) 1000 σ10 0) 1000 σ v1
def lp_X0_trace_12 (kx : St → Option (Int × St)) : Nat → St → Int → Int → Option (Int × St)
  | 0, _, _, _ => none
  | n + 1, σ, x1, x2 =>
    if wI x2 < wI (σ 10 3) then
      ixA 8 x2 <|
      if wI x1 < wI (σ (38 + 2 * x2) 1) then
        ixA 8 x2 <|
        rdA 40 σ (38 + 2 * x2 + 1) x1 fun v6 =>
        wrA 8 σ 69 x2 v6 fun σ7 =>
        ixA 8 x2 <|
        rdA (uvLn (70 + 6 * x2 + 5)) σ7 (70 + 6 * x2 + 5) x1 fun v9 =>
        lp_X0_trace_12 kx n σ7 v9 (x2 + 1)
      else
        kx σ
    else
      kx σ
def f_X0_trace (σ : St)  : Option (Int × St) :=
rdA 1 σ 62 0 fun v1 =>
lp_X0_trace_12 (fun σ10 =>
    some (0, σ10)) 1000 σ v1 0
def f_X0_leastPrice (σ0 : St)  : Option Int :=
rdA 1 σ0 58 0 fun v1 =>
some v1
def f_X0_secondPrice (σ0 : St)  : Option Int :=
rdA 1 σ0 59 0 fun v1 =>
if wI v1 < 1000000 then
  rdA 1 σ0 59 0 fun v3 =>
  some v3
else
  some (-1)
def f_X0_mostPrice (σ0 : St)  : Option Int :=
rdA 1 σ0 60 0 fun v1 =>
some v1
def f_X0_waysOfLeast (σ0 : St)  : Option Int :=
rdA 1 σ0 61 0 fun v1 =>
some v1
def lp_X0_pathFollowers_4 (σ0 : St) (kx : Int → Option Int) : Nat → Int → Int → Option Int
  | 0, _, _ => none
  | n + 1, x2, x3 =>
    if wI x3 < wI (σ0 10 3) then
      rdA 8 σ0 69 (x3 - 1) fun v2 =>
      rdA 40 σ0 8 v2 fun v3 =>
      rdA 8 σ0 69 x3 fun v4 =>
      if wI v3 = wI v4 then
        lp_X0_pathFollowers_4 σ0 kx n (x2 + 1) (x3 + 1)
      else
        lp_X0_pathFollowers_4 σ0 kx n x2 (x3 + 1)
    else
      kx x2
def f_X0_pathFollowers (σ0 : St)  : Option Int :=
lp_X0_pathFollowers_4 σ0 (fun y6 =>
    some y6) 1000 0 1
def lp_X0_pathFits_4 (σ0 : St) (x1 : Int) (kx : Int → Option Int) : Nat → Int → Int → Option Int
  | 0, _, _ => none
  | n + 1, x2, x3 =>
    if wI x3 < wI (σ0 10 3) then
      rdA 8 σ0 69 x3 fun v2 =>
      bd1 (f_X3_ofFit σ0 x1 v2 x3) fun v3 =>
      bnd (x2 + v3) fun v4 =>
      lp_X0_pathFits_4 σ0 x1 kx n v4 (x3 + 1)
    else
      kx x2
def f_X0_pathFits (σ0 : St) (a1 : Int) : Option Int :=
lp_X0_pathFits_4 σ0 a1 (fun y5 =>
    some y5) 1000 0 0
def lp_X0_pathJoints_4 (σ0 : St) (kx : Int → Option Int) : Nat → Int → Int → Option Int
  | 0, _, _ => none
  | n + 1, x1, x2 =>
    if wI x2 < wI (σ0 10 3) then
      rdA 8 σ0 69 (x2 - 1) fun v2 =>
      rdA 8 σ0 69 x2 fun v3 =>
      bd1 (f_X3_ofJoint σ0 v2 v3) fun v4 =>
      bnd (x1 + v4) fun v5 =>
      lp_X0_pathJoints_4 σ0 kx n v5 (x2 + 1)
    else
      kx x1
def f_X0_pathJoints (σ0 : St)  : Option Int :=
lp_X0_pathJoints_4 σ0 (fun y6 =>
    some y6) 1000 0 1
def lp_X0_dearestPathJoint_4 (σ0 : St) (kx : Int → Option Int) : Nat → Int → Int → Option Int
  | 0, _, _ => none
  | n + 1, x1, x2 =>
    if wI x2 < wI (σ0 10 3) then
      rdA 8 σ0 69 (x2 - 1) fun v2 =>
      rdA 8 σ0 69 x2 fun v3 =>
      bd1 (f_X3_ofJoint σ0 v2 v3) fun v4 =>
      bnd (f_J9_max_7cf53 x1 v4) fun v5 =>
      lp_X0_dearestPathJoint_4 σ0 kx n v5 (x2 + 1)
    else
      kx x1
def f_X0_dearestPathJoint (σ0 : St)  : Option Int :=
lp_X0_dearestPathJoint_4 σ0 (fun y6 =>
    some y6) 1000 0 1
def f_X1_begin (σ : St) (o : Int) : Option (Int × St) :=
wrF σ o 1 0 fun σ1 =>
wrF σ1 o 2 0 fun σ2 =>
wrF σ2 o 3 0 fun σ3 =>
some (0, σ3)
def f_X1_add (σ : St) (o : Int) (a1 : Int) : Option (Int × St) :=
if wI (σ o 1) < 0 then
  some (0, σ)
else
  if wI (σ o 1) < 40 then
    wrA 40 σ (o + 1) (σ o 1) a1 fun σ3 =>
    wrF σ3 o 1 ((σ3 o 1) + 1) fun σ4 =>
    some (0, σ4)
  else
    some (0, σ)
def f_X1_miss (σ : St) (o : Int) : Option (Int × St) :=
wrF σ o 1 0 fun σ1 =>
wrF σ1 o 2 (-1) fun σ2 =>
some (0, σ2)
def f_X1_isMissing (σ0 : St) (o : Int) : Int :=
(if wI (σ0 o 2) = (-1) then 1 else 0)
def f_X7_saysYes (σ0 : St) (o : Int) (a1 : Int) (a2 : Int) (a3 : Int) (a4 : Int) (a5 : Int) : Option Int :=
rdA 120 σ0 (o + 1) a1 fun v1 =>
if wI v1 = 76 then
  rdA 120 σ0 (o + 2) a1 fun v3 =>
  some (if wI a2 = wI v3 then 1 else 0)
else
  if wI v1 = 80 then
    rdA 120 σ0 (o + 2) a1 fun v7 =>
    some (if wI v7 < wI a4 then 1 else 0)
  else
    if wI v1 = 82 then
      rdA 120 σ0 (o + 2) a1 fun v11 =>
      some (if wI a3 = wI v11 then 1 else 0)
    else
      rdA 120 σ0 (o + 2) a1 fun v14 =>
      some (if wI v14 < wI a5 then 1 else 0)
def f_X7_isNode (σ0 : St) (o : Int) (a1 : Int) : Int :=
(if wI a1 < 0 then 0 else (if wI a1 < wI (σ0 o 6) then 1 else 0))
def jn_X7_leafFor_56 (σ0 : St) (kb : Int → Int → Option Int) (o : Int) (x1 : Int) (x2 : Int) (x3 : Int) (x4 : Int) (x5 : Int) (x6 : Int) (t0 : Int) : Option Int :=
  if (f_X7_isNode σ0 o t0) = 0 then
    some x5
  else
    kb t0 (x6 + 1)
def lp_X7_leafFor_6 (σ0 : St) (o : Int) (x1 : Int) (x2 : Int) (x3 : Int) (x4 : Int) (kx : Int → Option Int) : Nat → Int → Int → Option Int
  | 0, _, _ => none
  | n + 1, x5, x6 =>
    if wI x6 < 7 then
      rdA 120 σ0 (o + 1) x5 fun v2 =>
      if wI v2 = 42 then
        kx x5
      else
        bd1 (f_X7_saysYes σ0 o x5 x1 x2 x3 x4) fun v4 =>
        if v4 = 0 then
          rdA 120 σ0 (o + 5) x5 fun v7 =>
          jn_X7_leafFor_56 σ0 (lp_X7_leafFor_6 σ0 o x1 x2 x3 x4 kx n) o x1 x2 x3 x4 x5 x6 v7
        else
          rdA 120 σ0 (o + 4) x5 fun v10 =>
          jn_X7_leafFor_56 σ0 (lp_X7_leafFor_6 σ0 o x1 x2 x3 x4 kx n) o x1 x2 x3 x4 x5 x6 v10
    else
      kx x5
def f_X7_leafFor (σ0 : St) (o : Int) (a1 : Int) (a2 : Int) (a3 : Int) (a4 : Int) : Option Int :=
lp_X7_leafFor_6 σ0 o a1 a2 a3 a4 (fun y11 =>
    some y11) 1000 0 0
def f_X2_leafOfUnit (σ0 : St) (a1 : Int) : Option Int :=
rdA 40 σ0 3 a1 fun v1 =>
rdA 40 σ0 4 a1 fun v2 =>
rdA 40 σ0 5 a1 fun v3 =>
rdA 40 σ0 6 a1 fun v4 =>
bd1 (f_X7_leafFor σ0 14 v1 v2 v3 v4) fun v5 =>
some v5
def f_X2_leafOfTarget (σ0 : St) (a1 : Int) : Option Int :=
bd1 (f_X4_leftOf σ0 10 a1) fun v1 =>
bd1 (f_X4_rightOf σ0 10 a1) fun v2 =>
rdA 8 σ0 12 a1 fun v3 =>
rdA 8 σ0 13 a1 fun v4 =>
bd1 (f_X7_leafFor σ0 14 v1 v2 v3 v4) fun v5 =>
some v5
def lp_X2_findLeaves_2 (kx : St → Option (Int × St)) : Nat → St → Int → Option (Int × St)
  | 0, _, _ => none
  | n + 1, σ, x1 =>
    if wI x1 < wI (σ 1 8) then
      bd1 (f_X2_leafOfUnit σ x1) fun v2 =>
      wrA 40 σ 36 x1 v2 fun σ3 =>
      lp_X2_findLeaves_2 kx n σ3 (x1 + 1)
    else
      kx σ
def f_X2_findLeaves (σ : St)  : Option (Int × St) :=
lp_X2_findLeaves_2 (fun σ4 =>
    some (0, σ4)) 1000 σ 0
def f_X7_nodeAbove (σ0 : St) (o : Int) (a1 : Int) : Option Int :=
if wI a1 < 0 then
  some (-1)
else
  if wI a1 < wI (σ0 o 6) then
    rdA 120 σ0 (o + 3) a1 fun v3 =>
    some v3
  else
    some (-1)
def lp_X7_liesUnder_5 (σ0 : St) (o : Int) (x2 : Int) (kx : Int → Option Int) : Nat → Int → Int → Option Int
  | 0, _, _ => none
  | n + 1, x3, x4 =>
    if wI x4 < 7 then
      if wI x3 = wI x2 then
        kx x3
      else
        if wI x3 = (-1) then
          kx x3
        else
          bd1 (f_X7_nodeAbove σ0 o x3) fun v4 =>
          lp_X7_liesUnder_5 σ0 o x2 kx n v4 (x4 + 1)
    else
      kx x3
def jn_X7_liesUnder_34 (σ0 : St) (x2 : Int) (x3 : Int) : Option Int :=
  some (if wI x3 = wI x2 then 1 else 0)
def f_X7_liesUnder (σ0 : St) (o : Int) (a1 : Int) (a2 : Int) : Option Int :=
lp_X7_liesUnder_5 σ0 o a2 (fun y5 =>
    jn_X7_liesUnder_34 σ0 a2 y5) 1000 a1 0
def lp_X2_gather_3 (x1 : Int) (x2 : Int) (x3 : Int) (x4 : Int) (kx : St → Option (Int × St)) : Nat → St → Int → Option (Int × St)
  | 0, _, _ => none
  | n + 1, σ, x5 =>
    if wI x5 < wI (σ 1 8) then
      if wI x5 = wI x4 then
        lp_X2_gather_3 x1 x2 x3 x4 kx n σ (x5 + 1)
      else
        rdA 40 σ 2 x5 fun v3 =>
        if wI v3 = wI x2 then
          rdA 40 σ 36 x5 fun v5 =>
          bd1 (f_X7_liesUnder σ 14 v5 x3) fun v6 =>
          if v6 = 0 then
            lp_X2_gather_3 x1 x2 x3 x4 kx n σ (x5 + 1)
          else
            bd2 (f_X1_add σ x1 x5) fun v9 σ10 =>
            lp_X2_gather_3 x1 x2 x3 x4 kx n σ10 (x5 + 1)
        else
          lp_X2_gather_3 x1 x2 x3 x4 kx n σ (x5 + 1)
    else
      kx σ
def f_X2_gather (σ : St) (a1 : Int) (a2 : Int) (a3 : Int) (a4 : Int) : Option (Int × St) :=
lp_X2_gather_3 a1 a2 a3 a4 (fun σ11 =>
    some (0, σ11)) 1000 σ 0
def lp_X2_climb_6 (x1 : Int) (x2 : Int) (x4 : Int) (kx : St → Option (Int × St)) : Nat → St → Int → Int → Option (Int × St)
  | 0, _, _, _ => none
  | n + 1, σ, x5, x6 =>
    if 7 < wI x6 then
      kx σ
    else
      bd2 (f_X2_gather σ x1 x2 x5 x4) fun v2 σ3 =>
      bd1 (f_X7_nodeAbove σ3 14 x5) fun v4 =>
      if 0 < wI (σ3 x1 1) then
        some (0, σ3)
      else
        if wI v4 = (-1) then
          some (0, σ3)
        else
          wrF σ3 x1 2 ((σ3 x1 2) + 1) fun σ7 =>
          lp_X2_climb_6 x1 x2 x4 kx n σ7 v4 (x6 + 1)
def f_X2_climb (σ : St) (a1 : Int) (a2 : Int) (a3 : Int) (a4 : Int) : Option (Int × St) :=
lp_X2_climb_6 a1 a2 a4 (fun σ8 =>
    some (0, σ8)) 1000 σ a3 0
def jn_X2_chooseFor_86 (kb : St → Int → Int → Int → Option (Int × St)) (σ : St) (x2 : Int) (x3 : Int) (x4 : Int) (x5 : Int) (x6 : Int) (x7 : Int) : Option (Int × St) :=
  bd2 (f_X2_climb σ x3 x5 x4 x2) fun v12 σ13 =>
  if 0 < wI (σ13 x3 1) then
    some (0, σ13)
  else
    rdA 6 σ13 34 x5 fun v15 =>
    kb σ13 v15 x6 (x7 + 1)
def lp_X2_chooseFor_35 (x2 : Int) (x3 : Int) (x4 : Int) (kx : St → Option (Int × St)) : Nat → St → Int → Int → Int → Option (Int × St)
  | 0, _, _, _, _ => none
  | n + 1, σ, x5, x6, x7 =>
    if wI x7 < 6 then
      if wI (andI x6 (shlI 1 x5)) = 0 then
        bnd (orI x6 (shlI 1 x5)) fun v8 =>
        wrF σ x3 3 ((σ x3 3) + 1) fun σ9 =>
        if 0 < wI x7 then
          wrF σ9 x3 2 ((σ9 x3 2) + 1) fun σ11 =>
          jn_X2_chooseFor_86 (lp_X2_chooseFor_35 x2 x3 x4 kx n) σ11 x2 x3 x4 x5 v8 x7
        else
          jn_X2_chooseFor_86 (lp_X2_chooseFor_35 x2 x3 x4 kx n) σ9 x2 x3 x4 x5 v8 x7
      else
        kx σ
    else
      kx σ
def f_X2_chooseFor (σ : St) (a1 : Int) (a2 : Int) : Option (Int × St) :=
ixA 8 a1 <|
bd2 (f_X1_begin σ (38 + 2 * a1)) fun v2 σ3 =>
bd1 (f_X2_leafOfTarget σ3 a1) fun v4 =>
rdA 8 σ3 11 a1 fun v5 =>
lp_X2_chooseFor_35 a2 (38 + 2 * a1) v4 (fun σ16 =>
    bd2 (f_X1_miss σ16 (38 + 2 * a1)) fun v17 σ18 =>
    some (0, σ18)) 1000 σ3 v5 0 0
def lp_X2_chooseAll_6 (x1 : Int) (kx : St → Option (Int × St)) : Nat → St → Int → Option (Int × St)
  | 0, _, _ => none
  | n + 1, σ, x2 =>
    if wI x2 < wI (σ 10 3) then
      bd2 (f_X2_chooseFor σ x2 x1) fun v4 σ5 =>
      ixA 8 x2 <|
      if (f_X1_isMissing σ5 (38 + 2 * x2)) = 0 then
        lp_X2_chooseAll_6 x1 kx n σ5 (x2 + 1)
      else
        some (0, σ5)
    else
      kx σ
def f_X2_chooseAll (σ : St) (a1 : Int) : Option (Int × St) :=
bd2 (f_X2_findLeaves σ) fun v1 σ2 =>
lp_X2_chooseAll_6 a1 (fun σ9 =>
    some ((if 0 < wI (σ9 10 3) then 1 else 0), σ9)) 1000 σ2 0
def f_X2_choose (σ : St) (a1 : Int) (a2 : Int) : Option (Int × St) :=
bd2 (f_X2_findLeaves σ) fun v1 σ2 =>
bd2 (f_X2_chooseFor σ2 a1 a2) fun v3 σ4 =>
ixA 8 a1 <|
some (38 + 2 * a1, σ4)
def f_X4_add (σ : St) (o : Int) (a1 : Int) (a2 : Int) (a3 : Int) : Option (Int × St) :=
if wI (σ o 3) < 0 then
  some (0, σ)
else
  if wI (σ o 3) < 8 then
    wrA 8 σ (o + 1) (σ o 3) a1 fun σ3 =>
    wrA 8 σ3 (o + 2) (σ3 o 3) a2 fun σ4 =>
    wrA 8 σ4 (o + 3) (σ4 o 3) a3 fun σ5 =>
    wrF σ5 o 3 ((σ5 o 3) + 1) fun σ6 =>
    some (0, σ6)
  else
    some (0, σ)
def lp_X4_become_7 (o : Int) (x1 : Int) (kx : St → Option (Int × St)) : Nat → St → Int → Option (Int × St)
  | 0, _, _ => none
  | n + 1, σ, x2 =>
    if wI x2 < 8 then
      if wI x2 < wI (σ x1 3) then
        rdA 8 σ (x1 + 1) x2 fun v4 =>
        rdA 8 σ (x1 + 2) x2 fun v5 =>
        rdA 8 σ (x1 + 3) x2 fun v6 =>
        bd2 (f_X4_add σ o v4 v5 v6) fun v7 σ8 =>
        lp_X4_become_7 o x1 kx n σ8 (x2 + 1)
      else
        kx σ
    else
      kx σ
def f_X4_become (σ : St) (o : Int) (a1 : Int) : Option (Int × St) :=
wrF σ o 3 0 fun σ1 =>
lp_X4_become_7 o a1 (fun σ9 =>
    some (0, σ9)) 1000 σ1 0
def f_X5_end (σ : St) (o : Int) (a1 : Int) : Option (Int × St) :=
bd2 (f_X5_begin σ o a1) fun v1 σ2 =>
wrA (uvLn (o + 1)) σ2 (o + 1) a1 0 fun σ3 =>
wrA (uvLn (o + 4)) σ3 (o + 4) a1 1 fun σ4 =>
some (0, σ4)
def f_X6_add (σ : St) (a1 : Int) : Option (Int × St) :=
if wI (σ 21 3) < 0 then
  some (0, σ)
else
  if wI (σ 21 3) < 120 then
    wrA 120 σ 22 (σ 21 3) a1 fun σ3 =>
    wrF σ3 21 3 ((σ3 21 3) + 1) fun σ4 =>
    some (0, σ4)
  else
    some (0, σ)
def f_X7_removeAll (σ : St) (o : Int) : Option (Int × St) :=
wrF σ o 6 0 fun σ1 =>
wrF σ1 o 7 0 fun σ2 =>
wrF σ2 o 8 0 fun σ3 =>
some (0, σ3)
def lp_X6_look_0 (kx : St → Option (Int × St)) : Nat → St → Option (Int × St)
  | 0, _ => none
  | n + 1, σ =>
    if wI (σ 21 5) < wI (σ 21 3) then
      rdA 120 σ 22 (σ 21 5) fun v2 =>
      if wI v2 = 32 then
        wrF σ 21 5 ((σ 21 5) + 1) fun σ4 =>
        lp_X6_look_0 kx n σ4
      else
        kx σ
    else
      kx σ
def jn_X6_look_38 (σ : St)  : Option (Int × St) :=
  if wI (σ 21 5) < wI (σ 21 3) then
    rdA 120 σ 22 (σ 21 5) fun v7 =>
    some (v7, σ)
  else
    some ((-1), σ)
def f_X6_look (σ : St)  : Option (Int × St) :=
lp_X6_look_0 (fun σ5 =>
    jn_X6_look_38 σ5) 1000 σ
def f_X6_fail (σ : St)  : Option (Int × St) :=
wrF σ 21 6 (σ 21 5) fun σ1 =>
some ((-1), σ1)
def lp_X6_readWord_7 (x1 : Int) (x2 : Int) (kx : St → Option (Int × St)) : Nat → St → Int → Option (Int × St)
  | 0, _, _ => none
  | n + 1, σ, x3 =>
    if wI x3 < wI (sLen x1) then
      if wI (σ 21 5) < wI (σ 21 3) then
        rdA 120 σ 22 (σ 21 5) fun v3 =>
        if 0 ≤ x3 ∧ x3 < sLen x1 then
          if wI v3 = wI (sChr x1 x3) then
            wrF σ 21 5 ((σ 21 5) + 1) fun σ6 =>
            lp_X6_readWord_7 x1 x2 kx n σ6 (x3 + 1)
          else
            wrF σ 21 5 x2 fun σ7 =>
            bd2 (f_X6_fail σ7) fun v8 σ9 =>
            some (0, σ9)
        else none
      else
        bd2 (f_X6_fail σ) fun v10 σ11 =>
        some (0, σ11)
    else
      kx σ
def f_X6_readWord (σ : St) (a1 : Int) : Option (Int × St) :=
lp_X6_readWord_7 a1 (σ 21 5) (fun σ12 =>
    some (1, σ12)) 1000 σ 0
def f_X9_within (a0 : Int) (a1 : Int) (a2 : Int) : Int :=
(if wI a0 < wI a1 then 0 else (if wI a2 < wI a0 then 0 else 1))
def f_X6_readFigure (σ : St) (a1 : Int) (a2 : Int) : Option (Int × St) :=
bd2 (f_X6_look σ) fun v1 σ2 =>
bnd (v1 - 48) fun v3 =>
if (f_X9_within v3 a1 a2) = 0 then
  bd2 (f_X6_fail σ2) fun v6 σ7 =>
  some (v6, σ7)
else
  wrF σ2 21 5 ((σ2 21 5) + 1) fun σ8 =>
  some (v3, σ8)
def f_X6_readTarget (σ : St) (a1 : Int) : Option (Int × St) :=
wrF σ 21 5 ((σ 21 5) + 1) fun σ1 =>
bd2 (f_X6_readFigure σ1 0 9) fun v2 σ3 =>
if wI (σ3 21 6) = (-1) then
  bd2 (f_X6_readFigure σ3 1 9) fun v5 σ6 =>
  if wI (σ6 21 6) = (-1) then
    bd2 (f_X4_add σ6 23 a1 v2 v5) fun v8 σ9 =>
    some (0, σ9)
  else
    some (0, σ6)
else
  some (0, σ3)
def jn_X6_readRow_42 (kb : St → Int → Option (Int × St)) (σ : St) (x1 : Int) (x2 : Int) : Option (Int × St) :=
  if (f_X9_within x2 97 102) = 0 then
    bd2 (f_X6_fail σ) fun v13 σ14 =>
    kb σ14 (x1 + 1)
  else
    bd2 (f_X6_readTarget σ (x2 - 97)) fun v15 σ16 =>
    kb σ16 (x1 + 1)
def lp_X6_readRow_12 (kx : St → Option (Int × St)) : Nat → St → Int → Option (Int × St)
  | 0, _, _ => none
  | n + 1, σ, x1 =>
    if wI x1 < 8 then
      if wI (σ 21 6) = (-1) then
        bd2 (f_X6_look σ) fun v7 σ8 =>
        if wI v7 = 59 then
          if 0 < wI x1 then
            some (0, σ8)
          else
            jn_X6_readRow_42 (lp_X6_readRow_12 kx n) σ8 x1 v7
        else
          jn_X6_readRow_42 (lp_X6_readRow_12 kx n) σ8 x1 v7
      else
        kx σ
    else
      kx σ
def f_X6_readRow (σ : St)  : Option (Int × St) :=
bd2 (f_X6_readWord σ 0) fun v1 σ2 =>
if v1 = 0 then
  some (0, σ2)
else
  lp_X6_readRow_12 (fun σ17 =>
      some (0, σ17)) 1000 σ2 0
def f_X7_addNode (σ : St) (o : Int) (a1 : Int) (a2 : Int) (a3 : Int) : Option (Int × St) :=
if wI (σ o 6) < 0 then
  some ((-1), σ)
else
  if wI (σ o 6) < 120 then
    bnd (σ o 6) fun v3 =>
    wrA 120 σ (o + 1) v3 a1 fun σ4 =>
    wrA 120 σ4 (o + 2) v3 a2 fun σ5 =>
    wrA 120 σ5 (o + 3) v3 a3 fun σ6 =>
    wrA 120 σ6 (o + 4) v3 (-1) fun σ7 =>
    wrA 120 σ7 (o + 5) v3 (-1) fun σ8 =>
    wrA 120 σ8 (o + 6) v3 (-1) fun σ9 =>
    wrF σ9 o 6 ((σ9 o 6) + 1) fun σ10 =>
    some (v3, σ10)
  else
    some ((-1), σ)
def f_X7_addLeaf (σ : St) (o : Int) (a1 : Int) : Option (Int × St) :=
bd2 (f_X7_addNode σ o 42 0 a1) fun v1 σ2 =>
if wI v1 = (-1) then
  some (v1, σ2)
else
  wrA 120 σ2 (o + 6) v1 (σ2 o 7) fun σ4 =>
  wrF σ4 o 7 ((σ4 o 7) + 1) fun σ5 =>
  some (v1, σ5)
def f_X6_isQuestion (a0 : Int) : Int :=
(if wI a0 = 76 then 1 else (if wI a0 = 82 then 1 else (if wI a0 = 80 then 1 else (if wI a0 = 68 then 1 else 0))))
def f_X7_addQuestion (σ : St) (o : Int) (a1 : Int) (a2 : Int) (a3 : Int) (a4 : Int) : Option (Int × St) :=
wrF σ o 8 (f_J9_max_7cf53 (σ o 8) a4) fun σ1 =>
bd2 (f_X7_addNode σ1 o a1 a2 a3) fun v2 σ3 =>
some (v2, σ3)
def f_X6_readSign (σ : St) (a1 : Int) : Option (Int × St) :=
bd2 (f_X6_look σ) fun v1 σ2 =>
if wI v1 = wI a1 then
  wrF σ2 21 5 ((σ2 21 5) + 1) fun σ4 =>
  some (1, σ4)
else
  bd2 (f_X6_fail σ2) fun v5 σ6 =>
  some (0, σ6)
def f_X7_putBranches (σ : St) (o : Int) (a1 : Int) (a2 : Int) (a3 : Int) : Option (Int × St) :=
if (f_X7_isNode σ o a1) = 0 then
  some (0, σ)
else
  wrA 120 σ (o + 4) a1 a2 fun σ3 =>
  wrA 120 σ3 (o + 5) a1 a3 fun σ4 =>
  some (0, σ4)
def f_X6_readBranches (rn : St → Int → Int → Option (Int × St)) (σ : St) (a1 : Int) (a2 : Int) : Option (Int × St) :=
bd2 (f_X6_readSign σ 40) fun v1 σ2 =>
if v1 = 0 then
  some ((-1), σ2)
else
  bd2 (rn σ2 a1 a2) fun v5 σ6 =>
  if wI (σ6 21 6) = (-1) then
    bd2 (rn σ6 a1 a2) fun v8 σ9 =>
    if wI (σ9 21 6) = (-1) then
      bd2 (f_X6_readSign σ9 41) fun v11 σ12 =>
      if v11 = 0 then
        some ((-1), σ12)
      else
        bd2 (f_X7_putBranches σ12 27 a1 v5 v8) fun v15 σ16 =>
        some (a1, σ16)
    else
      some ((-1), σ9)
  else
    some ((-1), σ6)
def f_X6_readNode : Nat → St → Int → Int → Option (Int × St)
  | 0, _, _, _ => none
  | d + 1, σ, a1, a2 =>
    bd2 (f_X6_look σ) fun v1 σ2 =>
    if wI v1 = 42 then
      wrF σ2 21 5 ((σ2 21 5) + 1) fun σ4 =>
      bd2 (f_X7_addLeaf σ4 27 a1) fun v5 σ6 =>
      some (v5, σ6)
    else
      if (f_X6_isQuestion v1) = 0 then
        bd2 (f_X6_fail σ2) fun v9 σ10 =>
        some (v9, σ10)
      else
        if wI a2 < 7 then
          wrF σ2 21 5 ((σ2 21 5) + 1) fun σ12 =>
          bd2 (f_X6_readFigure σ12 0 (if wI v1 = 76 then 6 else (if wI v1 = 82 then 6 else 9))) fun v14 σ15 =>
          if wI (σ15 21 6) = (-1) then
            bd2 (f_X7_addQuestion σ15 27 v1 v14 a1 (a2 + 1)) fun v17 σ18 =>
            bd2 (f_X6_readBranches (f_X6_readNode d) σ18 v17 (a2 + 1)) fun v19 σ20 =>
            some (v19, σ20)
          else
            some ((-1), σ15)
        else
          bd2 (f_X6_fail σ2) fun v23 σ24 =>
          some (v23, σ24)
def f_X6_readTree (σ : St)  : Option (Int × St) :=
bd2 (f_X6_readWord σ 1) fun v1 σ2 =>
if v1 = 0 then
  some (0, σ2)
else
  bd2 (f_X6_readNode 9 σ2 (-1) 0) fun v5 σ6 =>
  some (0, σ6)
def f_X6_readEnd (σ : St)  : Option (Int × St) :=
bd2 (f_X6_readSign σ 59) fun v1 σ2 =>
if v1 = 0 then
  some (0, σ2)
else
  bd2 (f_X6_look σ2) fun v5 σ6 =>
  if wI v5 = (-1) then
    some (0, σ6)
  else
    bd2 (f_X6_fail σ6) fun v8 σ9 =>
    some (0, σ9)
def jn_X6_read_76 (σ : St)  : Option (Int × St) :=
  if wI (σ 21 6) = (-1) then
    bd2 (f_X6_readEnd σ) fun v14 σ15 =>
    some (σ15 21 6, σ15)
  else
    some (σ 21 6, σ)
def f_X6_read (σ : St)  : Option (Int × St) :=
wrF σ 21 5 0 fun σ1 =>
wrF σ1 21 6 (-1) fun σ2 =>
wrF σ2 23 3 0 fun σ3 =>
bd2 (f_X7_removeAll σ3 27) fun v4 σ5 =>
bd2 (f_X6_look σ5) fun v6 σ7 =>
wrF σ7 21 4 (if wI v6 = 114 then 1 else 0) fun σ9 =>
if wI v6 = 114 then
  bd2 (f_X6_readRow σ9) fun v11 σ12 =>
  jn_X6_read_76 σ12
else
  if wI v6 = 116 then
    bd2 (f_X6_readTree σ9) fun v17 σ18 =>
    jn_X6_read_76 σ18
  else
    bd2 (f_X6_fail σ9) fun v19 σ20 =>
    jn_X6_read_76 σ20
def lp_X7_become_26 (o : Int) (x1 : Int) (kx : St → Option (Int × St)) : Nat → St → Int → Option (Int × St)
  | 0, _, _ => none
  | n + 1, σ, x2 =>
    if wI x2 < 120 then
      if wI x2 < wI (σ o 6) then
        rdA 120 σ (x1 + 1) x2 fun v6 =>
        wrA 120 σ (o + 1) x2 v6 fun σ7 =>
        rdA 120 σ7 (x1 + 2) x2 fun v8 =>
        wrA 120 σ7 (o + 2) x2 v8 fun σ9 =>
        rdA 120 σ9 (x1 + 3) x2 fun v10 =>
        wrA 120 σ9 (o + 3) x2 v10 fun σ11 =>
        rdA 120 σ11 (x1 + 4) x2 fun v12 =>
        wrA 120 σ11 (o + 4) x2 v12 fun σ13 =>
        rdA 120 σ13 (x1 + 5) x2 fun v14 =>
        wrA 120 σ13 (o + 5) x2 v14 fun σ15 =>
        rdA 120 σ15 (x1 + 6) x2 fun v16 =>
        wrA 120 σ15 (o + 6) x2 v16 fun σ17 =>
        lp_X7_become_26 o x1 kx n σ17 (x2 + 1)
      else
        kx σ
    else
      kx σ
def f_X7_become (σ : St) (o : Int) (a1 : Int) : Option (Int × St) :=
wrF σ o 6 (σ a1 6) fun σ1 =>
wrF σ1 o 7 (σ1 a1 7) fun σ2 =>
wrF σ2 o 8 (σ2 a1 8) fun σ3 =>
lp_X7_become_26 o a1 (fun σ18 =>
    some (0, σ18)) 1000 σ3 0
def f_X7_numberOf (σ0 : St) (o : Int) (a1 : Int) : Option Int :=
if (f_X7_isNode σ0 o a1) = 0 then
  some (-1)
else
  rdA 120 σ0 (o + 6) a1 fun v3 =>
  some v3
def lp_X8_removeAll_7 (kx : St → Option (Int × St)) : Nat → St → Int → Option (Int × St)
  | 0, _, _ => none
  | n + 1, σ, x1 =>
    if wI x1 < 4 then
      wrA 4 σ 9 x1 (-1) fun σ3 =>
      lp_X8_removeAll_7 kx n σ3 (x1 + 1)
    else
      kx σ
def f_X8_removeAll (σ : St)  : Option (Int × St) :=
wrF σ 1 8 0 fun σ1 =>
lp_X8_removeAll_7 (fun σ4 =>
    some (0, σ4)) 1000 σ1 0
def f_X9_isTake (a0 : Int) : Int :=
(f_X9_within a0 0 3)
def jn_X8_add_121 (σ : St) (x6 : Int) (x7 : Int) : Option (Int × St) :=
  wrA 4 σ 9 x6 x7 fun σ14 =>
  wrF σ14 1 8 ((σ14 1 8) + 1) fun σ15 =>
  some (x7, σ15)
def f_X8_add (σ : St) (a1 : Int) (a2 : Int) (a3 : Int) (a4 : Int) (a5 : Int) (a6 : Int) : Option (Int × St) :=
if wI (σ 1 8) < 0 then
  some ((-1), σ)
else
  if wI (σ 1 8) < 40 then
    if (f_X9_isTake a6) = 0 then
      some ((-1), σ)
    else
      wrA 40 σ 2 (σ 1 8) a1 fun σ5 =>
      wrA 40 σ5 3 (σ 1 8) a2 fun σ6 =>
      wrA 40 σ6 4 (σ 1 8) a3 fun σ7 =>
      wrA 40 σ7 5 (σ 1 8) a4 fun σ8 =>
      wrA 40 σ8 6 (σ 1 8) a5 fun σ9 =>
      wrA 40 σ9 7 (σ 1 8) a6 fun σ10 =>
      wrA 40 σ10 8 (σ 1 8) (-1) fun σ11 =>
      rdA 4 σ11 9 a6 fun v12 =>
      if wI v12 < 0 then
        jn_X8_add_121 σ11 a6 (σ 1 8)
      else
        if wI v12 < wI (σ 1 8) then
          wrA 40 σ11 8 v12 (σ 1 8) fun σ17 =>
          jn_X8_add_121 σ17 a6 (σ 1 8)
        else
          jn_X8_add_121 σ11 a6 (σ 1 8)
  else
    some ((-1), σ)
def f_X8_putRight (σ : St) (a1 : Int) (a2 : Int) : Option (Int × St) :=
if wI a1 < 0 then
  some (0, σ)
else
  if wI a1 < wI (σ 1 8) then
    wrA 40 σ 4 a1 a2 fun σ3 =>
    some (0, σ3)
  else
    some (0, σ)
def f_X9_isSound (a0 : Int) : Int :=
(f_X9_within a0 0 5)
def f_X9_bad (σ : St)  : Option (Int × St) :=
wrF σ 0 9 ((σ 0 9) + 1) fun σ1 =>
some ((-2), σ1)
def f_X9_full (σ : St)  : Option (Int × St) :=
wrF σ 0 11 ((σ 0 11) + 1) fun σ1 =>
some ((-4), σ1)
def f_X9_unit (σ : St) (a1 : Int) (a2 : Int) (a3 : Int) (a4 : Int) (a5 : Int) (a6 : Int) : Option (Int × St) :=
if (f_X9_isSound a1) = 0 then
  bd2 (f_X9_bad σ) fun v3 σ4 =>
  some (v3, σ4)
else
  if (f_X9_within a2 0 6) = 0 then
    bd2 (f_X9_bad σ) fun v7 σ8 =>
    some (v7, σ8)
  else
    if (f_X9_within a3 0 6) = 0 then
      bd2 (f_X9_bad σ) fun v11 σ12 =>
      some (v11, σ12)
    else
      if (f_X9_within a4 0 9) = 0 then
        bd2 (f_X9_bad σ) fun v15 σ16 =>
        some (v15, σ16)
      else
        if (f_X9_within a5 1 9) = 0 then
          bd2 (f_X9_bad σ) fun v19 σ20 =>
          some (v19, σ20)
        else
          if (f_X9_isTake a6) = 0 then
            bd2 (f_X9_bad σ) fun v23 σ24 =>
            some (v23, σ24)
          else
            if wI (σ 1 8) < 40 then
              bd2 (f_X8_add σ a1 a2 a3 a4 a5 a6) fun v26 σ27 =>
              some (v26, σ27)
            else
              bd2 (f_X9_full σ) fun v28 σ29 =>
              some (v28, σ29)
def lp_X9_records_62 (x2 : Int) (x3 : Int) (kx : St → Option (Int × St)) : Nat → St → Int → Int → Int → Option (Int × St)
  | 0, _, _, _, _ => none
  | n + 1, σ, x4, x6, x7 =>
    if wI x7 < wI x2 then
      bnd (remL ((x4 * 1103515245) + 12345) 2147483648) fun v18 =>
      bnd (remL (divL v18 65536) 6) fun v19 =>
      bnd (remL (divL v18 4096) 10) fun v20 =>
      bnd ((remL (divL v18 1024) 9) + 1) fun v21 =>
      bd2 (f_X8_add σ v19 x6 6 v20 v21 x3) fun v22 σ23 =>
      if 0 < wI x7 then
        bd2 (f_X8_putRight σ23 (v22 - 1) v19) fun v25 σ26 =>
        lp_X9_records_62 x2 x3 kx n σ26 v18 v19 (x7 + 1)
      else
        lp_X9_records_62 x2 x3 kx n σ23 v18 v19 (x7 + 1)
    else
      kx σ
def f_X9_records (σ : St) (a1 : Int) (a2 : Int) (a3 : Int) : Option (Int × St) :=
if (f_X9_within a1 0 999999) = 0 then
  bd2 (f_X9_bad σ) fun v3 σ4 =>
  some (v3, σ4)
else
  if (f_X9_within a2 1 9) = 0 then
    bd2 (f_X9_bad σ) fun v7 σ8 =>
    some (v7, σ8)
  else
    if (f_X9_isTake a3) = 0 then
      bd2 (f_X9_bad σ) fun v11 σ12 =>
      some (v11, σ12)
    else
      if 40 < wI ((σ 1 8) + a2) then
        bd2 (f_X9_full σ) fun v14 σ15 =>
        some (v14, σ15)
      else
        bnd (i2lI a1) fun v16 =>
        lp_X9_records_62 a2 a3 (fun σ27 =>
            some (σ27 1 8, σ27)) 1000 σ v16 6 0
def f_X9_isUnit (σ0 : St) (a1 : Int) : Int :=
(if wI a1 < 0 then 0 else (if wI a1 < wI (σ0 1 8) then 1 else 0))
def f_X9_of (σ : St) (a1 : Int) (a2 : Int) : Option (Int × St) :=
if (f_X9_isUnit σ a1) = 0 then
  bd2 (f_X9_bad σ) fun v3 σ4 =>
  some (v3, σ4)
else
  if wI a2 = 0 then
    rdA 40 σ 2 a1 fun v6 =>
    some (v6, σ)
  else
    if wI a2 = 1 then
      rdA 40 σ 3 a1 fun v8 =>
      some (v8, σ)
    else
      if wI a2 = 2 then
        rdA 40 σ 4 a1 fun v10 =>
        some (v10, σ)
      else
        if wI a2 = 3 then
          rdA 40 σ 5 a1 fun v12 =>
          some (v12, σ)
        else
          if wI a2 = 4 then
            rdA 40 σ 6 a1 fun v14 =>
            some (v14, σ)
          else
            if wI a2 = 5 then
              rdA 40 σ 7 a1 fun v16 =>
              some (v16, σ)
            else
              if wI a2 = 6 then
                rdA 40 σ 8 a1 fun v18 =>
                some (v18, σ)
              else
                bd2 (f_X9_bad σ) fun v19 σ20 =>
                some (v19, σ20)
def f_X9_empties (σ : St)  : Option (Int × St) :=
bd2 (f_X8_removeAll σ) fun v1 σ2 =>
some (σ 1 8, σ2)
def f_X9_other (σ : St) (a1 : Int) (a2 : Int) : Option (Int × St) :=
if (f_X9_isSound a1) = 0 then
  bd2 (f_X9_bad σ) fun v3 σ4 =>
  some (v3, σ4)
else
  if (f_X9_isSound a2) = 0 then
    bd2 (f_X9_bad σ) fun v7 σ8 =>
    some (v7, σ8)
  else
    rdA 6 σ 34 a1 fun v9 =>
    wrA 6 σ 34 a1 a2 fun σ10 =>
    some (v9, σ10)
def f_X9_fitter (σ : St) (a1 : Int) : Option (Int × St) :=
if (f_X9_within a1 0 4) = 0 then
  bd2 (f_X9_bad σ) fun v3 σ4 =>
  some (v3, σ4)
else
  wrF σ 0 8 a1 fun σ5 =>
  some (σ 0 8, σ5)
def f_X9_type (σ : St) (a1 : Int) : Option (Int × St) :=
if (f_X9_within a1 0 127) = 0 then
  bd2 (f_X9_bad σ) fun v3 σ4 =>
  some (v3, σ4)
else
  if wI (σ 21 3) < 120 then
    bd2 (f_X6_add σ a1) fun v6 σ7 =>
    some (σ7 21 3, σ7)
  else
    bd2 (f_X9_full σ) fun v8 σ9 =>
    some (v8, σ9)
def f_X9_clear (σ : St)  : Option (Int × St) :=
wrF σ 21 3 0 fun σ1 =>
some (σ 21 3, σ1)
def f_X9_reads (σ : St)  : Option (Int × St) :=
bd2 (f_X6_read σ) fun v1 σ2 =>
if wI v1 = (-1) then
  if wI (σ2 21 4) = 0 then
    bd2 (f_X7_become σ2 14 27) fun v5 σ6 =>
    some (σ6 14 7, σ6)
  else
    bd2 (f_X4_become σ2 10 23) fun v7 σ8 =>
    some (σ8 10 3, σ8)
else
  some ((-10) - v1, σ2)
def f_X9_isTarget (σ0 : St) (a1 : Int) : Int :=
(if wI a1 < 0 then 0 else (if wI a1 < wI (σ0 10 3) then 1 else 0))
def f_X9_target (σ : St) (a1 : Int) (a2 : Int) : Option (Int × St) :=
if (f_X9_isTarget σ a1) = 0 then
  bd2 (f_X9_bad σ) fun v3 σ4 =>
  some (v3, σ4)
else
  if wI a2 = 0 then
    rdA 8 σ 11 a1 fun v6 =>
    some (v6, σ)
  else
    if wI a2 = 1 then
      rdA 8 σ 12 a1 fun v8 =>
      some (v8, σ)
    else
      if wI a2 = 2 then
        rdA 8 σ 13 a1 fun v10 =>
        some (v10, σ)
      else
        if wI a2 = 3 then
          bd1 (f_X4_leftOf σ 10 a1) fun v12 =>
          some (v12, σ)
        else
          if wI a2 = 4 then
            bd1 (f_X4_rightOf σ 10 a1) fun v14 =>
            some (v14, σ)
          else
            bd2 (f_X9_bad σ) fun v15 σ16 =>
            some (v15, σ16)
def f_J13_bitCount_95d88 (a0 : Int) : Int :=
bnd (a0 - (andL (ushrL a0 1) 6148914691236517205)) fun v1 =>
bnd ((andL v1 3689348814741910323) + (andL (ushrL v1 2) 3689348814741910323)) fun v2 =>
bnd (andL (v2 + (ushrL v2 4)) 1085102592571150095) fun v3 =>
bnd (v3 + (ushrL v3 8)) fun v4 =>
bnd (v4 + (ushrL v4 16)) fun v5 =>
bnd (v5 + (ushrL v5 32)) fun v6 =>
andI v6 127
def lp_X9_emptyLeaves_4 (σ0 : St) (kx : Int → Option Int) : Nat → Int → Int → Option Int
  | 0, _, _ => none
  | n + 1, x1, x3 =>
    if wI x3 < wI (σ0 1 8) then
      bd1 (f_X2_leafOfUnit σ0 x3) fun v2 =>
      bd1 (f_X7_numberOf σ0 14 v2) fun v3 =>
      bnd (orL x1 (shlL 1 v3)) fun v4 =>
      lp_X9_emptyLeaves_4 σ0 kx n v4 (x3 + 1)
    else
      kx x1
def f_X9_emptyLeaves (σ0 : St)  : Option Int :=
lp_X9_emptyLeaves_4 σ0 (fun y5 =>
    some ((σ0 14 7) - (f_J13_bitCount_95d88 y5))) 1000 0 0
def f_X9_tree (σ : St) (a1 : Int) : Option (Int × St) :=
if wI a1 = 0 then
  some (σ 14 7, σ)
else
  if wI a1 = 1 then
    some (σ 14 8, σ)
  else
    if wI a1 = 2 then
      bd1 (f_X9_emptyLeaves σ) fun v4 =>
      some (v4, σ)
    else
      bd2 (f_X9_bad σ) fun v5 σ6 =>
      some (v5, σ6)
def jn_X9_leaf_28 (σ : St) (x1 : Int) (x2 : Int) : Option (Int × St) :=
  if wI x1 = 1 then
    if (f_X9_isTarget σ x2) = 0 then
      bd2 (f_X9_bad σ) fun v7 σ8 =>
      some (v7, σ8)
    else
      bd1 (f_X2_leafOfTarget σ x2) fun v9 =>
      bd1 (f_X7_numberOf σ 14 v9) fun v10 =>
      some (v10, σ)
  else
    bd2 (f_X9_bad σ) fun v11 σ12 =>
    some (v11, σ12)
def f_X9_leaf (σ : St) (a1 : Int) (a2 : Int) : Option (Int × St) :=
if wI a1 = 0 then
  if (f_X9_isUnit σ a2) = 0 then
    jn_X9_leaf_28 σ a1 a2
  else
    bd1 (f_X2_leafOfUnit σ a2) fun v13 =>
    bd1 (f_X7_numberOf σ 14 v13) fun v14 =>
    some (v14, σ)
else
  jn_X9_leaf_28 σ a1 a2
def f_X9_isPlace (σ0 : St) (a1 : Int) : Int :=
if wI (σ0 10 3) = 0 then
  (f_X9_within a1 0 7)
else
  (f_X9_isTarget σ0 a1)
def f_X9_no (σ : St)  : Option (Int × St) :=
wrF σ 0 10 ((σ 0 10) + 1) fun σ1 =>
some ((-3), σ1)
def f_X9_choice (σ : St) (a1 : Int) (a2 : Int) : Option (Int × St) :=
if (f_X9_isPlace σ a1) = 0 then
  wrF σ 0 9 ((σ 0 9) + 1) fun σ3 =>
  some ((-10), σ3)
else
  if wI a2 < (-1) then
    wrF σ 0 9 ((σ 0 9) + 1) fun σ5 =>
    some ((-10), σ5)
  else
    if wI (σ 10 3) = 0 then
      bd2 (f_X9_no σ) fun v7 σ8 =>
      some (v7, σ8)
    else
      bd2 (f_X2_choose σ a1 (-1)) fun v9 σ10 =>
      if (f_X1_isMissing σ10 v9) = 0 then
        if wI a2 = (-1) then
          some (σ10 v9 1, σ10)
        else
          if wI a2 < wI (σ10 v9 1) then
            rdA 40 σ10 (v9 + 1) a2 fun v16 =>
            some (v16, σ10)
          else
            some ((-5), σ10)
      else
        bd2 (f_X9_no σ10) fun v17 σ18 =>
        some (v17, σ18)
def f_X9_steps (σ : St) (a1 : Int) : Option (Int × St) :=
if (f_X9_isTarget σ a1) = 0 then
  bd2 (f_X9_bad σ) fun v3 σ4 =>
  some (v3, σ4)
else
  bd2 (f_X2_choose σ a1 (-1)) fun v5 σ6 =>
  some (σ6 v5 2, σ6)
def f_X9_tried (σ : St) (a1 : Int) : Option (Int × St) :=
if (f_X9_isTarget σ a1) = 0 then
  bd2 (f_X9_bad σ) fun v3 σ4 =>
  some (v3, σ4)
else
  bd2 (f_X2_choose σ a1 (-1)) fun v5 σ6 =>
  some (σ6 v5 3, σ6)
def f_X9_fit (σ : St) (a1 : Int) (a2 : Int) : Option (Int × St) :=
if (f_X9_isUnit σ a1) = 0 then
  bd2 (f_X9_bad σ) fun v3 σ4 =>
  some (v3, σ4)
else
  if (f_X9_isTarget σ a2) = 0 then
    bd2 (f_X9_bad σ) fun v7 σ8 =>
    some (v7, σ8)
  else
    bd1 (f_X3_ofFit σ (σ 0 8) a1 a2) fun v9 =>
    some (v9, σ)
def f_X9_joint (σ : St) (a1 : Int) (a2 : Int) : Option (Int × St) :=
if (f_X9_isUnit σ a1) = 0 then
  bd2 (f_X9_bad σ) fun v3 σ4 =>
  some (v3, σ4)
else
  if (f_X9_isUnit σ a2) = 0 then
    bd2 (f_X9_bad σ) fun v7 σ8 =>
    some (v7, σ8)
  else
    bd1 (f_X3_ofJoint σ a1 a2) fun v9 =>
    some (v9, σ)
def f_X9_findChain (σ : St) (a1 : Int) : Option (Int × St) :=
bd2 (f_X2_chooseAll σ a1) fun v1 σ2 =>
if v1 = 0 then
  some (0, σ2)
else
  bd2 (f_X0_weigh σ2 (σ2 0 8)) fun v5 σ6 =>
  bd2 (f_X0_trace σ6) fun v7 σ8 =>
  some (1, σ8)
def f_X9_cost (σ : St)  : Option (Int × St) :=
bd2 (f_X9_findChain σ (-1)) fun v1 σ2 =>
if v1 = 0 then
  bd2 (f_X9_no σ2) fun v5 σ6 =>
  some (v5, σ6)
else
  bd1 (f_X0_leastPrice σ2) fun v7 =>
  some (v7, σ2)
def f_X9_chain (σ : St) (a1 : Int) : Option (Int × St) :=
if (f_X9_isPlace σ a1) = 0 then
  bd2 (f_X9_bad σ) fun v3 σ4 =>
  some (v3, σ4)
else
  bd2 (f_X9_findChain σ (-1)) fun v5 σ6 =>
  if v5 = 0 then
    bd2 (f_X9_no σ6) fun v9 σ10 =>
    some (v9, σ10)
  else
    rdA 8 σ6 69 a1 fun v11 =>
    some (v11, σ6)
def f_X9_ways (σ : St)  : Option (Int × St) :=
bd2 (f_X9_findChain σ (-1)) fun v1 σ2 =>
if v1 = 0 then
  bd2 (f_X9_no σ2) fun v5 σ6 =>
  some (v5, σ6)
else
  bd1 (f_X0_waysOfLeast σ2) fun v7 =>
  some (v7, σ2)
def f_X9_next (σ : St)  : Option (Int × St) :=
bd2 (f_X9_findChain σ (-1)) fun v1 σ2 =>
if v1 = 0 then
  bd2 (f_X9_no σ2) fun v5 σ6 =>
  some (v5, σ6)
else
  bd1 (f_X0_secondPrice σ2) fun v7 =>
  some (v7, σ2)
def f_X9_dearest (σ : St)  : Option (Int × St) :=
bd2 (f_X9_findChain σ (-1)) fun v1 σ2 =>
if v1 = 0 then
  bd2 (f_X9_no σ2) fun v5 σ6 =>
  some (v5, σ6)
else
  bd1 (f_X0_mostPrice σ2) fun v7 =>
  some (v7, σ2)
def f_X9_without (σ : St) (a1 : Int) : Option (Int × St) :=
if (f_X9_isUnit σ a1) = 0 then
  bd2 (f_X9_bad σ) fun v3 σ4 =>
  some (v3, σ4)
else
  bd2 (f_X9_findChain σ a1) fun v5 σ6 =>
  if v5 = 0 then
    bd2 (f_X9_no σ6) fun v9 σ10 =>
    some (v9, σ10)
  else
    bd1 (f_X0_leastPrice σ6) fun v11 =>
    some (v11, σ6)
def f_X9_about (σ : St) (a1 : Int) : Option (Int × St) :=
if (f_X9_within a1 0 3) = 0 then
  bd2 (f_X9_bad σ) fun v3 σ4 =>
  some (v3, σ4)
else
  bd2 (f_X9_findChain σ (-1)) fun v5 σ6 =>
  if v5 = 0 then
    bd2 (f_X9_no σ6) fun v9 σ10 =>
    some (v9, σ10)
  else
    if wI a1 = 0 then
      bd1 (f_X0_pathFollowers σ6) fun v12 =>
      some (v12, σ6)
    else
      if wI a1 = 1 then
        bd1 (f_X0_pathFits σ6 (σ6 0 8)) fun v14 =>
        some (v14, σ6)
      else
        if wI a1 = 2 then
          bd1 (f_X0_pathJoints σ6) fun v16 =>
          some (v16, σ6)
        else
          bd1 (f_X0_dearestPathJoint σ6) fun v17 =>
          some (v17, σ6)
def lp_X9_cheapest_39 (x1 : Int) (kx : St → Int → Int → Option (Int × St)) : Nat → St → Int → Int → Int → Option (Int × St)
  | 0, _, _, _, _ => none
  | n + 1, σ, x2, x3, x4 =>
    if wI x4 < 5 then
      bd2 (f_X0_weigh σ x4) fun v12 σ13 =>
      bd1 (f_X0_leastPrice σ13) fun v14 =>
      if wI v14 < wI x3 then
        bd1 (f_X0_leastPrice σ13) fun v16 =>
        lp_X9_cheapest_39 x1 kx n σ13 x4 v16 (x4 + 1)
      else
        lp_X9_cheapest_39 x1 kx n σ13 x2 x3 (x4 + 1)
    else
      kx σ x2 x3
def f_X9_cheapest (σ : St) (a1 : Int) : Option (Int × St) :=
if (f_X9_within a1 0 1) = 0 then
  bd2 (f_X9_bad σ) fun v3 σ4 =>
  some (v3, σ4)
else
  bd2 (f_X2_chooseAll σ (-1)) fun v5 σ6 =>
  if v5 = 0 then
    bd2 (f_X9_no σ6) fun v9 σ10 =>
    some (v9, σ10)
  else
    lp_X9_cheapest_39 a1 (fun σ17 y18 y19 =>
        some ((if wI a1 = 0 then y18 else y19), σ17)) 1000 σ6 0 1000000 0
def f_X9_told (σ : St) (a1 : Int) : Option (Int × St) :=
if wI a1 = 0 then
  some (σ 0 9, σ)
else
  if wI a1 = 1 then
    some (σ 0 10, σ)
  else
    if wI a1 = 2 then
      some (σ 0 11, σ)
    else
      if wI a1 = 3 then
        some (σ 21 3, σ)
      else
        if wI a1 = 4 then
          some (σ 1 8, σ)
        else
          if wI a1 = 5 then
            some (σ 10 3, σ)
          else
            if wI a1 = 6 then
              some (σ 0 8, σ)
            else
              bd2 (f_X9_bad σ) fun v8 σ9 =>
              some (v8, σ9)
def lp_X9_digest_6 (kx : St → Int → Option (Int × St)) : Nat → St → Int → Int → Option (Int × St)
  | 0, _, _, _ => none
  | n + 1, σ, x1, x3 =>
    if 6 < wI x3 then
      kx σ x1
    else
      bd2 (f_X9_told σ x3) fun v2 σ3 =>
      bnd ((31 * x1) + (i2lI v2)) fun v4 =>
      lp_X9_digest_6 kx n σ3 v4 (x3 + 1)
def lp_X9_digest_47 (x3 : Int) (kx : St → Int → Option (Int × St)) : Nat → St → Int → Int → Option (Int × St)
  | 0, _, _, _ => none
  | n + 1, σ, x1, x4 =>
    if 5 < wI x4 then
      kx σ x1
    else
      bd2 (f_X9_of σ x3 x4) fun v9 σ10 =>
      bnd ((31 * x1) + (i2lI v9)) fun v11 =>
      lp_X9_digest_47 x3 kx n σ10 v11 (x4 + 1)
def lp_X9_digest_33 (kx : St → Int → Option (Int × St)) : Nat → St → Int → Int → Option (Int × St)
  | 0, _, _, _ => none
  | n + 1, σ, x1, x3 =>
    if wI x3 < wI (σ 1 8) then
      lp_X9_digest_47 x3 (fun σ12 y13 =>
          lp_X9_digest_33 kx n σ12 y13 (x3 + 1)) 1000 σ x1 0
    else
      kx σ x1
def lp_X9_digest_82 (kx : St → Int → Option (Int × St)) : Nat → St → Int → Int → Option (Int × St)
  | 0, _, _, _ => none
  | n + 1, σ, x1, x3 =>
    if wI x3 < 6 then
      rdA 6 σ 34 x3 fun v17 =>
      bnd ((31 * x1) + (i2lI v17)) fun v18 =>
      lp_X9_digest_82 kx n σ v18 (x3 + 1)
    else
      kx σ x1
def lp_X9_digest_124 (x3 : Int) (kx : St → Int → Option (Int × St)) : Nat → St → Int → Int → Option (Int × St)
  | 0, _, _, _ => none
  | n + 1, σ, x1, x4 =>
    if 2 < wI x4 then
      kx σ x1
    else
      bd2 (f_X9_target σ x3 x4) fun v23 σ24 =>
      bnd ((31 * x1) + (i2lI v23)) fun v25 =>
      lp_X9_digest_124 x3 kx n σ24 v25 (x4 + 1)
def lp_X9_digest_110 (kx : St → Int → Option (Int × St)) : Nat → St → Int → Int → Option (Int × St)
  | 0, _, _, _ => none
  | n + 1, σ, x1, x3 =>
    if wI x3 < wI (σ 10 3) then
      lp_X9_digest_124 x3 (fun σ26 y27 =>
          lp_X9_digest_110 kx n σ26 y27 (x3 + 1)) 1000 σ x1 0
    else
      kx σ x1
def lp_X9_digest_222 (kx : St → Int → Option (Int × St)) : Nat → St → Int → Int → Option (Int × St)
  | 0, _, _, _ => none
  | n + 1, σ, x1, x3 =>
    if wI x3 < wI (σ 10 3) then
      rdA 8 σ 69 x3 fun v39 =>
      bnd ((31 * x1) + (i2lI v39)) fun v40 =>
      lp_X9_digest_222 kx n σ v40 (x3 + 1)
    else
      kx σ x1
def f_X9_digest (σ : St)  : Option (Int × St) :=
lp_X9_digest_6 (fun σ5 y6 =>
    lp_X9_digest_33 (fun σ14 y15 =>
        lp_X9_digest_82 (fun σ19 y20 =>
            lp_X9_digest_110 (fun σ28 y29 =>
                bnd ((31 * y29) + (i2lI (σ28 14 7))) fun v30 =>
                bnd ((31 * v30) + (i2lI (σ28 14 8))) fun v31 =>
                bd2 (f_X9_findChain σ28 (-1)) fun v32 σ33 =>
                if v32 = 0 then
                  some ((31 * v31) + (-1), σ33)
                else
                  bd1 (f_X0_leastPrice σ33) fun v36 =>
                  bnd ((31 * v31) + (i2lI v36)) fun v37 =>
                  lp_X9_digest_222 (fun σ41 y42 =>
                      some (y42, σ41)) 1000 σ33 v37 0) 1000 σ19 y20 0) 1000 σ14 y15 0) 1000 σ5 y6 0) 1000 σ 1987 0
