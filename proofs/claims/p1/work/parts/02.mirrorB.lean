def f_X10_in (a0 : Int) (a2 : Int) (a4 : Int) : Int :=
(if cmpL a0 a2 < 0 then 0 else (if 0 < cmpL a0 a4 then 0 else 1))
def f_X10_bad (σ : St) (a1 : Int) : Option (Int × St) :=
rdA 3 σ 126 0 fun v1 =>
wrA 3 σ 126 0 (v1 + 1) fun σ2 =>
some (a1, σ2)
def f_X10_no (σ : St)  : Option (Int × St) :=
rdA 3 σ 126 1 fun v1 =>
wrA 3 σ 126 1 (v1 + 1) fun σ2 =>
some ((-3), σ2)
def f_X10_full (σ : St)  : Option (Int × St) :=
rdA 3 σ 126 2 fun v1 =>
wrA 3 σ 126 2 (v1 + 1) fun σ2 =>
some ((-4), σ2)
def f_X10_far (a0 : Int) (a1 : Int) : Int :=
(if wI a1 < wI a0 then a0 - a1 else a1 - a0)
def f_X10_at (σ0 : St) (a1 : Int) (a2 : Int) : Option Int :=
rdA 240 σ0 119 ((6 * a1) + a2) fun v1 =>
some v1
def f_X10_isUnit (σ0 : St) (a1 : Int) : Int :=
(f_X10_in (i2lI a1) 0 (i2lI ((σ0 118 1) - 1)))
def f_X10_isSound (a0 : Int) : Int :=
(f_X10_in (i2lI a0) 0 5)
def f_X10_lays (σ : St) (a1 : Int) (a2 : Int) (a3 : Int) (a4 : Int) (a5 : Int) (a6 : Int) : Option (Int × St) :=
bnd (6 * (σ 118 1)) fun v1 =>
wrA 240 σ 119 v1 a1 fun σ2 =>
wrA 240 σ2 119 (v1 + 1) a2 fun σ3 =>
wrA 240 σ3 119 (v1 + 2) a3 fun σ4 =>
wrA 240 σ4 119 (v1 + 3) a4 fun σ5 =>
wrA 240 σ5 119 (v1 + 4) a5 fun σ6 =>
wrA 240 σ6 119 (v1 + 5) a6 fun σ7 =>
wrF σ7 118 1 ((σ7 118 1) + 1) fun σ8 =>
some (0, σ8)
def f_X10_unit (σ : St) (a1 : Int) (a2 : Int) (a3 : Int) (a4 : Int) (a5 : Int) (a6 : Int) : Option (Int × St) :=
if (f_X10_isSound a1) = 0 then
  bd2 (f_X10_bad σ (-2)) fun v3 σ4 =>
  some (v3, σ4)
else
  if (f_X10_in (i2lI a2) 0 6) = 0 then
    bd2 (f_X10_bad σ (-2)) fun v7 σ8 =>
    some (v7, σ8)
  else
    if (f_X10_in (i2lI a3) 0 6) = 0 then
      bd2 (f_X10_bad σ (-2)) fun v11 σ12 =>
      some (v11, σ12)
    else
      if (f_X10_in (i2lI a4) 0 9) = 0 then
        bd2 (f_X10_bad σ (-2)) fun v15 σ16 =>
        some (v15, σ16)
      else
        if (f_X10_in (i2lI a5) 1 9) = 0 then
          bd2 (f_X10_bad σ (-2)) fun v19 σ20 =>
          some (v19, σ20)
        else
          if (f_X10_in (i2lI a6) 0 3) = 0 then
            bd2 (f_X10_bad σ (-2)) fun v23 σ24 =>
            some (v23, σ24)
          else
            if wI (σ 118 1) = 40 then
              bd2 (f_X10_full σ) fun v26 σ27 =>
              some (v26, σ27)
            else
              bd2 (f_X10_lays σ a1 a2 a3 a4 a5 a6) fun v28 σ29 =>
              some ((σ29 118 1) - 1, σ29)
def jn_X10_records_115 (kb : St → Int → Int → Option (Int × St)) (σ : St) (x2 : Int) (x3 : Int) (x4 : Int) (x6 : Int) (x7 : Int) (t0 : Int) : Option (Int × St) :=
  bd2 (f_X10_lays σ (remL (divL x4 65536) 6) t0 6 (remL (divL x4 4096) 10) ((remL (divL x4 1024) 9) + 1) x3) fun v20 σ21 =>
  kb σ21 x4 (x7 + 1)
def lp_X10_records_72 (x2 : Int) (x3 : Int) (x6 : Int) (kx : St → Option (Int × St)) : Nat → St → Int → Int → Option (Int × St)
  | 0, _, _, _ => none
  | n + 1, σ, x4, x7 =>
    if wI x7 < wI x2 then
      bnd (remL ((x4 * 1103515245) + 12345) 2147483648) fun v18 =>
      if wI x7 = 0 then
        jn_X10_records_115 (lp_X10_records_72 x2 x3 x6 kx n) σ x2 x3 v18 x6 x7 6
      else
        bd1 (f_X10_at σ ((σ 118 1) - 1) 0) fun v22 =>
        jn_X10_records_115 (lp_X10_records_72 x2 x3 x6 kx n) σ x2 x3 v18 x6 x7 v22
    else
      kx σ
def lp_X10_records_171 (kx : St → Option (Int × St)) : Nat → St → Int → Option (Int × St)
  | 0, _, _ => none
  | n + 1, σ, x7 =>
    if wI (x7 + 1) < wI (σ 118 1) then
      bd1 (f_X10_at σ (x7 + 1) 0) fun v25 =>
      wrA 240 σ 119 ((6 * x7) + 2) v25 fun σ26 =>
      lp_X10_records_171 kx n σ26 (x7 + 1)
    else
      kx σ
def f_X10_records (σ : St) (a1 : Int) (a2 : Int) (a3 : Int) : Option (Int × St) :=
if (f_X10_in (i2lI a1) 0 999999) = 0 then
  bd2 (f_X10_bad σ (-2)) fun v3 σ4 =>
  some (v3, σ4)
else
  if (f_X10_in (i2lI a2) 1 9) = 0 then
    bd2 (f_X10_bad σ (-2)) fun v7 σ8 =>
    some (v7, σ8)
  else
    if (f_X10_in (i2lI a3) 0 3) = 0 then
      bd2 (f_X10_bad σ (-2)) fun v11 σ12 =>
      some (v11, σ12)
    else
      if 40 < wI ((σ 118 1) + a2) then
        bd2 (f_X10_full σ) fun v14 σ15 =>
        some (v14, σ15)
      else
        bnd (i2lI a1) fun v16 =>
        lp_X10_records_72 a2 a3 (σ 118 1) (fun σ23 =>
            lp_X10_records_171 (fun σ27 =>
                some (σ27 118 1, σ27)) 1000 σ23 (σ 118 1)) 1000 σ v16 0
def lp_X10_nextOf_4 (σ0 : St) (x1 : Int) (kx : Option Int) : Nat → Int → Option Int
  | 0, _ => none
  | n + 1, x2 =>
    if wI x2 < wI (σ0 118 1) then
      bd1 (f_X10_at σ0 x2 5) fun v3 =>
      bd1 (f_X10_at σ0 x1 5) fun v4 =>
      if wI v3 = wI v4 then
        some x2
      else
        lp_X10_nextOf_4 σ0 x1 kx n (x2 + 1)
    else
      kx
def f_X10_nextOf (σ0 : St) (a1 : Int) : Option Int :=
bnd (a1 + 1) fun v1 =>
lp_X10_nextOf_4 σ0 a1 (
    some (-1)) 1000 v1
def f_X10_of (σ : St) (a1 : Int) (a2 : Int) : Option (Int × St) :=
if (f_X10_isUnit σ a1) = 0 then
  bd2 (f_X10_bad σ (-2)) fun v3 σ4 =>
  some (v3, σ4)
else
  if (f_X10_in (i2lI a2) 0 6) = 0 then
    bd2 (f_X10_bad σ (-2)) fun v7 σ8 =>
    some (v7, σ8)
  else
    if wI a2 = 6 then
      bd1 (f_X10_nextOf σ a1) fun v10 =>
      some (v10, σ)
    else
      bd1 (f_X10_at σ a1 a2) fun v11 =>
      some (v11, σ)
def f_X10_empties (σ : St)  : Option (Int × St) :=
wrF σ 118 1 0 fun σ1 =>
some (σ 118 1, σ1)
def f_X10_other (σ : St) (a1 : Int) (a2 : Int) : Option (Int × St) :=
if (f_X10_isSound a1) = 0 then
  bd2 (f_X10_bad σ (-2)) fun v3 σ4 =>
  some (v3, σ4)
else
  if (f_X10_isSound a2) = 0 then
    bd2 (f_X10_bad σ (-2)) fun v7 σ8 =>
    some (v7, σ8)
  else
    rdA 6 σ 121 a1 fun v9 =>
    wrA 6 σ 121 a1 a2 fun σ10 =>
    some (v9, σ10)
def f_X10_fitter (σ : St) (a1 : Int) : Option (Int × St) :=
if (f_X10_in (i2lI a1) 0 4) = 0 then
  bd2 (f_X10_bad σ (-2)) fun v3 σ4 =>
  some (v3, σ4)
else
  wrF σ 118 5 a1 fun σ5 =>
  some (σ 118 5, σ5)
def f_X10_type (σ : St) (a1 : Int) : Option (Int × St) :=
if (f_X10_in (i2lI a1) 0 127) = 0 then
  bd2 (f_X10_bad σ (-2)) fun v3 σ4 =>
  some (v3, σ4)
else
  if wI (σ 118 14) = 120 then
    bd2 (f_X10_full σ) fun v6 σ7 =>
    some (v6, σ7)
  else
    wrA 120 σ 127 (σ 118 14) a1 fun σ8 =>
    wrF σ8 118 14 ((σ8 118 14) + 1) fun σ9 =>
    some (σ9 118 14, σ9)
def f_X10_clear (σ : St)  : Option (Int × St) :=
wrF σ 118 14 0 fun σ1 =>
some (σ 118 14, σ1)
def lp_X10_here_0 (kx : St → Option (Int × St)) : Nat → St → Option (Int × St)
  | 0, _ => none
  | n + 1, σ =>
    if wI (σ 118 15) < wI (σ 118 14) then
      rdA 120 σ 127 (σ 118 15) fun v2 =>
      if wI v2 = 32 then
        wrF σ 118 15 ((σ 118 15) + 1) fun σ4 =>
        lp_X10_here_0 kx n σ4
      else
        kx σ
    else
      kx σ
def jn_X10_here_38 (σ : St)  : Option (Int × St) :=
  if wI (σ 118 15) < wI (σ 118 14) then
    rdA 120 σ 127 (σ 118 15) fun v7 =>
    some (v7, σ)
  else
    some (0, σ)
def f_X10_here (σ : St)  : Option (Int × St) :=
lp_X10_here_0 (fun σ5 =>
    jn_X10_here_38 σ5) 1000 σ
def f_X10_takes (σ : St) (a1 : Int) (a2 : Int) : Option (Int × St) :=
bd2 (f_X10_here σ) fun v1 σ2 =>
if (f_X10_in (i2lI v1) (i2lI a1) (i2lI a2)) = 0 then
  some ((-1), σ2)
else
  wrF σ2 118 15 ((σ2 118 15) + 1) fun σ5 =>
  some (v1 - a1, σ5)
def f_X10_letterOf (a0 : Int) (a1 : Int) : Int :=
(if wI a0 = 0 then (if wI a1 = 0 then 114 else (if wI a1 = 1 then 111 else 119)) else (if wI a1 = 0 then 116 else (if wI a1 = 1 then 114 else 101)))
def lp_X10_takesWord_25 (x2 : Int) (x3 : Int) (kx : St → Option (Int × St)) : Nat → St → Int → Option (Int × St)
  | 0, _, _ => none
  | n + 1, σ, x4 =>
    if wI x4 < wI (3 + x3) then
      if wI (x2 + x4) < wI (σ 118 14) then
        rdA 120 σ 127 (x2 + x4) fun v7 =>
        if wI v7 = wI (f_X10_letterOf x3 x4) then
          lp_X10_takesWord_25 x2 x3 kx n σ (x4 + 1)
        else
          wrF σ 118 15 x2 fun σ9 =>
          some ((-1), σ9)
      else
        wrF σ 118 15 (σ 118 14) fun σ10 =>
        some ((-1), σ10)
    else
      kx σ
def f_X10_takesWord (σ : St)  : Option (Int × St) :=
bd2 (f_X10_here σ) fun v1 σ2 =>
bnd (if wI v1 = 116 then 1 else 0) fun v4 =>
lp_X10_takesWord_25 (σ2 118 15) v4 (fun σ11 =>
    wrF σ11 118 15 (((σ2 118 15) + 3) + v4) fun σ12 =>
    some (v4, σ12)) 1000 σ2 0
def jn_X10_readsRow_65 (kb : St → Int → Option (Int × St)) (σ : St) (x1 : Int) (x2 : Int) (x3 : Int) (t0 : Int) : Option (Int × St) :=
  if wI t0 < 0 then
    some ((-1), σ)
  else
    wrA 24 σ 128 (3 * x1) x2 fun σ8 =>
    wrA 24 σ8 128 ((3 * x1) + 1) x3 fun σ9 =>
    wrA 24 σ9 128 ((3 * x1) + 2) (t0 + 1) fun σ10 =>
    kb σ10 (x1 + 1)
def jn_X10_readsRow_48 (kb : St → Int → Option (Int × St)) (σ : St) (x1 : Int) (x2 : Int) (t0 : Int) : Option (Int × St) :=
  if wI t0 < 0 then
    jn_X10_readsRow_65 (kb) σ x1 x2 t0 (-1)
  else
    bd2 (f_X10_takes σ 49 57) fun v11 σ12 =>
    jn_X10_readsRow_65 (kb) σ12 x1 x2 t0 v11
def jn_X10_readsRow_15 (kb : St → Int → Option (Int × St)) (σ : St) (x1 : Int) : Option (Int × St) :=
  if wI x1 = 8 then
    some ((-1), σ)
  else
    bd2 (f_X10_takes σ 97 102) fun v3 σ4 =>
    if wI v3 < 0 then
      jn_X10_readsRow_48 (kb) σ4 x1 v3 (-1)
    else
      bd2 (f_X10_takes σ4 48 57) fun v13 σ14 =>
      jn_X10_readsRow_48 (kb) σ14 x1 v3 v13
def lp_X10_readsRow_2 (kx : St → Int → Option (Int × St)) : Nat → St → Int → Option (Int × St)
  | 0, _, _ => none
  | n + 1, σ, x1 =>
    if wI x1 = 0 then
      jn_X10_readsRow_15 (lp_X10_readsRow_2 kx n) σ x1
    else
      bd2 (f_X10_here σ) fun v15 σ16 =>
      if wI v15 = 59 then
        kx σ16 x1
      else
        jn_X10_readsRow_15 (lp_X10_readsRow_2 kx n) σ16 x1
def f_X10_readsRow (σ : St)  : Option (Int × St) :=
lp_X10_readsRow_2 (fun σ18 y19 =>
    some (y19, σ18)) 1000 σ 0
def f_X10_questionOf (a0 : Int) : Int :=
(if wI a0 = 76 then 1 else (if wI a0 = 82 then 2 else (if wI a0 = 80 then 3 else (if wI a0 = 68 then 4 else 0))))
def jn_X10_hangs_46 (σ : St) (x2 : Int) : Option (Int × St) :=
  rdA 8 σ 134 (x2 - 1) fun v6 =>
  wrA 8 σ 134 (x2 - 1) (v6 + 1) fun σ7 =>
  some (0, σ7)
def f_X10_hangs (σ : St) (a1 : Int) (a2 : Int) : Option (Int × St) :=
if 0 < wI a2 then
  rdA 8 σ 134 (a2 - 1) fun v2 =>
  if wI v2 = 0 then
    rdA 8 σ 133 (a2 - 1) fun v4 =>
    wrA 128 σ 131 v4 a1 fun σ5 =>
    jn_X10_hangs_46 σ5 a2
  else
    rdA 8 σ 133 (a2 - 1) fun v8 =>
    wrA 128 σ 132 v8 a1 fun σ9 =>
    jn_X10_hangs_46 σ9 a2
else
  some (0, σ)
def jn_X10_readsTree_251 (kb : St → Int → Int → Int → Option (Int × St)) (σ : St) (x1 : Int) (x2 : Int) : Option (Int × St) :=
  bnd (if wI x2 = 0 then 1 else 0) fun v14 =>
  kb σ x1 x2 v14
def jn_X10_readsTree_68 (kb : St → Int → Int → Int → Option (Int × St)) (σ : St) (x1 : Int) (x2 : Int) (x4 : Int) (x5 : Int) : Option (Int × St) :=
  if wI x4 = 42 then
    wrF σ 118 15 ((σ 118 15) + 1) fun σ17 =>
    wrA 128 σ17 129 x1 0 fun σ18 =>
    wrA 128 σ18 130 x1 (σ18 118 21) fun σ19 =>
    wrF σ19 118 21 ((σ19 118 21) + 1) fun σ20 =>
    bd2 (f_X10_hangs σ20 x1 x2) fun v21 σ22 =>
    jn_X10_readsTree_251 (kb) σ22 (x1 + 1) x2
  else
    if 0 < wI x5 then
      if wI x2 < 7 then
        wrF σ 118 15 ((σ 118 15) + 1) fun σ25 =>
        bd2 (f_X10_takes σ25 48 (if wI x5 < 3 then 54 else 57)) fun v27 σ28 =>
        if wI v27 < 0 then
          some ((-1), σ28)
        else
          bd2 (f_X10_takes σ28 40 40) fun v30 σ31 =>
          if wI v30 < 0 then
            some ((-1), σ31)
          else
            wrA 128 σ31 129 x1 x5 fun σ33 =>
            wrA 128 σ33 130 x1 v27 fun σ34 =>
            bd2 (f_X10_hangs σ34 x1 x2) fun v35 σ36 =>
            wrA 8 σ36 133 x2 x1 fun σ37 =>
            wrA 8 σ37 134 x2 0 fun σ38 =>
            wrF σ38 118 22 (if wI (σ38 118 22) < wI (x2 + 1) then x2 + 1 else σ38 118 22) fun σ40 =>
            jn_X10_readsTree_251 (kb) σ40 (x1 + 1) (x2 + 1)
      else
        some ((-1), σ)
    else
      some ((-1), σ)
def lp_X10_readsTree_16 (kx : St → Option (Int × St)) : Nat → St → Int → Int → Int → Option (Int × St)
  | 0, _, _, _, _ => none
  | n + 1, σ, x1, x2, x3 =>
    if wI x3 = 0 then
      bd2 (f_X10_here σ) fun v4 σ5 =>
      bnd (f_X10_questionOf v4) fun v6 =>
      if 0 < wI x2 then
        rdA 8 σ5 134 (x2 - 1) fun v8 =>
        if wI v8 = 2 then
          bd2 (f_X10_takes σ5 41 41) fun v10 σ11 =>
          if wI v10 < 0 then
            some ((-1), σ11)
          else
            jn_X10_readsTree_251 (lp_X10_readsTree_16 kx n) σ11 x1 (x2 + (-1))
        else
          jn_X10_readsTree_68 (lp_X10_readsTree_16 kx n) σ5 x1 x2 v4 v6
      else
        jn_X10_readsTree_68 (lp_X10_readsTree_16 kx n) σ5 x1 x2 v4 v6
    else
      kx σ
def f_X10_readsTree (σ : St)  : Option (Int × St) :=
wrF σ 118 21 0 fun σ1 =>
wrF σ1 118 22 0 fun σ2 =>
lp_X10_readsTree_16 (fun σ43 =>
    some (σ43 118 21, σ43)) 1000 σ2 0 0 0
def lp_X10_reads_115 (x2 : Int) (kx : St → Option (Int × St)) : Nat → St → Int → Option (Int × St)
  | 0, _, _ => none
  | n + 1, σ, x4 =>
    if wI x4 < wI (3 * x2) then
      rdA 24 σ 128 x4 fun v16 =>
      wrA 24 σ 120 x4 v16 fun σ17 =>
      lp_X10_reads_115 x2 kx n σ17 (x4 + 1)
    else
      kx σ
def lp_X10_reads_162 (x2 : Int) (kx : St → Option (Int × St)) : Nat → St → Int → Option (Int × St)
  | 0, _, _ => none
  | n + 1, σ, x4 =>
    if wI x4 < 128 then
      rdA 128 σ 129 x4 fun v22 =>
      wrA 128 σ 122 x4 v22 fun σ23 =>
      rdA 128 σ23 130 x4 fun v24 =>
      wrA 128 σ23 123 x4 v24 fun σ25 =>
      rdA 128 σ25 131 x4 fun v26 =>
      wrA 128 σ25 124 x4 v26 fun σ27 =>
      rdA 128 σ27 132 x4 fun v28 =>
      wrA 128 σ27 125 x4 v28 fun σ29 =>
      lp_X10_reads_162 x2 kx n σ29 (x4 + 1)
    else
      kx σ
def jn_X10_reads_72 (σ : St) (x1 : Int) (x2 : Int) (t0 : Int) : Option (Int × St) :=
  if wI t0 = 0 then
    if wI x2 < 0 then
      if wI x1 < 0 then
        some ((-10) - (σ 118 15), σ)
      else
        bd2 (f_X10_here σ) fun v9 σ10 =>
        some ((-10) - (σ10 118 15), σ10)
    else
      bd2 (f_X10_here σ) fun v11 σ12 =>
      some ((-10) - (σ12 118 15), σ12)
  else
    if wI x1 = 0 then
      wrF σ 118 3 x2 fun σ14 =>
      lp_X10_reads_115 x2 (fun σ18 =>
          some (x2, σ18)) 1000 σ14 0
    else
      wrF σ 118 10 x2 fun σ19 =>
      wrF σ19 118 11 (σ19 118 22) fun σ20 =>
      lp_X10_reads_162 x2 (fun σ30 =>
          some (x2, σ30)) 1000 σ20 0
def jn_X10_reads_33 (σ : St) (x1 : Int) (t0 : Int) : Option (Int × St) :=
  if wI t0 < 0 then
    jn_X10_reads_72 σ x1 t0 0
  else
    bd2 (f_X10_takes σ 59 59) fun v31 σ32 =>
    if wI v31 = 0 then
      bd2 (f_X10_here σ32) fun v34 σ35 =>
      jn_X10_reads_72 σ35 x1 t0 (if wI v34 = 0 then (if wI (σ35 118 15) = wI (σ35 118 14) then 1 else 0) else 0)
    else
      jn_X10_reads_72 σ32 x1 t0 0
def f_X10_reads (σ : St)  : Option (Int × St) :=
wrF σ 118 15 0 fun σ1 =>
bd2 (f_X10_takesWord σ1) fun v2 σ3 =>
if wI v2 < 0 then
  jn_X10_reads_33 σ3 v2 (-1)
else
  if wI v2 = 0 then
    bd2 (f_X10_readsRow σ3) fun v40 σ41 =>
    jn_X10_reads_33 σ41 v2 v40
  else
    bd2 (f_X10_readsTree σ3) fun v42 σ43 =>
    jn_X10_reads_33 σ43 v2 v42
def f_X10_isTarget (σ0 : St) (a1 : Int) : Int :=
(f_X10_in (i2lI a1) 0 (i2lI ((σ0 118 3) - 1)))
def f_X10_targetLeft (σ0 : St) (a1 : Int) : Option Int :=
if wI a1 = 0 then
  some 6
else
  rdA 24 σ0 120 (3 * (a1 - 1)) fun v2 =>
  some v2
def f_X10_targetRight (σ0 : St) (a1 : Int) : Option Int :=
if wI a1 = wI ((σ0 118 3) - 1) then
  some 6
else
  rdA 24 σ0 120 (3 * (a1 + 1)) fun v2 =>
  some v2
def f_X10_target (σ : St) (a1 : Int) (a2 : Int) : Option (Int × St) :=
if (f_X10_isTarget σ a1) = 0 then
  bd2 (f_X10_bad σ (-2)) fun v3 σ4 =>
  some (v3, σ4)
else
  if (f_X10_in (i2lI a2) 0 4) = 0 then
    bd2 (f_X10_bad σ (-2)) fun v7 σ8 =>
    some (v7, σ8)
  else
    if wI a2 < 3 then
      rdA 24 σ 120 ((3 * a1) + a2) fun v10 =>
      some (v10, σ)
    else
      if wI a2 = 3 then
        bd1 (f_X10_targetLeft σ a1) fun v12 =>
        some (v12, σ)
      else
        bd1 (f_X10_targetRight σ a1) fun v13 =>
        some (v13, σ)
def f_X10_answers (σ0 : St) (a1 : Int) (a2 : Int) (a3 : Int) (a4 : Int) (a5 : Int) : Option Int :=
rdA 128 σ0 123 a1 fun v1 =>
rdA 128 σ0 122 a1 fun v2 =>
if wI v2 = 1 then
  some (if wI a2 = wI v1 then 1 else 0)
else
  if wI v2 = 2 then
    some (if wI a3 = wI v1 then 1 else 0)
  else
    if wI v2 = 3 then
      some (if wI v1 < wI a4 then 1 else 0)
    else
      some (if wI v1 < wI a5 then 1 else 0)
def f_X10_unitAnswers (σ0 : St) (a1 : Int) (a2 : Int) : Option Int :=
bd1 (f_X10_at σ0 a2 1) fun v1 =>
bd1 (f_X10_at σ0 a2 2) fun v2 =>
bd1 (f_X10_at σ0 a2 3) fun v3 =>
bd1 (f_X10_at σ0 a2 4) fun v4 =>
bd1 (f_X10_answers σ0 a1 v1 v2 v3 v4) fun v5 =>
some v5
def f_X10_targetAnswers (σ0 : St) (a1 : Int) (a2 : Int) : Option Int :=
bd1 (f_X10_targetLeft σ0 a2) fun v1 =>
bd1 (f_X10_targetRight σ0 a2) fun v2 =>
rdA 24 σ0 120 ((3 * a2) + 1) fun v3 =>
rdA 24 σ0 120 ((3 * a2) + 2) fun v4 =>
bd1 (f_X10_answers σ0 a1 v1 v2 v3 v4) fun v5 =>
some v5
def jn_X10_leafOf_30 (σ0 : St) (kb : Int → Option Int) (x1 : Int) (x2 : Int) (x3 : Int) (t0 : Int) : Option Int :=
  if wI t0 = 0 then
    rdA 128 σ0 125 x3 fun v7 =>
    kb v7
  else
    rdA 128 σ0 124 x3 fun v8 =>
    kb v8
def lp_X10_leafOf_2 (σ0 : St) (x1 : Int) (x2 : Int) (kx : Int → Option Int) : Nat → Int → Option Int
  | 0, _ => none
  | n + 1, x3 =>
    rdA 128 σ0 122 x3 fun v1 =>
    if wI v1 = 0 then
      kx x3
    else
      if wI x1 = 0 then
        bd1 (f_X10_targetAnswers σ0 x3 x2) fun v4 =>
        jn_X10_leafOf_30 σ0 (lp_X10_leafOf_2 σ0 x1 x2 kx n) x1 x2 x3 v4
      else
        bd1 (f_X10_unitAnswers σ0 x3 x2) fun v9 =>
        jn_X10_leafOf_30 σ0 (lp_X10_leafOf_2 σ0 x1 x2 kx n) x1 x2 x3 v9
def f_X10_leafOf (σ0 : St) (a1 : Int) (a2 : Int) : Option Int :=
lp_X10_leafOf_2 σ0 a1 a2 (fun y11 =>
    rdA 128 σ0 123 y11 fun v12 =>
    some v12) 1000 0
def lp_X10_emptyLeaves_17 (σ0 : St) (x1 : Int) (x2 : Int) (kx : Int → Option Int) : Nat → Int → Int → Option Int
  | 0, _, _ => none
  | n + 1, x3, x4 =>
    if wI x4 < wI (σ0 118 1) then
      if wI x3 = 0 then
        bd1 (f_X10_leafOf σ0 1 x4) fun v4 =>
        bnd (if wI v4 = wI x2 then 1 else 0) fun v6 =>
        lp_X10_emptyLeaves_17 σ0 x1 x2 kx n v6 (x4 + 1)
      else
        lp_X10_emptyLeaves_17 σ0 x1 x2 kx n 1 (x4 + 1)
    else
      kx x3
def lp_X10_emptyLeaves_4 (σ0 : St) (kx : Int → Option Int) : Nat → Int → Int → Option Int
  | 0, _, _ => none
  | n + 1, x1, x2 =>
    if wI x2 < wI (σ0 118 10) then
      lp_X10_emptyLeaves_17 σ0 x1 x2 (fun y8 =>
          bnd (x1 + (if wI y8 = 0 then 1 else 0)) fun v10 =>
          lp_X10_emptyLeaves_4 σ0 kx n v10 (x2 + 1)) 1000 0 0
    else
      kx x1
def f_X10_emptyLeaves (σ0 : St)  : Option Int :=
lp_X10_emptyLeaves_4 σ0 (fun y12 =>
    some y12) 1000 0 0
def f_X10_tree (σ : St) (a1 : Int) : Option (Int × St) :=
if (f_X10_in (i2lI a1) 0 2) = 0 then
  bd2 (f_X10_bad σ (-2)) fun v3 σ4 =>
  some (v3, σ4)
else
  if wI a1 = 0 then
    some (σ 118 10, σ)
  else
    if wI a1 = 1 then
      some (σ 118 11, σ)
    else
      bd1 (f_X10_emptyLeaves σ) fun v7 =>
      some (v7, σ)
def jn_X10_leaf_40 (σ : St) (x1 : Int) (x2 : Int) : Option (Int × St) :=
  bd1 (f_X10_leafOf σ (if wI x1 = 0 then 1 else 0) x2) fun v11 =>
  some (v11, σ)
def f_X10_leaf (σ : St) (a1 : Int) (a2 : Int) : Option (Int × St) :=
if (f_X10_in (i2lI a1) 0 1) = 0 then
  bd2 (f_X10_bad σ (-2)) fun v3 σ4 =>
  some (v3, σ4)
else
  if wI a1 = 0 then
    if (f_X10_isUnit σ a2) = 0 then
      bd2 (f_X10_bad σ (-2)) fun v8 σ9 =>
      some (v8, σ9)
    else
      jn_X10_leaf_40 σ a1 a2
  else
    if (f_X10_isTarget σ a2) = 0 then
      bd2 (f_X10_bad σ (-2)) fun v15 σ16 =>
      some (v15, σ16)
    else
      jn_X10_leaf_40 σ a1 a2
def lp_X10_wayLong_4 (σ0 : St) (x1 : Int) (kx : Int → Option Int) : Nat → Int → Int → Option Int
  | 0, _, _ => none
  | n + 1, x2, x3 =>
    rdA 128 σ0 122 x2 fun v1 =>
    if wI v1 = 0 then
      kx x3
    else
      bd1 (f_X10_targetAnswers σ0 x2 x1) fun v3 =>
      if v3 = 0 then
        rdA 128 σ0 125 x2 fun v6 =>
        lp_X10_wayLong_4 σ0 x1 kx n v6 (x3 + 1)
      else
        rdA 128 σ0 124 x2 fun v7 =>
        lp_X10_wayLong_4 σ0 x1 kx n v7 (x3 + 1)
def f_X10_wayLong (σ0 : St) (a1 : Int) : Option Int :=
lp_X10_wayLong_4 σ0 a1 (fun y8 =>
    some y8) 1000 0 0
def lp_X10_goesAlong_5 (σ0 : St) (x1 : Int) (x2 : Int) (kx : Int → Option Int) : Nat → Int → Int → Option Int
  | 0, _, _ => none
  | n + 1, x3, x4 =>
    rdA 128 σ0 122 x3 fun v1 =>
    if wI v1 = 0 then
      kx x4
    else
      bd1 (f_X10_unitAnswers σ0 x3 x1) fun v3 =>
      bd1 (f_X10_targetAnswers σ0 x3 x2) fun v5 =>
      if v3 = v5 then
        bd1 (f_X10_targetAnswers σ0 x3 x2) fun v8 =>
        if v8 = 0 then
          rdA 128 σ0 125 x3 fun v11 =>
          lp_X10_goesAlong_5 σ0 x1 x2 kx n v11 (x4 + 1)
        else
          rdA 128 σ0 124 x3 fun v12 =>
          lp_X10_goesAlong_5 σ0 x1 x2 kx n v12 (x4 + 1)
      else
        kx x4
def f_X10_goesAlong (σ0 : St) (a1 : Int) (a2 : Int) : Option Int :=
lp_X10_goesAlong_5 σ0 a1 a2 (fun y13 =>
    some y13) 1000 0 0
def jn_X10_chooses_110 (kb : St → Int → Int → Option (Int × St)) (σ : St) (x1 : Int) (x2 : Int) (x3 : Int) (x4 : Int) (x5 : Int) (x6 : Int) (t0 : Int) : Option (Int × St) :=
  bnd (if wI x5 < wI t0 then t0 else x5) fun v12 =>
  kb σ v12 (x6 + 1)
def jn_X10_chooses_92 (kb : St → Int → Int → Option (Int × St)) (σ : St) (x1 : Int) (x2 : Int) (x3 : Int) (x4 : Int) (x5 : Int) (x6 : Int) (t0 : Int) : Option (Int × St) :=
  if wI t0 = 0 then
    jn_X10_chooses_110 (kb) σ x1 x2 x3 x4 x5 x6 (-1)
  else
    bd1 (f_X10_goesAlong σ x6 x1) fun v14 =>
    jn_X10_chooses_110 (kb) σ x1 x2 x3 x4 x5 x6 v14
def lp_X10_chooses_58 (x1 : Int) (x2 : Int) (x3 : Int) (x4 : Int) (kx : St → Int → Option (Int × St)) : Nat → St → Int → Int → Option (Int × St)
  | 0, _, _, _ => none
  | n + 1, σ, x5, x6 =>
    if wI x6 < wI (σ 118 1) then
      if wI x6 = wI (σ 118 27) then
        jn_X10_chooses_92 (lp_X10_chooses_58 x1 x2 x3 x4 kx n) σ x1 x2 x3 x4 x5 x6 0
      else
        bd1 (f_X10_at σ x6 0) fun v15 =>
        jn_X10_chooses_92 (lp_X10_chooses_58 x1 x2 x3 x4 kx n) σ x1 x2 x3 x4 x5 x6 (if wI v15 = wI x2 then 1 else 0)
    else
      kx σ x5
def lp_X10_chooses_146 (x1 : Int) (x2 : Int) (x4 : Int) (x5 : Int) (kx : St → Int → Option (Int × St)) : Nat → St → Int → Int → Option (Int × St)
  | 0, _, _, _ => none
  | n + 1, σ, x6, x7 =>
    if wI x7 < wI (σ 118 1) then
      if wI x7 = wI (σ 118 27) then
        lp_X10_chooses_146 x1 x2 x4 x5 kx n σ x6 (x7 + 1)
      else
        bd1 (f_X10_at σ x7 0) fun v25 =>
        if wI v25 = wI x2 then
          bd1 (f_X10_goesAlong σ x7 x1) fun v27 =>
          if wI v27 = wI x5 then
            wrA 320 σ 135 ((40 * x1) + x6) x7 fun σ29 =>
            lp_X10_chooses_146 x1 x2 x4 x5 kx n σ29 (x6 + 1) (x7 + 1)
          else
            lp_X10_chooses_146 x1 x2 x4 x5 kx n σ x6 (x7 + 1)
        else
          lp_X10_chooses_146 x1 x2 x4 x5 kx n σ x6 (x7 + 1)
    else
      kx σ x6
def lp_X10_chooses_28 (x1 : Int) (x4 : Int) (kx : St → Option (Int × St)) : Nat → St → Int → Int → Option (Int × St)
  | 0, _, _, _ => none
  | n + 1, σ, x2, x3 =>
    if wI (andI (shrI x3 x2) 1) = 0 then
      bnd (orI x3 (shlI 1 x2)) fun v6 =>
      wrF σ 118 29 ((σ 118 29) + 1) fun σ7 =>
      lp_X10_chooses_58 x1 x2 v6 x4 (fun σ18 y19 =>
          if wI y19 = (-1) then
            wrF σ18 118 28 ((σ18 118 28) + (x4 + 1)) fun σ21 =>
            rdA 6 σ21 121 x2 fun v22 =>
            lp_X10_chooses_28 x1 x4 kx n σ21 v22 v6
          else
            lp_X10_chooses_146 x1 x2 x4 y19 (fun σ30 y31 =>
                wrA 8 σ30 136 x1 y31 fun σ32 =>
                wrF σ32 118 28 ((σ32 118 28) + (x4 - y19)) fun σ33 =>
                some (1, σ33)) 1000 σ18 0 0) 1000 σ7 (-1) 0
    else
      kx σ
def f_X10_chooses (σ : St) (a1 : Int) : Option (Int × St) :=
rdA 24 σ 120 (3 * a1) fun v1 =>
bd1 (f_X10_wayLong σ a1) fun v2 =>
wrF σ 118 28 0 fun σ3 =>
wrF σ3 118 29 0 fun σ4 =>
lp_X10_chooses_28 a1 v2 (fun σ34 =>
    some (0, σ34)) 1000 σ4 v1 0
def jn_X10_choice_27 (σ : St) (x1 : Int) (x2 : Int) : Option (Int × St) :=
  if wI x2 < (-1) then
    bd2 (f_X10_bad σ (-10)) fun v8 σ9 =>
    some (v8, σ9)
  else
    if wI (σ 118 3) = 0 then
      bd2 (f_X10_no σ) fun v11 σ12 =>
      some (v11, σ12)
    else
      bd2 (f_X10_chooses σ x1) fun v13 σ14 =>
      if v13 = 0 then
        bd2 (f_X10_no σ14) fun v17 σ18 =>
        some (v17, σ18)
      else
        if wI x2 = (-1) then
          rdA 8 σ14 136 x1 fun v20 =>
          some (v20, σ14)
        else
          rdA 8 σ14 136 x1 fun v21 =>
          if wI x2 < wI v21 then
            rdA 320 σ14 135 ((40 * x1) + x2) fun v23 =>
            some (v23, σ14)
          else
            some ((-5), σ14)
def f_X10_choice (σ : St) (a1 : Int) (a2 : Int) : Option (Int × St) :=
if (f_X10_in (i2lI a1) 0 7) = 0 then
  bd2 (f_X10_bad σ (-10)) fun v3 σ4 =>
  some (v3, σ4)
else
  if 0 < wI (σ 118 3) then
    if wI a1 < wI (σ 118 3) then
      jn_X10_choice_27 σ a1 a2
    else
      bd2 (f_X10_bad σ (-10)) fun v24 σ25 =>
      some (v24, σ25)
  else
    jn_X10_choice_27 σ a1 a2
def f_X10_steps (σ : St) (a1 : Int) : Option (Int × St) :=
if (f_X10_isTarget σ a1) = 0 then
  bd2 (f_X10_bad σ (-2)) fun v3 σ4 =>
  some (v3, σ4)
else
  bd2 (f_X10_chooses σ a1) fun v5 σ6 =>
  some ((if v5 = 0 then (-1) else σ6 118 28), σ6)
def f_X10_tried (σ : St) (a1 : Int) : Option (Int × St) :=
if (f_X10_isTarget σ a1) = 0 then
  bd2 (f_X10_bad σ (-2)) fun v3 σ4 =>
  some (v3, σ4)
else
  bd2 (f_X10_chooses σ a1) fun v5 σ6 =>
  some (σ6 118 29, σ6)
def f_X10_fitAs (σ0 : St) (a1 : Int) (a2 : Int) (a3 : Int) : Option Int :=
bd1 (f_X10_at σ0 a2 3) fun v1 =>
rdA 24 σ0 120 ((3 * a3) + 1) fun v2 =>
bnd (f_X10_far v1 v2) fun v3 =>
bd1 (f_X10_at σ0 a2 4) fun v4 =>
rdA 24 σ0 120 ((3 * a3) + 2) fun v5 =>
bnd (v3 + (f_X10_far v4 v5)) fun v6 =>
bd1 (f_X10_at σ0 a2 1) fun v7 =>
bd1 (f_X10_targetLeft σ0 a3) fun v8 =>
bd1 (f_X10_at σ0 a2 2) fun v10 =>
bd1 (f_X10_targetRight σ0 a3) fun v11 =>
bnd ((v6 + (if wI v7 = wI v8 then 0 else 2)) + (if wI v10 = wI v11 then 0 else 2)) fun v13 =>
if wI a1 = 0 then
  some v6
else
  if wI a1 = 1 then
    some v13
  else
    if wI a1 = 2 then
      some (v6 + v3)
    else
      if wI a1 = 3 then
        some (2 * v13)
      else
        some (divI (v6 + v3) 2)
def f_X10_fit (σ : St) (a1 : Int) (a2 : Int) : Option (Int × St) :=
if (f_X10_isUnit σ a1) = 0 then
  bd2 (f_X10_bad σ (-2)) fun v3 σ4 =>
  some (v3, σ4)
else
  if (f_X10_isTarget σ a2) = 0 then
    bd2 (f_X10_bad σ (-2)) fun v7 σ8 =>
    some (v7, σ8)
  else
    bd1 (f_X10_fitAs σ (σ 118 5) a1 a2) fun v9 =>
    some (v9, σ)
def f_X10_jointOf (σ0 : St) (a1 : Int) (a2 : Int) : Option Int :=
bd1 (f_X10_nextOf σ0 a1) fun v1 =>
if wI v1 = wI a2 then
  some 0
else
  bd1 (f_X10_at σ0 a1 3) fun v3 =>
  bd1 (f_X10_at σ0 a2 3) fun v4 =>
  bd1 (f_X10_at σ0 a1 2) fun v5 =>
  bd1 (f_X10_at σ0 a2 0) fun v6 =>
  bd1 (f_X10_at σ0 a2 1) fun v8 =>
  bd1 (f_X10_at σ0 a1 0) fun v9 =>
  some (((3 + (f_X10_far v3 v4)) + (if wI v5 = wI v6 then 0 else 2)) + (if wI v8 = wI v9 then 0 else 2))
def f_X10_joint (σ : St) (a1 : Int) (a2 : Int) : Option (Int × St) :=
if (f_X10_isUnit σ a1) = 0 then
  bd2 (f_X10_bad σ (-2)) fun v3 σ4 =>
  some (v3, σ4)
else
  if (f_X10_isUnit σ a2) = 0 then
    bd2 (f_X10_bad σ (-2)) fun v7 σ8 =>
    some (v7, σ8)
  else
    bd1 (f_X10_jointOf σ a1 a2) fun v9 =>
    some (v9, σ)
def f_X10_begins (σ : St)  : Option (Int × St) :=
wrF σ 118 34 (-1) fun σ1 =>
wrF σ1 118 35 (-1) fun σ2 =>
wrF σ2 118 36 (-1) fun σ3 =>
wrF σ3 118 37 0 fun σ4 =>
some (0, σ4)
def f_X10_offers (σ : St) (a1 : Int) : Option (Int × St) :=
if wI (σ 118 34) = (-1) then
  wrF σ 118 35 (σ 118 34) fun σ2 =>
  wrF σ2 118 34 a1 fun σ3 =>
  some (0, σ3)
else
  if wI a1 < wI (σ 118 34) then
    wrF σ 118 35 (σ 118 34) fun σ5 =>
    wrF σ5 118 34 a1 fun σ6 =>
    some (0, σ6)
  else
    if wI (σ 118 35) = (-1) then
      wrF σ 118 35 a1 fun σ8 =>
      some (0, σ8)
    else
      if wI a1 < wI (σ 118 35) then
        wrF σ 118 35 a1 fun σ10 =>
        some (0, σ10)
      else
        some (0, σ)
def jn_X10_takesIn_118 (σ : St) (x1 : Int) (x2 : Int) (t0 : Int) : Option (Int × St) :=
  wrF σ 118 37 t0 fun σ12 =>
  rdA 320 σ12 139 x1 fun v13 =>
  if wI (σ12 118 36) < wI (v13 + x2) then
    rdA 320 σ12 139 x1 fun v15 =>
    wrF σ12 118 36 (v15 + x2) fun σ16 =>
    some (0, σ16)
  else
    wrF σ12 118 36 (σ12 118 36) fun σ17 =>
    some (0, σ17)
def jn_X10_takesIn_84 (σ : St) (x1 : Int) (x2 : Int) (x5 : Int) : Option (Int × St) :=
  rdA 320 σ 140 x1 fun v10 =>
  if 0 < cmpL (x5 + (i2lI v10)) 1000000000 then
    jn_X10_takesIn_118 σ x1 x2 1000000000
  else
    rdA 320 σ 140 x1 fun v18 =>
    jn_X10_takesIn_118 σ x1 x2 (x5 + (i2lI v18))
def jn_X10_takesIn_43 (σ : St) (x1 : Int) (x2 : Int) (x3 : Int) (x4 : Int) : Option (Int × St) :=
  bnd (if wI x3 = (-1) then 0 else (if wI x4 < wI x3 then 0 else i2lI (σ 118 37))) fun v8 =>
  if wI x3 = (-1) then
    jn_X10_takesIn_84 σ x1 x2 v8
  else
    if wI x3 < wI x4 then
      jn_X10_takesIn_118 σ x1 x2 (σ 118 37)
    else
      jn_X10_takesIn_84 σ x1 x2 v8
def f_X10_takesIn (σ : St) (a1 : Int) (a2 : Int) : Option (Int × St) :=
rdA 320 σ 137 a1 fun v1 =>
bnd (v1 + a2) fun v2 =>
bd2 (f_X10_offers σ v2) fun v3 σ4 =>
rdA 320 σ4 138 a1 fun v5 =>
if wI v5 = (-1) then
  jn_X10_takesIn_43 σ4 a1 a2 (σ 118 34) v2
else
  rdA 320 σ4 138 a1 fun v22 =>
  bd2 (f_X10_offers σ4 (v22 + a2)) fun v23 σ24 =>
  jn_X10_takesIn_43 σ24 a1 a2 (σ 118 34) v2
def lp_X10_chains_15 (x1 : Int) (kx : St → Int → Option (Int × St)) : Nat → St → Int → Int → Option (Int × St)
  | 0, _, _, _ => none
  | n + 1, σ, x2, x3 =>
    if wI x3 < wI (σ 118 3) then
      if wI x2 = 0 then
        kx σ x2
      else
        bd2 (f_X10_chooses σ x3) fun v5 σ6 =>
        lp_X10_chains_15 x1 kx n σ6 v5 (x3 + 1)
    else
      kx σ x2
def lp_X10_chains_103 (x1 : Int) (x2 : Int) (x3 : Int) (x4 : Int) (x5 : Int) (x6 : Int) (x7 : Int) (kx : St → Option (Int × St)) : Nat → St → Int → Option (Int × St)
  | 0, _, _ => none
  | n + 1, σ, x8 =>
    if wI (x3 + 1) < wI (σ 118 3) then
      rdA 8 σ 136 (x3 + 1) fun v21 =>
      if wI x8 < wI v21 then
        bnd ((40 * (x3 + 1)) + x8) fun v23 =>
        rdA 320 σ 135 v23 fun v24 =>
        bd1 (f_X10_jointOf σ x6 v24) fun v25 =>
        bd2 (f_X10_takesIn σ v23 v25) fun v26 σ27 =>
        lp_X10_chains_103 x1 x2 x3 x4 x5 x6 x7 kx n σ27 (x8 + 1)
      else
        kx σ
    else
      kx σ
def jn_X10_chains_162 (kb : St → Int → Option (Int × St)) (σ : St) (x1 : Int) (x2 : Int) (x3 : Int) (x4 : Int) (x5 : Int) (x7 : Int) : Option (Int × St) :=
  bnd (if wI (x3 + 1) = wI (σ 118 3) then 1 else 0) fun v30 =>
  wrA 320 σ 137 x5 (x7 + (if v30 = 0 then σ 118 34 else 0)) fun σ32 =>
  wrA 320 σ32 138 x5 (if v30 = 0 then (if wI (σ32 118 35) = (-1) then (-1) else x7 + (σ32 118 35)) else (-1)) fun σ34 =>
  wrA 320 σ34 139 x5 (x7 + (if v30 = 0 then σ34 118 36 else 0)) fun σ36 =>
  wrA 320 σ36 140 x5 (if v30 = 0 then σ36 118 37 else 1) fun σ38 =>
  kb σ38 (x4 + 1)
def lp_X10_chains_57 (x1 : Int) (x2 : Int) (x3 : Int) (kx : St → Option (Int × St)) : Nat → St → Int → Option (Int × St)
  | 0, _, _ => none
  | n + 1, σ, x4 =>
    rdA 8 σ 136 x3 fun v13 =>
    if wI x4 < wI v13 then
      bnd ((40 * x3) + x4) fun v15 =>
      rdA 320 σ 135 v15 fun v16 =>
      bd1 (f_X10_fitAs σ x1 v16 x3) fun v17 =>
      bd2 (f_X10_begins σ) fun v18 σ19 =>
      lp_X10_chains_103 x1 x2 x3 x4 v15 v16 v17 (fun σ28 =>
          jn_X10_chains_162 (lp_X10_chains_57 x1 x2 x3 kx n) σ28 x1 x2 x3 x4 v15 v17) 1000 σ19 0
    else
      kx σ
def lp_X10_chains_46 (x1 : Int) (x2 : Int) (kx : St → Option (Int × St)) : Nat → St → Int → Option (Int × St)
  | 0, _, _ => none
  | n + 1, σ, x3 =>
    if wI x3 < 0 then
      kx σ
    else
      if wI x2 = 0 then
        kx σ
      else
        lp_X10_chains_57 x1 x2 x3 (fun σ45 =>
            lp_X10_chains_46 x1 x2 kx n σ45 (x3 + (-1))) 1000 σ 0
def lp_X10_chains_294 (x2 : Int) (kx : St → Option (Int × St)) : Nat → St → Int → Option (Int × St)
  | 0, _, _ => none
  | n + 1, σ, x3 =>
    if wI x2 = 0 then
      kx σ
    else
      rdA 8 σ 136 0 fun v50 =>
      if wI x3 < wI v50 then
        bd2 (f_X10_takesIn σ x3 0) fun v52 σ53 =>
        lp_X10_chains_294 x2 kx n σ53 (x3 + 1)
      else
        kx σ
def jn_X10_chains_288 (σ : St) (x2 : Int) : Option (Int × St) :=
  bd2 (f_X10_begins σ) fun v47 σ48 =>
  lp_X10_chains_294 x2 (fun σ54 =>
      if x2 = 0 ∨ x2 = 1 then some (x2, σ54) else none) 1000 σ48 0
def jn_X10_chains_39 (σ : St) (x1 : Int) (x2 : Int) : Option (Int × St) :=
  bnd ((σ 118 3) - 1) fun v10 =>
  lp_X10_chains_46 x1 x2 (fun σ46 =>
      jn_X10_chains_288 σ46 x2) 1000 σ v10
def f_X10_chains (σ : St) (a1 : Int) : Option (Int × St) :=
bnd (if 0 < wI (σ 118 3) then 1 else 0) fun v2 =>
lp_X10_chains_15 a1 (fun σ8 y9 =>
    jn_X10_chains_39 σ8 a1 y9) 1000 σ v2 0
def f_X10_fitNow (σ0 : St) (a1 : Int) (a2 : Int) : Option Int :=
bd1 (f_X10_fitAs σ0 (σ0 118 39) a1 a2) fun v1 =>
some v1
def jn_X10_layChain_68 (kb : St → Int → Int → Option (Int × St)) (σ : St) (x1 : Int) (x2 : Int) (x3 : Int) (x4 : Int) (x5 : Int) (t0 : Int) : Option (Int × St) :=
  rdA 320 σ 137 x5 fun v7 =>
  bnd (if wI (v7 + t0) = wI x1 then x4 else x3) fun v9 =>
  kb σ v9 (x4 + (-1))
def lp_X10_layChain_27 (x1 : Int) (x2 : Int) (kx : St → Int → Option (Int × St)) : Nat → St → Int → Int → Option (Int × St)
  | 0, _, _, _ => none
  | n + 1, σ, x3, x4 =>
    if wI x4 < 0 then
      kx σ x3
    else
      bnd ((40 * x2) + x4) fun v5 =>
      if wI x2 = 0 then
        jn_X10_layChain_68 (lp_X10_layChain_27 x1 x2 kx n) σ x1 x2 x3 x4 v5 0
      else
        rdA 8 σ 141 (x2 - 1) fun v11 =>
        rdA 320 σ 135 v5 fun v12 =>
        bd1 (f_X10_jointOf σ v11 v12) fun v13 =>
        jn_X10_layChain_68 (lp_X10_layChain_27 x1 x2 kx n) σ x1 x2 x3 x4 v5 v13
def lp_X10_layChain_7 (kx : St → Option (Int × St)) : Nat → St → Int → Int → Option (Int × St)
  | 0, _, _, _ => none
  | n + 1, σ, x1, x2 =>
    if wI x2 < wI (σ 118 3) then
      rdA 8 σ 136 x2 fun v2 =>
      bnd (v2 - 1) fun v3 =>
      lp_X10_layChain_27 x1 x2 (fun σ14 y15 =>
          bnd ((40 * x2) + y15) fun v16 =>
          rdA 320 σ14 135 v16 fun v17 =>
          rdA 320 σ14 137 v16 fun v18 =>
          bd1 (f_X10_fitNow σ14 v17 x2) fun v19 =>
          bnd (v18 - v19) fun v20 =>
          wrA 8 σ14 141 x2 v17 fun σ21 =>
          lp_X10_layChain_7 kx n σ21 v20 (x2 + 1)) 1000 σ (-1) v3
    else
      kx σ
def f_X10_layChain (σ : St)  : Option (Int × St) :=
lp_X10_layChain_7 (fun σ22 =>
    some (0, σ22)) 1000 σ (σ 118 34) 0
def f_X10_chainsNow (σ : St)  : Option (Int × St) :=
wrF σ 118 39 (σ 118 5) fun σ1 =>
bd2 (f_X10_chains σ1 (σ1 118 5)) fun v2 σ3 =>
some (v2, σ3)
def f_X10_cost (σ : St)  : Option (Int × St) :=
bd2 (f_X10_chainsNow σ) fun v1 σ2 =>
if v1 = 0 then
  bd2 (f_X10_no σ2) fun v5 σ6 =>
  some (v5, σ6)
else
  some (σ2 118 34, σ2)
def jn_X10_chain_34 (σ : St) (x1 : Int) : Option (Int × St) :=
  bd2 (f_X10_chainsNow σ) fun v7 σ8 =>
  if v7 = 0 then
    bd2 (f_X10_no σ8) fun v11 σ12 =>
    some (v11, σ12)
  else
    bd2 (f_X10_layChain σ8) fun v13 σ14 =>
    rdA 8 σ14 141 x1 fun v15 =>
    some (v15, σ14)
def f_X10_chain (σ : St) (a1 : Int) : Option (Int × St) :=
if (f_X10_in (i2lI a1) 0 7) = 0 then
  bd2 (f_X10_bad σ (-2)) fun v3 σ4 =>
  some (v3, σ4)
else
  if 0 < wI (σ 118 3) then
    if wI a1 < wI (σ 118 3) then
      jn_X10_chain_34 σ a1
    else
      bd2 (f_X10_bad σ (-2)) fun v16 σ17 =>
      some (v16, σ17)
  else
    jn_X10_chain_34 σ a1
def f_X10_ways (σ : St)  : Option (Int × St) :=
bd2 (f_X10_chainsNow σ) fun v1 σ2 =>
if v1 = 0 then
  bd2 (f_X10_no σ2) fun v5 σ6 =>
  some (v5, σ6)
else
  some (σ2 118 37, σ2)
def f_X10_next (σ : St)  : Option (Int × St) :=
bd2 (f_X10_chainsNow σ) fun v1 σ2 =>
if v1 = 0 then
  bd2 (f_X10_no σ2) fun v5 σ6 =>
  some (v5, σ6)
else
  some (σ2 118 35, σ2)
def f_X10_dearest (σ : St)  : Option (Int × St) :=
bd2 (f_X10_chainsNow σ) fun v1 σ2 =>
if v1 = 0 then
  bd2 (f_X10_no σ2) fun v5 σ6 =>
  some (v5, σ6)
else
  some (σ2 118 36, σ2)
def f_X10_without (σ : St) (a1 : Int) : Option (Int × St) :=
if (f_X10_isUnit σ a1) = 0 then
  bd2 (f_X10_bad σ (-2)) fun v3 σ4 =>
  some (v3, σ4)
else
  bd2 (f_X10_chainsNow σ) fun v5 σ6 =>
  if v5 = 0 then
    bd2 (f_X10_no σ6) fun v9 σ10 =>
    some (v9, σ10)
  else
    wrF σ6 118 27 a1 fun σ11 =>
    bd2 (f_X10_chains σ11 (σ11 118 5)) fun v12 σ13 =>
    wrF σ13 118 27 (-1) fun σ15 =>
    if v12 = 0 then
      bd2 (f_X10_no σ15) fun v17 σ18 =>
      some (v17, σ18)
    else
      some (σ15 118 34, σ15)
def jn_X10_about_142 (kb : St → Int → Int → Int → Int → Int → Option (Int × St)) (σ : St) (x1 : Int) (x3 : Int) (x4 : Int) (x5 : Int) (x6 : Int) (x7 : Int) (t0 : Int) (t1 : Int) : Option (Int × St) :=
  bnd (t1 + t0) fun v23 =>
  bnd (x4 + x7) fun v24 =>
  bnd (if wI x5 < wI x7 then x7 else x5) fun v26 =>
  kb σ v23 x3 v24 v26 (x6 + 1)
def jn_X10_about_106 (kb : St → Int → Int → Int → Int → Int → Option (Int × St)) (σ : St) (x1 : Int) (x2 : Int) (x3 : Int) (x4 : Int) (x5 : Int) (x6 : Int) (t0 : Int) : Option (Int × St) :=
  if 0 < wI x6 then
    rdA 8 σ 141 (x6 - 1) fun v19 =>
    bd1 (f_X10_nextOf σ v19) fun v20 =>
    rdA 8 σ 141 x6 fun v21 =>
    jn_X10_about_142 (kb) σ x1 x3 x4 x5 x6 t0 (if wI v20 = wI v21 then 1 else 0) x2
  else
    jn_X10_about_142 (kb) σ x1 x3 x4 x5 x6 t0 0 x2
def lp_X10_about_48 (x1 : Int) (kx : St → Int → Int → Int → Int → Option (Int × St)) : Nat → St → Int → Int → Int → Int → Int → Option (Int × St)
  | 0, _, _, _, _, _, _ => none
  | n + 1, σ, x2, x3, x4, x5, x6 =>
    if wI x6 < wI (σ 118 3) then
      rdA 8 σ 141 x6 fun v14 =>
      bd1 (f_X10_fitAs σ (σ 118 5) v14 x6) fun v15 =>
      bnd (x3 + v15) fun v16 =>
      if wI x6 = 0 then
        jn_X10_about_106 (lp_X10_about_48 x1 kx n) σ x1 x2 v16 x4 x5 x6 0
      else
        rdA 8 σ 141 (x6 - 1) fun v29 =>
        rdA 8 σ 141 x6 fun v30 =>
        bd1 (f_X10_jointOf σ v29 v30) fun v31 =>
        jn_X10_about_106 (lp_X10_about_48 x1 kx n) σ x1 x2 v16 x4 x5 x6 v31
    else
      kx σ x2 x3 x4 x5
def f_X10_about (σ : St) (a1 : Int) : Option (Int × St) :=
if (f_X10_in (i2lI a1) 0 3) = 0 then
  bd2 (f_X10_bad σ (-2)) fun v3 σ4 =>
  some (v3, σ4)
else
  bd2 (f_X10_chainsNow σ) fun v5 σ6 =>
  if v5 = 0 then
    bd2 (f_X10_no σ6) fun v9 σ10 =>
    some (v9, σ10)
  else
    bd2 (f_X10_layChain σ6) fun v11 σ12 =>
    lp_X10_about_48 a1 (fun σ32 y33 y34 y35 y36 =>
        some ((if wI a1 = 0 then y33 else (if wI a1 = 1 then y34 else (if wI a1 = 2 then y35 else y36))), σ32)) 1000 σ12 0 0 0 0 0
def lp_X10_cheapest_36 (x1 : Int) (kx : St → Int → Int → Option (Int × St)) : Nat → St → Int → Int → Int → Option (Int × St)
  | 0, _, _, _, _ => none
  | n + 1, σ, x2, x3, x4 =>
    if wI x4 < 5 then
      bd2 (f_X10_chains σ x4) fun v12 σ13 =>
      bnd (if wI x3 = (-1) then 1 else (if wI (σ13 118 34) < wI x3 then 1 else 0)) fun v16 =>
      bnd (if v16 = 0 then x2 else x4) fun v18 =>
      bnd (if v16 = 0 then x3 else σ13 118 34) fun v20 =>
      lp_X10_cheapest_36 x1 kx n σ13 v18 v20 (x4 + 1)
    else
      kx σ x2 x3
def f_X10_cheapest (σ : St) (a1 : Int) : Option (Int × St) :=
if (f_X10_in (i2lI a1) 0 1) = 0 then
  bd2 (f_X10_bad σ (-2)) fun v3 σ4 =>
  some (v3, σ4)
else
  bd2 (f_X10_chainsNow σ) fun v5 σ6 =>
  if v5 = 0 then
    bd2 (f_X10_no σ6) fun v9 σ10 =>
    some (v9, σ10)
  else
    lp_X10_cheapest_36 a1 (fun σ25 y26 y27 =>
        some ((if wI a1 = 0 then y26 else y27), σ25)) 1000 σ6 0 (-1) 0
def f_X10_toldOf (σ0 : St) (a1 : Int) : Option Int :=
if wI a1 = 3 then
  some (σ0 118 14)
else
  if wI a1 = 4 then
    some (σ0 118 1)
  else
    if wI a1 = 5 then
      some (σ0 118 3)
    else
      if wI a1 = 6 then
        some (σ0 118 5)
      else
        rdA 3 σ0 126 a1 fun v5 =>
        some v5
def f_X10_told (σ : St) (a1 : Int) : Option (Int × St) :=
if (f_X10_in (i2lI a1) 0 6) = 0 then
  bd2 (f_X10_bad σ (-2)) fun v3 σ4 =>
  some (v3, σ4)
else
  bd1 (f_X10_toldOf σ a1) fun v5 =>
  some (v5, σ)
def lp_X10_sums_6 (σ0 : St) (x2 : Int) (x3 : Int) (kx : Int → Option Int) : Nat → Int → Int → Option Int
  | 0, _, _ => none
  | n + 1, x4, x6 =>
    if wI x6 < wI x3 then
      rdA (uvLn x2) σ0 x2 x6 fun v2 =>
      bnd ((31 * x4) + (i2lI v2)) fun v3 =>
      lp_X10_sums_6 σ0 x2 x3 kx n v3 (x6 + 1)
    else
      kx x4
def f_X10_sums (σ0 : St) (a0 : Int) (a2 : Int) (a3 : Int) : Option Int :=
lp_X10_sums_6 σ0 a2 a3 (fun y4 =>
    some y4) 1000 a0 0
def lp_X10_digest_6 (kx : St → Int → Option (Int × St)) : Nat → St → Int → Int → Option (Int × St)
  | 0, _, _, _ => none
  | n + 1, σ, x1, x3 =>
    if wI x3 < 7 then
      bd1 (f_X10_toldOf σ x3) fun v2 =>
      bnd ((31 * x1) + (i2lI v2)) fun v3 =>
      lp_X10_digest_6 kx n σ v3 (x3 + 1)
    else
      kx σ x1
def f_X10_digest (σ : St)  : Option (Int × St) :=
lp_X10_digest_6 (fun σ4 y5 =>
    bd1 (f_X10_sums σ4 y5 119 (6 * (σ4 118 1))) fun v6 =>
    bd1 (f_X10_sums σ4 v6 121 6) fun v7 =>
    bd1 (f_X10_sums σ4 v7 120 (3 * (σ4 118 3))) fun v8 =>
    bnd ((31 * ((31 * v8) + (i2lI (σ4 118 10)))) + (i2lI (σ4 118 11))) fun v9 =>
    bd2 (f_X10_chainsNow σ4) fun v10 σ11 =>
    if v10 = 0 then
      some ((31 * v9) - 1, σ11)
    else
      bd2 (f_X10_layChain σ11) fun v14 σ15 =>
      bd1 (f_X10_sums σ15 ((31 * v9) + (i2lI (σ11 118 34))) 141 (σ15 118 3)) fun v16 =>
      some (v16, σ15)) 1000 σ 1987 0
