def F_X0_init (this : Nat) (M : Mm) : Option Mm :=
  nv (mN M) fun a1 =>
  nv (nw M (1, 400)) fun M2 =>
  (wrR M2 this 0 11 (some a1)).bind fun M3 =>
  some M3

def F_J7_fill_53178_L5  (x0 : Nat) (x1 : Int32) (x3 : Int32) : Nat → Int32 → Mm → Option Mm
  | 0, _, _ => none
  | n2 + 1, x2, M0 => if x3 ≤ x2 then
    some M0
  else
    (stI M0 x0 x2 x1).bind fun M4 =>
    F_J7_fill_53178_L5 x0 x1 x3 n2 (x2 + 1) M4
def F_J7_fill_53178 (p1 : Nat) (p2 : Int32) (M : Mm) : Option Mm :=
  (lnI M p1).bind fun v1 =>
  F_J7_fill_53178_L5  p1 p2 v1 1000000 0 M

def F_X0_begin (this : Nat) (p1 : Int32) (p2 : Int32) (p3 : Int32) (M : Mm) : Option Mm :=
  (wrI M this 0 0 p1).bind fun M1 =>
  (wrI M1 this 0 1 p2).bind fun M2 =>
  (wrI M2 this 0 2 p3).bind fun M3 =>
  (wrI M3 this 0 3 0).bind fun M4 =>
  (wrZ M4 this 0 4 0).bind fun M5 =>
  (wrI M5 this 0 5 0).bind fun M6 =>
  (wrI M6 this 0 6 (-4)).bind fun M7 =>
  (wrI M7 this 0 7 (-4)).bind fun M8 =>
  (wrI M8 this 0 8 0).bind fun M9 =>
  (wrI M9 this 0 9 0).bind fun M10 =>
  (wrZ M10 this 0 10 0).bind fun M11 =>
  (rdR M11 this 0 11).bind fun v12 =>
  v12.bind fun a13 =>
  (F_J7_fill_53178 a13 (-4) M11).bind fun M14 =>
  some M14

def F_X11_copyAll (p1 : Nat) (p2 : Nat) (M : Mm) : Option Mm :=
  (lnI M p1).bind fun v1 =>
  (lnI M p2).bind fun v2 =>
  (cpI M p1 0 p2 0 (mnI v1 v2)).bind fun M3 =>
  some M3

def F_X0_become (this : Nat) (p1 : Nat) (M : Mm) : Option Mm :=
  (rdI M p1 0 0).bind fun v1 =>
  (wrI M this 0 0 v1).bind fun M2 =>
  (rdI M2 p1 0 1).bind fun v3 =>
  (wrI M2 this 0 1 v3).bind fun M4 =>
  (rdI M4 p1 0 2).bind fun v5 =>
  (wrI M4 this 0 2 v5).bind fun M6 =>
  (rdI M6 p1 0 3).bind fun v7 =>
  (wrI M6 this 0 3 v7).bind fun M8 =>
  (rdI M8 p1 0 4).bind fun v9 =>
  (wrZ M8 this 0 4 v9).bind fun M10 =>
  (rdI M10 p1 0 5).bind fun v11 =>
  (wrI M10 this 0 5 v11).bind fun M12 =>
  (rdI M12 p1 0 6).bind fun v13 =>
  (wrI M12 this 0 6 v13).bind fun M14 =>
  (rdI M14 p1 0 7).bind fun v15 =>
  (wrI M14 this 0 7 v15).bind fun M16 =>
  (rdI M16 p1 0 8).bind fun v17 =>
  (wrI M16 this 0 8 v17).bind fun M18 =>
  (rdI M18 p1 0 9).bind fun v19 =>
  (wrI M18 this 0 9 v19).bind fun M20 =>
  (rdI M20 p1 0 10).bind fun v21 =>
  (wrZ M20 this 0 10 v21).bind fun M22 =>
  (rdR M22 p1 0 11).bind fun v23 =>
  (rdR M22 this 0 11).bind fun v24 =>
  v24.bind fun a25 =>
  v23.bind fun a26 =>
  (F_X11_copyAll a26 a25 M22).bind fun M27 =>
  some M27

def F_X0_deepest (this : Nat) (M : Mm) : Option (Int32 × Mm) :=
  (rdI M this 0 0).bind fun v1 =>
  (ldS 0 v1).bind fun v2 =>
  some (v2, M)

def F_X0_reach (this : Nat) (M : Mm) : Option (Int32 × Mm) :=
  (rdI M this 0 0).bind fun v1 =>
  (ldS 1 v1).bind fun v2 =>
  some (v2, M)

def F_X11_costOf (p1 : Int32) (p2 : Int32) (M : Mm) : Option (Int32 × Mm) :=
  if p1 = 1 then
    (dvI (4 + (2 * p2)) 2).bind fun v2 =>
    some (v2, M)
  else
  if p1 = 2 then
    some (((4 + (2 * p2)) - 1), M)
  else
  if p1 = 3 then
    (dvI (4 + (2 * p2)) 2).bind fun v5 =>
    some ((v5 + 1), M)
  else
  some ((4 + (2 * p2)), M)

def F_X0_costTo (this : Nat) (p1 : Int32) (M : Mm) : Option (Int32 × Mm) :=
  (rdI M this 0 0).bind fun v1 =>
  (F_X11_costOf v1 p1 M).bind fun (v3, M2) =>
  (rdI M2 this 0 4).bind fun v4 =>
  nv (α := Int32) (if v4 = 0 then 0 else 3) fun v5 =>
  some ((v3 + v5), M2)

def F_X0_mayDive (this : Nat) (p1 : Int32) (p2 : Int32) (p3 : Int32) (M : Mm) : Option (Int32 × Mm) :=
  (isO M this 0).bind fun _ =>
  (F_X0_reach this M).bind fun (v3, M1) =>
  if p1 < 0 then
    some ((0 : Int32), M1)
  else
    (isO M1 this 0).bind fun _ =>
    (F_X0_deepest this M1).bind fun (v7, M5) =>
    if v7 < p1 then
      some ((0 : Int32), M5)
    else
      if p2 < (-v3) then
        some ((0 : Int32), M5)
      else
        if v3 < p2 then
          some ((0 : Int32), M5)
        else
          if p3 < (-v3) then
            some ((0 : Int32), M5)
          else
            if v3 < p3 then
              some ((0 : Int32), M5)
            else
              if v3 < ((abI p2) + (abI p3)) then
                some ((0 : Int32), M5)
              else
                some ((1 : Int32), M5)

def F_X0_divesLeft (this : Nat) (M : Mm) : Option (Int32 × Mm) :=
  (isO M this 0).bind fun _ =>
  (F_X0_deepest this M).bind fun (v3, M1) =>
  (isO M1 this 0).bind fun _ =>
  (F_X0_costTo this (mnI 1 v3) M1).bind fun (v6, M4) =>
  if v6 ≤ 0 then
    some ((0 : Int32), M4)
  else
    (rdI M4 this 0 2).bind fun v8 =>
    (dvI v8 v6).bind fun v9 =>
    some (v9, M4)

def F_X0_fixBy_L8  (x0 : Nat) : Nat → Int32 → Mm → Option (Int32 × Mm)
  | 0, _, _ => none
  | n1 + 1, x2, M0 => if x2 < 0 then
    some (((-4) : Int32), M0)
  else
    (rdR M0 x0 0 11).bind fun v3 =>
    v3.bind fun a5 =>
    (ldI M0 a5 x2).bind fun v4 =>
    if v4 = (-4) then
      F_X0_fixBy_L8 x0 n1 (x2 + (-1)) M0
    else
      (rdR M0 x0 0 11).bind fun v7 =>
      v7.bind fun a9 =>
      (ldI M0 a9 x2).bind fun v8 =>
      some (v8, M0)
def F_X0_fixBy (this : Nat) (p1 : Int32) (M : Mm) : Option (Int32 × Mm) :=
  F_X0_fixBy_L8  this 1000000 (mnI p1 399) M

def F_X1_init (this : Nat) (M : Mm) : Option Mm :=
  (wrI M this 1 0 0).bind fun M1 =>
  nv (mN M1) fun a2 =>
  nv (nw M1 (1, 60)) fun M3 =>
  (wrR M3 this 1 1 (some a2)).bind fun M4 =>
  nv (mN M4) fun a5 =>
  nv (nw M4 (1, 60)) fun M6 =>
  (wrR M6 this 1 2 (some a5)).bind fun M7 =>
  nv (mN M7) fun a8 =>
  nv (nw M7 (1, 60)) fun M9 =>
  (wrR M9 this 1 3 (some a8)).bind fun M10 =>
  nv (mN M10) fun a11 =>
  nv (nw M10 (1, 60)) fun M12 =>
  (wrR M12 this 1 4 (some a11)).bind fun M13 =>
  some M13

def F_X1_become (this : Nat) (p1 : Nat) (M : Mm) : Option Mm :=
  (rdI M p1 1 0).bind fun v1 =>
  (wrI M this 1 0 v1).bind fun M2 =>
  (rdR M2 p1 1 1).bind fun v3 =>
  (rdR M2 this 1 1).bind fun v4 =>
  v4.bind fun a5 =>
  v3.bind fun a6 =>
  (F_X11_copyAll a6 a5 M2).bind fun M7 =>
  (rdR M7 p1 1 2).bind fun v8 =>
  (rdR M7 this 1 2).bind fun v9 =>
  v9.bind fun a10 =>
  v8.bind fun a11 =>
  (F_X11_copyAll a11 a10 M7).bind fun M12 =>
  (rdR M12 p1 1 3).bind fun v13 =>
  (rdR M12 this 1 3).bind fun v14 =>
  v14.bind fun a15 =>
  v13.bind fun a16 =>
  (F_X11_copyAll a16 a15 M12).bind fun M17 =>
  (rdR M17 p1 1 4).bind fun v18 =>
  (rdR M17 this 1 4).bind fun v19 =>
  v19.bind fun a20 =>
  v18.bind fun a21 =>
  (F_X11_copyAll a21 a20 M17).bind fun M22 =>
  some M22

def F_X1_send (this : Nat) (p1 : Int32) (p2 : Int32) (p3 : Int32) (M : Mm) : Option (Int32 × Mm) :=
  (rdR M this 1 1).bind fun v1 =>
  (rdI M this 1 0).bind fun v2 =>
  v1.bind fun a4 =>
  (stI M a4 v2 p1).bind fun M3 =>
  (rdR M3 this 1 2).bind fun v5 =>
  (rdI M3 this 1 0).bind fun v6 =>
  v5.bind fun a8 =>
  (stI M3 a8 v6 p2).bind fun M7 =>
  (rdR M7 this 1 3).bind fun v9 =>
  (rdI M7 this 1 0).bind fun v10 =>
  v9.bind fun a12 =>
  (stI M7 a12 v10 p3).bind fun M11 =>
  (rdR M11 this 1 4).bind fun v13 =>
  (rdI M11 this 1 0).bind fun v14 =>
  v13.bind fun a16 =>
  (stI M11 a16 v14 0).bind fun M15 =>
  (rdI M15 this 1 0).bind fun v17 =>
  (wrI M15 this 1 0 (v17 + 1)).bind fun M18 =>
  (rdI M18 this 1 0).bind fun v19 =>
  some (v19, M18)

def F_X1_unheardBy_L4  (x0 : Nat) (x1 : Int32) : Nat → Int32 → Int32 → Mm → Option (Int32 × Mm)
  | 0, _, _, _ => none
  | n1 + 1, x2, x3, M0 => (rdI M0 x0 1 0).bind fun v2 =>
  if v2 ≤ x3 then
    some (x2, M0)
  else
    (rdR M0 x0 1 1).bind fun v4 =>
    v4.bind fun a6 =>
    (ldI M0 a6 x3).bind fun v5 =>
    if v5 = x1 then
      (rdR M0 x0 1 4).bind fun v8 =>
      v8.bind fun a10 =>
      (ldI M0 a10 x3).bind fun v9 =>
      if v9 = 0 then
        F_X1_unheardBy_L4 x0 x1 n1 (x2 + 1) (x3 + 1) M0
      else
        F_X1_unheardBy_L4 x0 x1 n1 x2 (x3 + 1) M0
    else
      F_X1_unheardBy_L4 x0 x1 n1 x2 (x3 + 1) M0
def F_X1_unheardBy (this : Nat) (p1 : Int32) (M : Mm) : Option (Int32 × Mm) :=
  F_X1_unheardBy_L4  this p1 1000000 0 0 M

def F_X1_hearBy_L6  (x0 : Nat) (x1 : Int32) (x2 : Int32) : Nat → Int32 → Int32 → Mm → Option (Int32 × Mm)
  | 0, _, _, _ => none
  | n1 + 1, x4, x5, M0 => (rdI M0 x0 1 0).bind fun v2 =>
  if v2 ≤ x5 then
    some (x4, M0)
  else
    (rdR M0 x0 1 1).bind fun v4 =>
    v4.bind fun a6 =>
    (ldI M0 a6 x5).bind fun v5 =>
    if v5 = x1 then
      (rdR M0 x0 1 4).bind fun v8 =>
      v8.bind fun a10 =>
      (ldI M0 a10 x5).bind fun v9 =>
      if v9 = 0 then
        (rdR M0 x0 1 3).bind fun v12 =>
        v12.bind fun a14 =>
        (ldI M0 a14 x5).bind fun v13 =>
        if x2 ≤ v13 then
          F_X1_hearBy_L6 x0 x1 x2 n1 x4 (x5 + 1) M0
        else
          (rdR M0 x0 1 4).bind fun v16 =>
          v16.bind fun a18 =>
          (stI M0 a18 x5 1).bind fun M17 =>
          (rdR M17 x0 1 2).bind fun v19 =>
          v19.bind fun a21 =>
          (ldI M17 a21 x5).bind fun v20 =>
          F_X1_hearBy_L6 x0 x1 x2 n1 v20 (x5 + 1) M17
      else
        F_X1_hearBy_L6 x0 x1 x2 n1 x4 (x5 + 1) M0
    else
      F_X1_hearBy_L6 x0 x1 x2 n1 x4 (x5 + 1) M0
def F_X1_hearBy (this : Nat) (p1 : Int32) (p2 : Int32) (p3 : Int32) (M : Mm) : Option (Int32 × Mm) :=
  F_X1_hearBy_L6  this p1 p2 1000000 p3 0 M

def F_X2_init (this : Nat) (M : Mm) : Option Mm :=
  (wrI M this 2 0 0).bind fun M1 =>
  (wrI M1 this 2 1 0).bind fun M2 =>
  nv (mN M2) fun a3 =>
  nv (nw M2 (1, 6)) fun M4 =>
  (wrR M4 this 2 2 (some a3)).bind fun M5 =>
  nv (mN M5) fun a6 =>
  nv (nw M5 (1, 6)) fun M7 =>
  (wrR M7 this 2 3 (some a6)).bind fun M8 =>
  nv (mN M8) fun a9 =>
  nv (nw M8 (1, 6)) fun M10 =>
  (wrR M10 this 2 4 (some a9)).bind fun M11 =>
  nv (mN M11) fun a12 =>
  nv (nw M11 (1, 6)) fun M13 =>
  (wrR M13 this 2 5 (some a12)).bind fun M14 =>
  nv (mN M14) fun a15 =>
  nv (nw M14 (1, 20)) fun M16 =>
  (wrR M16 this 2 6 (some a15)).bind fun M17 =>
  nv (mN M17) fun a18 =>
  nv (nw M17 (1, 20)) fun M19 =>
  (wrR M19 this 2 7 (some a18)).bind fun M20 =>
  nv (mN M20) fun a21 =>
  nv (nw M20 (1, 20)) fun M22 =>
  (wrR M22 this 2 8 (some a21)).bind fun M23 =>
  nv (mN M23) fun a24 =>
  nv (nw M23 (2, 20)) fun M25 =>
  (wrR M25 this 2 9 (some a24)).bind fun M26 =>
  some M26

def F_X2_addCheck (this : Nat) (p1 : Int32) (p2 : Int32) (p3 : Int32) (p4 : Int32) (M : Mm) : Option Mm :=
  (rdI M this 2 1).bind fun v1 =>
  if 20 ≤ v1 then
    some M
  else
    (rdR M this 2 6).bind fun v3 =>
    (rdI M this 2 1).bind fun v4 =>
    v3.bind fun a6 =>
    (stI M a6 v4 p1).bind fun M5 =>
    (rdR M5 this 2 7).bind fun v7 =>
    (rdI M5 this 2 1).bind fun v8 =>
    v7.bind fun a10 =>
    (stI M5 a10 v8 p2).bind fun M9 =>
    (rdR M9 this 2 8).bind fun v11 =>
    (rdI M9 this 2 1).bind fun v12 =>
    v11.bind fun a14 =>
    (stI M9 a14 v12 p3).bind fun M13 =>
    (rdR M13 this 2 9).bind fun v15 =>
    (rdI M13 this 2 1).bind fun v16 =>
    v15.bind fun a18 =>
    (stZ M13 a18 v16 p4).bind fun M17 =>
    (rdI M17 this 2 1).bind fun v19 =>
    (wrI M17 this 2 1 (v19 + 1)).bind fun M20 =>
    some M20

def F_X2_addRule (this : Nat) (p1 : Int32) (p2 : Int32) (p3 : Int32) (M : Mm) : Option Mm :=
  (rdI M this 2 0).bind fun v1 =>
  if 6 ≤ v1 then
    some M
  else
    (rdR M this 2 3).bind fun v3 =>
    (rdI M this 2 0).bind fun v4 =>
    v3.bind fun a6 =>
    (stI M a6 v4 p1).bind fun M5 =>
    (rdR M5 this 2 4).bind fun v7 =>
    (rdI M5 this 2 0).bind fun v8 =>
    v7.bind fun a10 =>
    (stI M5 a10 v8 p2).bind fun M9 =>
    (rdR M9 this 2 5).bind fun v11 =>
    (rdI M9 this 2 0).bind fun v12 =>
    v11.bind fun a14 =>
    (stI M9 a14 v12 p3).bind fun M13 =>
    (rdR M13 this 2 2).bind fun v15 =>
    (rdI M13 this 2 0).bind fun v16 =>
    (rdI M13 this 2 1).bind fun v17 =>
    v15.bind fun a19 =>
    (stI M13 a19 v16 v17).bind fun M18 =>
    (rdI M18 this 2 0).bind fun v20 =>
    (wrI M18 this 2 0 (v20 + 1)).bind fun M21 =>
    some M21

def F_X2_holds (this : Nat) (p1 : Int32) (p2 : Int32) (M : Mm) : Option (Int32 × Mm) :=
  (rdR M this 2 7).bind fun v1 =>
  v1.bind fun a3 =>
  (ldI M a3 p1).bind fun v2 =>
  jp (fun (x5 : Int32) (M6 : Mm) =>
  (rdR M6 this 2 9).bind fun v7 =>
  v7.bind fun a9 =>
  (ldZ M6 a9 p1).bind fun v8 =>
  if x5 = v8 then
    some ((0 : Int32), M6)
  else
    some ((1 : Int32), M6)) fun k4 =>
  if v2 = 60 then
    (rdR M this 2 8).bind fun v13 =>
    v13.bind fun a15 =>
    (ldI M a15 p1).bind fun v14 =>
    nv (α := Int32) (if v14 ≤ p2 then 0 else 1) fun v16 =>
    k4 v16 M
  else
  if v2 = 62 then
    (rdR M this 2 8).bind fun v20 =>
    v20.bind fun a22 =>
    (ldI M a22 p1).bind fun v21 =>
    nv (α := Int32) (if p2 ≤ v21 then 0 else 1) fun v23 =>
    k4 v23 M
  else
  (rdR M this 2 8).bind fun v26 =>
  v26.bind fun a28 =>
  (ldI M a28 p1).bind fun v27 =>
  nv (α := Int32) (if p2 = v27 then 1 else 0) fun v29 =>
  k4 v29 M

def F_X3_init (this : Nat) (M : Mm) : Option Mm :=
  nv (mN M) fun a1 =>
  nv (nw M (2 + 7, 0)) fun M2 =>
  (F_X2_init a1 M2).bind fun M3 =>
  (wrR M3 this 3 0 (some a1)).bind fun M4 =>
  nv (mN M4) fun a5 =>
  nv (nw M4 (1, 0)) fun M6 =>
  (wrR M6 this 3 1 (some a5)).bind fun M7 =>
  (wrI M7 this 3 2 0).bind fun M8 =>
  (wrI M8 this 3 3 0).bind fun M9 =>
  some M9

def F_X3_handOver (this : Nat) (M : Mm) : Option (Option Nat × Mm) :=
  (rdR M this 3 0).bind fun v1 =>
  nv (mN M) fun a2 =>
  nv (nw M (2 + 7, 0)) fun M3 =>
  (F_X2_init a2 M3).bind fun M4 =>
  (wrR M4 this 3 0 (some a2)).bind fun M5 =>
  some (v1, M5)

def F_X3_take (this : Nat) (p1 : Int32) (M : Mm) : Option (Int32 × Mm) :=
  (rdI M this 3 3).bind fun v1 =>
  (rdI M this 3 2).bind fun v2 =>
  if v2 ≤ v1 then
    some ((0 : Int32), M)
  else
    (rdR M this 3 1).bind fun v4 =>
    (rdI M this 3 3).bind fun v5 =>
    v4.bind fun a7 =>
    (ldI M a7 v5).bind fun v6 =>
    if v6 = p1 then
      (rdI M this 3 3).bind fun v9 =>
      (wrI M this 3 3 (v9 + 1)).bind fun M10 =>
      some ((1 : Int32), M10)
    else
      some ((0 : Int32), M)

def F_X3_takeOneOf_L2  (x0 : Nat) (x1 : Nat) : Nat → Int32 → Mm → Option (Int32 × Mm)
  | 0, _, _ => none
  | n1 + 1, x2, M0 => (txL x1).bind fun v2 =>
  if v2 ≤ x2 then
    some (((-1) : Int32), M0)
  else
    (txC x1 x2).bind fun v4 =>
    (isO M0 x0 3).bind fun _ =>
    (F_X3_take x0 v4 M0).bind fun (v7, M5) =>
    if v7 = 0 then
      F_X3_takeOneOf_L2 x0 x1 n1 (x2 + 1) M5
    else
      (txC x1 x2).bind fun v9 =>
      some (v9, M5)
def F_X3_takeOneOf (this : Nat) (p1 : Nat) (M : Mm) : Option (Int32 × Mm) :=
  F_X3_takeOneOf_L2  this p1 1000000 0 M

def F_X3_takeDigit (this : Nat) (p1 : Int32) (M : Mm) : Option (Int32 × Mm) :=
  (rdI M this 3 3).bind fun v1 =>
  (rdI M this 3 2).bind fun v2 =>
  if v2 ≤ v1 then
    some (((-1) : Int32), M)
  else
    (rdR M this 3 1).bind fun v4 =>
    (rdI M this 3 3).bind fun v5 =>
    v4.bind fun a7 =>
    (ldI M a7 v5).bind fun v6 =>
    if v6 < 48 then
      some (((-1) : Int32), M)
    else
      (rdR M this 3 1).bind fun v9 =>
      (rdI M this 3 3).bind fun v10 =>
      v9.bind fun a12 =>
      (ldI M a12 v10).bind fun v11 =>
      if v11 ≤ (48 + p1) then
        (rdI M this 3 3).bind fun v14 =>
        (wrI M this 3 3 (v14 + 1)).bind fun M15 =>
        (rdR M15 this 3 1).bind fun v16 =>
        (rdI M15 this 3 3).bind fun v17 =>
        v16.bind fun a19 =>
        (ldI M15 a19 (v17 - 1)).bind fun v18 =>
        some ((v18 - 48), M15)
      else
        some (((-1) : Int32), M)

def F_X3_takeNumber_L9  (x0 : Nat) : Nat → Int32 → Int32 → Mm → Option (Int32 × Mm)
  | 0, _, _, _ => none
  | n4 + 1, x1, x2, M0 => if 3 ≤ x2 then
    some (x1, M0)
  else
    if x1 ≤ 0 then
      some (x1, M0)
    else
      (isO M0 x0 3).bind fun _ =>
      (F_X3_takeDigit x0 9 M0).bind fun (v9, M7) =>
      if 0 ≤ v9 then
        F_X3_takeNumber_L9 x0 n4 ((10 * x1) + v9) (x2 + 1) M7
      else
        some (x1, M7)
def F_X3_takeNumber (this : Nat) (M : Mm) : Option (Int32 × Mm) :=
  (isO M this 3).bind fun _ =>
  (F_X3_takeDigit this 9 M).bind fun (v3, M1) =>
  F_X3_takeNumber_L9  this 1000000 v3 1 M1

def F_X3_takeCheck_L4 (k37 : Int32 → Mm → Option (Int32 × Mm)) (x0 : Nat) : Nat → Int32 → Int32 → Mm → Option (Int32 × Mm)
  | 0, _, _, _ => none
  | n1 + 1, x1, x2, M0 => (rdI M0 x0 3 2).bind fun v2 =>
  if v2 ≤ x2 then
    k37 x1 M0
  else
    (isO M0 x0 3).bind fun _ =>
    (F_X3_take x0 33 M0).bind fun (v6, M4) =>
    if v6 = 0 then
      k37 x1 M4
    else
      nv (α := Int32) (if x1 = 0 then 1 else 0) fun v8 =>
      F_X3_takeCheck_L4 k37 x0 n1 v8 (x2 + 1) M4
def F_X3_takeCheck (this : Nat) (M : Mm) : Option (Int32 × Mm) :=
  F_X3_takeCheck_L4 (fun (y11 : Int32) (M12 : Mm) =>
    (isO M12 this 3).bind fun _ =>
    (F_X3_takeOneOf this 0 M12).bind fun (v15, M13) =>
    if 0 ≤ v15 then
      (isO M13 this 3).bind fun _ =>
      (F_X3_takeOneOf this 1 M13).bind fun (v19, M17) =>
      if 0 ≤ v19 then
        (isO M17 this 3).bind fun _ =>
        (F_X3_takeNumber this M17).bind fun (v23, M21) =>
        if 0 ≤ v23 then
          (rdR M21 this 3 0).bind fun v25 =>
          v25.bind fun a26 =>
          (isO M21 a26 2).bind fun _ =>
          (F_X2_addCheck a26 v15 v19 v23 y11 M21).bind fun M27 =>
          some ((1 : Int32), M27)
        else
          some ((0 : Int32), M21)
      else
        some ((0 : Int32), M17)
    else
      some ((0 : Int32), M13)) this 1000000 0 0 M

def F_X3_takeLayer (this : Nat) (p1 : Int32) (p2 : Int32) (M : Mm) : Option (Int32 × Mm) :=
  (isO M this 3).bind fun _ =>
  (F_X3_takeDigit this 3 M).bind fun (v3, M1) =>
  if 0 ≤ v3 then
    (rdR M1 this 3 0).bind fun v5 =>
    v5.bind fun a6 =>
    (isO M1 a6 2).bind fun _ =>
    (F_X2_addRule a6 p1 p2 v3 M1).bind fun M7 =>
    some ((1 : Int32), M7)
  else
    some ((0 : Int32), M1)

def F_X11_cellOf (p1 : Int32) (p2 : Int32) (M : Mm) : Option (Int32 × Mm) :=
  some (((8 * p1) + p2), M)

def F_X3_takeAct (this : Nat) (M : Mm) : Option (Int32 × Mm) :=
  (isO M this 3).bind fun _ =>
  (F_X3_take this 117 M).bind fun (v3, M1) =>
  if v3 = 0 then
    (isO M1 this 3).bind fun _ =>
    (F_X3_take this 115 M1).bind fun (v7, M5) =>
    if v7 = 0 then
      (isO M5 this 3).bind fun _ =>
      (F_X3_take this 103 M5).bind fun (v11, M9) =>
      if v11 = 0 then
        some ((0 : Int32), M9)
      else
        (isO M9 this 3).bind fun _ =>
        (F_X3_takeDigit this 9 M9).bind fun (v15, M13) =>
        if 0 ≤ v15 then
          (isO M13 this 3).bind fun _ =>
          (F_X3_takeDigit this 7 M13).bind fun (v19, M17) =>
          if v19 < 0 then
            some ((0 : Int32), M17)
          else
            (F_X11_cellOf v15 v19 M17).bind fun (v22, M21) =>
            (isO M21 this 3).bind fun _ =>
            (F_X3_takeLayer this 2 v22 M21).bind fun (v25, M23) =>
            if v25 = 0 then
              some ((0 : Int32), M23)
            else
              some ((1 : Int32), M23)
        else
          some ((0 : Int32), M13)
    else
      (isO M5 this 3).bind fun _ =>
      (F_X3_takeLayer this 1 0 M5).bind fun (v29, M27) =>
      (ckZ v29).bind fun _ =>
      some (v29, M27)
  else
    (rdR M1 this 3 0).bind fun v30 =>
    v30.bind fun a31 =>
    (isO M1 a31 2).bind fun _ =>
    (F_X2_addRule a31 0 0 0 M1).bind fun M32 =>
    some ((1 : Int32), M32)

def F_X3_takeRule_L4 (k38 : Mm → Option (Int32 × Mm)) (x0 : Nat) : Nat → Int32 → Int32 → Mm → Option (Int32 × Mm)
  | 0, _, _, _ => none
  | n1 + 1, x1, x2, M0 => if x1 = 0 then
    k38  M0
  else
    (rdI M0 x0 3 2).bind fun v3 =>
    if v3 ≤ x2 then
      k38  M0
    else
      (isO M0 x0 3).bind fun _ =>
      (F_X3_takeCheck x0 M0).bind fun (v7, M5) =>
      if v7 = 0 then
        some ((0 : Int32), M5)
      else
        (isO M5 x0 3).bind fun _ =>
        (F_X3_take x0 38 M5).bind fun (v11, M9) =>
        F_X3_takeRule_L4 k38 x0 n1 v11 (x2 + 1) M9
def F_X3_takeRule (this : Nat) (M : Mm) : Option (Int32 × Mm) :=
  F_X3_takeRule_L4 (fun  (M12 : Mm) =>
    (isO M12 this 3).bind fun _ =>
    (F_X3_take this 63 M12).bind fun (v15, M13) =>
    if v15 = 0 then
      some ((0 : Int32), M13)
    else
      (isO M13 this 3).bind fun _ =>
      (F_X3_takeAct this M13).bind fun (v19, M17) =>
      if v19 = 0 then
        some ((0 : Int32), M17)
      else
        (isO M17 this 3).bind fun _ =>
        (F_X3_take this 59 M17).bind fun (v23, M21) =>
        if v23 = 0 then
          some ((0 : Int32), M21)
        else
          some ((1 : Int32), M21)) this 1000000 1 0 M

def F_X3_scan_L38 (k73 : Mm → Option (Int32 × Mm)) (x0 : Nat) : Nat → Int32 → Mm → Option (Int32 × Mm)
  | 0, _, _ => none
  | n11 + 1, x3, M0 => (rdI M0 x0 3 3).bind fun v12 =>
  (rdI M0 x0 3 2).bind fun v13 =>
  if v13 ≤ v12 then
    k73  M0
  else
    if 6 ≤ x3 then
      (rdI M0 x0 3 3).bind fun v16 =>
      some (v16, M0)
    else
      (isO M0 x0 3).bind fun _ =>
      (F_X3_takeRule x0 M0).bind fun (v19, M17) =>
      if v19 = 0 then
        (rdI M17 x0 3 3).bind fun v21 =>
        some (v21, M17)
      else
        F_X3_scan_L38 k73 x0 n11 (x3 + 1) M17
def F_X3_scan (this : Nat) (p1 : Nat) (p2 : Int32) (M : Mm) : Option (Int32 × Mm) :=
  (wrR M this 3 1 (some p1)).bind fun M1 =>
  (lnI M1 p1).bind fun v2 =>
  (wrI M1 this 3 2 (mnI p2 v2)).bind fun M3 =>
  (wrI M3 this 3 3 0).bind fun M4 =>
  (rdR M4 this 3 0).bind fun v5 =>
  v5.bind fun a6 =>
  (wrI M4 a6 2 0 0).bind fun M7 =>
  (rdR M7 this 3 0).bind fun v8 =>
  v8.bind fun a9 =>
  (wrI M7 a9 2 1 0).bind fun M10 =>
  F_X3_scan_L38 (fun  (M22 : Mm) =>
    (rdR M22 this 3 0).bind fun v23 =>
    v23.bind fun a24 =>
    (rdI M22 a24 2 0).bind fun v25 =>
    if v25 ≤ 0 then
      (rdI M22 this 3 3).bind fun v27 =>
      some (v27, M22)
    else
      some (((-4) : Int32), M22)) this 1000000 0 M10

def F_X4_init (this : Nat) (M : Mm) : Option Mm :=
  some M

def F_X7_has (this : Nat) (p1 : Int32) (p2 : Int32) (M : Mm) : Option (Int32 × Mm) :=
  (rdR M this 7 0).bind fun v1 =>
  v1.bind fun a3 =>
  (ldI M a3 p1).bind fun v2 =>
  if v2 ≤ p2 then
    some ((0 : Int32), M)
  else
    some ((1 : Int32), M)

def F_X11_placeOf (p1 : Int32) (p2 : Int32) (M : Mm) : Option (Int32 × Mm) :=
  some (((4 * p1) + p2), M)

def F_X11_xOf (p1 : Int32) (M : Mm) : Option (Int32 × Mm) :=
  (dvI p1 8).bind fun v1 =>
  some (v1, M)

def F_X11_yOf (p1 : Int32) (M : Mm) : Option (Int32 × Mm) :=
  (rmI p1 8).bind fun v1 =>
  some (v1, M)

def F_X11_isCell (p1 : Int32) (p2 : Int32) (M : Mm) : Option (Int32 × Mm) :=
  if p1 < 0 then
    some ((0 : Int32), M)
  else
    if 10 ≤ p1 then
      some ((0 : Int32), M)
    else
      if p2 < 0 then
        some ((0 : Int32), M)
      else
        if 8 ≤ p2 then
          some ((0 : Int32), M)
        else
          some ((1 : Int32), M)

def F_X7_stepped (this : Nat) (p1 : Int32) (p2 : Int32) (p3 : Int32) (M : Mm) : Option (Int32 × Mm) :=
  (F_X11_xOf p1 M).bind fun (v2, M1) =>
  (F_X11_yOf p1 M1).bind fun (v4, M3) =>
  (F_X11_isCell (v2 + p2) (v4 + p3) M3).bind fun (v6, M5) =>
  if v6 = 0 then
    some (p1, M5)
  else
    (rdR M5 this 7 0).bind fun v8 =>
    (F_X11_cellOf (v2 + p2) (v4 + p3) M5).bind fun (v10, M9) =>
    v8.bind fun a12 =>
    (ldI M9 a12 v10).bind fun v11 =>
    if v11 ≤ 0 then
      some (p1, M9)
    else
      (F_X11_cellOf (v2 + p2) (v4 + p3) M9).bind fun (v15, M14) =>
      some (v15, M14)

def F_X7_walked_L6 (k39 : Int32 → Mm → Option (Int32 × Mm)) (x0 : Nat) (x2 : Int32) (x3 : Int32) : Nat → Int32 → Int32 → Mm → Option (Int32 × Mm)
  | 0, _, _, _ => none
  | n1 + 1, x4, x5, M0 => if (abI x2) ≤ x5 then
    k39 x4 M0
  else
    nv (α := Int32) (if 0 ≤ x2 then 1 else (-1)) fun v3 =>
    (isO M0 x0 7).bind fun _ =>
    (F_X7_stepped x0 x4 v3 0 M0).bind fun (v7, M5) =>
    F_X7_walked_L6 k39 x0 x2 x3 n1 v7 (x5 + 1) M5
def F_X7_walked_L42  (x0 : Nat) (x3 : Int32) : Nat → Int32 → Int32 → Mm → Option (Int32 × Mm)
  | 0, _, _, _ => none
  | n11 + 1, x4, x5, M0 => if (abI x3) ≤ x5 then
    some (x4, M0)
  else
    nv (α := Int32) (if 0 ≤ x3 then 1 else (-1)) fun v13 =>
    (isO M0 x0 7).bind fun _ =>
    (F_X7_stepped x0 x4 0 v13 M0).bind fun (v17, M15) =>
    F_X7_walked_L42 x0 x3 n11 v17 (x5 + 1) M15
def F_X7_walked (this : Nat) (p1 : Int32) (p2 : Int32) (p3 : Int32) (M : Mm) : Option (Int32 × Mm) :=
  F_X7_walked_L6 (fun (y9 : Int32) (M10 : Mm) =>
    F_X7_walked_L42  this p3 1000000 y9 0 M10) this p2 p3 1000000 p1 0 M

def F_X4_sink_L18  (x0 : Nat) (x1 : Nat) (x2 : Nat) (x4 : Int32) (x5 : Int32) : Nat → Int32 → Mm → Option Mm
  | 0, _, _ => none
  | n4 + 1, x6, M0 => if x4 < x6 then
    some M0
  else
    (rdI M0 x0 4 2).bind fun v6 =>
    if v6 = 0 then
      (rdI M0 x0 4 0).bind fun v8 =>
      (isO M0 x1 7).bind fun _ =>
      (F_X7_has x1 v8 x6 M0).bind fun (v11, M9) =>
      if v11 = 0 then
        some M9
      else
        (wrI M9 x0 4 1 x6).bind fun M13 =>
        (rdI M13 x0 4 0).bind fun v14 =>
        (F_X11_placeOf v14 x6 M13).bind fun (v16, M15) =>
        (rdI M15 x0 4 0).bind fun v17 =>
        (rdR M15 x2 9 0).bind fun v18 =>
        v18.bind fun a20 =>
        (ldI M15 a20 v16).bind fun v19 =>
        (rdR M15 x2 9 1).bind fun v21 =>
        v21.bind fun a23 =>
        (ldI M15 a23 v16).bind fun v22 =>
        (isO M15 x1 7).bind fun _ =>
        (F_X7_walked x1 v17 v19 v22 M15).bind fun (v26, M24) =>
        (wrI M24 x0 4 0 v26).bind fun M27 =>
        if x5 = 0 then
          (wrZ M27 x0 4 2 0).bind fun M29 =>
          F_X4_sink_L18 x0 x1 x2 x4 x5 n4 (x6 + 1) M29
        else
          (rdI M27 x0 4 0).bind fun v30 =>
          (isO M27 x1 7).bind fun _ =>
          (F_X7_has x1 v30 x6 M27).bind fun (v33, M31) =>
          if v33 = 0 then
            (wrZ M31 x0 4 2 0).bind fun M35 =>
            F_X4_sink_L18 x0 x1 x2 x4 x5 n4 (x6 + 1) M35
          else
            (rdR M31 x1 7 4).bind fun v36 =>
            (rdI M31 x0 4 0).bind fun v37 =>
            (F_X11_placeOf v37 x6 M31).bind fun (v39, M38) =>
            v36.bind fun a41 =>
            (ldI M38 a41 v39).bind fun v40 =>
            nv (α := Int32) (if v40 = 1 then 1 else 0) fun v42 =>
            (wrZ M38 x0 4 2 v42).bind fun M44 =>
            F_X4_sink_L18 x0 x1 x2 x4 x5 n4 (x6 + 1) M44
    else
      some M0
def F_X4_sink (this : Nat) (p1 : Nat) (p2 : Nat) (p3 : Int32) (p4 : Int32) (p5 : Int32) (M : Mm) : Option Mm :=
  (wrI M this 4 0 p3).bind fun M1 =>
  (wrI M1 this 4 1 0).bind fun M2 =>
  (wrZ M2 this 4 2 0).bind fun M3 =>
  F_X4_sink_L18  this p1 p2 p4 p5 1000000 0 M3

def F_X5_init (this : Nat) (p1 : Nat) (M : Mm) : Option Mm :=
  nv (mN M) fun a1 =>
  nv (nw M (1, 3)) fun M2 =>
  (wrR M2 this 5 2 (some a1)).bind fun M3 =>
  (wrI M3 this 5 3 0).bind fun M4 =>
  nv (mN M4) fun a5 =>
  nv (nw M4 (1, 3)) fun M6 =>
  (wrR M6 this 5 4 (some a5)).bind fun M7 =>
  nv (mN M7) fun a8 =>
  nv (nw M7 (1, 123)) fun M9 =>
  (wrR M9 this 5 5 (some a8)).bind fun M10 =>
  nv (mN M10) fun a11 =>
  nv (nw M10 (1, 123)) fun M12 =>
  (wrR M12 this 5 6 (some a11)).bind fun M13 =>
  nv (mN M13) fun a14 =>
  nv (nw M13 (1, 123)) fun M15 =>
  (wrR M15 this 5 7 (some a14)).bind fun M16 =>
  nv (mN M16) fun a17 =>
  nv (nw M16 (1, 4)) fun M18 =>
  (wrR M18 this 5 8 (some a17)).bind fun M19 =>
  nv (mN M19) fun a20 =>
  nv (nw M19 (1, 80)) fun M21 =>
  (wrR M21 this 5 9 (some a20)).bind fun M22 =>
  nv (mN M22) fun a23 =>
  nv (nw M22 (1, 15)) fun M24 =>
  (wrR M24 this 5 10 (some a23)).bind fun M25 =>
  nv (mN M25) fun a26 =>
  nv (nw M25 (1, 3)) fun M27 =>
  (wrR M27 this 5 11 (some a26)).bind fun M28 =>
  nv (mN M28) fun a29 =>
  nv (nw M28 (1, 3)) fun M30 =>
  (wrR M30 this 5 12 (some a29)).bind fun M31 =>
  (wrI M31 this 5 13 (-4)).bind fun M32 =>
  (wrR M32 this 5 0 (some p1)).bind fun M33 =>
  (rdR M33 p1 10 0).bind fun v34 =>
  (wrR M33 this 5 1 v34).bind fun M35 =>
  some M35

def F_X7_beside (this : Nat) (p1 : Int32) (p2 : Int32) (M : Mm) : Option (Int32 × Mm) :=
  (F_X11_xOf p1 M).bind fun (v2, M1) =>
  (ldS 2 p2).bind fun v3 =>
  (F_X11_yOf p1 M1).bind fun (v5, M4) =>
  (ldS 3 p2).bind fun v6 =>
  (F_X11_isCell (v2 + v3) (v5 + v6) M4).bind fun (v8, M7) =>
  if v8 = 0 then
    some (((-1) : Int32), M7)
  else
    (F_X11_cellOf (v2 + v3) (v5 + v6) M7).bind fun (v11, M10) =>
    some (v11, M10)

def F_X5_worth (this : Nat) (p1 : Int32) (p2 : Int32) (M : Mm) : Option (Int32 × Mm) :=
  if p2 = 0 then
    (rdR M this 5 1).bind fun v8 =>
    v8.bind fun a9 =>
    (rdR M a9 7 2).bind fun v10 =>
    v10.bind fun a12 =>
    (ldI M a12 p1).bind fun v11 =>
    some (v11, M)
  else
    (rdR M this 5 1).bind fun v2 =>
    v2.bind fun a3 =>
    (rdR M a3 7 2).bind fun v4 =>
    v4.bind fun a6 =>
    (ldI M a6 p1).bind fun v5 =>
    (dvI (v5 + 1) 2).bind fun v7 =>
    some (v7, M)

def F_X5_gainBy_L4  (x0 : Nat) (x1 : Int32) : Nat → Int32 → Int32 → Mm → Option (Int32 × Mm)
  | 0, _, _, _ => none
  | n1 + 1, x2, x3, M0 => if 5 ≤ x3 then
    some (x2, M0)
  else
    (rdR M0 x0 5 1).bind fun v3 =>
    v3.bind fun a4 =>
    (isO M0 a4 7).bind fun _ =>
    (F_X7_beside a4 x1 x3 M0).bind fun (v7, M5) =>
    if v7 < 0 then
      F_X5_gainBy_L4 x0 x1 n1 x2 (x3 + 1) M5
    else
      (isO M5 x0 5).bind fun _ =>
      (F_X5_worth x0 v7 x3 M5).bind fun (v11, M9) =>
      (rdR M9 x0 5 9).bind fun v12 =>
      v12.bind fun a14 =>
      (ldI M9 a14 v7).bind fun v13 =>
      F_X5_gainBy_L4 x0 x1 n1 (x2 + (mxI 0 (v11 - v13))) (x3 + 1) M9
def F_X5_gainBy (this : Nat) (p1 : Int32) (M : Mm) : Option (Int32 × Mm) :=
  F_X5_gainBy_L4  this p1 1000000 0 0 M

def F_X5_addEnd_L21 (k46 : Mm → Option Mm) (x0 : Nat) (x1 : Int32) (x2 : Int32) (x3 : Int32) (x5 : Int32) : Nat → Int32 → Mm → Option Mm
  | 0, _, _ => none
  | n4 + 1, x6, M0 => if x5 ≤ x6 then
    k46  M0
  else
    (rdR M0 x0 5 5).bind fun v6 =>
    v6.bind fun a8 =>
    (ldI M0 a8 x6).bind fun v7 =>
    if v7 = x2 then
      some M0
    else
      F_X5_addEnd_L21 k46 x0 x1 x2 x3 x5 n4 (x6 + 1) M0
def F_X5_addEnd (this : Nat) (p1 : Int32) (p2 : Int32) (p3 : Int32) (M : Mm) : Option Mm :=
  (rdR M this 5 4).bind fun v1 =>
  v1.bind fun a3 =>
  (ldI M a3 p1).bind fun v2 =>
  F_X5_addEnd_L21 (fun  (M10 : Mm) =>
    (rdR M10 this 5 4).bind fun v11 =>
    v11.bind fun a13 =>
    (ldI M10 a13 p1).bind fun v12 =>
    if 41 ≤ v12 then
      some M10
    else
      (rdR M10 this 5 5).bind fun v15 =>
      v15.bind fun a17 =>
      (stI M10 a17 ((p1 * 41) + v2) p2).bind fun M16 =>
      (rdR M16 this 5 6).bind fun v18 =>
      v18.bind fun a20 =>
      (stI M16 a20 ((p1 * 41) + v2) p3).bind fun M19 =>
      (rdR M19 this 5 7).bind fun v21 =>
      (isO M19 this 5).bind fun _ =>
      (F_X5_gainBy this p2 M19).bind fun (v24, M22) =>
      v21.bind fun a26 =>
      (stI M22 a26 ((p1 * 41) + v2) v24).bind fun M25 =>
      (rdR M25 this 5 4).bind fun v27 =>
      v27.bind fun a29 =>
      (ldI M25 a29 p1).bind fun v28 =>
      (stI M25 a29 p1 (v28 + 1)).bind fun M30 =>
      some M30) this p1 p2 p3 ((p1 * 41) + v2) 1000000 (p1 * 41) M

def F_X5_listEnds_L31 (k75 : Mm → Option Mm) (x0 : Nat) (x1 : Int32) (x2 : Int32) (x3 : Int32) (x4 : Int32) (x5 : Int32) : Nat → Int32 → Mm → Option Mm
  | 0, _, _ => none
  | n6 + 1, x6, M0 => if x5 < x6 then
    k75  M0
  else
    (rdR M0 x0 5 1).bind fun v8 =>
    v8.bind fun a9 =>
    (isO M0 a9 7).bind fun _ =>
    (F_X7_walked a9 x2 x4 x6 M0).bind fun (v12, M10) =>
    (isO M10 x0 5).bind fun _ =>
    (F_X5_addEnd x0 x1 v12 (((20 * (x4 + 10)) + x6) + 10) M10).bind fun M13 =>
    F_X5_listEnds_L31 k75 x0 x1 x2 x3 x4 x5 n6 (x6 + 1) M13
def F_X5_listEnds_L11  (x0 : Nat) (x1 : Int32) (x2 : Int32) (x3 : Int32) : Nat → Int32 → Mm → Option Mm
  | 0, _, _ => none
  | n4 + 1, x4, M0 => if x3 < x4 then
    some M0
  else
    F_X5_listEnds_L31 (fun  (M15 : Mm) =>
      F_X5_listEnds_L11 x0 x1 x2 x3 n4 (x4 + 1) M15) x0 x1 x2 x3 x4 (x3 - (abI x4)) 1000000 (-(x3 - (abI x4))) M0
def F_X5_listEnds (this : Nat) (p1 : Int32) (p2 : Int32) (p3 : Int32) (M : Mm) : Option Mm :=
  (rdR M this 5 4).bind fun v1 =>
  v1.bind fun a3 =>
  (stI M a3 p1 0).bind fun M2 =>
  F_X5_listEnds_L11  this p1 p2 p3 1000000 (-p3) M2

def F_X5_sumMostFrom_L25 (k57 : Int32 → Mm → Option Mm) (x0 : Nat) (x1 : Int32) : Nat → Int32 → Int32 → Mm → Option Mm
  | 0, _, _, _ => none
  | n8 + 1, x2, x3, M0 => (rdR M0 x0 5 4).bind fun v9 =>
  v9.bind fun a11 =>
  (ldI M0 a11 x1).bind fun v10 =>
  if v10 ≤ x3 then
    k57 x2 M0
  else
    (rdR M0 x0 5 7).bind fun v13 =>
    v13.bind fun a15 =>
    (ldI M0 a15 ((x1 * 41) + x3)).bind fun v14 =>
    F_X5_sumMostFrom_L25 k57 x0 x1 n8 (mxI x2 v14) (x3 + 1) M0
def F_X5_sumMostFrom_L17  (x0 : Nat) : Nat → Int32 → Mm → Option Mm
  | 0, _, _ => none
  | n6 + 1, x1, M0 => if x1 < 0 then
    some M0
  else
    F_X5_sumMostFrom_L25 (fun (y16 : Int32) (M17 : Mm) =>
      (rdR M17 x0 5 8).bind fun v18 =>
      (rdR M17 x0 5 8).bind fun v19 =>
      v19.bind fun a21 =>
      (ldI M17 a21 (x1 + 1)).bind fun v20 =>
      v18.bind fun a23 =>
      (stI M17 a23 x1 (v20 + y16)).bind fun M22 =>
      F_X5_sumMostFrom_L17 x0 n6 (x1 + (-1)) M22) x0 x1 1000000 0 0 M0
def F_X5_sumMostFrom (this : Nat) (M : Mm) : Option Mm :=
  (rdR M this 5 8).bind fun v1 =>
  (rdI M this 5 3).bind fun v2 =>
  v1.bind fun a4 =>
  (stI M a4 v2 0).bind fun M3 =>
  (rdI M3 this 5 3).bind fun v5 =>
  F_X5_sumMostFrom_L17  this 1000000 (v5 - 1) M3

def F_X5_isTaken_L2  (x0 : Nat) (x1 : Int32) (x2 : Int32) : Nat → Int32 → Mm → Option (Int32 × Mm)
  | 0, _, _ => none
  | n1 + 1, x3, M0 => if x1 ≤ x3 then
    some ((0 : Int32), M0)
  else
    (rdR M0 x0 5 5).bind fun v3 =>
    (rdR M0 x0 5 11).bind fun v4 =>
    v4.bind fun a6 =>
    (ldI M0 a6 x3).bind fun v5 =>
    v3.bind fun a8 =>
    (ldI M0 a8 v5).bind fun v7 =>
    if v7 = x2 then
      some ((1 : Int32), M0)
    else
      F_X5_isTaken_L2 x0 x1 x2 n1 (x3 + 1) M0
def F_X5_isTaken (this : Nat) (p1 : Int32) (p2 : Int32) (M : Mm) : Option (Int32 × Mm) :=
  F_X5_isTaken_L2  this p1 p2 1000000 0 M

def F_X5_cover_L2  (x0 : Nat) (x1 : Int32) (x2 : Int32) : Nat → Int32 → Mm → Option Mm
  | 0, _, _ => none
  | n1 + 1, x3, M0 => if 5 ≤ x3 then
    some M0
  else
    (rdR M0 x0 5 1).bind fun v3 =>
    v3.bind fun a4 =>
    (isO M0 a4 7).bind fun _ =>
    (F_X7_beside a4 x2 x3 M0).bind fun (v7, M5) =>
    if v7 < 0 then
      F_X5_cover_L2 x0 x1 x2 n1 (x3 + 1) M5
    else
      (rdR M5 x0 5 10).bind fun v9 =>
      (rdR M5 x0 5 9).bind fun v10 =>
      v10.bind fun a12 =>
      (ldI M5 a12 v7).bind fun v11 =>
      v9.bind fun a14 =>
      (stI M5 a14 ((x1 * 5) + x3) v11).bind fun M13 =>
      (rdR M13 x0 5 9).bind fun v15 =>
      (rdR M13 x0 5 9).bind fun v16 =>
      v16.bind fun a18 =>
      (ldI M13 a18 v7).bind fun v17 =>
      (isO M13 x0 5).bind fun _ =>
      (F_X5_worth x0 v7 x3 M13).bind fun (v21, M19) =>
      v15.bind fun a23 =>
      (stI M19 a23 v7 (mxI v17 v21)).bind fun M22 =>
      F_X5_cover_L2 x0 x1 x2 n1 (x3 + 1) M22
def F_X5_cover (this : Nat) (p1 : Int32) (p2 : Int32) (M : Mm) : Option Mm :=
  F_X5_cover_L2  this p1 p2 1000000 0 M

def F_X5_uncover_L2  (x0 : Nat) (x1 : Int32) (x2 : Int32) : Nat → Int32 → Mm → Option Mm
  | 0, _, _ => none
  | n1 + 1, x3, M0 => if 5 ≤ x3 then
    some M0
  else
    (rdR M0 x0 5 1).bind fun v3 =>
    v3.bind fun a4 =>
    (isO M0 a4 7).bind fun _ =>
    (F_X7_beside a4 x2 x3 M0).bind fun (v7, M5) =>
    if v7 < 0 then
      F_X5_uncover_L2 x0 x1 x2 n1 (x3 + 1) M5
    else
      (rdR M5 x0 5 9).bind fun v9 =>
      (rdR M5 x0 5 10).bind fun v10 =>
      v10.bind fun a12 =>
      (ldI M5 a12 ((x1 * 5) + x3)).bind fun v11 =>
      v9.bind fun a14 =>
      (stI M5 a14 v7 v11).bind fun M13 =>
      F_X5_uncover_L2 x0 x1 x2 n1 (x3 + 1) M13
def F_X5_uncover (this : Nat) (p1 : Int32) (p2 : Int32) (M : Mm) : Option Mm :=
  F_X5_uncover_L2  this p1 p2 1000000 0 M

def F_X5_search_L33 (rec : Nat → Int32 → Int32 → Mm → Option Mm)  (x0 : Nat) (x1 : Int32) (x2 : Int32) (x3 : Int32) : Nat → Int32 → Mm → Option Mm
  | 0, _, _ => none
  | n3 + 1, x4, M0 => (rdR M0 x0 5 4).bind fun v4 =>
  v4.bind fun a6 =>
  (ldI M0 a6 x1).bind fun v5 =>
  if (x3 + v5) ≤ x4 then
    some M0
  else
    (rdR M0 x0 5 7).bind fun v8 =>
    v8.bind fun a10 =>
    (ldI M0 a10 x4).bind fun v9 =>
    (rdR M0 x0 5 8).bind fun v11 =>
    v11.bind fun a13 =>
    (ldI M0 a13 (x1 + 1)).bind fun v12 =>
    (rdI M0 x0 5 13).bind fun v14 =>
    nv (α := Int32) (if ((x2 + v9) + v12) ≤ v14 then 0 else 1) fun v15 =>
    if v15 = 0 then
      F_X5_search_L33 rec  x0 x1 x2 x3 n3 (x4 + 1) M0
    else
      (rdR M0 x0 5 5).bind fun v18 =>
      v18.bind fun a20 =>
      (ldI M0 a20 x4).bind fun v19 =>
      (isO M0 x0 5).bind fun _ =>
      (F_X5_isTaken x0 x1 v19 M0).bind fun (v23, M21) =>
      if v23 = 0 then
        (rdR M21 x0 5 5).bind fun v25 =>
        v25.bind fun a27 =>
        (ldI M21 a27 x4).bind fun v26 =>
        (isO M21 x0 5).bind fun _ =>
        (F_X5_gainBy x0 v26 M21).bind fun (v30, M28) =>
        (rdR M28 x0 5 8).bind fun v31 =>
        v31.bind fun a33 =>
        (ldI M28 a33 (x1 + 1)).bind fun v32 =>
        (rdI M28 x0 5 13).bind fun v34 =>
        if ((x2 + v30) + v32) ≤ v34 then
          F_X5_search_L33 rec  x0 x1 x2 x3 n3 (x4 + 1) M28
        else
          (rdR M28 x0 5 11).bind fun v36 =>
          v36.bind fun a38 =>
          (stI M28 a38 x1 x4).bind fun M37 =>
          (rdR M37 x0 5 5).bind fun v39 =>
          v39.bind fun a41 =>
          (ldI M37 a41 x4).bind fun v40 =>
          (isO M37 x0 5).bind fun _ =>
          (F_X5_cover x0 x1 v40 M37).bind fun M42 =>
          (isO M42 x0 5).bind fun _ =>
          (rec x0 (x1 + 1) (x2 + v30) M42).bind fun M44 =>
          (rdR M44 x0 5 5).bind fun v46 =>
          v46.bind fun a48 =>
          (ldI M44 a48 x4).bind fun v47 =>
          (isO M44 x0 5).bind fun _ =>
          (F_X5_uncover x0 x1 v47 M44).bind fun M49 =>
          F_X5_search_L33 rec  x0 x1 x2 x3 n3 (x4 + 1) M49
      else
        F_X5_search_L33 rec  x0 x1 x2 x3 n3 (x4 + 1) M21
def F_X5_search : Nat → Nat → Int32 → Int32 → Mm → Option Mm
  | 0, _, _, _, _ => none
  | nr + 1, this, p1, p2, M =>
  (rdI M this 5 3).bind fun v1 =>
  if p1 < v1 then
    F_X5_search_L33 (F_X5_search nr)  this p1 p2 (p1 * 41) 1000000 (p1 * 41) M
  else
    (wrI M this 5 13 p2).bind fun M52 =>
    (rdR M52 this 5 11).bind fun v53 =>
    (rdR M52 this 5 12).bind fun v54 =>
    v54.bind fun a55 =>
    v53.bind fun a56 =>
    (F_X11_copyAll a56 a55 M52).bind fun M57 =>
    some M57

def F_X5_work_L21  (x0 : Nat) (x1 : Int32) : Nat → Int32 → Mm → Option (Int32 × Mm)
  | 0, _, _ => none
  | n6 + 1, x2, M0 => (rdR M0 x0 5 0).bind fun v7 =>
  v7.bind fun a8 =>
  (rdI M0 a8 10 2).bind fun v9 =>
  jp (fun  (M11 : Mm) =>
  (isO M11 x0 5).bind fun _ =>
  (F_X5_sumMostFrom x0 M11).bind fun M12 =>
  (isO M12 x0 5).bind fun _ =>
  (F_X5_search 5 x0 0 0 M12).bind fun M14 =>
  (rdI M14 x0 5 13).bind fun v16 =>
  some (v16, M14)) fun k10 =>
  if v9 ≤ x2 then
    k10  M0
  else
    (rdI M0 x0 5 3).bind fun v19 =>
    if 3 ≤ v19 then
      k10  M0
    else
      (rdR M0 x0 5 0).bind fun v21 =>
      v21.bind fun a22 =>
      (rdR M0 a22 10 1).bind fun v23 =>
      v23.bind fun a25 =>
      (ldR M0 a25 3 x2).bind fun v24 =>
      v24.bind fun a26 =>
      (isO M0 a26 0).bind fun _ =>
      (F_X0_deepest a26 M0).bind fun (v29, M27) =>
      (rdI M27 a26 0 3).bind fun v30 =>
      if v30 = 0 then
        (rdI M27 a26 0 2).bind fun v32 =>
        (isO M27 a26 0).bind fun _ =>
        (F_X0_costTo a26 (mnI x1 v29) M27).bind fun (v35, M33) =>
        if v32 < v35 then
          F_X5_work_L21 x0 x1 n6 (x2 + 1) M33
        else
          (rdR M33 x0 5 2).bind fun v37 =>
          (rdI M33 x0 5 3).bind fun v38 =>
          v37.bind fun a40 =>
          (stI M33 a40 v38 x2).bind fun M39 =>
          (rdR M39 x0 5 0).bind fun v41 =>
          v41.bind fun a42 =>
          (rdR M39 a42 10 10).bind fun v43 =>
          (rdR M39 x0 5 1).bind fun v44 =>
          (rdR M39 x0 5 1).bind fun v45 =>
          v45.bind fun a46 =>
          (rdR M39 a46 7 6).bind fun v47 =>
          (rdI M39 a26 0 1).bind fun v48 =>
          v47.bind fun a49 =>
          v44.bind fun a50 =>
          v43.bind fun a51 =>
          (isO M39 a51 4).bind fun _ =>
          (F_X4_sink a51 a50 a49 v48 (mnI x1 v29) 0 M39).bind fun M52 =>
          (rdI M52 x0 5 3).bind fun v54 =>
          (rdR M52 x0 5 0).bind fun v55 =>
          v55.bind fun a56 =>
          (rdR M52 a56 10 10).bind fun v57 =>
          v57.bind fun a58 =>
          (rdI M52 a58 4 0).bind fun v59 =>
          (isO M52 a26 0).bind fun _ =>
          (F_X0_reach a26 M52).bind fun (v62, M60) =>
          (isO M60 x0 5).bind fun _ =>
          (F_X5_listEnds x0 v54 v59 v62 M60).bind fun M63 =>
          (rdI M63 x0 5 3).bind fun v65 =>
          (wrI M63 x0 5 3 (v65 + 1)).bind fun M66 =>
          F_X5_work_L21 x0 x1 n6 (x2 + 1) M66
      else
        F_X5_work_L21 x0 x1 n6 (x2 + 1) M27
def F_X5_work (this : Nat) (p1 : Int32) (M : Mm) : Option (Int32 × Mm) :=
  (wrI M this 5 3 0).bind fun M1 =>
  (wrI M1 this 5 13 (-4)).bind fun M2 =>
  (rdR M2 this 5 9).bind fun v3 =>
  v3.bind fun a4 =>
  (F_J7_fill_53178 a4 0 M2).bind fun M5 =>
  F_X5_work_L21  this p1 1000000 0 M5

def F_X5_headingOf_L2  (x0 : Nat) (x1 : Int32) : Nat → Int32 → Mm → Option (Int32 × Mm)
  | 0, _, _ => none
  | n1 + 1, x2, M0 => (rdI M0 x0 5 3).bind fun v2 =>
  if v2 ≤ x2 then
    some (((-4) : Int32), M0)
  else
    (rdI M0 x0 5 13).bind fun v4 =>
    if v4 = (-4) then
      some (((-4) : Int32), M0)
    else
      (rdR M0 x0 5 2).bind fun v6 =>
      v6.bind fun a8 =>
      (ldI M0 a8 x2).bind fun v7 =>
      if v7 = x1 then
        (rdR M0 x0 5 6).bind fun v10 =>
        (rdR M0 x0 5 12).bind fun v11 =>
        v11.bind fun a13 =>
        (ldI M0 a13 x2).bind fun v12 =>
        v10.bind fun a15 =>
        (ldI M0 a15 v12).bind fun v14 =>
        some (v14, M0)
      else
        F_X5_headingOf_L2 x0 x1 n1 (x2 + 1) M0
def F_X5_headingOf (this : Nat) (p1 : Int32) (M : Mm) : Option (Int32 × Mm) :=
  F_X5_headingOf_L2  this p1 1000000 0 M

def F_X6_init (this : Nat) (M : Mm) : Option Mm :=
  (wrI M this 6 0 0).bind fun M1 =>
  nv (mN M1) fun a2 =>
  nv (nw M1 (1, 200)) fun M3 =>
  (wrR M3 this 6 1 (some a2)).bind fun M4 =>
  nv (mN M4) fun a5 =>
  nv (nw M4 (1, 200)) fun M6 =>
  (wrR M6 this 6 2 (some a5)).bind fun M7 =>
  nv (mN M7) fun a8 =>
  nv (nw M7 (1, 200)) fun M9 =>
  (wrR M9 this 6 3 (some a8)).bind fun M10 =>
  nv (mN M10) fun a11 =>
  nv (nw M10 (1, 200)) fun M12 =>
  (wrR M12 this 6 4 (some a11)).bind fun M13 =>
  nv (mN M13) fun a14 =>
  nv (nw M13 (1, 200)) fun M15 =>
  (wrR M15 this 6 5 (some a14)).bind fun M16 =>
  nv (mN M16) fun a17 =>
  nv (nw M16 (1, 200)) fun M18 =>
  (wrR M18 this 6 6 (some a17)).bind fun M19 =>
  (wrI M19 this 6 7 0).bind fun M20 =>
  nv (mN M20) fun a21 =>
  nv (nw M20 (1, 60)) fun M22 =>
  (wrR M22 this 6 8 (some a21)).bind fun M23 =>
  nv (mN M23) fun a24 =>
  nv (nw M23 (1, 60)) fun M25 =>
  (wrR M25 this 6 9 (some a24)).bind fun M26 =>
  nv (mN M26) fun a27 =>
  nv (nw M26 (1, 60)) fun M28 =>
  (wrR M28 this 6 10 (some a27)).bind fun M29 =>
  nv (mN M29) fun a30 =>
  nv (nw M29 (1, 60)) fun M31 =>
  (wrR M31 this 6 11 (some a30)).bind fun M32 =>
  some M32

def F_X6_become (this : Nat) (p1 : Nat) (M : Mm) : Option Mm :=
  (rdI M p1 6 0).bind fun v1 =>
  (wrI M this 6 0 v1).bind fun M2 =>
  (rdR M2 p1 6 1).bind fun v3 =>
  (rdR M2 this 6 1).bind fun v4 =>
  v4.bind fun a5 =>
  v3.bind fun a6 =>
  (F_X11_copyAll a6 a5 M2).bind fun M7 =>
  (rdR M7 p1 6 2).bind fun v8 =>
  (rdR M7 this 6 2).bind fun v9 =>
  v9.bind fun a10 =>
  v8.bind fun a11 =>
  (F_X11_copyAll a11 a10 M7).bind fun M12 =>
  (rdR M12 p1 6 3).bind fun v13 =>
  (rdR M12 this 6 3).bind fun v14 =>
  v14.bind fun a15 =>
  v13.bind fun a16 =>
  (F_X11_copyAll a16 a15 M12).bind fun M17 =>
  (rdR M17 p1 6 4).bind fun v18 =>
  (rdR M17 this 6 4).bind fun v19 =>
  v19.bind fun a20 =>
  v18.bind fun a21 =>
  (F_X11_copyAll a21 a20 M17).bind fun M22 =>
  (rdR M22 p1 6 5).bind fun v23 =>
  (rdR M22 this 6 5).bind fun v24 =>
  v24.bind fun a25 =>
  v23.bind fun a26 =>
  (F_X11_copyAll a26 a25 M22).bind fun M27 =>
  (rdR M27 p1 6 6).bind fun v28 =>
  (rdR M27 this 6 6).bind fun v29 =>
  v29.bind fun a30 =>
  v28.bind fun a31 =>
  (F_X11_copyAll a31 a30 M27).bind fun M32 =>
  (rdI M32 p1 6 7).bind fun v33 =>
  (wrI M32 this 6 7 v33).bind fun M34 =>
  (rdR M34 p1 6 8).bind fun v35 =>
  (rdR M34 this 6 8).bind fun v36 =>
  v36.bind fun a37 =>
  v35.bind fun a38 =>
  (F_X11_copyAll a38 a37 M34).bind fun M39 =>
  (rdR M39 p1 6 9).bind fun v40 =>
  (rdR M39 this 6 9).bind fun v41 =>
  v41.bind fun a42 =>
  v40.bind fun a43 =>
  (F_X11_copyAll a43 a42 M39).bind fun M44 =>
  (rdR M44 p1 6 10).bind fun v45 =>
  (rdR M44 this 6 10).bind fun v46 =>
  v46.bind fun a47 =>
  v45.bind fun a48 =>
  (F_X11_copyAll a48 a47 M44).bind fun M49 =>
  (rdR M49 p1 6 11).bind fun v50 =>
  (rdR M49 this 6 11).bind fun v51 =>
  v51.bind fun a52 =>
  v50.bind fun a53 =>
  (F_X11_copyAll a53 a52 M49).bind fun M54 =>
  some M54

def F_X6_addReading (this : Nat) (p1 : Int32) (p2 : Nat) (p3 : Int32) (p4 : Int32) (M : Mm) : Option Mm :=
  (rdI M this 6 0).bind fun v1 =>
  if v1 < 200 then
    (rdR M this 6 1).bind fun v3 =>
    (rdI M this 6 0).bind fun v4 =>
    v3.bind fun a6 =>
    (stI M a6 v4 p1).bind fun M5 =>
    (rdR M5 this 6 2).bind fun v7 =>
    (rdI M5 this 6 0).bind fun v8 =>
    v7.bind fun a10 =>
    (stI M5 a10 v8 p3).bind fun M9 =>
    (rdR M9 this 6 3).bind fun v11 =>
    (rdI M9 this 6 0).bind fun v12 =>
    (rdI M9 p2 0 1).bind fun v13 =>
    v11.bind fun a15 =>
    (stI M9 a15 v12 v13).bind fun M14 =>
    (rdR M14 this 6 4).bind fun v16 =>
    (rdI M14 this 6 0).bind fun v17 =>
    v16.bind fun a19 =>
    (stI M14 a19 v17 p4).bind fun M18 =>
    (rdR M18 this 6 5).bind fun v20 =>
    (rdI M18 this 6 0).bind fun v21 =>
    (rdI M18 p2 0 5).bind fun v22 =>
    v20.bind fun a24 =>
    (stI M18 a24 v21 v22).bind fun M23 =>
    (rdR M23 this 6 6).bind fun v25 =>
    (rdI M23 this 6 0).bind fun v26 =>
    (rdI M23 p2 0 9).bind fun v27 =>
    v25.bind fun a29 =>
    (stI M23 a29 v26 v27).bind fun M28 =>
    (rdI M28 this 6 0).bind fun v30 =>
    (wrI M28 this 6 0 (v30 + 1)).bind fun M31 =>
    some M31
  else
    some M

def F_X6_addCleaning (this : Nat) (p1 : Int32) (p2 : Int32) (p3 : Int32) (M : Mm) : Option (Int32 × Mm) :=
  (rdR M this 6 8).bind fun v1 =>
  (rdI M this 6 7).bind fun v2 =>
  v1.bind fun a4 =>
  (stI M a4 v2 p1).bind fun M3 =>
  (rdR M3 this 6 9).bind fun v5 =>
  (rdI M3 this 6 7).bind fun v6 =>
  v5.bind fun a8 =>
  (stI M3 a8 v6 p2).bind fun M7 =>
  (rdR M7 this 6 10).bind fun v9 =>
  (rdI M7 this 6 7).bind fun v10 =>
  v9.bind fun a12 =>
  (stI M7 a12 v10 p3).bind fun M11 =>
  (rdR M11 this 6 11).bind fun v13 =>
  (rdI M11 this 6 7).bind fun v14 =>
  (rdI M11 this 6 0).bind fun v15 =>
  v13.bind fun a17 =>
  (stI M11 a17 v14 v15).bind fun M16 =>
  (rdI M16 this 6 7).bind fun v18 =>
  (wrI M16 this 6 7 (v18 + 1)).bind fun M19 =>
  (rdI M19 this 6 7).bind fun v20 =>
  some (v20, M19)

def F_X6_putRight_L2 (k54 : Int32 → Mm → Option (Int32 × Mm)) (x0 : Nat) (x1 : Int32) : Nat → Int32 → Mm → Option (Int32 × Mm)
  | 0, _, _ => none
  | n1 + 1, x2, M0 => (rdI M0 x0 6 7).bind fun v2 =>
  if v2 ≤ x2 then
    (rdR M0 x0 6 6).bind fun v4 =>
    v4.bind fun a6 =>
    (ldI M0 a6 x1).bind fun v5 =>
    (rdR M0 x0 6 5).bind fun v7 =>
    v7.bind fun a9 =>
    (ldI M0 a9 x1).bind fun v8 =>
    some ((v5 - (3 * v8)), M0)
  else
    (rdR M0 x0 6 8).bind fun v10 =>
    v10.bind fun a12 =>
    (ldI M0 a12 x2).bind fun v11 =>
    (rdR M0 x0 6 1).bind fun v13 =>
    v13.bind fun a15 =>
    (ldI M0 a15 x1).bind fun v14 =>
    jp (fun (s17 : Int32) (M18 : Mm) =>
    if s17 = 0 then
      F_X6_putRight_L2 k54 x0 x1 n1 (x2 + 1) M18
    else
      (rdR M18 x0 6 10).bind fun v20 =>
      v20.bind fun a22 =>
      (ldI M18 a22 x2).bind fun v21 =>
      if v21 ≤ 0 then
        F_X6_putRight_L2 k54 x0 x1 n1 (x2 + 1) M18
      else
        k54 x2 M18) fun k16 =>
    if v11 = v14 then
      (rdR M0 x0 6 11).bind fun v26 =>
      v26.bind fun a28 =>
      (ldI M0 a28 x2).bind fun v27 =>
      if v27 ≤ x1 then
        k16 0 M0
      else
        k16 1 M0
    else
      k16 0 M0
def F_X6_putRight (this : Nat) (p1 : Int32) (M : Mm) : Option (Int32 × Mm) :=
  F_X6_putRight_L2 (fun (y30 : Int32) (M31 : Mm) =>
    (rdR M31 this 6 6).bind fun v32 =>
    v32.bind fun a34 =>
    (ldI M31 a34 p1).bind fun v33 =>
    (rdR M31 this 6 9).bind fun v35 =>
    v35.bind fun a37 =>
    (ldI M31 a37 y30).bind fun v36 =>
    (rdR M31 this 6 5).bind fun v38 =>
    v38.bind fun a40 =>
    (ldI M31 a40 p1).bind fun v39 =>
    (rdR M31 this 6 10).bind fun v41 =>
    v41.bind fun a43 =>
    (ldI M31 a43 y30).bind fun v42 =>
    (dvI (v36 * (v39 + 1)) v42).bind fun v44 =>
    some ((v33 - v44), M31)) this p1 1000000 0 M

def F_X9_init (this : Nat) (M : Mm) : Option Mm :=
  nv (mN M) fun a1 =>
  nv (nw M (1, 320)) fun M2 =>
  (wrR M2 this 9 0 (some a1)).bind fun M3 =>
  nv (mN M3) fun a4 =>
  nv (nw M3 (1, 320)) fun M5 =>
  (wrR M5 this 9 1 (some a4)).bind fun M6 =>
  some M6

def F_X7_init (this : Nat) (M : Mm) : Option Mm :=
  nv (mN M) fun a1 =>
  nv (nw M (1, 80)) fun M2 =>
  (wrR M2 this 7 0 (some a1)).bind fun M3 =>
  nv (mN M3) fun a4 =>
  nv (nw M3 (1, 80)) fun M5 =>
  (wrR M5 this 7 1 (some a4)).bind fun M6 =>
  nv (mN M6) fun a7 =>
  nv (nw M6 (1, 80)) fun M8 =>
  (wrR M8 this 7 2 (some a7)).bind fun M9 =>
  nv (mN M9) fun a10 =>
  nv (nw M9 (1, 320)) fun M11 =>
  (wrR M11 this 7 3 (some a10)).bind fun M12 =>
  nv (mN M12) fun a13 =>
  nv (nw M12 (1, 320)) fun M14 =>
  (wrR M14 this 7 4 (some a13)).bind fun M15 =>
  nv (mN M15) fun a16 =>
  nv (nw M15 (9 + 7, 0)) fun M17 =>
  (F_X9_init a16 M17).bind fun M18 =>
  (wrR M18 this 7 5 (some a16)).bind fun M19 =>
  nv (mN M19) fun a20 =>
  nv (nw M19 (9 + 7, 0)) fun M21 =>
  (F_X9_init a20 M21).bind fun M22 =>
  (wrR M22 this 7 6 (some a20)).bind fun M23 =>
  (rdR M23 this 7 0).bind fun v24 =>
  v24.bind fun a25 =>
  (F_J7_fill_53178 a25 4 M23).bind fun M26 =>
  (rdR M26 this 7 2).bind fun v27 =>
  v27.bind fun a28 =>
  (F_J7_fill_53178 a28 50 M26).bind fun M29 =>
  some M29

def F_X9_become (this : Nat) (p1 : Nat) (M : Mm) : Option Mm :=
  (rdR M p1 9 0).bind fun v1 =>
  (rdR M this 9 0).bind fun v2 =>
  v2.bind fun a3 =>
  v1.bind fun a4 =>
  (F_X11_copyAll a4 a3 M).bind fun M5 =>
  (rdR M5 p1 9 1).bind fun v6 =>
  (rdR M5 this 9 1).bind fun v7 =>
  v7.bind fun a8 =>
  v6.bind fun a9 =>
  (F_X11_copyAll a9 a8 M5).bind fun M10 =>
  some M10

def F_X7_become (this : Nat) (p1 : Nat) (M : Mm) : Option Mm :=
  (rdR M p1 7 0).bind fun v1 =>
  (rdR M this 7 0).bind fun v2 =>
  v2.bind fun a3 =>
  v1.bind fun a4 =>
  (F_X11_copyAll a4 a3 M).bind fun M5 =>
  (rdR M5 p1 7 1).bind fun v6 =>
  (rdR M5 this 7 1).bind fun v7 =>
  v7.bind fun a8 =>
  v6.bind fun a9 =>
  (F_X11_copyAll a9 a8 M5).bind fun M10 =>
  (rdR M10 p1 7 2).bind fun v11 =>
  (rdR M10 this 7 2).bind fun v12 =>
  v12.bind fun a13 =>
  v11.bind fun a14 =>
  (F_X11_copyAll a14 a13 M10).bind fun M15 =>
  (rdR M15 p1 7 3).bind fun v16 =>
  (rdR M15 this 7 3).bind fun v17 =>
  v17.bind fun a18 =>
  v16.bind fun a19 =>
  (F_X11_copyAll a19 a18 M15).bind fun M20 =>
  (rdR M20 p1 7 4).bind fun v21 =>
  (rdR M20 this 7 4).bind fun v22 =>
  v22.bind fun a23 =>
  v21.bind fun a24 =>
  (F_X11_copyAll a24 a23 M20).bind fun M25 =>
  (rdR M25 this 7 5).bind fun v26 =>
  (rdR M25 p1 7 5).bind fun v27 =>
  v27.bind fun a28 =>
  v26.bind fun a29 =>
  (isO M25 a29 9).bind fun _ =>
  (F_X9_become a29 a28 M25).bind fun M30 =>
  (rdR M30 this 7 6).bind fun v32 =>
  (rdR M30 p1 7 6).bind fun v33 =>
  v33.bind fun a34 =>
  v32.bind fun a35 =>
  (isO M30 a35 9).bind fun _ =>
  (F_X9_become a35 a34 M30).bind fun M36 =>
  some M36

def F_X7_cellRow (this : Nat) (p1 : Int32) (M : Mm) : Option (Option Nat × Mm) :=
  if p1 = 0 then
    (rdR M this 7 0).bind fun v2 =>
    some (v2, M)
  else
  if p1 = 1 then
    (rdR M this 7 1).bind fun v4 =>
    some (v4, M)
  else
  (rdR M this 7 2).bind fun v5 =>
  some (v5, M)

def F_X7_placeRow (this : Nat) (p1 : Int32) (M : Mm) : Option (Option Nat × Mm) :=
  if p1 = 3 then
    (rdR M this 7 5).bind fun v2 =>
    v2.bind fun a3 =>
    (rdR M a3 9 0).bind fun v4 =>
    some (v4, M)
  else
  if p1 = 4 then
    (rdR M this 7 5).bind fun v6 =>
    v6.bind fun a7 =>
    (rdR M a7 9 1).bind fun v8 =>
    some (v8, M)
  else
  if p1 = 5 then
    (rdR M this 7 6).bind fun v10 =>
    v10.bind fun a11 =>
    (rdR M a11 9 0).bind fun v12 =>
    some (v12, M)
  else
  if p1 = 6 then
    (rdR M this 7 6).bind fun v14 =>
    v14.bind fun a15 =>
    (rdR M a15 9 1).bind fun v16 =>
    some (v16, M)
  else
  if p1 = 7 then
    (rdR M this 7 3).bind fun v18 =>
    some (v18, M)
  else
  (rdR M this 7 4).bind fun v19 =>
  some (v19, M)

def F_X11_changeAt (p1 : Nat) (p2 : Int32) (p3 : Int32) (M : Mm) : Option (Int32 × Mm) :=
  (ldI M p1 p2).bind fun v1 =>
  (stI M p1 p2 p3).bind fun M2 =>
  if v1 = p3 then
    some ((0 : Int32), M2)
  else
    some ((1 : Int32), M2)

def F_X7_change_L31 (k105 : Int32 → Mm → Option (Int32 × Mm)) (x0 : Nat) (x1 : Int32) (x2 : Int32) (x3 : Int32) (x4 : Int32) (x5 : Option Nat) (x7 : Int32) : Nat → Int32 → Int32 → Mm → Option (Int32 × Mm)
  | 0, _, _, _ => none
  | n9 + 1, x6, x8, M0 => (rmI x2 10).bind fun v10 =>
  if v10 < x8 then
    k105 x6 M0
  else
    (F_X11_cellOf x7 x8 M0).bind fun (v13, M12) =>
    if x3 = 2 then
      (rdR M12 x0 7 0).bind fun v25 =>
      v25.bind fun a27 =>
      (ldI M12 a27 v13).bind fun v26 =>
      if v26 = 0 then
        F_X7_change_L31 k105 x0 x1 x2 x3 x4 x5 x7 n9 x6 (x8 + 1) M12
      else
        x5.bind fun a29 =>
        (F_X11_changeAt a29 v13 x4 M12).bind fun (v31, M30) =>
        (rdR M30 x0 7 0).bind fun v32 =>
        v32.bind fun a34 =>
        (ldI M30 a34 v13).bind fun v33 =>
        if v33 = 0 then
          (rdR M30 x0 7 2).bind fun v36 =>
          v36.bind fun a38 =>
          (stI M30 a38 v13 0).bind fun M37 =>
          F_X7_change_L31 k105 x0 x1 x2 x3 x4 x5 x7 n9 (x6 + v31) (x8 + 1) M37
        else
          F_X7_change_L31 k105 x0 x1 x2 x3 x4 x5 x7 n9 (x6 + v31) (x8 + 1) M30
    else
      x5.bind fun a15 =>
      (F_X11_changeAt a15 v13 x4 M12).bind fun (v17, M16) =>
      (rdR M16 x0 7 0).bind fun v18 =>
      v18.bind fun a20 =>
      (ldI M16 a20 v13).bind fun v19 =>
      if v19 = 0 then
        (rdR M16 x0 7 2).bind fun v22 =>
        v22.bind fun a24 =>
        (stI M16 a24 v13 0).bind fun M23 =>
        F_X7_change_L31 k105 x0 x1 x2 x3 x4 x5 x7 n9 (x6 + v17) (x8 + 1) M23
      else
        F_X7_change_L31 k105 x0 x1 x2 x3 x4 x5 x7 n9 (x6 + v17) (x8 + 1) M16
def F_X7_change_L16  (x0 : Nat) (x1 : Int32) (x2 : Int32) (x3 : Int32) (x4 : Int32) (x5 : Option Nat) : Nat → Int32 → Int32 → Mm → Option (Int32 × Mm)
  | 0, _, _, _ => none
  | n5 + 1, x6, x7, M0 => (rmI x1 10).bind fun v6 =>
  if v6 < x7 then
    some (x6, M0)
  else
    (dvI x2 10).bind fun v8 =>
    F_X7_change_L31 (fun (y39 : Int32) (M40 : Mm) =>
      F_X7_change_L16 x0 x1 x2 x3 x4 x5 n5 y39 (x7 + 1) M40) x0 x1 x2 x3 x4 x5 x7 1000000 x6 v8 M0
def F_X7_change (this : Nat) (p1 : Int32) (p2 : Int32) (p3 : Int32) (p4 : Int32) (M : Mm) : Option (Int32 × Mm) :=
  (isO M this 7).bind fun _ =>
  (F_X7_cellRow this p3 M).bind fun (v3, M1) =>
  (dvI p1 10).bind fun v4 =>
  F_X7_change_L16  this p1 p2 p3 p4 v3 1000000 0 v4 M1

def F_X7_lessenDoubt_L9  (x0 : Nat) (x1 : Int32) : Nat → Int32 → Mm → Option Mm
  | 0, _, _ => none
  | n4 + 1, x2, M0 => if 5 ≤ x2 then
    some M0
  else
    (isO M0 x0 7).bind fun _ =>
    (F_X7_beside x0 x1 x2 M0).bind fun (v8, M6) =>
    if v8 < 0 then
      F_X7_lessenDoubt_L9 x0 x1 n4 (x2 + 1) M6
    else
      (rdR M6 x0 7 2).bind fun v10 =>
      v10.bind fun a12 =>
      (ldI M6 a12 v8).bind fun v11 =>
      (dvI v11 2).bind fun v13 =>
      (stI M6 a12 v8 v13).bind fun M14 =>
      F_X7_lessenDoubt_L9 x0 x1 n4 (x2 + 1) M14
def F_X7_lessenDoubt (this : Nat) (p1 : Int32) (M : Mm) : Option Mm :=
  (rdR M this 7 2).bind fun v1 =>
  v1.bind fun a3 =>
  (stI M a3 p1 0).bind fun M2 =>
  F_X7_lessenDoubt_L9  this p1 1000000 1 M2

def F_X7_growDoubt_L2  (x0 : Nat) : Nat → Int32 → Mm → Option Mm
  | 0, _, _ => none
  | n1 + 1, x1, M0 => if 80 ≤ x1 then
    some M0
  else
    (rdR M0 x0 7 0).bind fun v3 =>
    v3.bind fun a5 =>
    (ldI M0 a5 x1).bind fun v4 =>
    if v4 ≤ 0 then
      F_X7_growDoubt_L2 x0 n1 (x1 + 1) M0
    else
      (rdR M0 x0 7 2).bind fun v7 =>
      v7.bind fun a9 =>
      (ldI M0 a9 x1).bind fun v8 =>
      if 99 ≤ v8 then
        F_X7_growDoubt_L2 x0 n1 (x1 + 1) M0
      else
        (rdR M0 x0 7 2).bind fun v11 =>
        v11.bind fun a13 =>
        (ldI M0 a13 x1).bind fun v12 =>
        (stI M0 a13 x1 (v12 + 1)).bind fun M14 =>
        F_X7_growDoubt_L2 x0 n1 (x1 + 1) M14
def F_X7_growDoubt (this : Nat) (M : Mm) : Option Mm :=
  F_X7_growDoubt_L2  this 1000000 0 M

def F_X7_allDoubt_L4  (x0 : Nat) : Nat → Int32 → Int32 → Mm → Option (Int32 × Mm)
  | 0, _, _, _ => none
  | n1 + 1, x1, x2, M0 => if 80 ≤ x2 then
    some (x1, M0)
  else
    (rdR M0 x0 7 2).bind fun v3 =>
    v3.bind fun a5 =>
    (ldI M0 a5 x2).bind fun v4 =>
    F_X7_allDoubt_L4 x0 n1 (x1 + v4) (x2 + 1) M0
def F_X7_allDoubt (this : Nat) (M : Mm) : Option (Int32 × Mm) :=
  F_X7_allDoubt_L4  this 1000000 0 0 M

def F_X7_nudged (p1 : Int32) (p2 : Int32) (M : Mm) : Option (Int32 × Mm) :=
  if p2 ≤ 0 then
    if 0 ≤ p2 then
      some (p1, M)
    else
      some ((mxI (-2) (p1 - 1)), M)
  else
    some ((mnI 2 (p1 + 1)), M)

def F_X7_learn_L24 (k75 : Int32 → Int32 → Mm → Option Mm) (x0 : Nat) (x1 : Int32) (x5 : Int32) : Nat → Int32 → Int32 → Int32 → Mm → Option Mm
  | 0, _, _, _, _ => none
  | n4 + 1, x6, x7, x8, M0 => if x5 ≤ x8 then
    k75 x6 x7 M0
  else
    (rdR M0 x0 7 6).bind fun v6 =>
    v6.bind fun a7 =>
    (rdR M0 a7 9 0).bind fun v8 =>
    (F_X11_placeOf x1 x8 M0).bind fun (v10, M9) =>
    v8.bind fun a12 =>
    (ldI M9 a12 v10).bind fun v11 =>
    (rdR M9 x0 7 6).bind fun v13 =>
    v13.bind fun a14 =>
    (rdR M9 a14 9 1).bind fun v15 =>
    (F_X11_placeOf x1 x8 M9).bind fun (v17, M16) =>
    v15.bind fun a19 =>
    (ldI M16 a19 v17).bind fun v18 =>
    F_X7_learn_L24 k75 x0 x1 x5 n4 (x6 - v11) (x7 - v18) (x8 + 1) M16
def F_X7_learn_L78  (x0 : Nat) (x1 : Int32) (x5 : Int32) (x6 : Int32) (x7 : Int32) : Nat → Int32 → Mm → Option Mm
  | 0, _, _ => none
  | n23 + 1, x8, M0 => if x5 ≤ x8 then
    some M0
  else
    (F_X11_placeOf x1 x8 M0).bind fun (v26, M25) =>
    (rdR M25 x0 7 6).bind fun v27 =>
    v27.bind fun a28 =>
    (rdR M25 a28 9 0).bind fun v29 =>
    (rdR M25 x0 7 6).bind fun v30 =>
    v30.bind fun a31 =>
    (rdR M25 a31 9 0).bind fun v32 =>
    v32.bind fun a34 =>
    (ldI M25 a34 v26).bind fun v33 =>
    (F_X7_nudged v33 x6 M25).bind fun (v36, M35) =>
    v29.bind fun a38 =>
    (stI M35 a38 v26 v36).bind fun M37 =>
    (rdR M37 x0 7 6).bind fun v39 =>
    v39.bind fun a40 =>
    (rdR M37 a40 9 1).bind fun v41 =>
    (rdR M37 x0 7 6).bind fun v42 =>
    v42.bind fun a43 =>
    (rdR M37 a43 9 1).bind fun v44 =>
    v44.bind fun a46 =>
    (ldI M37 a46 v26).bind fun v45 =>
    (F_X7_nudged v45 x7 M37).bind fun (v48, M47) =>
    v41.bind fun a50 =>
    (stI M47 a50 v26 v48).bind fun M49 =>
    F_X7_learn_L78 x0 x1 x5 x6 x7 n23 (x8 + 1) M49
def F_X7_learn (this : Nat) (p1 : Int32) (p2 : Int32) (p3 : Int32) (p4 : Int32) (M : Mm) : Option Mm :=
  (rdR M this 7 0).bind fun v1 =>
  v1.bind fun a3 =>
  (ldI M a3 p1).bind fun v2 =>
  F_X7_learn_L24 (fun (y20 : Int32) (y21 : Int32) (M22 : Mm) =>
    F_X7_learn_L78  this p1 (mnI (p2 + 1) v2) y20 y21 1000000 0 M22) this p1 (mnI (p2 + 1) v2) 1000000 p3 p4 0 M

def F_X7_isWhole_L39 (k132 : Int32 → Mm → Option (Int32 × Mm)) (x0 : Nat) (x1 : Int32) (x2 : Int32) (x4 : Int32) : Nat → Int32 → Int32 → Mm → Option (Int32 × Mm)
  | 0, _, _, _ => none
  | n13 + 1, x5, x6, M0 => if 5 ≤ x6 then
    k132 x5 M0
  else
    (isO M0 x0 7).bind fun _ =>
    (F_X7_beside x0 x1 x6 M0).bind fun (v17, M15) =>
    if v17 < 0 then
      F_X7_isWhole_L39 k132 x0 x1 x2 x4 n13 x5 (x6 + 1) M15
    else
      (isO M15 x0 7).bind fun _ =>
      (F_X7_has x0 v17 x2 M15).bind fun (v21, M19) =>
      if v21 = 0 then
        F_X7_isWhole_L39 k132 x0 x1 x2 x4 n13 x5 (x6 + 1) M19
      else
        (F_X11_placeOf v17 x2 M19).bind fun (v24, M23) =>
        (rdR M23 x0 7 6).bind fun v25 =>
        v25.bind fun a26 =>
        (rdR M23 a26 9 0).bind fun v27 =>
        v27.bind fun a29 =>
        (ldI M23 a29 v24).bind fun v28 =>
        (ldS 2 x6).bind fun v30 =>
        (rdR M23 x0 7 6).bind fun v31 =>
        v31.bind fun a32 =>
        (rdR M23 a32 9 1).bind fun v33 =>
        v33.bind fun a35 =>
        (ldI M23 a35 v24).bind fun v34 =>
        (ldS 3 x6).bind fun v36 =>
        F_X7_isWhole_L39 k132 x0 x1 x2 x4 n13 (x5 + (mxI 0 (-((v28 * v30) + (v34 * v36))))) (x6 + 1) M23
def F_X7_isWhole (this : Nat) (p1 : Int32) (p2 : Int32) (M : Mm) : Option (Int32 × Mm) :=
  (F_X11_placeOf p1 p2 M).bind fun (v2, M1) =>
  (rdR M1 this 7 6).bind fun v3 =>
  v3.bind fun a4 =>
  (rdR M1 a4 9 0).bind fun v5 =>
  v5.bind fun a7 =>
  (ldI M1 a7 v2).bind fun v6 =>
  (rdR M1 this 7 6).bind fun v8 =>
  v8.bind fun a9 =>
  (rdR M1 a9 9 1).bind fun v10 =>
  v10.bind fun a12 =>
  (ldI M1 a12 v2).bind fun v11 =>
  F_X7_isWhole_L39 (fun (y37 : Int32) (M38 : Mm) =>
    if y37 = ((abI v6) + (abI v11)) then
      some ((1 : Int32), M38)
    else
      some ((0 : Int32), M38)) this p1 p2 ((abI v6) + (abI v11)) 1000000 0 1 M1

def F_X8_init (this : Nat) (M : Mm) : Option Mm :=
  (wrI M this 8 0 0).bind fun M1 =>
  (wrI M1 this 8 1 0).bind fun M2 =>
  (wrI M2 this 8 2 0).bind fun M3 =>
  nv (mN M3) fun a4 =>
  nv (nw M3 (1, 80)) fun M5 =>
  (wrR M5 this 8 3 (some a4)).bind fun M6 =>
  (wrI M6 this 8 4 0).bind fun M7 =>
  (wrI M7 this 8 5 0).bind fun M8 =>
  (wrI M8 this 8 6 0).bind fun M9 =>
  (wrI M9 this 8 7 0).bind fun M10 =>
  some M10

def F_X8_holdGlider (this : Nat) (p1 : Nat) (M : Mm) : Option Mm :=
  (wrI M this 8 0 1).bind fun M1 =>
  (rdI M1 p1 0 0).bind fun v2 =>
  (wrI M1 this 8 4 v2).bind fun M3 =>
  (rdI M3 p1 0 1).bind fun v4 =>
  (wrI M3 this 8 5 v4).bind fun M5 =>
  (rdI M5 p1 0 2).bind fun v6 =>
  (wrI M5 this 8 6 v6).bind fun M7 =>
  (rdI M7 p1 0 3).bind fun v8 =>
  (wrI M7 this 8 7 v8).bind fun M9 =>
  some M9

def F_X8_holdRow (this : Nat) (p1 : Int32) (p2 : Int32) (M : Mm) : Option Mm :=
  (wrI M this 8 0 2).bind fun M1 =>
  (wrI M1 this 8 1 p1).bind fun M2 =>
  (wrI M2 this 8 2 p2).bind fun M3 =>
  (rdR M3 this 8 3).bind fun v4 =>
  v4.bind fun a5 =>
  (F_J7_fill_53178 a5 0 M3).bind fun M6 =>
  some M6

def F_X8_refusesAsText (this : Nat) (M : Mm) : Option (Int32 × Mm) :=
  (rdI M this 8 0).bind fun v1 =>
  if v1 = 0 then
    some (((-11) : Int32), M)
  else
    (rdI M this 8 0).bind fun v3 =>
    if v3 = 2 then
      (rdI M this 8 1).bind fun v5 =>
      if v5 = 0 then
        some ((0 : Int32), M)
      else
        some (((-12) : Int32), M)
    else
      some (((-12) : Int32), M)

def F_X10_init (this : Nat) (M : Mm) : Option Mm :=
  nv (mN M) fun a1 =>
  nv (nw M (7 + 7, 0)) fun M2 =>
  (F_X7_init a1 M2).bind fun M3 =>
  (wrR M3 this 10 0 (some a1)).bind fun M4 =>
  nv (mN M4) fun a5 =>
  nv (nw M4 (3, 8)) fun M6 =>
  (wrR M6 this 10 1 (some a5)).bind fun M7 =>
  (wrI M7 this 10 2 0).bind fun M8 =>
  (wrI M8 this 10 3 0).bind fun M9 =>
  (wrI M9 this 10 4 0).bind fun M10 =>
  nv (mN M10) fun a11 =>
  nv (nw M10 (1, 401)) fun M12 =>
  (wrR M12 this 10 5 (some a11)).bind fun M13 =>
  nv (mN M13) fun a14 =>
  nv (nw M13 (4, 10)) fun M15 =>
  (wrR M15 this 10 6 (some a14)).bind fun M16 =>
  (wrI M16 this 10 7 0).bind fun M17 =>
  nv (mN M17) fun a18 =>
  nv (nw M17 (1 + 7, 0)) fun M19 =>
  (F_X1_init a18 M19).bind fun M20 =>
  (wrR M20 this 10 8 (some a18)).bind fun M21 =>
  nv (mN M21) fun a22 =>
  nv (nw M21 (6 + 7, 0)) fun M23 =>
  (F_X6_init a22 M23).bind fun M24 =>
  (wrR M24 this 10 9 (some a22)).bind fun M25 =>
  nv (mN M25) fun a26 =>
  nv (nw M25 (4 + 7, 0)) fun M27 =>
  (F_X4_init a26 M27).bind fun M28 =>
  (wrR M28 this 10 10 (some a26)).bind fun M29 =>
  some M29

def F_X10_roomFor (this : Nat) (p1 : Int32) (M : Mm) : Option (Option Nat × Mm) :=
  (rdR M this 10 1).bind fun v1 =>
  v1.bind fun a3 =>
  (ldR M a3 3 p1).bind fun v2 =>
  oe v2 (
    (rdR M this 10 1).bind fun v5 =>
    nv (mN M) fun a6 =>
    nv (nw M (0 + 7, 0)) fun M7 =>
    (F_X0_init a6 M7).bind fun M8 =>
    v5.bind fun a10 =>
    (stR M8 a10 3 0 p1 a6).bind fun M9 =>
    (rdR M9 this 10 1).bind fun v11 =>
    v11.bind fun a13 =>
    (ldR M9 a13 3 p1).bind fun v12 =>
    some (v12, M9)) fun a4 =>
    (rdR M this 10 1).bind fun v14 =>
    v14.bind fun a16 =>
    (ldR M a16 3 p1).bind fun v15 =>
    some (v15, M)

def F_X10_become_L21 (k49 : Mm → Option Mm) (x0 : Nat) (x1 : Nat) : Nat → Int32 → Mm → Option Mm
  | 0, _, _ => none
  | n9 + 1, x2, M0 => (rdI M0 x0 10 2).bind fun v10 =>
  if v10 ≤ x2 then
    k49  M0
  else
    (isO M0 x0 10).bind fun _ =>
    (F_X10_roomFor x0 x2 M0).bind fun (v14, M12) =>
    (rdR M12 x1 10 1).bind fun v15 =>
    v15.bind fun a17 =>
    (ldR M12 a17 3 x2).bind fun v16 =>
    v16.bind fun a18 =>
    v14.bind fun a19 =>
    (isO M12 a19 0).bind fun _ =>
    (F_X0_become a19 a18 M12).bind fun M20 =>
    F_X10_become_L21 k49 x0 x1 n9 (x2 + 1) M20
def F_X10_become_L86  (x0 : Nat) (x1 : Nat) : Nat → Int32 → Mm → Option Mm
  | 0, _, _ => none
  | n34 + 1, x2, M0 => (rdI M0 x0 10 7).bind fun v35 =>
  if v35 ≤ x2 then
    (rdR M0 x0 10 8).bind fun v37 =>
    (rdR M0 x1 10 8).bind fun v38 =>
    v38.bind fun a39 =>
    v37.bind fun a40 =>
    (isO M0 a40 1).bind fun _ =>
    (F_X1_become a40 a39 M0).bind fun M41 =>
    (rdR M41 x0 10 9).bind fun v43 =>
    (rdR M41 x1 10 9).bind fun v44 =>
    v44.bind fun a45 =>
    v43.bind fun a46 =>
    (isO M41 a46 6).bind fun _ =>
    (F_X6_become a46 a45 M41).bind fun M47 =>
    some M47
  else
    (rdR M0 x0 10 6).bind fun v49 =>
    (rdR M0 x1 10 6).bind fun v50 =>
    v50.bind fun a52 =>
    (ldR M0 a52 4 x2).bind fun v51 =>
    v49.bind fun a54 =>
    v51.bind fun a55 =>
    (stR M0 a54 4 2 x2 a55).bind fun M53 =>
    F_X10_become_L86 x0 x1 n34 (x2 + 1) M53
def F_X10_become (this : Nat) (p1 : Nat) (M : Mm) : Option Mm :=
  (rdR M this 10 0).bind fun v1 =>
  (rdR M p1 10 0).bind fun v2 =>
  v2.bind fun a3 =>
  v1.bind fun a4 =>
  (isO M a4 7).bind fun _ =>
  (F_X7_become a4 a3 M).bind fun M5 =>
  (rdI M5 p1 10 2).bind fun v7 =>
  (wrI M5 this 10 2 v7).bind fun M8 =>
  F_X10_become_L21 (fun  (M22 : Mm) =>
    (rdI M22 p1 10 3).bind fun v23 =>
    (wrI M22 this 10 3 v23).bind fun M24 =>
    (rdI M24 p1 10 4).bind fun v25 =>
    (wrI M24 this 10 4 v25).bind fun M26 =>
    (rdR M26 p1 10 5).bind fun v27 =>
    (rdR M26 this 10 5).bind fun v28 =>
    v28.bind fun a29 =>
    v27.bind fun a30 =>
    (F_X11_copyAll a30 a29 M26).bind fun M31 =>
    (rdI M31 p1 10 7).bind fun v32 =>
    (wrI M31 this 10 7 v32).bind fun M33 =>
    F_X10_become_L86  this p1 1000000 0 M33) this p1 9 0 M8

def F_X10_addGlider (this : Nat) (p1 : Int32) (p2 : Int32) (p3 : Int32) (M : Mm) : Option (Int32 × Mm) :=
  (rdI M this 10 2).bind fun v1 =>
  (isO M this 10).bind fun _ =>
  (F_X10_roomFor this v1 M).bind fun (v4, M2) =>
  v4.bind fun a5 =>
  (isO M2 a5 0).bind fun _ =>
  (F_X0_begin a5 p1 p2 p3 M2).bind fun M6 =>
  (rdI M6 this 10 2).bind fun v8 =>
  (wrI M6 this 10 2 (v8 + 1)).bind fun M9 =>
  some (v8, M9)

def F_X10_gliderAt (this : Nat) (p1 : Int32) (M : Mm) : Option (Option Nat × Mm) :=
  if p1 < 0 then
    some (none, M)
  else
    (rdI M this 10 2).bind fun v2 =>
    if v2 ≤ p1 then
      some (none, M)
    else
      (rdR M this 10 1).bind fun v4 =>
      v4.bind fun a6 =>
      (ldR M a6 3 p1).bind fun v5 =>
      some (v5, M)

def F_X10_orderOf (this : Nat) (p1 : Nat) (M : Mm) : Option (Option Nat × Mm) :=
  (rdI M p1 0 6).bind fun v1 =>
  if v1 < 0 then
    some (none, M)
  else
    (rdI M p1 0 6).bind fun v3 =>
    (rdI M this 10 7).bind fun v4 =>
    if v4 ≤ v3 then
      some (none, M)
    else
      (rdR M this 10 6).bind fun v6 =>
      (rdI M p1 0 6).bind fun v7 =>
      v6.bind fun a9 =>
      (ldR M a9 4 v7).bind fun v8 =>
      some (v8, M)

def F_X10_isAnyUpWithin_L2  (x0 : Nat) (x1 : Int32) (x2 : Int32) : Nat → Int32 → Mm → Option (Int32 × Mm)
  | 0, _, _ => none
  | n1 + 1, x3, M0 => (rdI M0 x0 10 2).bind fun v2 =>
  if v2 ≤ x3 then
    some ((0 : Int32), M0)
  else
    (rdR M0 x0 10 1).bind fun v4 =>
    v4.bind fun a6 =>
    (ldR M0 a6 3 x3).bind fun v5 =>
    v5.bind fun a7 =>
    (rdI M0 a7 0 1).bind fun v8 =>
    (F_X11_xOf v8 M0).bind fun (v10, M9) =>
    (rdR M9 x0 10 1).bind fun v11 =>
    v11.bind fun a13 =>
    (ldR M9 a13 3 x3).bind fun v12 =>
    v12.bind fun a14 =>
    (rdI M9 a14 0 1).bind fun v15 =>
    (F_X11_yOf v15 M9).bind fun (v17, M16) =>
    (rdR M16 x0 10 1).bind fun v18 =>
    v18.bind fun a20 =>
    (ldR M16 a20 3 x3).bind fun v19 =>
    v19.bind fun a21 =>
    (rdI M16 a21 0 3).bind fun v22 =>
    if v22 = 0 then
      (dvI x1 10).bind fun v24 =>
      if v10 < v24 then
        F_X10_isAnyUpWithin_L2 x0 x1 x2 n1 (x3 + 1) M16
      else
        (rmI x1 10).bind fun v26 =>
        if v26 < v10 then
          F_X10_isAnyUpWithin_L2 x0 x1 x2 n1 (x3 + 1) M16
        else
          (dvI x2 10).bind fun v28 =>
          if v17 < v28 then
            F_X10_isAnyUpWithin_L2 x0 x1 x2 n1 (x3 + 1) M16
          else
            (rmI x2 10).bind fun v30 =>
            if v30 < v17 then
              F_X10_isAnyUpWithin_L2 x0 x1 x2 n1 (x3 + 1) M16
            else
              some ((1 : Int32), M16)
    else
      F_X10_isAnyUpWithin_L2 x0 x1 x2 n1 (x3 + 1) M16
def F_X10_isAnyUpWithin (this : Nat) (p1 : Int32) (p2 : Int32) (M : Mm) : Option (Int32 × Mm) :=
  F_X10_isAnyUpWithin_L2  this p1 p2 1000000 0 M

def F_X10_howMany_L4  (x0 : Nat) (x1 : Int32) : Nat → Int32 → Int32 → Mm → Option (Int32 × Mm)
  | 0, _, _, _ => none
  | n1 + 1, x2, x3, M0 => (rdI M0 x0 10 2).bind fun v2 =>
  if v2 ≤ x3 then
    some (x2, M0)
  else
    (rdR M0 x0 10 1).bind fun v4 =>
    v4.bind fun a6 =>
    (ldR M0 a6 3 x3).bind fun v5 =>
    v5.bind fun a7 =>
    (rdI M0 a7 0 3).bind fun v8 =>
    if v8 = x1 then
      F_X10_howMany_L4 x0 x1 n1 (x2 + 1) (x3 + 1) M0
    else
      F_X10_howMany_L4 x0 x1 n1 x2 (x3 + 1) M0
def F_X10_howMany (this : Nat) (p1 : Int32) (M : Mm) : Option (Int32 × Mm) :=
  F_X10_howMany_L4  this p1 1000000 0 0 M

def F_X10_allPower_L4  (x0 : Nat) : Nat → Int32 → Int32 → Mm → Option (Int32 × Mm)
  | 0, _, _, _ => none
  | n1 + 1, x1, x2, M0 => (rdI M0 x0 10 2).bind fun v2 =>
  if v2 ≤ x2 then
    some (x1, M0)
  else
    (rdR M0 x0 10 1).bind fun v4 =>
    v4.bind fun a6 =>
    (ldR M0 a6 3 x2).bind fun v5 =>
    v5.bind fun a7 =>
    (rdI M0 a7 0 2).bind fun v8 =>
    F_X10_allPower_L4 x0 n1 (x1 + v8) (x2 + 1) M0
def F_X10_allPower (this : Nat) (M : Mm) : Option (Int32 × Mm) :=
  F_X10_allPower_L4  this 1000000 0 0 M

def F_X10_hearAll_L16  (x0 : Nat) : Nat → Int32 → Mm → Option Mm
  | 0, _, _ => none
  | n6 + 1, x1, M0 => (rdI M0 x0 10 2).bind fun v7 =>
  if v7 ≤ x1 then
    some M0
  else
    (rdR M0 x0 10 1).bind fun v9 =>
    v9.bind fun a11 =>
    (ldR M0 a11 3 x1).bind fun v10 =>
    v10.bind fun a12 =>
    (rdI M0 a12 0 3).bind fun v13 =>
    if v13 = 0 then
      (rdR M0 x0 10 8).bind fun v15 =>
      (rdI M0 x0 10 3).bind fun v16 =>
      (rdI M0 a12 0 6).bind fun v17 =>
      v15.bind fun a18 =>
      (isO M0 a18 1).bind fun _ =>
      (F_X1_hearBy a18 x1 v16 v17 M0).bind fun (v21, M19) =>
      (wrI M19 a12 0 6 v21).bind fun M22 =>
      (rdI M22 x0 10 3).bind fun v23 =>
      (wrI M22 a12 0 7 v23).bind fun M24 =>
      (rdR M24 a12 0 11).bind fun v25 =>
      (rdI M24 x0 10 3).bind fun v26 =>
      (rdI M24 a12 0 1).bind fun v27 =>
      v25.bind fun a29 =>
      (stI M24 a29 v26 v27).bind fun M28 =>
      F_X10_hearAll_L16 x0 n6 (x1 + 1) M28
    else
      F_X10_hearAll_L16 x0 n6 (x1 + 1) M0
def F_X10_hearAll (this : Nat) (M : Mm) : Option Mm :=
  (rdR M this 10 5).bind fun v1 =>
  (rdI M this 10 3).bind fun v2 =>
  v1.bind fun a4 =>
  (ldI M a4 v2).bind fun v3 =>
  if v3 = 1 then
    some M
  else
    F_X10_hearAll_L16  this 1000000 0 M

def F_X10_sensed (this : Nat) (p1 : Nat) (p2 : Int32) (M : Mm) : Option (Int32 × Mm) :=
  if p2 = 102 then
    (rdI M p1 0 5).bind fun v2 =>
    some (v2, M)
  else
  if p2 = 104 then
    (rdI M p1 0 7).bind fun v4 =>
    if v4 = (-4) then
      (rdI M this 10 3).bind fun v8 =>
      some (v8, M)
    else
      (rdI M this 10 3).bind fun v6 =>
      (rdI M p1 0 7).bind fun v7 =>
      some ((v6 - v7), M)
  else
  if p2 = 108 then
    (rdI M p1 0 4).bind fun v10 =>
    if v10 = 0 then
      some ((0 : Int32), M)
    else
      some ((1 : Int32), M)
  else
  if p2 = 112 then
    (rdI M p1 0 2).bind fun v13 =>
    some (v13, M)
  else
  if p2 = 115 then
    (rdI M p1 0 9).bind fun v15 =>
    some (v15, M)
  else
  if p2 = 116 then
    (rdI M this 10 3).bind fun v17 =>
    (rmI v17 10).bind fun v18 =>
    some (v18, M)
  else
  if p2 = 120 then
    (rdI M p1 0 1).bind fun v20 =>
    (F_X11_xOf v20 M).bind fun (v22, M21) =>
    some (v22, M21)
  else
  if p2 = 121 then
    (rdI M p1 0 1).bind fun v24 =>
    (F_X11_yOf v24 M).bind fun (v26, M25) =>
    some (v26, M25)
  else
  (rdR M this 10 0).bind fun v27 =>
  v27.bind fun a28 =>
  (rdR M a28 7 0).bind fun v29 =>
  (rdI M p1 0 1).bind fun v30 =>
  v29.bind fun a32 =>
  (ldI M a32 v30).bind fun v31 =>
  some (v31, M)

def F_X10_ruleFor_L17 (k65 : Int32 → Int32 → Mm → Option (Int32 × Mm)) (x0 : Nat) (x1 : Nat) (x2 : Nat) (x4 : Int32) : Nat → Int32 → Int32 → Mm → Option (Int32 × Mm)
  | 0, _, _, _ => none
  | n4 + 1, x3, x5, M0 => (rdR M0 x2 2 2).bind fun v5 =>
  v5.bind fun a7 =>
  (ldI M0 a7 x4).bind fun v6 =>
  if v6 ≤ x3 then
    k65 x3 x5 M0
  else
    if x5 = 0 then
      F_X10_ruleFor_L17 k65 x0 x1 x2 x4 n4 (x3 + 1) 0 M0
    else
      (rdR M0 x2 2 6).bind fun v10 =>
      v10.bind fun a12 =>
      (ldI M0 a12 x3).bind fun v11 =>
      (isO M0 x0 10).bind fun _ =>
      (F_X10_sensed x0 x1 v11 M0).bind fun (v15, M13) =>
      (isO M13 x2 2).bind fun _ =>
      (F_X2_holds x2 x3 v15 M13).bind fun (v18, M16) =>
      nv (α := Int32) (if v18 = 0 then 0 else 1) fun v19 =>
      F_X10_ruleFor_L17 k65 x0 x1 x2 x4 n4 (x3 + 1) v19 M16
def F_X10_ruleFor_L5  (x0 : Nat) (x1 : Nat) (x2 : Nat) : Nat → Int32 → Int32 → Mm → Option (Int32 × Mm)
  | 0, _, _, _ => none
  | n1 + 1, x3, x4, M0 => (rdI M0 x2 2 0).bind fun v2 =>
  if v2 ≤ x4 then
    some (((-4) : Int32), M0)
  else
    F_X10_ruleFor_L17 (fun (y22 : Int32) (y23 : Int32) (M24 : Mm) =>
      if y23 = 0 then
        F_X10_ruleFor_L5 x0 x1 x2 n1 y22 (x4 + 1) M24
      else
        some (x4, M24)) x0 x1 x2 x4 1000000 x3 1 M0
def F_X10_ruleFor (this : Nat) (p1 : Nat) (p2 : Nat) (M : Mm) : Option (Int32 × Mm) :=
  F_X10_ruleFor_L5  this p1 p2 1000000 0 0 M

def F_X10_cut (p1 : Int32) (p2 : Int32) (M : Mm) : Option (Int32 × Mm) :=
  some ((mxI (-p2) (mnI p2 p1)), M)

def F_X10_numberOf_L2  (x0 : Nat) (x1 : Nat) : Nat → Int32 → Mm → Option (Int32 × Mm)
  | 0, _, _ => none
  | n1 + 1, x2, M0 => (rdI M0 x0 10 2).bind fun v2 =>
  if v2 ≤ x2 then
    some (((-4) : Int32), M0)
  else
    (rdR M0 x0 10 1).bind fun v4 =>
    v4.bind fun a6 =>
    (ldR M0 a6 3 x2).bind fun v5 =>
    if v5 = (some x1) then
      some (x2, M0)
    else
      F_X10_numberOf_L2 x0 x1 n1 (x2 + 1) M0
def F_X10_numberOf (this : Nat) (p1 : Nat) (M : Mm) : Option (Int32 × Mm) :=
  F_X10_numberOf_L2  this p1 1000000 0 M

def F_X10_measure (this : Nat) (p1 : Nat) (p2 : Int32) (M : Mm) : Option Mm :=
  (rdR M this 10 0).bind fun v1 =>
  v1.bind fun a2 =>
  (rdR M a2 7 0).bind fun v3 =>
  (rdI M p1 0 1).bind fun v4 =>
  v3.bind fun a6 =>
  (ldI M a6 v4).bind fun v5 =>
  (rdR M this 10 0).bind fun v7 =>
  v7.bind fun a8 =>
  (rdR M a8 7 3).bind fun v9 =>
  (rdI M p1 0 1).bind fun v10 =>
  (F_X11_placeOf v10 (mxI 0 (mnI p2 (v5 - 1))) M).bind fun (v12, M11) =>
  v9.bind fun a14 =>
  (ldI M11 a14 v12).bind fun v13 =>
  (rdI M11 p1 0 5).bind fun v15 =>
  (wrI M11 p1 0 9 (v13 + (3 * v15))).bind fun M16 =>
  (wrZ M16 p1 0 10 1).bind fun M17 =>
  (rdR M17 this 10 9).bind fun v18 =>
  (isO M17 this 10).bind fun _ =>
  (F_X10_numberOf this p1 M17).bind fun (v21, M19) =>
  (rdI M19 this 10 3).bind fun v22 =>
  v18.bind fun a23 =>
  (isO M19 a23 6).bind fun _ =>
  (F_X6_addReading a23 v21 p1 v22 (mxI 0 (mnI p2 (v5 - 1))) M19).bind fun M24 =>
  (rdR M24 this 10 0).bind fun v26 =>
  (rdI M24 p1 0 1).bind fun v27 =>
  v26.bind fun a28 =>
  (isO M24 a28 7).bind fun _ =>
  (F_X7_lessenDoubt a28 v27 M24).bind fun M29 =>
  (rdI M29 p1 0 5).bind fun v31 =>
  (wrI M29 p1 0 5 (v31 + 1)).bind fun M32 =>
  some M32

def F_X10_descend (this : Nat) (p1 : Nat) (p2 : Int32) (p3 : Int32) (p4 : Int32) (M : Mm) : Option (Int32 × Mm) :=
  (rdI M p1 0 1).bind fun v1 =>
  (rdI M p1 0 2).bind fun v2 =>
  (isO M p1 0).bind fun _ =>
  (F_X0_costTo p1 p2 M).bind fun (v5, M3) =>
  (wrI M3 p1 0 2 (v2 - v5)).bind fun M6 =>
  (rdI M6 p1 0 8).bind fun v7 =>
  (wrI M6 p1 0 8 (v7 + 1)).bind fun M8 =>
  (rdR M8 this 10 10).bind fun v9 =>
  (rdR M8 this 10 0).bind fun v10 =>
  (rdR M8 this 10 0).bind fun v11 =>
  v11.bind fun a12 =>
  (rdR M8 a12 7 5).bind fun v13 =>
  v13.bind fun a14 =>
  v10.bind fun a15 =>
  v9.bind fun a16 =>
  (isO M8 a16 4).bind fun _ =>
  (F_X4_sink a16 a15 a14 v1 p2 1 M8).bind fun M17 =>
  (rdR M17 this 10 10).bind fun v19 =>
  v19.bind fun a20 =>
  (rdI M17 a20 4 0).bind fun v21 =>
  (wrI M17 p1 0 1 v21).bind fun M22 =>
  (rdR M22 this 10 10).bind fun v23 =>
  v23.bind fun a24 =>
  (rdI M22 a24 4 2).bind fun v25 =>
  if v25 = 0 then
    (rdR M22 this 10 0).bind fun v27 =>
    (rdR M22 this 10 10).bind fun v28 =>
    v28.bind fun a29 =>
    (rdI M22 a29 4 0).bind fun v30 =>
    v27.bind fun a31 =>
    (isO M22 a31 7).bind fun _ =>
    (F_X7_walked a31 v30 p3 p4 M22).bind fun (v34, M32) =>
    (wrI M32 p1 0 1 v34).bind fun M35 =>
    (rdR M35 this 10 10).bind fun v36 =>
    v36.bind fun a37 =>
    (rdI M35 a37 4 1).bind fun v38 =>
    (isO M35 this 10).bind fun _ =>
    (F_X10_measure this p1 v38 M35).bind fun M39 =>
    (rdR M39 this 10 0).bind fun v41 =>
    v41.bind fun a42 =>
    (rdR M39 a42 7 1).bind fun v43 =>
    (rdI M39 p1 0 1).bind fun v44 =>
    v43.bind fun a46 =>
    (ldI M39 a46 v44).bind fun v45 =>
    jp (fun  (M48 : Mm) =>
    (rdR M48 this 10 0).bind fun v49 =>
    v49.bind fun a50 =>
    (isO M48 a50 7).bind fun _ =>
    (F_X7_walked a50 v1 p3 p4 M48).bind fun (v53, M51) =>
    (rdR M51 this 10 0).bind fun v54 =>
    (rdR M51 this 10 10).bind fun v55 =>
    v55.bind fun a56 =>
    (rdI M51 a56 4 1).bind fun v57 =>
    (rdI M51 p1 0 1).bind fun v58 =>
    (F_X11_xOf v58 M51).bind fun (v60, M59) =>
    (F_X11_xOf v53 M59).bind fun (v62, M61) =>
    (rdI M61 p1 0 1).bind fun v63 =>
    (F_X11_yOf v63 M61).bind fun (v65, M64) =>
    (F_X11_yOf v53 M64).bind fun (v67, M66) =>
    v54.bind fun a68 =>
    (isO M66 a68 7).bind fun _ =>
    (F_X7_learn a68 v1 v57 (v60 - v62) (v65 - v67) M66).bind fun M69 =>
    (rdI M69 p1 0 1).bind fun v71 =>
    some (v71, M69)) fun k47 =>
    if v45 = 1 then
      (rdI M39 p1 0 2).bind fun v74 =>
      (wrI M39 p1 0 2 (mxI 0 (v74 - 5))).bind fun M75 =>
      k47  M75
    else
      k47  M39
  else
    (wrI M22 p1 0 3 2).bind fun M76 =>
    some (((-5) : Int32), M76)

def F_X10_obey (this : Nat) (p1 : Nat) (p2 : Nat) (M : Mm) : Option (Int32 × Mm) :=
  (isO M this 10).bind fun _ =>
  (F_X10_ruleFor this p1 p2 M).bind fun (v3, M1) =>
  if v3 < 0 then
    some ((0 : Int32), M1)
  else
    (rdR M1 p2 2 3).bind fun v5 =>
    v5.bind fun a7 =>
    (ldI M1 a7 v3).bind fun v6 =>
    if v6 = 0 then
      some ((0 : Int32), M1)
    else
      (rdR M1 p2 2 5).bind fun v9 =>
      v9.bind fun a11 =>
      (ldI M1 a11 v3).bind fun v10 =>
      (isO M1 p1 0).bind fun _ =>
      (F_X0_deepest p1 M1).bind fun (v14, M12) =>
      (rdI M12 p1 0 2).bind fun v15 =>
      (isO M12 p1 0).bind fun _ =>
      (F_X0_costTo p1 (mnI v10 v14) M12).bind fun (v18, M16) =>
      if v18 ≤ v15 then
        (rdR M16 p2 2 3).bind fun v20 =>
        v20.bind fun a22 =>
        (ldI M16 a22 v3).bind fun v21 =>
        jp (fun (x24 : Int32) (x25 : Int32) (M26 : Mm) =>
        (isO M26 this 10).bind fun _ =>
        (F_X10_descend this p1 (mnI v10 v14) x24 x25 M26).bind fun (v29, M27) =>
        some ((1 : Int32), M27)) fun k23 =>
        if v21 = 2 then
          (rdR M16 p2 2 4).bind fun v32 =>
          v32.bind fun a34 =>
          (ldI M16 a34 v3).bind fun v33 =>
          (F_X11_xOf v33 M16).bind fun (v36, M35) =>
          (rdI M35 p1 0 1).bind fun v37 =>
          (F_X11_xOf v37 M35).bind fun (v39, M38) =>
          (isO M38 p1 0).bind fun _ =>
          (F_X0_reach p1 M38).bind fun (v42, M40) =>
          (F_X10_cut (v36 - v39) v42 M40).bind fun (v44, M43) =>
          (rdR M43 p2 2 4).bind fun v45 =>
          v45.bind fun a47 =>
          (ldI M43 a47 v3).bind fun v46 =>
          (F_X11_yOf v46 M43).bind fun (v49, M48) =>
          (rdI M48 p1 0 1).bind fun v50 =>
          (F_X11_yOf v50 M48).bind fun (v52, M51) =>
          (isO M51 p1 0).bind fun _ =>
          (F_X0_reach p1 M51).bind fun (v55, M53) =>
          (F_X10_cut (v49 - v52) (v55 - (abI v44)) M53).bind fun (v57, M56) =>
          k23 v44 v57 M56
        else
          k23 0 0 M16
      else
        some ((0 : Int32), M16)

def F_X10_obeyAll_L4  (x0 : Nat) : Nat → Int32 → Int32 → Mm → Option (Int32 × Mm)
  | 0, _, _, _ => none
  | n1 + 1, x1, x2, M0 => (rdI M0 x0 10 2).bind fun v2 =>
  if v2 ≤ x2 then
    some (x1, M0)
  else
    (rdR M0 x0 10 1).bind fun v4 =>
    v4.bind fun a6 =>
    (ldR M0 a6 3 x2).bind fun v5 =>
    v5.bind fun a7 =>
    (isO M0 x0 10).bind fun _ =>
    (F_X10_orderOf x0 a7 M0).bind fun (v10, M8) =>
    (rdR M8 x0 10 1).bind fun v11 =>
    v11.bind fun a13 =>
    (ldR M8 a13 3 x2).bind fun v12 =>
    v12.bind fun a14 =>
    (rdI M8 a14 0 3).bind fun v15 =>
    if v15 = 0 then
      oe v10 (
        F_X10_obeyAll_L4 x0 n1 x1 (x2 + 1) M8) fun a17 =>
        (rdR M8 x0 10 1).bind fun v18 =>
        v18.bind fun a20 =>
        (ldR M8 a20 3 x2).bind fun v19 =>
        v19.bind fun a21 =>
        (isO M8 x0 10).bind fun _ =>
        (F_X10_obey x0 a21 a17 M8).bind fun (v24, M22) =>
        if v24 = 0 then
          F_X10_obeyAll_L4 x0 n1 x1 (x2 + 1) M22
        else
          F_X10_obeyAll_L4 x0 n1 (x1 + 1) (x2 + 1) M22
    else
      F_X10_obeyAll_L4 x0 n1 x1 (x2 + 1) M8
def F_X10_obeyAll (this : Nat) (M : Mm) : Option (Int32 × Mm) :=
  F_X10_obeyAll_L4  this 1000000 0 0 M

def F_X11_init_L57 (k82 : Mm → Option Mm) (x0 : Nat) : Nat → Int32 → Mm → Option Mm
  | 0, _, _ => none
  | n19 + 1, x1, M0 => if 8 ≤ x1 then
    k82  M0
  else
    (rdR M0 x0 11 3).bind fun v21 =>
    nv (mN M0) fun a22 =>
    nv (nw M0 (8 + 7, 0)) fun M23 =>
    (F_X8_init a22 M23).bind fun M24 =>
    v21.bind fun a26 =>
    (stR M24 a26 5 8 x1 a22).bind fun M25 =>
    F_X11_init_L57 k82 x0 n19 (x1 + 1) M25
def F_X11_init (this : Nat) (M : Mm) : Option Mm :=
  nv (mN M) fun a1 =>
  nv (nw M (10 + 7, 0)) fun M2 =>
  (F_X10_init a1 M2).bind fun M3 =>
  (wrR M3 this 11 0 (some a1)).bind fun M4 =>
  nv (mN M4) fun a5 =>
  nv (nw M4 (5 + 7, 0)) fun M6 =>
  (rdR M6 this 11 0).bind fun v7 =>
  v7.bind fun a8 =>
  (F_X5_init a5 a8 M6).bind fun M9 =>
  (wrR M9 this 11 1 (some a5)).bind fun M10 =>
  nv (mN M10) fun a11 =>
  nv (nw M10 (3 + 7, 0)) fun M12 =>
  (F_X3_init a11 M12).bind fun M13 =>
  (wrR M13 this 11 2 (some a11)).bind fun M14 =>
  nv (mN M14) fun a15 =>
  nv (nw M14 (5, 8)) fun M16 =>
  (wrR M16 this 11 3 (some a15)).bind fun M17 =>
  (wrR M17 this 11 4 none).bind fun M18 =>
  F_X11_init_L57 (fun  (M27 : Mm) =>
    some M27) this 9 0 M18

def F_X11_isSpan (p1 : Int32) (p2 : Int32) (M : Mm) : Option (Int32 × Mm) :=
  if p1 < 0 then
    some ((0 : Int32), M)
  else
    if 100 ≤ p1 then
      some ((0 : Int32), M)
    else
      (dvI p1 10).bind fun v3 =>
      (rmI p1 10).bind fun v4 =>
      if v4 < v3 then
        some ((0 : Int32), M)
      else
        (rmI p1 10).bind fun v6 =>
        if p2 ≤ v6 then
          some ((0 : Int32), M)
        else
          some ((1 : Int32), M)

def F_X11_isSeaValue (p1 : Int32) (p2 : Int32) (M : Mm) : Option (Int32 × Mm) :=
  if p1 = 0 then
    if p2 < 0 then
      some ((0 : Int32), M)
    else
      if 4 < p2 then
        some ((0 : Int32), M)
      else
        some ((1 : Int32), M)
  else
  if p1 = 1 then
    if p2 = 0 then
      some ((1 : Int32), M)
    else
      if p2 = 1 then
        some ((1 : Int32), M)
      else
        some ((0 : Int32), M)
  else
  if p1 = 2 then
    if p2 < 0 then
      some ((0 : Int32), M)
    else
      if 99 < p2 then
        some ((0 : Int32), M)
      else
        some ((1 : Int32), M)
  else
  some ((0 : Int32), M)

def F_X11_sea (this : Nat) (p1 : Int32) (p2 : Int32) (p3 : Int32) (p4 : Int32) (M : Mm) : Option (Int32 × Mm) :=
  (F_X11_isSpan p1 10 M).bind fun (v2, M1) =>
  if v2 = 0 then
    some (((-1) : Int32), M1)
  else
    (F_X11_isSpan p2 8 M1).bind fun (v5, M4) =>
    if v5 = 0 then
      some (((-1) : Int32), M4)
    else
      (F_X11_isSeaValue p3 p4 M4).bind fun (v8, M7) =>
      if v8 = 0 then
        some (((-1) : Int32), M7)
      else
        jp (fun  (M11 : Mm) =>
        (rdR M11 this 11 0).bind fun v12 =>
        v12.bind fun a13 =>
        (rdR M11 a13 10 0).bind fun v14 =>
        v14.bind fun a15 =>
        (isO M11 a15 7).bind fun _ =>
        (F_X7_change a15 p1 p2 p3 p4 M11).bind fun (v18, M16) =>
        some (v18, M16)) fun k10 =>
        if p3 = 0 then
          if p4 = 0 then
            (rdR M7 this 11 0).bind fun v22 =>
            v22.bind fun a23 =>
            (isO M7 a23 10).bind fun _ =>
            (F_X10_isAnyUpWithin a23 p1 p2 M7).bind fun (v26, M24) =>
            if v26 = 0 then
              k10  M24
            else
              some (((-3) : Int32), M24)
          else
            k10  M7
        else
          k10  M7

def F_X11_isLayer (p1 : Int32) (M : Mm) : Option (Int32 × Mm) :=
  if p1 < 0 then
    some ((0 : Int32), M)
  else
    if 4 ≤ p1 then
      some ((0 : Int32), M)
    else
      some ((1 : Int32), M)

def F_X11_isStream (p1 : Int32) (M : Mm) : Option (Int32 × Mm) :=
  if p1 < (-2) then
    some ((0 : Int32), M)
  else
    if 2 < p1 then
      some ((0 : Int32), M)
    else
      some ((1 : Int32), M)

def F_X11_stream (this : Nat) (p1 : Int32) (p2 : Int32) (p3 : Int32) (p4 : Int32) (p5 : Int32) (p6 : Int32) (M : Mm) : Option (Int32 × Mm) :=
  (F_X11_isCell p1 p2 M).bind fun (v2, M1) =>
  if v2 = 0 then
    some (((-1) : Int32), M1)
  else
    (F_X11_isLayer p3 M1).bind fun (v5, M4) =>
    if v5 = 0 then
      some (((-1) : Int32), M4)
    else
      (F_X11_isStream p4 M4).bind fun (v8, M7) =>
      if v8 = 0 then
        some (((-1) : Int32), M7)
      else
        (F_X11_isStream p5 M7).bind fun (v11, M10) =>
        if v11 = 0 then
          some (((-1) : Int32), M10)
        else
          jp (fun (s14 : Option Nat) (M15 : Mm) =>
          (F_X11_cellOf p1 p2 M15).bind fun (v17, M16) =>
          (F_X11_placeOf v17 p3 M16).bind fun (v19, M18) =>
          s14.bind fun a20 =>
          (rdR M18 a20 9 0).bind fun v21 =>
          v21.bind fun a23 =>
          (stI M18 a23 v19 p4).bind fun M22 =>
          (rdR M22 a20 9 1).bind fun v24 =>
          v24.bind fun a26 =>
          (stI M22 a26 v19 p5).bind fun M25 =>
          some ((0 : Int32), M25)) fun k13 =>
          if p6 = 0 then
            (rdR M10 this 11 0).bind fun v29 =>
            v29.bind fun a30 =>
            (rdR M10 a30 10 0).bind fun v31 =>
            v31.bind fun a32 =>
            (rdR M10 a32 7 5).bind fun v33 =>
            k13 v33 M10
          else
            (rdR M10 this 11 0).bind fun v34 =>
            v34.bind fun a35 =>
            (rdR M10 a35 10 0).bind fun v36 =>
            v36.bind fun a37 =>
            (rdR M10 a37 7 6).bind fun v38 =>
            k13 v38 M10

def F_X11_salt (this : Nat) (p1 : Int32) (p2 : Int32) (p3 : Int32) (p4 : Int32) (M : Mm) : Option (Int32 × Mm) :=
  (F_X11_isCell p1 p2 M).bind fun (v2, M1) =>
  if v2 = 0 then
    some (((-1) : Int32), M1)
  else
    (F_X11_isLayer p3 M1).bind fun (v5, M4) =>
    if v5 = 0 then
      some (((-1) : Int32), M4)
    else
      if p4 < 0 then
        some (((-1) : Int32), M4)
      else
        if p4 ≤ 1001 then
          (F_X11_cellOf p1 p2 M4).bind fun (v10, M9) =>
          (F_X11_placeOf v10 p3 M9).bind fun (v12, M11) =>
          if 999 < p4 then
            (rdR M11 this 11 0).bind fun v14 =>
            v14.bind fun a15 =>
            (rdR M11 a15 10 0).bind fun v16 =>
            v16.bind fun a17 =>
            (rdR M11 a17 7 4).bind fun v18 =>
            nv (α := Int32) (if p4 = 1000 then 1 else 0) fun v19 =>
            v18.bind fun a21 =>
            (F_X11_changeAt a21 v12 v19 M11).bind fun (v23, M22) =>
            some (v23, M22)
          else
            (rdR M11 this 11 0).bind fun v25 =>
            v25.bind fun a26 =>
            (rdR M11 a26 10 0).bind fun v27 =>
            v27.bind fun a28 =>
            (rdR M11 a28 7 3).bind fun v29 =>
            v29.bind fun a30 =>
            (F_X11_changeAt a30 v12 p4 M11).bind fun (v32, M31) =>
            some (v32, M31)
        else
          some (((-1) : Int32), M4)

def F_X11_cell (this : Nat) (p1 : Int32) (p2 : Int32) (p3 : Int32) (p4 : Int32) (M : Mm) : Option (Int32 × Mm) :=
  (F_X11_isCell p1 p2 M).bind fun (v2, M1) =>
  if v2 = 0 then
    some (((-1) : Int32), M1)
  else
    if p4 < 0 then
      some (((-1) : Int32), M1)
    else
      if p4 ≤ 8 then
        (F_X11_cellOf p1 p2 M1).bind fun (v7, M6) =>
        if 2 < p4 then
          (F_X11_isLayer p3 M6).bind fun (v10, M9) =>
          if v10 = 0 then
            some (((-1) : Int32), M9)
          else
            (rdR M9 this 11 0).bind fun v12 =>
            v12.bind fun a13 =>
            (rdR M9 a13 10 0).bind fun v14 =>
            v14.bind fun a15 =>
            (isO M9 a15 7).bind fun _ =>
            (F_X7_placeRow a15 p4 M9).bind fun (v18, M16) =>
            (F_X11_placeOf v7 p3 M16).bind fun (v20, M19) =>
            v18.bind fun a22 =>
            (ldI M19 a22 v20).bind fun v21 =>
            some (v21, M19)
        else
          (rdR M6 this 11 0).bind fun v23 =>
          v23.bind fun a24 =>
          (rdR M6 a24 10 0).bind fun v25 =>
          v25.bind fun a26 =>
          (isO M6 a26 7).bind fun _ =>
          (F_X7_cellRow a26 p4 M6).bind fun (v29, M27) =>
          v29.bind fun a31 =>
          (ldI M27 a31 v7).bind fun v30 =>
          some (v30, M27)
      else
        some (((-1) : Int32), M1)

def F_X11_glider (this : Nat) (p1 : Int32) (p2 : Int32) (p3 : Int32) (p4 : Int32) (M : Mm) : Option (Int32 × Mm) :=
  if p1 < 0 then
    some (((-1) : Int32), M)
  else
    if 3 < p1 then
      some (((-1) : Int32), M)
    else
      (F_X11_isCell p2 p3 M).bind fun (v4, M3) =>
      if v4 = 0 then
        some (((-1) : Int32), M3)
      else
        if p4 < 0 then
          some (((-1) : Int32), M3)
        else
          if p4 ≤ 999 then
            (rdR M3 this 11 0).bind fun v8 =>
            v8.bind fun a9 =>
            (rdI M3 a9 10 2).bind fun v10 =>
            if v10 < 8 then
              (rdR M3 this 11 0).bind fun v12 =>
              v12.bind fun a13 =>
              (rdR M3 a13 10 0).bind fun v14 =>
              v14.bind fun a15 =>
              (rdR M3 a15 7 0).bind fun v16 =>
              (F_X11_cellOf p2 p3 M3).bind fun (v18, M17) =>
              v16.bind fun a20 =>
              (ldI M17 a20 v18).bind fun v19 =>
              if v19 = 0 then
                some (((-3) : Int32), M17)
              else
                (rdR M17 this 11 0).bind fun v22 =>
                (F_X11_cellOf p2 p3 M17).bind fun (v24, M23) =>
                v22.bind fun a25 =>
                (isO M23 a25 10).bind fun _ =>
                (F_X10_addGlider a25 p1 v24 p4 M23).bind fun (v28, M26) =>
                some (v28, M26)
            else
              some (((-2) : Int32), M3)
          else
            some (((-1) : Int32), M3)

def F_X11_tellAbout (p1 : Nat) (p2 : Int32) (M : Mm) : Option (Int32 × Mm) :=
  if p2 = 0 then
    (rdI M p1 0 0).bind fun v2 =>
    some (v2, M)
  else
  if p2 = 1 then
    (rdI M p1 0 1).bind fun v4 =>
    (F_X11_xOf v4 M).bind fun (v6, M5) =>
    some (v6, M5)
  else
  if p2 = 2 then
    (rdI M p1 0 1).bind fun v8 =>
    (F_X11_yOf v8 M).bind fun (v10, M9) =>
    some (v10, M9)
  else
  if p2 = 3 then
    (rdI M p1 0 2).bind fun v12 =>
    some (v12, M)
  else
  if p2 = 4 then
    (rdI M p1 0 3).bind fun v14 =>
    some (v14, M)
  else
  if p2 = 5 then
    (rdI M p1 0 4).bind fun v16 =>
    if v16 = 0 then
      some ((0 : Int32), M)
    else
      some ((1 : Int32), M)
  else
  if p2 = 6 then
    (rdI M p1 0 5).bind fun v19 =>
    some (v19, M)
  else
  if p2 = 7 then
    (rdI M p1 0 6).bind fun v21 =>
    some (v21, M)
  else
  if p2 = 8 then
    (rdI M p1 0 7).bind fun v23 =>
    some (v23, M)
  else
  if p2 = 9 then
    (rdI M p1 0 8).bind fun v25 =>
    some (v25, M)
  else
  if p2 = 10 then
    (rdI M p1 0 10).bind fun v27 =>
    if v27 = 0 then
      some (((-4) : Int32), M)
    else
      (rdI M p1 0 9).bind fun v29 =>
      some (v29, M)
  else
  some (((-1) : Int32), M)

def F_X11_about (this : Nat) (p1 : Int32) (p2 : Int32) (M : Mm) : Option (Int32 × Mm) :=
  (rdR M this 11 0).bind fun v1 =>
  v1.bind fun a2 =>
  (isO M a2 10).bind fun _ =>
  (F_X10_gliderAt a2 p1 M).bind fun (v5, M3) =>
  oe v5 (
    some (((-1) : Int32), M3)) fun a6 =>
    (F_X11_tellAbout a6 p2 M3).bind fun (v8, M7) =>
    some (v8, M7)

def F_X11_can (this : Nat) (p1 : Int32) (p2 : Int32) (M : Mm) : Option (Int32 × Mm) :=
  (rdR M this 11 0).bind fun v1 =>
  v1.bind fun a2 =>
  (isO M a2 10).bind fun _ =>
  (F_X10_gliderAt a2 p1 M).bind fun (v5, M3) =>
  oe v5 (
    some (((-1) : Int32), M3)) fun a6 =>
    if p2 < 0 then
      some (((-1) : Int32), M3)
    else
      if p2 ≤ 5 then
        if p2 = 0 then
          (isO M3 a6 0).bind fun _ =>
          (F_X0_deepest a6 M3).bind fun (v23, M21) =>
          some (v23, M21)
        else
          if p2 = 1 then
            (isO M3 a6 0).bind fun _ =>
            (F_X0_reach a6 M3).bind fun (v20, M18) =>
            some (v20, M18)
          else
            (isO M3 a6 0).bind fun _ =>
            (F_X0_deepest a6 M3).bind fun (v13, M11) =>
            if (p2 - 2) ≤ v13 then
              (isO M11 a6 0).bind fun _ =>
              (F_X0_costTo a6 (p2 - 2) M11).bind fun (v17, M15) =>
              some (v17, M15)
            else
              some (((-3) : Int32), M11)
      else
        some (((-1) : Int32), M3)

def F_X11_leak (this : Nat) (p1 : Int32) (p2 : Int32) (M : Mm) : Option (Int32 × Mm) :=
  (rdR M this 11 0).bind fun v1 =>
  v1.bind fun a2 =>
  (isO M a2 10).bind fun _ =>
  (F_X10_gliderAt a2 p1 M).bind fun (v5, M3) =>
  oe v5 (
    some (((-1) : Int32), M3)) fun a6 =>
    (rdI M3 a6 0 4).bind fun v7 =>
    (wrZ M3 a6 0 4 p2).bind fun M8 =>
    if v7 = p2 then
      some ((0 : Int32), M8)
    else
      some ((1 : Int32), M8)

def F_X11_dive (this : Nat) (p1 : Int32) (p2 : Int32) (p3 : Int32) (p4 : Int32) (M : Mm) : Option (Int32 × Mm) :=
  (rdR M this 11 0).bind fun v1 =>
  v1.bind fun a2 =>
  (isO M a2 10).bind fun _ =>
  (F_X10_gliderAt a2 p1 M).bind fun (v5, M3) =>
  oe v5 (
    some (((-1) : Int32), M3)) fun a6 =>
    (isO M3 a6 0).bind fun _ =>
    (F_X0_mayDive a6 p2 p3 p4 M3).bind fun (v9, M7) =>
    if v9 = 0 then
      some (((-1) : Int32), M7)
    else
      (rdI M7 a6 0 3).bind fun v11 =>
      if v11 = 0 then
        (rdI M7 a6 0 2).bind fun v13 =>
        (isO M7 a6 0).bind fun _ =>
        (F_X0_costTo a6 p2 M7).bind fun (v16, M14) =>
        if v16 ≤ v13 then
          (rdR M14 this 11 0).bind fun v18 =>
          v18.bind fun a19 =>
          (isO M14 a19 10).bind fun _ =>
          (F_X10_descend a19 a6 p2 p3 p4 M14).bind fun (v22, M20) =>
          some (v22, M20)
        else
          some (((-3) : Int32), M14)
      else
        some (((-3) : Int32), M7)

def F_X11_shelfAt (this : Nat) (p1 : Int32) (M : Mm) : Option (Option Nat × Mm) :=
  if p1 < 0 then
    some (none, M)
  else
    if 8 ≤ p1 then
      some (none, M)
    else
      (rdR M this 11 3).bind fun v3 =>
      v3.bind fun a5 =>
      (ldR M a5 5 p1).bind fun v4 =>
      some (v4, M)

def F_X11_fault (this : Nat) (p1 : Int32) (M : Mm) : Option (Int32 × Mm) :=
  (isO M this 11).bind fun _ =>
  (F_X11_shelfAt this p1 M).bind fun (v3, M1) =>
  oe v3 (
    some (((-1) : Int32), M1)) fun a4 =>
    (isO M1 a4 8).bind fun _ =>
    (F_X8_refusesAsText a4 M1).bind fun (v7, M5) =>
    if v7 = 0 then
      (rdR M5 this 11 2).bind fun v9 =>
      (rdR M5 a4 8 3).bind fun v10 =>
      (rdI M5 a4 8 2).bind fun v11 =>
      v10.bind fun a12 =>
      v9.bind fun a13 =>
      (isO M5 a13 3).bind fun _ =>
      (F_X3_scan a13 a12 v11 M5).bind fun (v16, M14) =>
      some (v16, M14)
    else
      some (v7, M5)

def F_X11_order (this : Nat) (p1 : Int32) (M : Mm) : Option (Int32 × Mm) :=
  (isO M this 11).bind fun _ =>
  (F_X11_shelfAt this p1 M).bind fun (v3, M1) =>
  oe v3 (
    some (((-1) : Int32), M1)) fun a4 =>
    (rdR M1 this 11 0).bind fun v5 =>
    v5.bind fun a6 =>
    (rdI M1 a6 10 7).bind fun v7 =>
    if v7 < 10 then
      (isO M1 a4 8).bind fun _ =>
      (F_X8_refusesAsText a4 M1).bind fun (v11, M9) =>
      if v11 = 0 then
        (rdR M9 this 11 2).bind fun v13 =>
        (rdR M9 a4 8 3).bind fun v14 =>
        (rdI M9 a4 8 2).bind fun v15 =>
        v14.bind fun a16 =>
        v13.bind fun a17 =>
        (isO M9 a17 3).bind fun _ =>
        (F_X3_scan a17 a16 v15 M9).bind fun (v20, M18) =>
        if v20 = (-4) then
          (rdR M18 this 11 0).bind fun v22 =>
          v22.bind fun a23 =>
          (rdR M18 a23 10 6).bind fun v24 =>
          (rdR M18 this 11 0).bind fun v25 =>
          v25.bind fun a26 =>
          (rdI M18 a26 10 7).bind fun v27 =>
          (rdR M18 this 11 2).bind fun v28 =>
          v28.bind fun a29 =>
          (isO M18 a29 3).bind fun _ =>
          (F_X3_handOver a29 M18).bind fun (v32, M30) =>
          v24.bind fun a34 =>
          v32.bind fun a35 =>
          (stR M30 a34 4 2 v27 a35).bind fun M33 =>
          (rdR M33 this 11 0).bind fun v36 =>
          v36.bind fun a37 =>
          (rdI M33 a37 10 7).bind fun v38 =>
          (wrI M33 a37 10 7 (v38 + 1)).bind fun M39 =>
          some (v38, M39)
        else
          some (((-100) - v20), M18)
      else
        some (v11, M9)
    else
      some (((-2) : Int32), M1)

def F_X11_letter (this : Nat) (p1 : Int32) (p2 : Int32) (M : Mm) : Option (Int32 × Mm) :=
  (rdR M this 11 0).bind fun v1 =>
  v1.bind fun a2 =>
  (isO M a2 10).bind fun _ =>
  (F_X10_gliderAt a2 p1 M).bind fun (v5, M3) =>
  oe v5 (
    some (((-1) : Int32), M3)) fun a6 =>
    if p2 < 0 then
      some (((-1) : Int32), M3)
    else
      (rdR M3 this 11 0).bind fun v8 =>
      v8.bind fun a9 =>
      (rdI M3 a9 10 7).bind fun v10 =>
      if p2 < v10 then
        (rdR M3 this 11 0).bind fun v12 =>
        v12.bind fun a13 =>
        (rdR M3 a13 10 8).bind fun v14 =>
        v14.bind fun a15 =>
        (rdI M3 a15 1 0).bind fun v16 =>
        if v16 < 60 then
          (rdR M3 this 11 0).bind fun v18 =>
          v18.bind fun a19 =>
          (rdR M3 a19 10 8).bind fun v20 =>
          (rdR M3 this 11 0).bind fun v21 =>
          v21.bind fun a22 =>
          (rdI M3 a22 10 3).bind fun v23 =>
          v20.bind fun a24 =>
          (isO M3 a24 1).bind fun _ =>
          (F_X1_send a24 p1 p2 v23 M3).bind fun (v27, M25) =>
          some (v27, M25)
        else
          some (((-2) : Int32), M3)
      else
        some (((-1) : Int32), M3)

def F_X11_waiting (this : Nat) (p1 : Int32) (M : Mm) : Option (Int32 × Mm) :=
  (rdR M this 11 0).bind fun v1 =>
  v1.bind fun a2 =>
  (isO M a2 10).bind fun _ =>
  (F_X10_gliderAt a2 p1 M).bind fun (v5, M3) =>
  oe v5 (
    some (((-1) : Int32), M3)) fun a6 =>
    (rdR M3 this 11 0).bind fun v7 =>
    v7.bind fun a8 =>
    (rdR M3 a8 10 8).bind fun v9 =>
    v9.bind fun a10 =>
    (isO M3 a10 1).bind fun _ =>
    (F_X1_unheardBy a10 p1 M3).bind fun (v13, M11) =>
    some (v13, M11)

def F_X11_deaf (this : Nat) (p1 : Int32) (p2 : Int32) (M : Mm) : Option (Int32 × Mm) :=
  if p1 < 0 then
    some (((-1) : Int32), M)
  else
    if p1 ≤ 400 then
      (rdR M this 11 0).bind fun v3 =>
      v3.bind fun a4 =>
      (rdR M a4 10 5).bind fun v5 =>
      nv (α := Int32) (if p2 = 0 then 0 else 1) fun v6 =>
      v5.bind fun a8 =>
      (F_X11_changeAt a8 p1 v6 M).bind fun (v10, M9) =>
      some (v10, M9)
    else
      some (((-1) : Int32), M)

def F_X11_rule (this : Nat) (p1 : Int32) (M : Mm) : Option (Int32 × Mm) :=
  (rdR M this 11 0).bind fun v1 =>
  v1.bind fun a2 =>
  (isO M a2 10).bind fun _ =>
  (F_X10_gliderAt a2 p1 M).bind fun (v5, M3) =>
  oe v5 (
    some (((-1) : Int32), M3)) fun a6 =>
    (rdR M3 this 11 0).bind fun v7 =>
    v7.bind fun a8 =>
    (isO M3 a8 10).bind fun _ =>
    (F_X10_orderOf a8 a6 M3).bind fun (v11, M9) =>
    (rdI M9 a6 0 3).bind fun v12 =>
    if v12 = 0 then
      oe v11 (
        some (((-3) : Int32), M9)) fun a14 =>
        (rdR M9 this 11 0).bind fun v15 =>
        v15.bind fun a16 =>
        (isO M9 a16 10).bind fun _ =>
        (F_X10_ruleFor a16 a6 a14 M9).bind fun (v19, M17) =>
        some (v19, M17)
    else
      some (((-3) : Int32), M9)

def F_X11_times_L35  (x0 : Nat) (x1 : Int32) : Nat → Int32 → Int32 → Mm → Option (Int32 × Mm)
  | 0, _, _, _ => none
  | n7 + 1, x2, x3, M0 => if x1 ≤ x3 then
    some (x2, M0)
  else
    (rdR M0 x0 11 0).bind fun v9 =>
    v9.bind fun a10 =>
    (isO M0 a10 10).bind fun _ =>
    (F_X10_hearAll a10 M0).bind fun M11 =>
    (rdR M11 x0 11 0).bind fun v13 =>
    v13.bind fun a14 =>
    (isO M11 a14 10).bind fun _ =>
    (F_X10_obeyAll a14 M11).bind fun (v17, M15) =>
    (rdR M15 x0 11 0).bind fun v18 =>
    v18.bind fun a19 =>
    (rdR M15 a19 10 0).bind fun v20 =>
    v20.bind fun a21 =>
    (isO M15 a21 7).bind fun _ =>
    (F_X7_growDoubt a21 M15).bind fun M22 =>
    (rdR M22 x0 11 0).bind fun v24 =>
    v24.bind fun a25 =>
    (rdI M22 a25 10 3).bind fun v26 =>
    (wrI M22 a25 10 3 (v26 + 1)).bind fun M27 =>
    F_X11_times_L35 x0 x1 n7 (x2 + v17) (x3 + 1) M27
def F_X11_times (this : Nat) (p1 : Int32) (M : Mm) : Option (Int32 × Mm) :=
  if p1 < 1 then
    some (((-1) : Int32), M)
  else
    if p1 ≤ 40 then
      (rdR M this 11 0).bind fun v3 =>
      v3.bind fun a4 =>
      (rdI M a4 10 3).bind fun v5 =>
      if (v5 + p1) ≤ 400 then
        F_X11_times_L35  this p1 1000000 0 0 M
      else
        some (((-2) : Int32), M)
    else
      some (((-1) : Int32), M)

def F_X11_known (this : Nat) (p1 : Int32) (p2 : Int32) (M : Mm) : Option (Int32 × Mm) :=
  (rdR M this 11 0).bind fun v1 =>
  v1.bind fun a2 =>
  (isO M a2 10).bind fun _ =>
  (F_X10_gliderAt a2 p1 M).bind fun (v5, M3) =>
  oe v5 (
    some (((-1) : Int32), M3)) fun a6 =>
    if p2 < 0 then
      some (((-1) : Int32), M3)
    else
      if p2 ≤ 400 then
        (isO M3 a6 0).bind fun _ =>
        (F_X0_fixBy a6 p2 M3).bind fun (v11, M9) =>
        some (v11, M9)
      else
        some (((-1) : Int32), M3)

def F_X11_clean (this : Nat) (p1 : Int32) (p2 : Int32) (M : Mm) : Option (Int32 × Mm) :=
  (rdR M this 11 0).bind fun v1 =>
  v1.bind fun a2 =>
  (isO M a2 10).bind fun _ =>
  (F_X10_gliderAt a2 p1 M).bind fun (v5, M3) =>
  oe v5 (
    some (((-1) : Int32), M3)) fun a6 =>
    if p2 < (-2000) then
      some (((-1) : Int32), M3)
    else
      if p2 ≤ 2000 then
        (rdR M3 this 11 0).bind fun v9 =>
        v9.bind fun a10 =>
        (rdR M3 a10 10 9).bind fun v11 =>
        v11.bind fun a12 =>
        (rdI M3 a12 6 7).bind fun v13 =>
        if v13 < 60 then
          (rdR M3 this 11 0).bind fun v15 =>
          v15.bind fun a16 =>
          (rdR M3 a16 10 9).bind fun v17 =>
          (rdI M3 a6 0 5).bind fun v18 =>
          v17.bind fun a19 =>
          (isO M3 a19 6).bind fun _ =>
          (F_X6_addCleaning a19 p1 p2 v18 M3).bind fun (v22, M20) =>
          (wrI M20 a6 0 5 0).bind fun M23 =>
          some (v22, M23)
        else
          some (((-2) : Int32), M3)
      else
        some (((-1) : Int32), M3)

def F_X11_reading (this : Nat) (p1 : Int32) (p2 : Int32) (M : Mm) : Option (Int32 × Mm) :=
  (rdR M this 11 0).bind fun v1 =>
  v1.bind fun a2 =>
  (rdR M a2 10 9).bind fun v3 =>
  if p1 < 0 then
    some (((-1) : Int32), M)
  else
    v3.bind fun a5 =>
    (rdI M a5 6 0).bind fun v6 =>
    if p1 < v6 then
      if p2 = 0 then
        (rdR M a5 6 1).bind fun v9 =>
        v9.bind fun a11 =>
        (ldI M a11 p1).bind fun v10 =>
        some (v10, M)
      else
      if p2 = 1 then
        (rdR M a5 6 2).bind fun v13 =>
        v13.bind fun a15 =>
        (ldI M a15 p1).bind fun v14 =>
        some (v14, M)
      else
      if p2 = 2 then
        (rdR M a5 6 3).bind fun v17 =>
        v17.bind fun a19 =>
        (ldI M a19 p1).bind fun v18 =>
        some (v18, M)
      else
      if p2 = 3 then
        (rdR M a5 6 4).bind fun v21 =>
        v21.bind fun a23 =>
        (ldI M a23 p1).bind fun v22 =>
        some (v22, M)
      else
      if p2 = 4 then
        (rdR M a5 6 5).bind fun v25 =>
        v25.bind fun a27 =>
        (ldI M a27 p1).bind fun v26 =>
        some (v26, M)
      else
      some (((-1) : Int32), M)
    else
      some (((-1) : Int32), M)

def F_X11_plan (this : Nat) (p1 : Int32) (M : Mm) : Option (Int32 × Mm) :=
  (F_X11_isLayer p1 M).bind fun (v2, M1) =>
  if v2 = 0 then
    some (((-1) : Int32), M1)
  else
    (rdR M1 this 11 1).bind fun v4 =>
    v4.bind fun a5 =>
    (isO M1 a5 5).bind fun _ =>
    (F_X5_work a5 p1 M1).bind fun (v8, M6) =>
    some (v8, M6)

def F_X11_planned (this : Nat) (p1 : Int32) (p2 : Int32) (M : Mm) : Option (Int32 × Mm) :=
  (F_X11_isLayer p1 M).bind fun (v2, M1) =>
  if v2 = 0 then
    some (((-1) : Int32), M1)
  else
    (rdR M1 this 11 0).bind fun v4 =>
    v4.bind fun a5 =>
    (isO M1 a5 10).bind fun _ =>
    (F_X10_gliderAt a5 p2 M1).bind fun (v8, M6) =>
    oe v8 (
      some (((-1) : Int32), M6)) fun a9 =>
      (rdR M6 this 11 1).bind fun v10 =>
      v10.bind fun a11 =>
      (isO M6 a11 5).bind fun _ =>
      (F_X5_work a11 p1 M6).bind fun (v14, M12) =>
      (rdR M12 this 11 1).bind fun v15 =>
      v15.bind fun a16 =>
      (isO M12 a16 5).bind fun _ =>
      (F_X5_headingOf a16 p2 M12).bind fun (v19, M17) =>
      some (v19, M17)

def F_X11_ends (this : Nat) (p1 : Int32) (p2 : Int32) (p3 : Int32) (p4 : Int32) (M : Mm) : Option (Int32 × Mm) :=
  (rdR M this 11 0).bind fun v1 =>
  v1.bind fun a2 =>
  (isO M a2 10).bind fun _ =>
  (F_X10_gliderAt a2 p1 M).bind fun (v5, M3) =>
  oe v5 (
    some (((-1) : Int32), M3)) fun a6 =>
    (isO M3 a6 0).bind fun _ =>
    (F_X0_mayDive a6 p2 p3 p4 M3).bind fun (v9, M7) =>
    if v9 = 0 then
      some (((-1) : Int32), M7)
    else
      (rdI M7 a6 0 3).bind fun v11 =>
      if v11 = 0 then
        (rdR M7 this 11 0).bind fun v13 =>
        v13.bind fun a14 =>
        (rdR M7 a14 10 10).bind fun v15 =>
        (rdR M7 this 11 0).bind fun v16 =>
        v16.bind fun a17 =>
        (rdR M7 a17 10 0).bind fun v18 =>
        (rdR M7 this 11 0).bind fun v19 =>
        v19.bind fun a20 =>
        (rdR M7 a20 10 0).bind fun v21 =>
        v21.bind fun a22 =>
        (rdR M7 a22 7 6).bind fun v23 =>
        (rdI M7 a6 0 1).bind fun v24 =>
        v23.bind fun a25 =>
        v18.bind fun a26 =>
        v15.bind fun a27 =>
        (isO M7 a27 4).bind fun _ =>
        (F_X4_sink a27 a26 a25 v24 p2 0 M7).bind fun M28 =>
        (rdR M28 this 11 0).bind fun v30 =>
        v30.bind fun a31 =>
        (rdR M28 a31 10 0).bind fun v32 =>
        (rdR M28 this 11 0).bind fun v33 =>
        v33.bind fun a34 =>
        (rdR M28 a34 10 10).bind fun v35 =>
        v35.bind fun a36 =>
        (rdI M28 a36 4 0).bind fun v37 =>
        v32.bind fun a38 =>
        (isO M28 a38 7).bind fun _ =>
        (F_X7_walked a38 v37 p3 p4 M28).bind fun (v41, M39) =>
        some (v41, M39)
      else
        some (((-3) : Int32), M7)

def F_X11_whole_L13  (x0 : Nat) (x1 : Int32) : Nat → Int32 → Int32 → Mm → Option (Int32 × Mm)
  | 0, _, _, _ => none
  | n4 + 1, x2, x3, M0 => if 80 ≤ x3 then
    some (x2, M0)
  else
    (rdR M0 x0 11 0).bind fun v6 =>
    v6.bind fun a7 =>
    (rdR M0 a7 10 0).bind fun v8 =>
    v8.bind fun a9 =>
    (isO M0 a9 7).bind fun _ =>
    (F_X7_has a9 x3 x1 M0).bind fun (v12, M10) =>
    if v12 = 0 then
      F_X11_whole_L13 x0 x1 n4 x2 (x3 + 1) M10
    else
      (rdR M10 x0 11 0).bind fun v14 =>
      v14.bind fun a15 =>
      (rdR M10 a15 10 0).bind fun v16 =>
      v16.bind fun a17 =>
      (isO M10 a17 7).bind fun _ =>
      (F_X7_isWhole a17 x3 x1 M10).bind fun (v20, M18) =>
      if v20 = 0 then
        F_X11_whole_L13 x0 x1 n4 x2 (x3 + 1) M18
      else
        F_X11_whole_L13 x0 x1 n4 (x2 + 1) (x3 + 1) M18
def F_X11_whole (this : Nat) (p1 : Int32) (M : Mm) : Option (Int32 × Mm) :=
  (F_X11_isLayer p1 M).bind fun (v2, M1) =>
  if v2 = 0 then
    some (((-1) : Int32), M1)
  else
    F_X11_whole_L13  this p1 1000000 0 0 M1

def F_X11_ship (this : Nat) (p1 : Int32) (p2 : Int32) (M : Mm) : Option (Int32 × Mm) :=
  (F_X11_isCell p1 p2 M).bind fun (v2, M1) =>
  if v2 = 0 then
    some (((-1) : Int32), M1)
  else
    (rdR M1 this 11 0).bind fun v4 =>
    v4.bind fun a5 =>
    (rdR M1 a5 10 0).bind fun v6 =>
    v6.bind fun a7 =>
    (rdR M1 a7 7 0).bind fun v8 =>
    (F_X11_cellOf p1 p2 M1).bind fun (v10, M9) =>
    v8.bind fun a12 =>
    (ldI M9 a12 v10).bind fun v11 =>
    if v11 = 0 then
      some (((-3) : Int32), M9)
    else
      (rdR M9 this 11 0).bind fun v14 =>
      v14.bind fun a15 =>
      (rdI M9 a15 10 4).bind fun v16 =>
      (rdR M9 this 11 0).bind fun v17 =>
      (F_X11_cellOf p1 p2 M9).bind fun (v19, M18) =>
      v17.bind fun a20 =>
      (wrI M18 a20 10 4 v19).bind fun M21 =>
      some (v16, M21)

def F_X11_left (this : Nat) (p1 : Int32) (M : Mm) : Option (Int32 × Mm) :=
  (rdR M this 11 0).bind fun v1 =>
  v1.bind fun a2 =>
  (isO M a2 10).bind fun _ =>
  (F_X10_gliderAt a2 p1 M).bind fun (v5, M3) =>
  oe v5 (
    some (((-1) : Int32), M3)) fun a6 =>
    (rdI M3 a6 0 3).bind fun v7 =>
    if v7 = 0 then
      (isO M3 a6 0).bind fun _ =>
      (F_X0_divesLeft a6 M3).bind fun (v11, M9) =>
      some (v11, M9)
    else
      some (((-3) : Int32), M3)

def F_X11_stepsBetween (p1 : Int32) (p2 : Int32) (M : Mm) : Option (Int32 × Mm) :=
  (F_X11_xOf p1 M).bind fun (v2, M1) =>
  (F_X11_xOf p2 M1).bind fun (v4, M3) =>
  (F_X11_yOf p1 M3).bind fun (v6, M5) =>
  (F_X11_yOf p2 M5).bind fun (v8, M7) =>
  some (((abI (v2 - v4)) + (abI (v6 - v8))), M7)

def F_X11_next_L10  (x0 : Nat) : Nat → Int32 → Int32 → Int32 → Int32 → Mm → Option (Int32 × Mm)
  | 0, _, _, _, _, _ => none
  | n1 + 1, x1, x2, x3, x4, M0 => (rdR M0 x0 11 0).bind fun v2 =>
  v2.bind fun a3 =>
  (rdI M0 a3 10 2).bind fun v4 =>
  if v4 ≤ x4 then
    some (x1, M0)
  else
    (rdR M0 x0 11 0).bind fun v6 =>
    v6.bind fun a7 =>
    (rdR M0 a7 10 1).bind fun v8 =>
    v8.bind fun a10 =>
    (ldR M0 a10 3 x4).bind fun v9 =>
    v9.bind fun a11 =>
    (rdI M0 a11 0 3).bind fun v12 =>
    if v12 = 0 then
      (isO M0 a11 0).bind fun _ =>
      (F_X0_divesLeft a11 M0).bind fun (v16, M14) =>
      (rdI M14 a11 0 1).bind fun v17 =>
      (rdR M14 x0 11 0).bind fun v18 =>
      v18.bind fun a19 =>
      (rdI M14 a19 10 4).bind fun v20 =>
      (F_X11_stepsBetween v17 v20 M14).bind fun (v22, M21) =>
      if x1 = (-4) then
        F_X11_next_L10 x0 n1 x4 v16 v22 (x4 + 1) M21
      else
        if v16 < x2 then
          F_X11_next_L10 x0 n1 x4 v16 v22 (x4 + 1) M21
        else
          if v16 = x2 then
            if x3 ≤ v22 then
              F_X11_next_L10 x0 n1 x1 x2 x3 (x4 + 1) M21
            else
              F_X11_next_L10 x0 n1 x4 v16 v22 (x4 + 1) M21
          else
            F_X11_next_L10 x0 n1 x1 x2 x3 (x4 + 1) M21
    else
      F_X11_next_L10 x0 n1 x1 x2 x3 (x4 + 1) M0
def F_X11_next (this : Nat) (M : Mm) : Option (Int32 × Mm) :=
  F_X11_next_L10  this 1000000 (-4) 0 0 0 M

def F_X11_fetch (this : Nat) (p1 : Int32) (M : Mm) : Option (Int32 × Mm) :=
  (rdR M this 11 0).bind fun v1 =>
  v1.bind fun a2 =>
  (isO M a2 10).bind fun _ =>
  (F_X10_gliderAt a2 p1 M).bind fun (v5, M3) =>
  oe v5 (
    some (((-1) : Int32), M3)) fun a6 =>
    (rdI M3 a6 0 1).bind fun v7 =>
    (rdR M3 this 11 0).bind fun v8 =>
    v8.bind fun a9 =>
    (rdI M3 a9 10 4).bind fun v10 =>
    (F_X11_stepsBetween v7 v10 M3).bind fun (v12, M11) =>
    (rdI M11 a6 0 3).bind fun v13 =>
    if v13 = 0 then
      if v12 ≤ 3 then
        (wrI M11 a6 0 3 1).bind fun M16 =>
        some (v12, M16)
      else
        some (((-3) : Int32), M11)
    else
      some (((-3) : Int32), M11)

def F_X11_image (this : Nat) (M : Mm) : Option (Int32 × Mm) :=
  (rdR M this 11 4).bind fun v1 =>
  jp (fun  (M3 : Mm) =>
  (rdR M3 this 11 4).bind fun v4 =>
  (rdR M3 this 11 0).bind fun v5 =>
  v5.bind fun a6 =>
  v4.bind fun a7 =>
  (isO M3 a7 10).bind fun _ =>
  (F_X10_become a7 a6 M3).bind fun M8 =>
  (rdR M8 this 11 0).bind fun v10 =>
  v10.bind fun a11 =>
  (rdI M8 a11 10 3).bind fun v12 =>
  some (v12, M8)) fun k2 =>
  oe v1 (
    nv (mN M) fun a15 =>
    nv (nw M (10 + 7, 0)) fun M16 =>
    (F_X10_init a15 M16).bind fun M17 =>
    (wrR M17 this 11 4 (some a15)).bind fun M18 =>
    k2  M18) fun a14 =>
    k2  M

def F_X11_restore (this : Nat) (M : Mm) : Option (Int32 × Mm) :=
  (rdR M this 11 4).bind fun v1 =>
  oe v1 (
    some (((-3) : Int32), M)) fun a2 =>
    (rdR M this 11 0).bind fun v3 =>
    (rdR M this 11 4).bind fun v4 =>
    v4.bind fun a5 =>
    v3.bind fun a6 =>
    (isO M a6 10).bind fun _ =>
    (F_X10_become a6 a5 M).bind fun M7 =>
    (rdR M7 this 11 0).bind fun v9 =>
    v9.bind fun a10 =>
    (rdI M7 a10 10 3).bind fun v11 =>
    some (v11, M7)

def F_X11_count (this : Nat) (p1 : Int32) (M : Mm) : Option (Int32 × Mm) :=
  if p1 = 0 then
    (rdR M this 11 0).bind fun v2 =>
    v2.bind fun a3 =>
    (rdI M a3 10 2).bind fun v4 =>
    some (v4, M)
  else
  if p1 = 1 then
    (rdR M this 11 0).bind fun v6 =>
    v6.bind fun a7 =>
    (isO M a7 10).bind fun _ =>
    (F_X10_howMany a7 0 M).bind fun (v10, M8) =>
    some (v10, M8)
  else
  if p1 = 2 then
    (rdR M this 11 0).bind fun v12 =>
    v12.bind fun a13 =>
    (isO M a13 10).bind fun _ =>
    (F_X10_howMany a13 1 M).bind fun (v16, M14) =>
    some (v16, M14)
  else
  if p1 = 3 then
    (rdR M this 11 0).bind fun v18 =>
    v18.bind fun a19 =>
    (isO M a19 10).bind fun _ =>
    (F_X10_howMany a19 2 M).bind fun (v22, M20) =>
    some (v22, M20)
  else
  if p1 = 4 then
    (rdR M this 11 0).bind fun v24 =>
    v24.bind fun a25 =>
    (rdI M a25 10 3).bind fun v26 =>
    some (v26, M)
  else
  if p1 = 5 then
    (rdR M this 11 0).bind fun v28 =>
    v28.bind fun a29 =>
    (rdR M a29 10 9).bind fun v30 =>
    v30.bind fun a31 =>
    (rdI M a31 6 0).bind fun v32 =>
    some (v32, M)
  else
  if p1 = 6 then
    (rdR M this 11 0).bind fun v34 =>
    v34.bind fun a35 =>
    (rdR M a35 10 8).bind fun v36 =>
    v36.bind fun a37 =>
    (rdI M a37 1 0).bind fun v38 =>
    some (v38, M)
  else
  if p1 = 7 then
    (rdR M this 11 0).bind fun v40 =>
    v40.bind fun a41 =>
    (rdI M a41 10 7).bind fun v42 =>
    some (v42, M)
  else
  if p1 = 8 then
    (rdR M this 11 0).bind fun v44 =>
    v44.bind fun a45 =>
    (rdR M a45 10 0).bind fun v46 =>
    v46.bind fun a47 =>
    (isO M a47 7).bind fun _ =>
    (F_X7_allDoubt a47 M).bind fun (v50, M48) =>
    some (v50, M48)
  else
  if p1 = 9 then
    (rdR M this 11 0).bind fun v52 =>
    v52.bind fun a53 =>
    (rdR M a53 10 9).bind fun v54 =>
    v54.bind fun a55 =>
    (rdI M a55 6 7).bind fun v56 =>
    some (v56, M)
  else
  if p1 = 10 then
    (rdR M this 11 0).bind fun v58 =>
    v58.bind fun a59 =>
    (isO M a59 10).bind fun _ =>
    (F_X10_allPower a59 M).bind fun (v62, M60) =>
    some (v62, M60)
  else
  some (((-1) : Int32), M)

def F_X11_keep (this : Nat) (p1 : Int32) (p2 : Int32) (p3 : Int32) (M : Mm) : Option (Int32 × Mm) :=
  (isO M this 11).bind fun _ =>
  (F_X11_shelfAt this p1 M).bind fun (v3, M1) =>
  oe v3 (
    some (((-1) : Int32), M1)) fun a4 =>
    if p2 < 0 then
      some (((-1) : Int32), M1)
    else
      if p2 ≤ 1 then
        if p2 = 0 then
          (wrI M1 a4 8 0 0).bind fun M16 =>
          some ((0 : Int32), M16)
        else
          (rdR M1 this 11 0).bind fun v8 =>
          v8.bind fun a9 =>
          (isO M1 a9 10).bind fun _ =>
          (F_X10_gliderAt a9 p3 M1).bind fun (v12, M10) =>
          oe v12 (
            some (((-1) : Int32), M10)) fun a13 =>
            (isO M10 a4 8).bind fun _ =>
            (F_X8_holdGlider a4 a13 M10).bind fun M14 =>
            some ((0 : Int32), M14)
      else
        some (((-1) : Int32), M1)

def F_X11_row (this : Nat) (p1 : Int32) (p2 : Int32) (p3 : Int32) (M : Mm) : Option (Int32 × Mm) :=
  (isO M this 11).bind fun _ =>
  (F_X11_shelfAt this p1 M).bind fun (v3, M1) =>
  oe v3 (
    some (((-1) : Int32), M1)) fun a4 =>
    if p2 < 0 then
      some (((-1) : Int32), M1)
    else
      if 2 < p2 then
        some (((-1) : Int32), M1)
      else
        if p3 ≤ 80 then
          if 0 ≤ p3 then
            (isO M1 a4 8).bind fun _ =>
            (F_X8_holdRow a4 p2 p3 M1).bind fun M9 =>
            some ((0 : Int32), M9)
          else
            some (((-14) : Int32), M1)
        else
          some (((-1) : Int32), M1)

def F_X11_lowestBits (p1 : Int32) (p2 : Int32) (M : Mm) : Option (Int32 × Mm) :=
  if p1 = 0 then
    some (p2.toInt8.toInt32, M)
  else
    if p1 = 1 then
      some (p2.toInt16.toInt32, M)
    else
      some (p2, M)

def F_X11_put (this : Nat) (p1 : Int32) (p2 : Int32) (p3 : Int32) (M : Mm) : Option (Int32 × Mm) :=
  (isO M this 11).bind fun _ =>
  (F_X11_shelfAt this p1 M).bind fun (v3, M1) =>
  oe v3 (
    some (((-1) : Int32), M1)) fun a4 =>
    (rdI M1 a4 8 0).bind fun v5 =>
    if v5 = 2 then
      if p2 < 0 then
        some (((-13) : Int32), M1)
      else
        (rdI M1 a4 8 2).bind fun v8 =>
        if p2 < v8 then
          (rdR M1 a4 8 3).bind fun v10 =>
          (rdI M1 a4 8 1).bind fun v11 =>
          (F_X11_lowestBits v11 p3 M1).bind fun (v13, M12) =>
          v10.bind fun a15 =>
          (stI M12 a15 p2 v13).bind fun M14 =>
          some ((0 : Int32), M14)
        else
          some (((-13) : Int32), M1)
    else
      (rdI M1 a4 8 0).bind fun v16 =>
      if v16 = 0 then
        some (((-11) : Int32), M1)
      else
        some (((-12) : Int32), M1)

def F_X11_isStretch (p1 : Int32) (p2 : Int32) (p3 : Int32) (M : Mm) : Option (Int32 × Mm) :=
  if p1 < 0 then
    some ((0 : Int32), M)
  else
    if p2 < 0 then
      some ((0 : Int32), M)
    else
      if p3 < p1 then
        some ((0 : Int32), M)
      else
        if (p3 - p1) < p2 then
          some ((0 : Int32), M)
        else
          some ((1 : Int32), M)

def F_X11_copy (this : Nat) (p1 : Int32) (p2 : Int32) (p3 : Int32) (p4 : Int32) (p5 : Int32) (M : Mm) : Option (Int32 × Mm) :=
  (isO M this 11).bind fun _ =>
  (F_X11_shelfAt this p1 M).bind fun (v3, M1) =>
  (isO M1 this 11).bind fun _ =>
  (F_X11_shelfAt this p3 M1).bind fun (v6, M4) =>
  oe v3 (
    some (((-1) : Int32), M4)) fun a7 =>
    oe v6 (
      some (((-1) : Int32), M4)) fun a8 =>
      (rdI M4 a7 8 0).bind fun v9 =>
      if v9 = 0 then
        some (((-11) : Int32), M4)
      else
        (rdI M4 a8 8 0).bind fun v11 =>
        if v11 = 0 then
          some (((-11) : Int32), M4)
        else
          (rdI M4 a7 8 0).bind fun v13 =>
          if v13 = 2 then
            (rdI M4 a8 8 0).bind fun v15 =>
            if v15 = 2 then
              (rdI M4 a7 8 1).bind fun v17 =>
              (rdI M4 a8 8 1).bind fun v18 =>
              if v17 = v18 then
                (rdI M4 a7 8 2).bind fun v20 =>
                (F_X11_isStretch p2 p5 v20 M4).bind fun (v22, M21) =>
                if v22 = 0 then
                  some (((-13) : Int32), M21)
                else
                  (rdI M21 a8 8 2).bind fun v24 =>
                  (F_X11_isStretch p4 p5 v24 M21).bind fun (v26, M25) =>
                  if v26 = 0 then
                    some (((-13) : Int32), M25)
                  else
                    (rdR M25 a7 8 3).bind fun v28 =>
                    (rdR M25 a8 8 3).bind fun v29 =>
                    v28.bind fun a30 =>
                    v29.bind fun a31 =>
                    (cpI M25 a30 p2 a31 p4 p5).bind fun M32 =>
                    some (p5, M32)
              else
                some (((-12) : Int32), M4)
            else
              some (((-12) : Int32), M4)
          else
            some (((-12) : Int32), M4)

def F_X11_sum (this : Nat) (p1 : Int32) (M : Mm) : Option (Int32 × Mm) :=
  (isO M this 11).bind fun _ =>
  (F_X11_shelfAt this p1 M).bind fun (v3, M1) =>
  oe v3 (
    some (((-1) : Int32), M1)) fun a4 =>
    (rdI M1 a4 8 0).bind fun v5 =>
    if v5 = 1 then
      (rdI M1 a4 8 4).bind fun v7 =>
      (ldS 0 v7).bind fun v8 =>
      (rdI M1 a4 8 4).bind fun v9 =>
      (ldS 1 v9).bind fun v10 =>
      (rdI M1 a4 8 4).bind fun v11 =>
      if v11 = 1 then
        (F_X11_costOf 1 0 M1).bind fun (v14, M13) =>
        some ((((100 + (10 * v8)) + v10) + v14), M13)
      else
      if v11 = 2 then
        (rdI M1 a4 8 6).bind fun v16 =>
        some ((((100 + (10 * v8)) + v10) + v16), M1)
      else
      if v11 = 3 then
        (F_X11_costOf 3 0 M1).bind fun (v19, M18) =>
        some ((2 * (((100 + (10 * v8)) + v10) + v19)), M18)
      else
      some (((100 + (10 * v8)) + v10), M1)
    else
      (rdI M1 a4 8 0).bind fun v20 =>
      if v20 = 0 then
        some (((-11) : Int32), M1)
      else
        some (((-12) : Int32), M1)

def F_X12_thrown (this : Nat) (M : Mm) : Option (Int32 × Mm) :=
  (rdI M this 12 0).bind fun v1 =>
  some (v1, M)

def F_X12_is (this : Nat) (p1 : Int32) (p2 : Int32) (p3 : Int32) (M : Mm) : Option (Int32 × Mm) :=
  if p1 < p2 then
    some ((0 : Int32), M)
  else
    if p3 < p1 then
      some ((0 : Int32), M)
    else
      some ((1 : Int32), M)

def F_X12_init_L243 (k277 : Mm → Option Mm) (x0 : Nat) : Nat → Int32 → Mm → Option Mm
  | 0, _, _ => none
  | n72 + 1, x1, M0 => if 80 ≤ x1 then
    k277  M0
  else
    (rdR M0 x0 12 1).bind fun v74 =>
    v74.bind fun a76 =>
    (stI M0 a76 (10 + x1) 4).bind fun M75 =>
    (rdR M75 x0 12 1).bind fun v77 =>
    v77.bind fun a79 =>
    (stI M75 a79 (170 + x1) 50).bind fun M78 =>
    F_X12_init_L243 k277 x0 n72 (x1 + 1) M78
def F_X12_init_L279  (x0 : Nat) : Nat → Int32 → Mm → Option Mm
  | 0, _, _ => none
  | n81 + 1, x1, M0 => if 3208 ≤ x1 then
    some M0
  else
    (rdR M0 x0 12 1).bind fun v83 =>
    v83.bind fun a85 =>
    (stI M0 a85 (4351 + x1) (-1)).bind fun M84 =>
    F_X12_init_L279 x0 n81 (x1 + 1) M84
def F_X12_init (this : Nat) (M : Mm) : Option Mm :=
  (wrI M this 12 0 0).bind fun M1 =>
  nv (mN M1) fun a2 =>
  nv (nw M1 (1, 8369)) fun M3 =>
  (wrR M3 this 12 1 (some a2)).bind fun M4 =>
  nv (mN M4) fun a5 =>
  nv (nw M4 (1, 8369)) fun M6 =>
  (wrR M6 this 12 2 (some a5)).bind fun M7 =>
  (wrZ M7 this 12 3 0).bind fun M8 =>
  (wrI M8 this 12 4 0).bind fun M9 =>
  (wrI M9 this 12 5 0).bind fun M10 =>
  (wrI M10 this 12 6 0).bind fun M11 =>
  (wrZ M11 this 12 7 0).bind fun M12 =>
  nv (mN M12) fun a13 =>
  nv (nw M12 (1, 80)) fun M14 =>
  (wrR M14 this 12 8 (some a13)).bind fun M15 =>
  (wrI M15 this 12 9 0).bind fun M16 =>
  (wrI M16 this 12 10 0).bind fun M17 =>
  (wrI M17 this 12 11 0).bind fun M18 =>
  (wrI M18 this 12 12 0).bind fun M19 =>
  (wrZ M19 this 12 13 0).bind fun M20 =>
  (wrI M20 this 12 14 0).bind fun M21 =>
  (wrZ M21 this 12 15 0).bind fun M22 =>
  (wrI M22 this 12 16 0).bind fun M23 =>
  (wrI M23 this 12 17 0).bind fun M24 =>
  (wrI M24 this 12 18 0).bind fun M25 =>
  (wrI M25 this 12 19 0).bind fun M26 =>
  (wrI M26 this 12 20 0).bind fun M27 =>
  nv (mN M27) fun a28 =>
  nv (nw M27 (1, 3)) fun M29 =>
  (wrR M29 this 12 21 (some a28)).bind fun M30 =>
  nv (mN M30) fun a31 =>
  nv (nw M30 (1, 243)) fun M32 =>
  (wrR M32 this 12 22 (some a31)).bind fun M33 =>
  nv (mN M33) fun a34 =>
  nv (nw M33 (1, 3)) fun M35 =>
  (wrR M35 this 12 23 (some a34)).bind fun M36 =>
  nv (mN M36) fun a37 =>
  nv (nw M36 (1, 3)) fun M38 =>
  (wrR M38 this 12 24 (some a37)).bind fun M39 =>
  nv (mN M39) fun a40 =>
  nv (nw M39 (1, 80)) fun M41 =>
  (wrR M41 this 12 25 (some a40)).bind fun M42 =>
  (wrI M42 this 12 26 0).bind fun M43 =>
  (wrI M43 this 12 27 0).bind fun M44 =>
  nv (mN M44) fun a45 =>
  nv (nw M44 (1, 8)) fun M46 =>
  (wrR M46 this 12 28 (some a45)).bind fun M47 =>
  nv (mN M47) fun a48 =>
  nv (nw M47 (1, 8)) fun M49 =>
  (wrR M49 this 12 29 (some a48)).bind fun M50 =>
  nv (mN M50) fun a51 =>
  nv (nw M50 (1, 8)) fun M52 =>
  (wrR M52 this 12 30 (some a51)).bind fun M53 =>
  nv (mN M53) fun a54 =>
  nv (nw M53 (1, 8)) fun M55 =>
  (wrR M55 this 12 31 (some a54)).bind fun M56 =>
  nv (mN M56) fun a57 =>
  nv (nw M56 (1, 8)) fun M58 =>
  (wrR M58 this 12 32 (some a57)).bind fun M59 =>
  nv (mN M59) fun a60 =>
  nv (nw M59 (1, 8)) fun M61 =>
  (wrR M61 this 12 33 (some a60)).bind fun M62 =>
  nv (mN M62) fun a63 =>
  nv (nw M62 (1, 8)) fun M64 =>
  (wrR M64 this 12 34 (some a63)).bind fun M65 =>
  nv (mN M65) fun a66 =>
  nv (nw M65 (1, 640)) fun M67 =>
  (wrR M67 this 12 35 (some a66)).bind fun M68 =>
  nv (mN M68) fun a69 =>
  nv (nw M68 (1, 80)) fun M70 =>
  (wrR M70 this 12 36 (some a69)).bind fun M71 =>
  F_X12_init_L243 (fun  (M80 : Mm) =>
    F_X12_init_L279  this 1000000 0 M80) this 1000000 0 M71

def F_X12_isCell (this : Nat) (p1 : Int32) (p2 : Int32) (M : Mm) : Option (Int32 × Mm) :=
  (isO M this 12).bind fun _ =>
  (F_X12_is this p1 0 9 M).bind fun (v3, M1) =>
  if v3 = 0 then
    some ((0 : Int32), M1)
  else
    (isO M1 this 12).bind fun _ =>
    (F_X12_is this p2 0 7 M1).bind fun (v7, M5) =>
    if v7 = 0 then
      some ((0 : Int32), M5)
    else
      some ((1 : Int32), M5)

def F_X12_isWater (this : Nat) (p1 : Int32) (p2 : Int32) (M : Mm) : Option (Int32 × Mm) :=
  (isO M this 12).bind fun _ =>
  (F_X12_isCell this p1 p2 M).bind fun (v3, M1) =>
  if v3 = 0 then
    some ((0 : Int32), M1)
  else
    (rdR M1 this 12 1).bind fun v5 =>
    v5.bind fun a7 =>
    (ldI M1 a7 ((10 + (8 * p1)) + p2)).bind fun v6 =>
    if v6 ≤ 0 then
      some ((0 : Int32), M1)
    else
      some ((1 : Int32), M1)

def F_X12_sea_L104 (k199 : Mm → Option (Int32 × Mm)) (x0 : Nat) (x1 : Int32) (x2 : Int32) (x3 : Int32) (x4 : Int32) : Nat → Int32 → Mm → Option (Int32 × Mm)
  | 0, _, _ => none
  | n31 + 1, x5, M0 => (rdR M0 x0 12 1).bind fun v32 =>
  v32.bind fun a34 =>
  (ldI M0 a34 0).bind fun v33 =>
  if v33 ≤ x5 then
    k199  M0
  else
    if x3 = 0 then
      if x4 = 0 then
        (rdR M0 x0 12 1).bind fun v38 =>
        v38.bind fun a40 =>
        (ldI M0 a40 (2202 + x5)).bind fun v39 =>
        if v39 = 0 then
          (rdR M0 x0 12 1).bind fun v42 =>
          v42.bind fun a44 =>
          (ldI M0 a44 (2178 + x5)).bind fun v43 =>
          (dvI x1 10).bind fun v45 =>
          (rmI x1 10).bind fun v46 =>
          (isO M0 x0 12).bind fun _ =>
          (F_X12_is x0 v43 v45 v46 M0).bind fun (v49, M47) =>
          if v49 = 0 then
            F_X12_sea_L104 k199 x0 x1 x2 x3 x4 n31 (x5 + 1) M47
          else
            (rdR M47 x0 12 1).bind fun v51 =>
            v51.bind fun a53 =>
            (ldI M47 a53 (2186 + x5)).bind fun v52 =>
            (dvI x2 10).bind fun v54 =>
            (rmI x2 10).bind fun v55 =>
            (isO M47 x0 12).bind fun _ =>
            (F_X12_is x0 v52 v54 v55 M47).bind fun (v58, M56) =>
            if v58 = 0 then
              F_X12_sea_L104 k199 x0 x1 x2 x3 x4 n31 (x5 + 1) M56
            else
              some (((-3) : Int32), M56)
        else
          F_X12_sea_L104 k199 x0 x1 x2 x3 x4 n31 (x5 + 1) M0
      else
        F_X12_sea_L104 k199 x0 x1 x2 x3 x4 n31 (x5 + 1) M0
    else
      F_X12_sea_L104 k199 x0 x1 x2 x3 x4 n31 (x5 + 1) M0
def F_X12_sea_L205  (x0 : Nat) (x1 : Int32) (x2 : Int32) (x3 : Int32) (x4 : Int32) : Nat → Int32 → Int32 → Mm → Option (Int32 × Mm)
  | 0, _, _, _ => none
  | n61 + 1, x5, x6, M0 => if 80 ≤ x6 then
    some (x5, M0)
  else
    (dvI x6 8).bind fun v63 =>
    (dvI x1 10).bind fun v64 =>
    (rmI x1 10).bind fun v65 =>
    (isO M0 x0 12).bind fun _ =>
    (F_X12_is x0 v63 v64 v65 M0).bind fun (v68, M66) =>
    if v68 = 0 then
      F_X12_sea_L205 x0 x1 x2 x3 x4 n61 x5 (x6 + 1) M66
    else
      (rmI x6 8).bind fun v70 =>
      (dvI x2 10).bind fun v71 =>
      (rmI x2 10).bind fun v72 =>
      (isO M66 x0 12).bind fun _ =>
      (F_X12_is x0 v70 v71 v72 M66).bind fun (v75, M73) =>
      if v75 = 0 then
        F_X12_sea_L205 x0 x1 x2 x3 x4 n61 x5 (x6 + 1) M73
      else
        if x3 = 2 then
          (rdR M73 x0 12 1).bind fun v98 =>
          v98.bind fun a100 =>
          (ldI M73 a100 (10 + x6)).bind fun v99 =>
          if v99 = 0 then
            F_X12_sea_L205 x0 x1 x2 x3 x4 n61 x5 (x6 + 1) M73
          else
            nv (α := Int32) (if x3 = 0 then 10 else (if x3 = 1 then 90 else 170)) fun v102 =>
            (rdR M73 x0 12 1).bind fun v104 =>
            v104.bind fun a106 =>
            (ldI M73 a106 (v102 + x6)).bind fun v105 =>
            nv (α := Int32) (if v105 = x4 then 0 else 1) fun v107 =>
            (rdR M73 x0 12 1).bind fun v109 =>
            v109.bind fun a111 =>
            (stI M73 a111 (v102 + x6) x4).bind fun M110 =>
            (rdR M110 x0 12 1).bind fun v112 =>
            v112.bind fun a114 =>
            (ldI M110 a114 (10 + x6)).bind fun v113 =>
            if v113 = 0 then
              (rdR M110 x0 12 1).bind fun v116 =>
              v116.bind fun a118 =>
              (stI M110 a118 (170 + x6) 0).bind fun M117 =>
              F_X12_sea_L205 x0 x1 x2 x3 x4 n61 (x5 + v107) (x6 + 1) M117
            else
              F_X12_sea_L205 x0 x1 x2 x3 x4 n61 (x5 + v107) (x6 + 1) M110
        else
          nv (α := Int32) (if x3 = 0 then 10 else (if x3 = 1 then 90 else 170)) fun v78 =>
          (rdR M73 x0 12 1).bind fun v80 =>
          v80.bind fun a82 =>
          (ldI M73 a82 (v78 + x6)).bind fun v81 =>
          nv (α := Int32) (if v81 = x4 then 0 else 1) fun v83 =>
          (rdR M73 x0 12 1).bind fun v85 =>
          v85.bind fun a87 =>
          (stI M73 a87 (v78 + x6) x4).bind fun M86 =>
          (rdR M86 x0 12 1).bind fun v88 =>
          v88.bind fun a90 =>
          (ldI M86 a90 (10 + x6)).bind fun v89 =>
          if v89 = 0 then
            (rdR M86 x0 12 1).bind fun v92 =>
            v92.bind fun a94 =>
            (stI M86 a94 (170 + x6) 0).bind fun M93 =>
            F_X12_sea_L205 x0 x1 x2 x3 x4 n61 (x5 + v83) (x6 + 1) M93
          else
            F_X12_sea_L205 x0 x1 x2 x3 x4 n61 (x5 + v83) (x6 + 1) M86
def F_X12_sea (this : Nat) (p1 : Int32) (p2 : Int32) (p3 : Int32) (p4 : Int32) (M : Mm) : Option (Int32 × Mm) :=
  if p1 < 0 then
    some (((-1) : Int32), M)
  else
    if p2 < 0 then
      some (((-1) : Int32), M)
    else
      (dvI p1 10).bind fun v3 =>
      (dvI p2 10).bind fun v4 =>
      (isO M this 12).bind fun _ =>
      (F_X12_isCell this v3 v4 M).bind fun (v7, M5) =>
      if v7 = 0 then
        some (((-1) : Int32), M5)
      else
        (rmI p1 10).bind fun v9 =>
        (rmI p2 10).bind fun v10 =>
        (isO M5 this 12).bind fun _ =>
        (F_X12_isCell this v9 v10 M5).bind fun (v13, M11) =>
        if v13 = 0 then
          some (((-1) : Int32), M11)
        else
          (dvI p1 10).bind fun v15 =>
          (rmI p1 10).bind fun v16 =>
          if v16 < v15 then
            some (((-1) : Int32), M11)
          else
            (dvI p2 10).bind fun v18 =>
            (rmI p2 10).bind fun v19 =>
            if v19 < v18 then
              some (((-1) : Int32), M11)
            else
              (isO M11 this 12).bind fun _ =>
              (F_X12_is this p3 0 2 M11).bind fun (v23, M21) =>
              if v23 = 0 then
                some (((-1) : Int32), M21)
              else
                nv (α := Int32) (if p3 = 0 then 4 else (if p3 = 1 then 1 else 99)) fun v25 =>
                (isO M21 this 12).bind fun _ =>
                (F_X12_is this p4 0 v25 M21).bind fun (v29, M27) =>
                if v29 = 0 then
                  some (((-1) : Int32), M27)
                else
                  F_X12_sea_L104 (fun  (M60 : Mm) =>
                    F_X12_sea_L205  this p1 p2 p3 p4 1000000 0 0 M60) this p1 p2 p3 p4 1000000 0 M27

def F_X12_stream (this : Nat) (p1 : Int32) (p2 : Int32) (p3 : Int32) (p4 : Int32) (p5 : Int32) (p6 : Int32) (M : Mm) : Option (Int32 × Mm) :=
  (isO M this 12).bind fun _ =>
  (F_X12_isCell this p1 p2 M).bind fun (v3, M1) =>
  if v3 = 0 then
    some (((-1) : Int32), M1)
  else
    (isO M1 this 12).bind fun _ =>
    (F_X12_is this p3 0 3 M1).bind fun (v7, M5) =>
    if v7 = 0 then
      some (((-1) : Int32), M5)
    else
      (isO M5 this 12).bind fun _ =>
      (F_X12_is this p4 (-2) 2 M5).bind fun (v11, M9) =>
      if v11 = 0 then
        some (((-1) : Int32), M9)
      else
        (isO M9 this 12).bind fun _ =>
        (F_X12_is this p5 (-2) 2 M9).bind fun (v15, M13) =>
        if v15 = 0 then
          some (((-1) : Int32), M13)
        else
          (rdR M13 this 12 1).bind fun v17 =>
          nv (α := Int32) (if p6 = 0 then 250 else 890) fun v18 =>
          v17.bind fun a21 =>
          (stI M13 a21 (v18 + ((4 * ((8 * p1) + p2)) + p3)) p4).bind fun M20 =>
          (rdR M20 this 12 1).bind fun v22 =>
          nv (α := Int32) (if p6 = 0 then 570 else 1210) fun v23 =>
          v22.bind fun a26 =>
          (stI M20 a26 (v23 + ((4 * ((8 * p1) + p2)) + p3)) p5).bind fun M25 =>
          some ((0 : Int32), M25)

def F_X12_salt (this : Nat) (p1 : Int32) (p2 : Int32) (p3 : Int32) (p4 : Int32) (M : Mm) : Option (Int32 × Mm) :=
  (isO M this 12).bind fun _ =>
  (F_X12_isCell this p1 p2 M).bind fun (v3, M1) =>
  if v3 = 0 then
    some (((-1) : Int32), M1)
  else
    (isO M1 this 12).bind fun _ =>
    (F_X12_is this p3 0 3 M1).bind fun (v7, M5) =>
    if v7 = 0 then
      some (((-1) : Int32), M5)
    else
      (isO M5 this 12).bind fun _ =>
      (F_X12_is this p4 0 1001 M5).bind fun (v11, M9) =>
      if v11 = 0 then
        some (((-1) : Int32), M9)
      else
        nv (α := Int32) (if 1000 ≤ p4 then 1850 else 1530) fun v13 =>
        nv (α := Int32) (if 1000 ≤ p4 then (1001 - p4) else p4) fun v15 =>
        (rdR M9 this 12 1).bind fun v17 =>
        v17.bind fun a19 =>
        (ldI M9 a19 ((v13 + (4 * ((8 * p1) + p2))) + p3)).bind fun v18 =>
        (rdR M9 this 12 1).bind fun v20 =>
        v20.bind fun a22 =>
        (stI M9 a22 ((v13 + (4 * ((8 * p1) + p2))) + p3) v15).bind fun M21 =>
        if v18 = v15 then
          some ((0 : Int32), M21)
        else
          some ((1 : Int32), M21)

def F_X12_cell (this : Nat) (p1 : Int32) (p2 : Int32) (p3 : Int32) (p4 : Int32) (M : Mm) : Option (Int32 × Mm) :=
  (isO M this 12).bind fun _ =>
  (F_X12_isCell this p1 p2 M).bind fun (v3, M1) =>
  if v3 = 0 then
    some (((-1) : Int32), M1)
  else
    (isO M1 this 12).bind fun _ =>
    (F_X12_is this p4 0 8 M1).bind fun (v7, M5) =>
    if v7 = 0 then
      some (((-1) : Int32), M5)
    else
      jp (fun  (M10 : Mm) =>
      if p4 = 0 then
        (rdR M10 this 12 1).bind fun v12 =>
        v12.bind fun a14 =>
        (ldI M10 a14 (10 + ((8 * p1) + p2))).bind fun v13 =>
        some (v13, M10)
      else
      if p4 = 1 then
        (rdR M10 this 12 1).bind fun v16 =>
        v16.bind fun a18 =>
        (ldI M10 a18 (90 + ((8 * p1) + p2))).bind fun v17 =>
        some (v17, M10)
      else
      if p4 = 2 then
        (rdR M10 this 12 1).bind fun v20 =>
        v20.bind fun a22 =>
        (ldI M10 a22 (170 + ((8 * p1) + p2))).bind fun v21 =>
        some (v21, M10)
      else
      if p4 = 3 then
        (rdR M10 this 12 1).bind fun v24 =>
        v24.bind fun a26 =>
        (ldI M10 a26 ((250 + (4 * ((8 * p1) + p2))) + p3)).bind fun v25 =>
        some (v25, M10)
      else
      if p4 = 4 then
        (rdR M10 this 12 1).bind fun v28 =>
        v28.bind fun a30 =>
        (ldI M10 a30 ((570 + (4 * ((8 * p1) + p2))) + p3)).bind fun v29 =>
        some (v29, M10)
      else
      if p4 = 5 then
        (rdR M10 this 12 1).bind fun v32 =>
        v32.bind fun a34 =>
        (ldI M10 a34 ((890 + (4 * ((8 * p1) + p2))) + p3)).bind fun v33 =>
        some (v33, M10)
      else
      if p4 = 6 then
        (rdR M10 this 12 1).bind fun v36 =>
        v36.bind fun a38 =>
        (ldI M10 a38 ((1210 + (4 * ((8 * p1) + p2))) + p3)).bind fun v37 =>
        some (v37, M10)
      else
      if p4 = 7 then
        (rdR M10 this 12 1).bind fun v40 =>
        v40.bind fun a42 =>
        (ldI M10 a42 ((1530 + (4 * ((8 * p1) + p2))) + p3)).bind fun v41 =>
        some (v41, M10)
      else
      (rdR M10 this 12 1).bind fun v43 =>
      v43.bind fun a45 =>
      (ldI M10 a45 ((1850 + (4 * ((8 * p1) + p2))) + p3)).bind fun v44 =>
      some (v44, M10)) fun k9 =>
      if p4 ≤ 2 then
        k9  M5
      else
        (isO M5 this 12).bind fun _ =>
        (F_X12_is this p3 0 3 M5).bind fun (v50, M48) =>
        if v50 = 0 then
          some (((-1) : Int32), M48)
        else
          k9  M48

def F_X12_isGlider (this : Nat) (p1 : Int32) (M : Mm) : Option (Int32 × Mm) :=
  (rdR M this 12 1).bind fun v1 =>
  v1.bind fun a3 =>
  (ldI M a3 0).bind fun v2 =>
  (isO M this 12).bind fun _ =>
  (F_X12_is this p1 0 (v2 - 1) M).bind fun (v6, M4) =>
  (ckZ v6).bind fun _ =>
  some (v6, M4)

def F_X12_isUp (this : Nat) (p1 : Int32) (M : Mm) : Option (Int32 × Mm) :=
  (rdR M this 12 1).bind fun v1 =>
  v1.bind fun a3 =>
  (ldI M a3 (2202 + p1)).bind fun v2 =>
  if v2 = 0 then
    some ((1 : Int32), M)
  else
    some ((0 : Int32), M)

def F_X12_sinks (this : Nat) (p1 : Int32) (M : Mm) : Option (Int32 × Mm) :=
  (rdR M this 12 1).bind fun v1 =>
  v1.bind fun a3 =>
  (ldI M a3 (2170 + p1)).bind fun v2 =>
  if v2 = 0 then
    some ((2 : Int32), M)
  else
    (rdR M this 12 1).bind fun v5 =>
    v5.bind fun a7 =>
    (ldI M a7 (2170 + p1)).bind fun v6 =>
    if v6 = 2 then
      some ((3 : Int32), M)
    else
      some ((1 : Int32), M)

def F_X12_goes (this : Nat) (p1 : Int32) (M : Mm) : Option (Int32 × Mm) :=
  (rdR M this 12 1).bind fun v1 =>
  v1.bind fun a3 =>
  (ldI M a3 (2170 + p1)).bind fun v2 =>
  if v2 = 0 then
    some ((2 : Int32), M)
  else
    (rdR M this 12 1).bind fun v5 =>
    v5.bind fun a7 =>
    (ldI M a7 (2170 + p1)).bind fun v6 =>
    if v6 = 1 then
      some ((3 : Int32), M)
    else
      (rdR M this 12 1).bind fun v9 =>
      v9.bind fun a11 =>
      (ldI M a11 (2170 + p1)).bind fun v10 =>
      if v10 = 2 then
        some ((1 : Int32), M)
      else
        some ((4 : Int32), M)

def F_X12_dry (this : Nat) (p1 : Int32) (p2 : Int32) (M : Mm) : Option (Int32 × Mm) :=
  if p1 = 0 then
    some ((4 + (2 * p2)), M)
  else
    if p1 = 1 then
      some ((2 + p2), M)
    else
      nv (α := Int32) (if p1 = 2 then (2 * p2) else p2) fun v3 =>
      some ((3 + v3), M)

def F_X12_cost (this : Nat) (p1 : Int32) (p2 : Int32) (M : Mm) : Option (Int32 × Mm) :=
  (rdR M this 12 1).bind fun v1 =>
  v1.bind fun a3 =>
  (ldI M a3 (2170 + p1)).bind fun v2 =>
  (isO M this 12).bind fun _ =>
  (F_X12_dry this v2 p2 M).bind fun (v6, M4) =>
  (rdR M4 this 12 1).bind fun v7 =>
  v7.bind fun a9 =>
  (ldI M4 a9 (2210 + p1)).bind fun v8 =>
  nv (α := Int32) (if v8 = 1 then 3 else 0) fun v10 =>
  some ((v6 + v10), M4)

def F_X12_layerFor (this : Nat) (p1 : Int32) (p2 : Int32) (M : Mm) : Option (Int32 × Mm) :=
  (isO M this 12).bind fun _ =>
  (F_X12_sinks this p1 M).bind fun (v3, M1) =>
  if v3 ≤ p2 then
    (isO M1 this 12).bind fun _ =>
    (F_X12_sinks this p1 M1).bind fun (v7, M5) =>
    some (v7, M5)
  else
    some (p2, M1)

def F_X12_glider (this : Nat) (p1 : Int32) (p2 : Int32) (p3 : Int32) (p4 : Int32) (M : Mm) : Option (Int32 × Mm) :=
  (isO M this 12).bind fun _ =>
  (F_X12_is this p1 0 3 M).bind fun (v3, M1) =>
  if v3 = 0 then
    some (((-1) : Int32), M1)
  else
    (isO M1 this 12).bind fun _ =>
    (F_X12_isCell this p2 p3 M1).bind fun (v7, M5) =>
    if v7 = 0 then
      some (((-1) : Int32), M5)
    else
      (isO M5 this 12).bind fun _ =>
      (F_X12_is this p4 0 999 M5).bind fun (v11, M9) =>
      if v11 = 0 then
        some (((-1) : Int32), M9)
      else
        (rdR M9 this 12 1).bind fun v13 =>
        v13.bind fun a15 =>
        (ldI M9 a15 0).bind fun v14 =>
        if v14 = 8 then
          some (((-2) : Int32), M9)
        else
          (isO M9 this 12).bind fun _ =>
          (F_X12_isWater this p2 p3 M9).bind fun (v19, M17) =>
          if v19 = 0 then
            some (((-3) : Int32), M17)
          else
            (rdR M17 this 12 1).bind fun v21 =>
            v21.bind fun a23 =>
            (stI M17 a23 (2170 + v14) p1).bind fun M22 =>
            (rdR M22 this 12 1).bind fun v24 =>
            v24.bind fun a26 =>
            (stI M22 a26 (2178 + v14) p2).bind fun M25 =>
            (rdR M25 this 12 1).bind fun v27 =>
            v27.bind fun a29 =>
            (stI M25 a29 (2186 + v14) p3).bind fun M28 =>
            (rdR M28 this 12 1).bind fun v30 =>
            v30.bind fun a32 =>
            (stI M28 a32 (2194 + v14) p4).bind fun M31 =>
            (rdR M31 this 12 1).bind fun v33 =>
            v33.bind fun a35 =>
            (stI M31 a35 (2226 + v14) (-4)).bind fun M34 =>
            (rdR M34 this 12 1).bind fun v36 =>
            v36.bind fun a38 =>
            (stI M34 a38 (2234 + v14) (-4)).bind fun M37 =>
            (rdR M37 this 12 1).bind fun v39 =>
            v39.bind fun a41 =>
            (stI M37 a41 (2250 + v14) (-4)).bind fun M40 =>
            (rdR M40 this 12 1).bind fun v42 =>
            v42.bind fun a44 =>
            (ldI M40 a44 0).bind fun v43 =>
            (stI M40 a44 0 (v43 + 1)).bind fun M45 =>
            some (v14, M45)

def F_X12_about (this : Nat) (p1 : Int32) (p2 : Int32) (M : Mm) : Option (Int32 × Mm) :=
  (isO M this 12).bind fun _ =>
  (F_X12_isGlider this p1 M).bind fun (v3, M1) =>
  if v3 = 0 then
    some (((-1) : Int32), M1)
  else
    if p2 = 0 then
      (rdR M1 this 12 1).bind fun v6 =>
      v6.bind fun a8 =>
      (ldI M1 a8 (2170 + p1)).bind fun v7 =>
      some (v7, M1)
    else
    if p2 = 1 then
      (rdR M1 this 12 1).bind fun v10 =>
      v10.bind fun a12 =>
      (ldI M1 a12 (2178 + p1)).bind fun v11 =>
      some (v11, M1)
    else
    if p2 = 2 then
      (rdR M1 this 12 1).bind fun v14 =>
      v14.bind fun a16 =>
      (ldI M1 a16 (2186 + p1)).bind fun v15 =>
      some (v15, M1)
    else
    if p2 = 3 then
      (rdR M1 this 12 1).bind fun v18 =>
      v18.bind fun a20 =>
      (ldI M1 a20 (2194 + p1)).bind fun v19 =>
      some (v19, M1)
    else
    if p2 = 4 then
      (rdR M1 this 12 1).bind fun v22 =>
      v22.bind fun a24 =>
      (ldI M1 a24 (2202 + p1)).bind fun v23 =>
      some (v23, M1)
    else
    if p2 = 5 then
      (rdR M1 this 12 1).bind fun v26 =>
      v26.bind fun a28 =>
      (ldI M1 a28 (2210 + p1)).bind fun v27 =>
      some (v27, M1)
    else
    if p2 = 6 then
      (rdR M1 this 12 1).bind fun v30 =>
      v30.bind fun a32 =>
      (ldI M1 a32 (2218 + p1)).bind fun v31 =>
      some (v31, M1)
    else
    if p2 = 7 then
      (rdR M1 this 12 1).bind fun v34 =>
      v34.bind fun a36 =>
      (ldI M1 a36 (2226 + p1)).bind fun v35 =>
      some (v35, M1)
    else
    if p2 = 8 then
      (rdR M1 this 12 1).bind fun v38 =>
      v38.bind fun a40 =>
      (ldI M1 a40 (2234 + p1)).bind fun v39 =>
      some (v39, M1)
    else
    if p2 = 9 then
      (rdR M1 this 12 1).bind fun v42 =>
      v42.bind fun a44 =>
      (ldI M1 a44 (2242 + p1)).bind fun v43 =>
      some (v43, M1)
    else
    if p2 = 10 then
      (rdR M1 this 12 1).bind fun v46 =>
      v46.bind fun a48 =>
      (ldI M1 a48 (2250 + p1)).bind fun v47 =>
      some (v47, M1)
    else
    some (((-1) : Int32), M1)

def F_X12_can (this : Nat) (p1 : Int32) (p2 : Int32) (M : Mm) : Option (Int32 × Mm) :=
  (isO M this 12).bind fun _ =>
  (F_X12_isGlider this p1 M).bind fun (v3, M1) =>
  if v3 = 0 then
    some (((-1) : Int32), M1)
  else
    (isO M1 this 12).bind fun _ =>
    (F_X12_is this p2 0 5 M1).bind fun (v7, M5) =>
    if v7 = 0 then
      some (((-1) : Int32), M5)
    else
      if p2 = 0 then
        (isO M5 this 12).bind fun _ =>
        (F_X12_sinks this p1 M5).bind fun (v23, M21) =>
        some (v23, M21)
      else
        if p2 = 1 then
          (isO M5 this 12).bind fun _ =>
          (F_X12_goes this p1 M5).bind fun (v20, M18) =>
          some (v20, M18)
        else
          (isO M5 this 12).bind fun _ =>
          (F_X12_sinks this p1 M5).bind fun (v13, M11) =>
          if (p2 - 2) ≤ v13 then
            (isO M11 this 12).bind fun _ =>
            (F_X12_cost this p1 (p2 - 2) M11).bind fun (v17, M15) =>
            some (v17, M15)
          else
            some (((-3) : Int32), M11)

def F_X12_leak (this : Nat) (p1 : Int32) (p2 : Int32) (M : Mm) : Option (Int32 × Mm) :=
  (isO M this 12).bind fun _ =>
  (F_X12_isGlider this p1 M).bind fun (v3, M1) =>
  if v3 = 0 then
    some (((-1) : Int32), M1)
  else
    (rdR M1 this 12 1).bind fun v5 =>
    v5.bind fun a7 =>
    (ldI M1 a7 (2210 + p1)).bind fun v6 =>
    (rdR M1 this 12 1).bind fun v8 =>
    nv (α := Int32) (if p2 = 0 then 0 else 1) fun v9 =>
    v8.bind fun a12 =>
    (stI M1 a12 (2210 + p1) v9).bind fun M11 =>
    (rdR M11 this 12 1).bind fun v13 =>
    v13.bind fun a15 =>
    (ldI M11 a15 (2210 + p1)).bind fun v14 =>
    if v6 = v14 then
      some ((0 : Int32), M11)
    else
      some ((1 : Int32), M11)

def F_X12_abs (this : Nat) (p1 : Int32) (M : Mm) : Option (Int32 × Mm) :=
  if 0 ≤ p1 then
    some (p1, M)
  else
    some ((-p1), M)

def F_X12_step (this : Nat) (p1 : Int32) (p2 : Int32) (M : Mm) : Option Mm :=
  (rdI M this 12 4).bind fun v1 =>
  (rdI M this 12 5).bind fun v2 =>
  (isO M this 12).bind fun _ =>
  (F_X12_isWater this (v1 + p1) (v2 + p2) M).bind fun (v5, M3) =>
  if v5 = 0 then
    some M3
  else
    (rdI M3 this 12 4).bind fun v7 =>
    (wrI M3 this 12 4 (v7 + p1)).bind fun M8 =>
    (rdI M8 this 12 5).bind fun v9 =>
    (wrI M8 this 12 5 (v9 + p2)).bind fun M10 =>
    some M10

def F_X12_steps_L2 (k31 : Mm → Option Mm) (x0 : Nat) (x1 : Int32) (x2 : Int32) : Nat → Int32 → Mm → Option Mm
  | 0, _, _ => none
  | n1 + 1, x3, M0 => (isO M0 x0 12).bind fun _ =>
  (F_X12_abs x0 x1 M0).bind fun (v4, M2) =>
  if v4 ≤ x3 then
    k31  M2
  else
    nv (α := Int32) (if 0 ≤ x1 then 1 else (-1)) fun v6 =>
    (isO M2 x0 12).bind fun _ =>
    (F_X12_step x0 v6 0 M2).bind fun M8 =>
    F_X12_steps_L2 k31 x0 x1 x2 n1 (x3 + 1) M8
def F_X12_steps_L33  (x0 : Nat) (x2 : Int32) : Nat → Int32 → Mm → Option Mm
  | 0, _, _ => none
  | n12 + 1, x3, M0 => (isO M0 x0 12).bind fun _ =>
  (F_X12_abs x0 x2 M0).bind fun (v15, M13) =>
  if v15 ≤ x3 then
    some M13
  else
    nv (α := Int32) (if 0 ≤ x2 then 1 else (-1)) fun v17 =>
    (isO M13 x0 12).bind fun _ =>
    (F_X12_step x0 0 v17 M13).bind fun M19 =>
    F_X12_steps_L33 x0 x2 n12 (x3 + 1) M19
def F_X12_steps (this : Nat) (p1 : Int32) (p2 : Int32) (M : Mm) : Option Mm :=
  F_X12_steps_L2 (fun  (M11 : Mm) =>
    F_X12_steps_L33  this p2 1000000 0 M11) this p1 p2 1000000 0 M

def F_X12_isNet (this : Nat) (p1 : Int32) (M : Mm) : Option (Int32 × Mm) :=
  (rdR M this 12 1).bind fun v1 =>
  (rdI M this 12 4).bind fun v2 =>
  (rdI M this 12 5).bind fun v3 =>
  v1.bind fun a5 =>
  (ldI M a5 ((1850 + (4 * ((8 * v2) + v3))) + p1)).bind fun v4 =>
  if v4 = 1 then
    (rdR M this 12 1).bind fun v7 =>
    (rdI M this 12 4).bind fun v8 =>
    (rdI M this 12 5).bind fun v9 =>
    v7.bind fun a11 =>
    (ldI M a11 ((10 + (8 * v8)) + v9)).bind fun v10 =>
    if v10 ≤ p1 then
      some ((0 : Int32), M)
    else
      some ((1 : Int32), M)
  else
    some ((0 : Int32), M)

def F_X12_sink_L12  (x0 : Nat) (x1 : Int32) (x2 : Int32) : Nat → Int32 → Mm → Option Mm
  | 0, _, _ => none
  | n3 + 1, x3, M0 => if x1 < x3 then
    some M0
  else
    (rdI M0 x0 12 7).bind fun v5 =>
    if v5 = 0 then
      (rdI M0 x0 12 4).bind fun v7 =>
      (rdI M0 x0 12 5).bind fun v8 =>
      (rdR M0 x0 12 1).bind fun v9 =>
      v9.bind fun a11 =>
      (ldI M0 a11 (10 + ((8 * v7) + v8))).bind fun v10 =>
      if x3 < v10 then
        (wrI M0 x0 12 6 x3).bind fun M13 =>
        (rdR M13 x0 12 1).bind fun v14 =>
        nv (α := Int32) (if x2 = 0 then 250 else 890) fun v15 =>
        v14.bind fun a18 =>
        (ldI M13 a18 ((v15 + (4 * ((8 * v7) + v8))) + x3)).bind fun v17 =>
        (rdR M13 x0 12 1).bind fun v19 =>
        nv (α := Int32) (if x2 = 0 then 570 else 1210) fun v20 =>
        v19.bind fun a23 =>
        (ldI M13 a23 ((v20 + (4 * ((8 * v7) + v8))) + x3)).bind fun v22 =>
        (isO M13 x0 12).bind fun _ =>
        (F_X12_steps x0 v17 v22 M13).bind fun M24 =>
        if x2 = 0 then
          (isO M24 x0 12).bind fun _ =>
          (F_X12_isNet x0 x3 M24).bind fun (v30, M28) =>
          nv (α := Int32) (if v30 = 0 then 0 else 1) fun v31 =>
          (wrZ M28 x0 12 7 v31).bind fun M33 =>
          F_X12_sink_L12 x0 x1 x2 n3 (x3 + 1) M33
        else
          (wrZ M24 x0 12 7 0).bind fun M27 =>
          F_X12_sink_L12 x0 x1 x2 n3 (x3 + 1) M27
      else
        some M0
    else
      some M0
def F_X12_sink (this : Nat) (p1 : Int32) (p2 : Int32) (M : Mm) : Option Mm :=
  (wrI M this 12 6 0).bind fun M1 =>
  (wrZ M1 this 12 7 0).bind fun M2 =>
  F_X12_sink_L12  this p1 p2 1000000 0 M2

def F_X12_isHeading (this : Nat) (p1 : Int32) (p2 : Int32) (p3 : Int32) (M : Mm) : Option (Int32 × Mm) :=
  (isO M this 12).bind fun _ =>
  (F_X12_is this p2 (-4) 4 M).bind fun (v3, M1) =>
  if v3 = 0 then
    some ((0 : Int32), M1)
  else
    (isO M1 this 12).bind fun _ =>
    (F_X12_is this p3 (-4) 4 M1).bind fun (v7, M5) =>
    if v7 = 0 then
      some ((0 : Int32), M5)
    else
      (isO M5 this 12).bind fun _ =>
      (F_X12_abs this p2 M5).bind fun (v11, M9) =>
      (isO M9 this 12).bind fun _ =>
      (F_X12_abs this p3 M9).bind fun (v14, M12) =>
      (isO M12 this 12).bind fun _ =>
      (F_X12_goes this p1 M12).bind fun (v17, M15) =>
      if v17 < (v11 + v14) then
        some ((0 : Int32), M15)
      else
        some ((1 : Int32), M15)

def F_X12_besideOf (this : Nat) (p1 : Int32) (p2 : Int32) (M : Mm) : Option (Int32 × Mm) :=
  (dvI p1 8).bind fun v1 =>
  nv (α := Int32) (if p2 = 0 then 1 else (if p2 = 2 then (-1) else 0)) fun v2 =>
  (rmI p1 8).bind fun v4 =>
  nv (α := Int32) (if p2 = 1 then 1 else (if p2 = 3 then (-1) else 0)) fun v5 =>
  (isO M this 12).bind fun _ =>
  (F_X12_isCell this (v1 + v2) (v4 + v5) M).bind fun (v9, M7) =>
  if v9 = 0 then
    some (((-1) : Int32), M7)
  else
    some (((8 * (v1 + v2)) + (v4 + v5)), M7)

def F_X12_measure_L230  (x0 : Nat) (x2 : Int32) : Nat → Int32 → Mm → Option Mm
  | 0, _, _ => none
  | n31 + 1, x6, M0 => if 4 ≤ x6 then
    some M0
  else
    (isO M0 x0 12).bind fun _ =>
    (F_X12_besideOf x0 x2 x6 M0).bind fun (v35, M33) =>
    if v35 < 0 then
      F_X12_measure_L230 x0 x2 n31 (x6 + 1) M33
    else
      (rdR M33 x0 12 1).bind fun v37 =>
      (isO M33 x0 12).bind fun _ =>
      (F_X12_besideOf x0 x2 x6 M33).bind fun (v40, M38) =>
      v37.bind fun a42 =>
      (ldI M38 a42 (170 + v40)).bind fun v41 =>
      (dvI v41 2).bind fun v43 =>
      (stI M38 a42 (170 + v40) v43).bind fun M44 =>
      F_X12_measure_L230 x0 x2 n31 (x6 + 1) M44
def F_X12_measure (this : Nat) (p1 : Int32) (M : Mm) : Option Mm :=
  (rdI M this 12 4).bind fun v1 =>
  (rdI M this 12 5).bind fun v2 =>
  (rdI M this 12 6).bind fun v3 =>
  (rdR M this 12 1).bind fun v4 =>
  v4.bind fun a6 =>
  (ldI M a6 (10 + ((8 * v1) + v2))).bind fun v5 =>
  jp (fun (s8 : Int32) (M9 : Mm) =>
  (rdR M9 this 12 1).bind fun v10 =>
  v10.bind fun a12 =>
  (ldI M9 a12 ((1530 + (4 * ((8 * v1) + v2))) + s8)).bind fun v11 =>
  (rdR M9 this 12 1).bind fun v13 =>
  v13.bind fun a15 =>
  (ldI M9 a15 (2218 + p1)).bind fun v14 =>
  (rdR M9 this 12 1).bind fun v16 =>
  v16.bind fun a18 =>
  (ldI M9 a18 2).bind fun v17 =>
  jp (fun  (M20 : Mm) =>
  (rdR M20 this 12 1).bind fun v21 =>
  v21.bind fun a23 =>
  (stI M20 a23 (2250 + p1) (v11 + (3 * v14))).bind fun M22 =>
  (rdR M22 this 12 1).bind fun v24 =>
  v24.bind fun a26 =>
  (ldI M22 a26 (2218 + p1)).bind fun v25 =>
  (stI M22 a26 (2218 + p1) (v25 + 1)).bind fun M27 =>
  (rdR M27 this 12 1).bind fun v28 =>
  v28.bind fun a30 =>
  (stI M27 a30 (170 + ((8 * v1) + v2)) 0).bind fun M29 =>
  F_X12_measure_L230  this ((8 * v1) + v2) 1000000 0 M29) fun k19 =>
  if 200 ≤ v17 then
    k19  M9
  else
    (rdR M9 this 12 1).bind fun v47 =>
    v47.bind fun a49 =>
    (stI M9 a49 (2270 + v17) p1).bind fun M48 =>
    (rdR M48 this 12 1).bind fun v50 =>
    (rdR M48 this 12 1).bind fun v51 =>
    v51.bind fun a53 =>
    (ldI M48 a53 1).bind fun v52 =>
    v50.bind fun a55 =>
    (stI M48 a55 (2470 + v17) v52).bind fun M54 =>
    (rdR M54 this 12 1).bind fun v56 =>
    v56.bind fun a58 =>
    (stI M54 a58 (2670 + v17) ((8 * v1) + v2)).bind fun M57 =>
    (rdR M57 this 12 1).bind fun v59 =>
    v59.bind fun a61 =>
    (stI M57 a61 (2870 + v17) s8).bind fun M60 =>
    (rdR M60 this 12 1).bind fun v62 =>
    (rdR M60 this 12 1).bind fun v63 =>
    v63.bind fun a65 =>
    (ldI M60 a65 (2218 + p1)).bind fun v64 =>
    v62.bind fun a67 =>
    (stI M60 a67 (3070 + v17) v64).bind fun M66 =>
    (rdR M66 this 12 1).bind fun v68 =>
    v68.bind fun a70 =>
    (stI M66 a70 (3270 + v17) (v11 + (3 * v14))).bind fun M69 =>
    (rdR M69 this 12 1).bind fun v71 =>
    v71.bind fun a73 =>
    (ldI M69 a73 2).bind fun v72 =>
    (stI M69 a73 2 (v72 + 1)).bind fun M74 =>
    k19  M74) fun k7 =>
  if v5 ≤ v3 then
    (rdR M this 12 1).bind fun v77 =>
    v77.bind fun a79 =>
    (ldI M a79 (10 + ((8 * v1) + v2))).bind fun v78 =>
    k7 (v78 - 1) M
  else
    (rdI M this 12 6).bind fun v80 =>
    k7 v80 M

def F_X12_nearer (this : Nat) (p1 : Int32) (p2 : Int32) (p3 : Int32) (M : Mm) : Option (Int32 × Mm) :=
  if p2 ≤ p3 then
    if p3 ≤ p2 then
      some (p1, M)
    else
      if p1 ≤ (-2) then
        some (p1, M)
      else
        some ((p1 - 1), M)
  else
    if 2 ≤ p1 then
      if p3 ≤ p2 then
        some (p1, M)
      else
        if p1 ≤ (-2) then
          some (p1, M)
        else
          some ((p1 - 1), M)
    else
      some ((p1 + 1), M)

def F_X12_learn_L73 (k142 : Int32 → Int32 → Mm → Option Mm) (x0 : Nat) (x1 : Int32) (x6 : Int32) (x7 : Int32) : Nat → Int32 → Int32 → Int32 → Mm → Option Mm
  | 0, _, _, _, _ => none
  | n13 + 1, x8, x9, x10, M0 => (rdI M0 x0 12 6).bind fun v14 =>
  if v14 < x10 then
    k142 x8 x9 M0
  else
    (rdR M0 x0 12 1).bind fun v16 =>
    v16.bind fun a18 =>
    (ldI M0 a18 (10 + x1)).bind fun v17 =>
    if v17 ≤ x10 then
      k142 x8 x9 M0
    else
      (rdR M0 x0 12 1).bind fun v20 =>
      v20.bind fun a22 =>
      (ldI M0 a22 ((890 + (4 * x1)) + x10)).bind fun v21 =>
      (rdR M0 x0 12 1).bind fun v23 =>
      v23.bind fun a25 =>
      (ldI M0 a25 ((1210 + (4 * x1)) + x10)).bind fun v24 =>
      F_X12_learn_L73 k142 x0 x1 x6 x7 n13 (x8 + v21) (x9 + v24) (x10 + 1) M0
def F_X12_learn_L145  (x0 : Nat) (x1 : Int32) (x6 : Int32) (x7 : Int32) (x8 : Int32) (x9 : Int32) : Nat → Int32 → Mm → Option Mm
  | 0, _, _ => none
  | n29 + 1, x10, M0 => (rdI M0 x0 12 6).bind fun v30 =>
  if v30 < x10 then
    some M0
  else
    (rdR M0 x0 12 1).bind fun v32 =>
    v32.bind fun a34 =>
    (ldI M0 a34 (10 + x1)).bind fun v33 =>
    if v33 ≤ x10 then
      some M0
    else
      (rdR M0 x0 12 1).bind fun v36 =>
      (rdR M0 x0 12 1).bind fun v37 =>
      v37.bind fun a39 =>
      (ldI M0 a39 ((890 + (4 * x1)) + x10)).bind fun v38 =>
      (isO M0 x0 12).bind fun _ =>
      (F_X12_nearer x0 v38 x6 x8 M0).bind fun (v42, M40) =>
      v36.bind fun a44 =>
      (stI M40 a44 ((890 + (4 * x1)) + x10) v42).bind fun M43 =>
      (rdR M43 x0 12 1).bind fun v45 =>
      (rdR M43 x0 12 1).bind fun v46 =>
      v46.bind fun a48 =>
      (ldI M43 a48 ((1210 + (4 * x1)) + x10)).bind fun v47 =>
      (isO M43 x0 12).bind fun _ =>
      (F_X12_nearer x0 v47 x7 x9 M43).bind fun (v51, M49) =>
      v45.bind fun a53 =>
      (stI M49 a53 ((1210 + (4 * x1)) + x10) v51).bind fun M52 =>
      F_X12_learn_L145 x0 x1 x6 x7 x8 x9 n29 (x10 + 1) M52
def F_X12_learn (this : Nat) (p1 : Int32) (p2 : Int32) (p3 : Int32) (M : Mm) : Option Mm :=
  (rdI M this 12 4).bind fun v1 =>
  (rdI M this 12 5).bind fun v2 =>
  (dvI p1 8).bind fun v3 =>
  (wrI M this 12 4 v3).bind fun M4 =>
  (rmI p1 8).bind fun v5 =>
  (wrI M4 this 12 5 v5).bind fun M6 =>
  (isO M6 this 12).bind fun _ =>
  (F_X12_steps this p2 p3 M6).bind fun M7 =>
  (rdI M7 this 12 4).bind fun v9 =>
  (rdI M7 this 12 5).bind fun v10 =>
  (wrI M7 this 12 4 v1).bind fun M11 =>
  (wrI M11 this 12 5 v2).bind fun M12 =>
  F_X12_learn_L73 (fun (y26 : Int32) (y27 : Int32) (M28 : Mm) =>
    F_X12_learn_L145  this p1 (v1 - v9) (v2 - v10) y26 y27 1000000 0 M28) this p1 (v1 - v9) (v2 - v10) 1000000 0 0 0 M12

def F_X12_dives (this : Nat) (p1 : Int32) (p2 : Int32) (p3 : Int32) (p4 : Int32) (M : Mm) : Option (Int32 × Mm) :=
  (rdR M this 12 1).bind fun v1 =>
  v1.bind fun a3 =>
  (ldI M a3 (2178 + p1)).bind fun v2 =>
  (rdR M this 12 1).bind fun v4 =>
  v4.bind fun a6 =>
  (ldI M a6 (2186 + p1)).bind fun v5 =>
  (rdR M this 12 1).bind fun v7 =>
  v7.bind fun a9 =>
  (ldI M a9 (2194 + p1)).bind fun v8 =>
  (isO M this 12).bind fun _ =>
  (F_X12_cost this p1 p2 M).bind fun (v12, M10) =>
  (stI M10 a9 (2194 + p1) (v8 - v12)).bind fun M13 =>
  (rdR M13 this 12 1).bind fun v14 =>
  v14.bind fun a16 =>
  (ldI M13 a16 (2242 + p1)).bind fun v15 =>
  (stI M13 a16 (2242 + p1) (v15 + 1)).bind fun M17 =>
  (rdR M17 this 12 1).bind fun v18 =>
  v18.bind fun a20 =>
  (ldI M17 a20 (2178 + p1)).bind fun v19 =>
  (wrI M17 this 12 4 v19).bind fun M21 =>
  (rdR M21 this 12 1).bind fun v22 =>
  v22.bind fun a24 =>
  (ldI M21 a24 (2186 + p1)).bind fun v23 =>
  (wrI M21 this 12 5 v23).bind fun M25 =>
  (isO M25 this 12).bind fun _ =>
  (F_X12_sink this p2 0 M25).bind fun M26 =>
  (rdI M26 this 12 7).bind fun v28 =>
  jp (fun  (M30 : Mm) =>
  (rdR M30 this 12 1).bind fun v31 =>
  (rdI M30 this 12 4).bind fun v32 =>
  v31.bind fun a34 =>
  (stI M30 a34 (2178 + p1) v32).bind fun M33 =>
  (rdR M33 this 12 1).bind fun v35 =>
  (rdI M33 this 12 5).bind fun v36 =>
  v35.bind fun a38 =>
  (stI M33 a38 (2186 + p1) v36).bind fun M37 =>
  (rdI M37 this 12 7).bind fun v39 =>
  if v39 = 0 then
    (rdR M37 this 12 1).bind fun v41 =>
    (rdI M37 this 12 4).bind fun v42 =>
    (rdI M37 this 12 5).bind fun v43 =>
    v41.bind fun a45 =>
    (ldI M37 a45 ((90 + (8 * v42)) + v43)).bind fun v44 =>
    jp (fun  (M47 : Mm) =>
    (isO M47 this 12).bind fun _ =>
    (F_X12_learn this ((8 * v2) + v5) p3 p4 M47).bind fun M48 =>
    (rdI M48 this 12 4).bind fun v50 =>
    (rdI M48 this 12 5).bind fun v51 =>
    some (((8 * v50) + v51), M48)) fun k46 =>
    if v44 = 1 then
      (rdR M37 this 12 1).bind fun v54 =>
      (rdR M37 this 12 1).bind fun v55 =>
      v55.bind fun a57 =>
      (ldI M37 a57 (2194 + p1)).bind fun v56 =>
      if v56 ≤ 5 then
        v54.bind fun a60 =>
        (stI M37 a60 (2194 + p1) 0).bind fun M59 =>
        k46  M59
      else
        (rdR M37 this 12 1).bind fun v61 =>
        v61.bind fun a63 =>
        (ldI M37 a63 (2194 + p1)).bind fun v62 =>
        v54.bind fun a65 =>
        (stI M37 a65 (2194 + p1) (v62 - 5)).bind fun M64 =>
        k46  M64
    else
      k46  M37
  else
    (rdR M37 this 12 1).bind fun v66 =>
    v66.bind fun a68 =>
    (stI M37 a68 (2202 + p1) 2).bind fun M67 =>
    some (((-5) : Int32), M67)) fun k29 =>
  if v28 = 0 then
    (isO M26 this 12).bind fun _ =>
    (F_X12_steps this p3 p4 M26).bind fun M71 =>
    (isO M71 this 12).bind fun _ =>
    (F_X12_measure this p1 M71).bind fun M73 =>
    k29  M73
  else
    k29  M26

def F_X12_dive (this : Nat) (p1 : Int32) (p2 : Int32) (p3 : Int32) (p4 : Int32) (M : Mm) : Option (Int32 × Mm) :=
  (isO M this 12).bind fun _ =>
  (F_X12_isGlider this p1 M).bind fun (v3, M1) =>
  if v3 = 0 then
    some (((-1) : Int32), M1)
  else
    (isO M1 this 12).bind fun _ =>
    (F_X12_sinks this p1 M1).bind fun (v7, M5) =>
    (isO M5 this 12).bind fun _ =>
    (F_X12_is this p2 0 v7 M5).bind fun (v10, M8) =>
    if v10 = 0 then
      some (((-1) : Int32), M8)
    else
      (isO M8 this 12).bind fun _ =>
      (F_X12_isHeading this p1 p3 p4 M8).bind fun (v14, M12) =>
      if v14 = 0 then
        some (((-1) : Int32), M12)
      else
        (isO M12 this 12).bind fun _ =>
        (F_X12_isUp this p1 M12).bind fun (v18, M16) =>
        if v18 = 0 then
          some (((-3) : Int32), M16)
        else
          (rdR M16 this 12 1).bind fun v20 =>
          v20.bind fun a22 =>
          (ldI M16 a22 (2194 + p1)).bind fun v21 =>
          (isO M16 this 12).bind fun _ =>
          (F_X12_cost this p1 p2 M16).bind fun (v25, M23) =>
          if v25 ≤ v21 then
            (isO M23 this 12).bind fun _ =>
            (F_X12_dives this p1 p2 p3 p4 M23).bind fun (v29, M27) =>
            some (v29, M27)
          else
            some (((-3) : Int32), M23)

def F_X12_at (this : Nat) (M : Mm) : Option (Int32 × Mm) :=
  (rdI M this 12 12).bind fun v1 =>
  (rdI M this 12 11).bind fun v2 =>
  if v1 < v2 then
    (rdI M this 12 13).bind fun v4 =>
    if v4 = 0 then
      (rdR M this 12 1).bind fun v6 =>
      (rdI M this 12 10).bind fun v7 =>
      (rdI M this 12 12).bind fun v8 =>
      v6.bind fun a10 =>
      (ldI M a10 (v7 + v8)).bind fun v9 =>
      some (v9, M)
    else
      (rdR M this 12 8).bind fun v11 =>
      (rdI M this 12 12).bind fun v12 =>
      v11.bind fun a14 =>
      (ldI M a14 v12).bind fun v13 =>
      some (v13, M)
  else
    some (((-1) : Int32), M)

def F_X12_takes (this : Nat) (p1 : Int32) (p2 : Int32) (M : Mm) : Option (Int32 × Mm) :=
  (isO M this 12).bind fun _ =>
  (F_X12_at this M).bind fun (v3, M1) =>
  (isO M1 this 12).bind fun _ =>
  (F_X12_is this v3 (48 + p1) (48 + p2) M1).bind fun (v6, M4) =>
  if v6 = 0 then
    some ((0 : Int32), M4)
  else
    (isO M4 this 12).bind fun _ =>
    (F_X12_at this M4).bind fun (v10, M8) =>
    (wrI M8 this 12 14 (v10 - 48)).bind fun M11 =>
    (rdI M11 this 12 12).bind fun v12 =>
    (wrI M11 this 12 12 (v12 + 1)).bind fun M13 =>
    some ((1 : Int32), M13)

def F_X12_isField (this : Nat) (p1 : Int32) (M : Mm) : Option (Int32 × Mm) :=
  if p1 = 112 then
    some ((1 : Int32), M)
  else
    if p1 = 120 then
      some ((1 : Int32), M)
    else
      if p1 = 121 then
        some ((1 : Int32), M)
      else
        if p1 = 108 then
          some ((1 : Int32), M)
        else
          if p1 = 102 then
            some ((1 : Int32), M)
          else
            if p1 = 104 then
              some ((1 : Int32), M)
            else
              if p1 = 116 then
                some ((1 : Int32), M)
              else
                if p1 = 115 then
                  some ((1 : Int32), M)
                else
                  if p1 = 100 then
                    some ((1 : Int32), M)
                  else
                    some ((0 : Int32), M)

def F_X12_fieldOf (this : Nat) (p1 : Int32) (p2 : Int32) (M : Mm) : Option (Int32 × Mm) :=
  if 0 ≤ p2 then
    if p1 = 102 then
      (rdR M this 12 1).bind fun v3 =>
      v3.bind fun a5 =>
      (ldI M a5 (2218 + p2)).bind fun v4 =>
      some (v4, M)
    else
    if p1 = 104 then
      (rdR M this 12 1).bind fun v7 =>
      v7.bind fun a9 =>
      (ldI M a9 (2234 + p2)).bind fun v8 =>
      if 0 ≤ v8 then
        (rdR M this 12 1).bind fun v11 =>
        v11.bind fun a13 =>
        (ldI M a13 1).bind fun v12 =>
        (rdR M this 12 1).bind fun v14 =>
        v14.bind fun a16 =>
        (ldI M a16 (2234 + p2)).bind fun v15 =>
        some ((v12 - v15), M)
      else
        (rdR M this 12 1).bind fun v17 =>
        v17.bind fun a19 =>
        (ldI M a19 1).bind fun v18 =>
        some (v18, M)
    else
    if p1 = 108 then
      (rdR M this 12 1).bind fun v21 =>
      v21.bind fun a23 =>
      (ldI M a23 (2210 + p2)).bind fun v22 =>
      some (v22, M)
    else
    if p1 = 112 then
      (rdR M this 12 1).bind fun v25 =>
      v25.bind fun a27 =>
      (ldI M a27 (2194 + p2)).bind fun v26 =>
      some (v26, M)
    else
    if p1 = 115 then
      (rdR M this 12 1).bind fun v29 =>
      v29.bind fun a31 =>
      (ldI M a31 (2250 + p2)).bind fun v30 =>
      if 0 ≤ v30 then
        (rdR M this 12 1).bind fun v33 =>
        v33.bind fun a35 =>
        (ldI M a35 (2250 + p2)).bind fun v34 =>
        some (v34, M)
      else
        some ((0 : Int32), M)
    else
    if p1 = 116 then
      (rdR M this 12 1).bind fun v37 =>
      v37.bind fun a39 =>
      (ldI M a39 1).bind fun v38 =>
      (rmI v38 10).bind fun v40 =>
      some (v40, M)
    else
    if p1 = 120 then
      (rdR M this 12 1).bind fun v42 =>
      v42.bind fun a44 =>
      (ldI M a44 (2178 + p2)).bind fun v43 =>
      some (v43, M)
    else
    if p1 = 121 then
      (rdR M this 12 1).bind fun v46 =>
      v46.bind fun a48 =>
      (ldI M a48 (2186 + p2)).bind fun v47 =>
      some (v47, M)
    else
    (rdR M this 12 1).bind fun v49 =>
    (rdR M this 12 1).bind fun v50 =>
    v50.bind fun a52 =>
    (ldI M a52 (2178 + p2)).bind fun v51 =>
    (rdR M this 12 1).bind fun v53 =>
    v53.bind fun a55 =>
    (ldI M a55 (2186 + p2)).bind fun v54 =>
    v49.bind fun a57 =>
    (ldI M a57 ((10 + (8 * v51)) + v54)).bind fun v56 =>
    some (v56, M)
  else
    some ((0 : Int32), M)

def F_X12_takesCheck_L2 (k34 : Int32 → Mm → Option (Int32 × Mm)) (x0 : Nat) (x1 : Int32) : Nat → Int32 → Mm → Option (Int32 × Mm)
  | 0, _, _ => none
  | n1 + 1, x2, M0 => (isO M0 x0 12).bind fun _ =>
  (F_X12_at x0 M0).bind fun (v4, M2) =>
  if v4 = 33 then
    nv (α := Int32) (if x2 = 0 then 1 else 0) fun v6 =>
    (rdI M2 x0 12 12).bind fun v8 =>
    (wrI M2 x0 12 12 (v8 + 1)).bind fun M9 =>
    F_X12_takesCheck_L2 k34 x0 x1 n1 v6 M9
  else
    k34 x2 M2
def F_X12_takesCheck_L127 (k184 : Int32 → Mm → Option (Int32 × Mm)) (x0 : Nat) (x2 : Int32) (x4 : Int32) (x5 : Int32) : Nat → Int32 → Int32 → Mm → Option (Int32 × Mm)
  | 0, _, _, _ => none
  | n37 + 1, x6, x7, M0 => if 3 ≤ x7 then
    k184 x6 M0
  else
    if x6 ≤ 0 then
      k184 x6 M0
    else
      (isO M0 x0 12).bind fun _ =>
      (F_X12_at x0 M0).bind fun (v42, M40) =>
      (isO M40 x0 12).bind fun _ =>
      (F_X12_is x0 v42 48 57 M40).bind fun (v45, M43) =>
      if v45 = 0 then
        k184 x6 M43
      else
        (isO M43 x0 12).bind fun _ =>
        (F_X12_at x0 M43).bind fun (v49, M47) =>
        (rdI M47 x0 12 12).bind fun v50 =>
        (wrI M47 x0 12 12 (v50 + 1)).bind fun M51 =>
        F_X12_takesCheck_L127 k184 x0 x2 x4 x5 n37 (((10 * x6) + v49) - 48) (x7 + 1) M51
def F_X12_takesCheck (this : Nat) (p1 : Int32) (M : Mm) : Option (Int32 × Mm) :=
  F_X12_takesCheck_L2 (fun (y11 : Int32) (M12 : Mm) =>
    (isO M12 this 12).bind fun _ =>
    (F_X12_at this M12).bind fun (v15, M13) =>
    (isO M13 this 12).bind fun _ =>
    (F_X12_isField this v15 M13).bind fun (v18, M16) =>
    if v18 = 0 then
      some ((0 : Int32), M16)
    else
      (isO M16 this 12).bind fun _ =>
      (F_X12_fieldOf this v15 p1 M16).bind fun (v22, M20) =>
      (rdI M20 this 12 12).bind fun v23 =>
      (wrI M20 this 12 12 (v23 + 1)).bind fun M24 =>
      (isO M24 this 12).bind fun _ =>
      (F_X12_at this M24).bind fun (v27, M25) =>
      jp (fun  (M29 : Mm) =>
      (rdI M29 this 12 12).bind fun v30 =>
      (wrI M29 this 12 12 (v30 + 1)).bind fun M31 =>
      (isO M31 this 12).bind fun _ =>
      (F_X12_takes this 0 9 M31).bind fun (v34, M32) =>
      if v34 = 0 then
        some ((0 : Int32), M32)
      else
        (rdI M32 this 12 14).bind fun v36 =>
        F_X12_takesCheck_L127 (fun (y52 : Int32) (M53 : Mm) =>
          nv (α := Int32) (if v27 = 60 then (if y52 ≤ v22 then 0 else 1) else (if v27 = 61 then (if v22 = y52 then 1 else 0) else (if v22 ≤ y52 then 0 else 1))) fun v54 =>
          (rdI M53 this 12 15).bind fun v56 =>
          nv (α := Int32) (if v56 = 0 then 0 else (if v54 = y11 then 0 else 1)) fun v57 =>
          (wrZ M53 this 12 15 v57).bind fun M59 =>
          some ((1 : Int32), M59)) this y11 v22 v27 1000000 v36 1 M32) fun k28 =>
      if v27 = 60 then
        k28  M25
      else
        if v27 = 61 then
          k28  M25
        else
          if v27 = 62 then
            k28  M25
          else
            some ((0 : Int32), M25)) this p1 1000000 0 M

def F_X12_takesTest_L15  (x0 : Nat) (x1 : Int32) : Nat → Mm → Option (Int32 × Mm)
  | 0, _ => none
  | n6 + 1, M0 => (isO M0 x0 12).bind fun _ =>
  (F_X12_at x0 M0).bind fun (v9, M7) =>
  if v9 = 38 then
    (rdI M7 x0 12 12).bind fun v11 =>
    (wrI M7 x0 12 12 (v11 + 1)).bind fun M12 =>
    (isO M12 x0 12).bind fun _ =>
    (F_X12_takesCheck x0 x1 M12).bind fun (v15, M13) =>
    if v15 = 0 then
      some ((0 : Int32), M13)
    else
      F_X12_takesTest_L15 x0 x1 n6  M13
  else
    some ((1 : Int32), M7)
def F_X12_takesTest (this : Nat) (p1 : Int32) (M : Mm) : Option (Int32 × Mm) :=
  (wrZ M this 12 15 1).bind fun M1 =>
  (isO M1 this 12).bind fun _ =>
  (F_X12_takesCheck this p1 M1).bind fun (v4, M2) =>
  if v4 = 0 then
    some ((0 : Int32), M2)
  else
    F_X12_takesTest_L15  this p1 1000000  M2

def F_X12_takesAct (this : Nat) (p1 : Int32) (M : Mm) : Option (Int32 × Mm) :=
  (isO M this 12).bind fun _ =>
  (F_X12_at this M).bind fun (v3, M1) =>
  jp (fun  (M5 : Mm) =>
  (rdI M5 this 12 12).bind fun v6 =>
  (wrI M5 this 12 12 (v6 + 1)).bind fun M7 =>
  jp (fun (x9 : Int32) (x10 : Int32) (M11 : Mm) =>
  jp (fun (x13 : Int32) (M14 : Mm) =>
  (rdI M14 this 12 15).bind fun v15 =>
  if v15 = 0 then
    some ((1 : Int32), M14)
  else
    (rdI M14 this 12 16).bind fun v17 =>
    if v17 < 0 then
      (wrI M14 this 12 16 p1).bind fun M19 =>
      (wrI M19 this 12 17 v3).bind fun M20 =>
      (wrI M20 this 12 18 x9).bind fun M21 =>
      (wrI M21 this 12 19 x10).bind fun M22 =>
      (wrI M22 this 12 20 x13).bind fun M23 =>
      some ((1 : Int32), M23)
    else
      some ((1 : Int32), M14)) fun k12 =>
  if v3 = 117 then
    k12 0 M11
  else
    (isO M11 this 12).bind fun _ =>
    (F_X12_takes this 0 3 M11).bind fun (v28, M26) =>
    if v28 = 0 then
      some ((0 : Int32), M26)
    else
      (rdI M26 this 12 14).bind fun v30 =>
      k12 v30 M26) fun k8 =>
  if v3 = 103 then
    (isO M7 this 12).bind fun _ =>
    (F_X12_takes this 0 9 M7).bind fun (v35, M33) =>
    if v35 = 0 then
      some ((0 : Int32), M33)
    else
      (rdI M33 this 12 14).bind fun v37 =>
      (isO M33 this 12).bind fun _ =>
      (F_X12_takes this 0 7 M33).bind fun (v40, M38) =>
      if v40 = 0 then
        some ((0 : Int32), M38)
      else
        (rdI M38 this 12 14).bind fun v42 =>
        k8 v37 v42 M38
  else
    k8 0 0 M7) fun k4 =>
  if v3 = 115 then
    k4  M1
  else
    if v3 = 103 then
      k4  M1
    else
      if v3 = 117 then
        k4  M1
      else
        some ((0 : Int32), M1)

def F_X12_goesOrder_L77 (k158 : Int32 → Mm → Option (Int32 × Mm)) (x0 : Nat) (x2 : Int32) : Nat → Int32 → Mm → Option (Int32 × Mm)
  | 0, _, _ => none
  | n15 + 1, x3, M0 => (rdI M0 x0 12 12).bind fun v16 =>
  (rdI M0 x0 12 11).bind fun v17 =>
  if v17 ≤ v16 then
    k158 x3 M0
  else
    if x3 = 6 then
      some ((0 : Int32), M0)
    else
      (isO M0 x0 12).bind fun _ =>
      (F_X12_takesTest x0 x2 M0).bind fun (v22, M20) =>
      if v22 = 0 then
        some ((0 : Int32), M20)
      else
        (isO M20 x0 12).bind fun _ =>
        (F_X12_at x0 M20).bind fun (v26, M24) =>
        if v26 = 63 then
          (rdI M24 x0 12 12).bind fun v28 =>
          (wrI M24 x0 12 12 (v28 + 1)).bind fun M29 =>
          (isO M29 x0 12).bind fun _ =>
          (F_X12_takesAct x0 x3 M29).bind fun (v32, M30) =>
          if v32 = 0 then
            some ((0 : Int32), M30)
          else
            (isO M30 x0 12).bind fun _ =>
            (F_X12_at x0 M30).bind fun (v36, M34) =>
            if v36 = 59 then
              (rdI M34 x0 12 12).bind fun v38 =>
              (wrI M34 x0 12 12 (v38 + 1)).bind fun M39 =>
              F_X12_goesOrder_L77 k158 x0 x2 n15 (x3 + 1) M39
            else
              some ((0 : Int32), M34)
        else
          some ((0 : Int32), M24)
def F_X12_goesOrder (this : Nat) (p1 : Int32) (p2 : Int32) (M : Mm) : Option (Int32 × Mm) :=
  nv (α := Int32) (if 0 ≤ p1 then 0 else 1) fun v1 =>
  (wrZ M this 12 13 v1).bind fun M3 =>
  (rdI M3 this 12 13).bind fun v4 =>
  nv (α := Int32) (if v4 = 0 then (7559 + (80 * p1)) else 0) fun v5 =>
  (wrI M3 this 12 10 v5).bind fun M7 =>
  (rdI M7 this 12 13).bind fun v8 =>
  jp (fun (s10 : Int32) (M11 : Mm) =>
  (wrI M11 this 12 11 s10).bind fun M12 =>
  (wrI M12 this 12 12 0).bind fun M13 =>
  (wrI M13 this 12 16 (-4)).bind fun M14 =>
  F_X12_goesOrder_L77 (fun (y40 : Int32) (M41 : Mm) =>
    if y40 ≤ 0 then
      some ((0 : Int32), M41)
    else
      some ((1 : Int32), M41)) this p2 1000000 0 M14) fun k9 =>
  if v8 = 0 then
    (rdR M7 this 12 1).bind fun v45 =>
    v45.bind fun a47 =>
    (ldI M7 a47 (8359 + p1)).bind fun v46 =>
    k9 v46 M7
  else
    (rdI M7 this 12 9).bind fun v48 =>
    k9 v48 M7

def F_X12_lacksText (this : Nat) (p1 : Int32) (M : Mm) : Option (Int32 × Mm) :=
  (isO M this 12).bind fun _ =>
  (F_X12_is this p1 0 7 M).bind fun (v3, M1) =>
  if v3 = 0 then
    some (((-1) : Int32), M1)
  else
    (rdR M1 this 12 28).bind fun v5 =>
    v5.bind fun a7 =>
    (ldI M1 a7 p1).bind fun v6 =>
    if v6 = 0 then
      some (((-11) : Int32), M1)
    else
      (rdR M1 this 12 28).bind fun v9 =>
      v9.bind fun a11 =>
      (ldI M1 a11 p1).bind fun v10 =>
      if v10 = 2 then
        (rdR M1 this 12 33).bind fun v13 =>
        v13.bind fun a15 =>
        (ldI M1 a15 p1).bind fun v14 =>
        if v14 = 0 then
          some ((0 : Int32), M1)
        else
          some (((-12) : Int32), M1)
      else
        some (((-12) : Int32), M1)

def F_X12_bring_L12  (x0 : Nat) (x1 : Int32) : Nat → Int32 → Mm → Option Mm
  | 0, _, _ => none
  | n5 + 1, x2, M0 => (rdR M0 x0 12 34).bind fun v6 =>
  v6.bind fun a8 =>
  (ldI M0 a8 x1).bind fun v7 =>
  if v7 ≤ x2 then
    some M0
  else
    (rdR M0 x0 12 8).bind fun v10 =>
    (rdR M0 x0 12 35).bind fun v11 =>
    v11.bind fun a13 =>
    (ldI M0 a13 ((80 * x1) + x2)).bind fun v12 =>
    v10.bind fun a15 =>
    (stI M0 a15 x2 v12).bind fun M14 =>
    F_X12_bring_L12 x0 x1 n5 (x2 + 1) M14
def F_X12_bring (this : Nat) (p1 : Int32) (M : Mm) : Option Mm :=
  (rdR M this 12 34).bind fun v1 =>
  v1.bind fun a3 =>
  (ldI M a3 p1).bind fun v2 =>
  (wrI M this 12 9 v2).bind fun M4 =>
  F_X12_bring_L12  this p1 1000000 0 M4

def F_X12_fault (this : Nat) (p1 : Int32) (M : Mm) : Option (Int32 × Mm) :=
  (isO M this 12).bind fun _ =>
  (F_X12_lacksText this p1 M).bind fun (v3, M1) =>
  if v3 = 0 then
    (isO M1 this 12).bind fun _ =>
    (F_X12_bring this p1 M1).bind fun M5 =>
    (isO M5 this 12).bind fun _ =>
    (F_X12_goesOrder this (-1) (-1) M5).bind fun (v9, M7) =>
    if v9 = 0 then
      (rdI M7 this 12 12).bind fun v11 =>
      some (v11, M7)
    else
      some (((-4) : Int32), M7)
  else
    (isO M1 this 12).bind fun _ =>
    (F_X12_lacksText this p1 M1).bind fun (v14, M12) =>
    some (v14, M12)

def F_X12_order_L81  (x0 : Nat) (x2 : Int32) : Nat → Int32 → Mm → Option (Int32 × Mm)
  | 0, _, _ => none
  | n23 + 1, x3, M0 => (rdI M0 x0 12 9).bind fun v24 =>
  if v24 ≤ x3 then
    (rdR M0 x0 12 1).bind fun v26 =>
    v26.bind fun a28 =>
    (ldI M0 a28 4).bind fun v27 =>
    (stI M0 a28 4 (v27 + 1)).bind fun M29 =>
    some (x2, M29)
  else
    (rdR M0 x0 12 1).bind fun v30 =>
    (rdR M0 x0 12 8).bind fun v31 =>
    v31.bind fun a33 =>
    (ldI M0 a33 x3).bind fun v32 =>
    v30.bind fun a35 =>
    (stI M0 a35 ((7559 + (80 * x2)) + x3) v32).bind fun M34 =>
    F_X12_order_L81 x0 x2 n23 (x3 + 1) M34
def F_X12_order (this : Nat) (p1 : Int32) (M : Mm) : Option (Int32 × Mm) :=
  (isO M this 12).bind fun _ =>
  (F_X12_is this p1 0 7 M).bind fun (v3, M1) =>
  if v3 = 0 then
    some (((-1) : Int32), M1)
  else
    (rdR M1 this 12 1).bind fun v5 =>
    v5.bind fun a7 =>
    (ldI M1 a7 4).bind fun v6 =>
    if v6 = 10 then
      some (((-2) : Int32), M1)
    else
      (isO M1 this 12).bind fun _ =>
      (F_X12_lacksText this p1 M1).bind fun (v11, M9) =>
      if v11 = 0 then
        (isO M9 this 12).bind fun _ =>
        (F_X12_bring this p1 M9).bind fun M13 =>
        (isO M13 this 12).bind fun _ =>
        (F_X12_goesOrder this (-1) (-1) M13).bind fun (v17, M15) =>
        if v17 = 0 then
          (rdI M15 this 12 12).bind fun v36 =>
          some (((-100) - v36), M15)
        else
          (rdR M15 this 12 1).bind fun v19 =>
          (rdI M15 this 12 9).bind fun v20 =>
          v19.bind fun a22 =>
          (stI M15 a22 (8359 + v6) v20).bind fun M21 =>
          F_X12_order_L81  this v6 1000000 0 M21
      else
        (isO M9 this 12).bind fun _ =>
        (F_X12_lacksText this p1 M9).bind fun (v39, M37) =>
        some (v39, M37)

def F_X12_letter (this : Nat) (p1 : Int32) (p2 : Int32) (M : Mm) : Option (Int32 × Mm) :=
  (isO M this 12).bind fun _ =>
  (F_X12_isGlider this p1 M).bind fun (v3, M1) =>
  if v3 = 0 then
    some (((-1) : Int32), M1)
  else
    (rdR M1 this 12 1).bind fun v5 =>
    v5.bind fun a7 =>
    (ldI M1 a7 4).bind fun v6 =>
    (isO M1 this 12).bind fun _ =>
    (F_X12_is this p2 0 (v6 - 1) M1).bind fun (v10, M8) =>
    if v10 = 0 then
      some (((-1) : Int32), M8)
    else
      (rdR M8 this 12 1).bind fun v12 =>
      v12.bind fun a14 =>
      (ldI M8 a14 3).bind fun v13 =>
      if v13 = 60 then
        some (((-2) : Int32), M8)
      else
        (rdR M8 this 12 1).bind fun v16 =>
        v16.bind fun a18 =>
        (stI M8 a18 (3710 + v13) p1).bind fun M17 =>
        (rdR M17 this 12 1).bind fun v19 =>
        v19.bind fun a21 =>
        (stI M17 a21 (3770 + v13) p2).bind fun M20 =>
        (rdR M20 this 12 1).bind fun v22 =>
        (rdR M20 this 12 1).bind fun v23 =>
        v23.bind fun a25 =>
        (ldI M20 a25 1).bind fun v24 =>
        v22.bind fun a27 =>
        (stI M20 a27 (3830 + v13) v24).bind fun M26 =>
        (rdR M26 this 12 1).bind fun v28 =>
        v28.bind fun a30 =>
        (stI M26 a30 (3890 + v13) 0).bind fun M29 =>
        (rdR M29 this 12 1).bind fun v31 =>
        v31.bind fun a33 =>
        (ldI M29 a33 3).bind fun v32 =>
        (stI M29 a33 3 (v32 + 1)).bind fun M34 =>
        (rdR M34 this 12 1).bind fun v35 =>
        v35.bind fun a37 =>
        (ldI M34 a37 3).bind fun v36 =>
        some (v36, M34)

def F_X12_waiting_L14  (x0 : Nat) (x1 : Int32) : Nat → Int32 → Int32 → Mm → Option (Int32 × Mm)
  | 0, _, _, _ => none
  | n5 + 1, x2, x3, M0 => (rdR M0 x0 12 1).bind fun v6 =>
  v6.bind fun a8 =>
  (ldI M0 a8 3).bind fun v7 =>
  if v7 ≤ x3 then
    some (x2, M0)
  else
    (rdR M0 x0 12 1).bind fun v10 =>
    v10.bind fun a12 =>
    (ldI M0 a12 (3710 + x3)).bind fun v11 =>
    if v11 = x1 then
      (rdR M0 x0 12 1).bind fun v14 =>
      v14.bind fun a16 =>
      (ldI M0 a16 (3890 + x3)).bind fun v15 =>
      nv (α := Int32) (if v15 = 0 then 1 else 0) fun v17 =>
      F_X12_waiting_L14 x0 x1 n5 (x2 + v17) (x3 + 1) M0
    else
      F_X12_waiting_L14 x0 x1 n5 (x2 + 0) (x3 + 1) M0
def F_X12_waiting (this : Nat) (p1 : Int32) (M : Mm) : Option (Int32 × Mm) :=
  (isO M this 12).bind fun _ =>
  (F_X12_isGlider this p1 M).bind fun (v3, M1) =>
  if v3 = 0 then
    some (((-1) : Int32), M1)
  else
    F_X12_waiting_L14  this p1 1000000 0 0 M1

def F_X12_deaf (this : Nat) (p1 : Int32) (p2 : Int32) (M : Mm) : Option (Int32 × Mm) :=
  (isO M this 12).bind fun _ =>
  (F_X12_is this p1 0 400 M).bind fun (v3, M1) =>
  if v3 = 0 then
    some (((-1) : Int32), M1)
  else
    (rdR M1 this 12 1).bind fun v5 =>
    v5.bind fun a7 =>
    (ldI M1 a7 (3950 + p1)).bind fun v6 =>
    (rdR M1 this 12 1).bind fun v8 =>
    nv (α := Int32) (if p2 = 0 then 0 else 1) fun v9 =>
    v8.bind fun a12 =>
    (stI M1 a12 (3950 + p1) v9).bind fun M11 =>
    (rdR M11 this 12 1).bind fun v13 =>
    v13.bind fun a15 =>
    (ldI M11 a15 (3950 + p1)).bind fun v14 =>
    if v6 = v14 then
      some ((0 : Int32), M11)
    else
      some ((1 : Int32), M11)

def F_X12_rule (this : Nat) (p1 : Int32) (M : Mm) : Option (Int32 × Mm) :=
  (isO M this 12).bind fun _ =>
  (F_X12_isGlider this p1 M).bind fun (v3, M1) =>
  if v3 = 0 then
    some (((-1) : Int32), M1)
  else
    (isO M1 this 12).bind fun _ =>
    (F_X12_isUp this p1 M1).bind fun (v7, M5) =>
    if v7 = 0 then
      some (((-3) : Int32), M5)
    else
      (rdR M5 this 12 1).bind fun v9 =>
      v9.bind fun a11 =>
      (ldI M5 a11 (2226 + p1)).bind fun v10 =>
      if 0 ≤ v10 then
        (rdR M5 this 12 1).bind fun v13 =>
        v13.bind fun a15 =>
        (ldI M5 a15 (2226 + p1)).bind fun v14 =>
        (isO M5 this 12).bind fun _ =>
        (F_X12_goesOrder this v14 p1 M5).bind fun (v18, M16) =>
        if v18 = 0 then
          some (((-4) : Int32), M16)
        else
          (rdI M16 this 12 16).bind fun v20 =>
          some (v20, M16)
      else
        some (((-3) : Int32), M5)

def F_X12_hears_L63  (x0 : Nat) (x1 : Int32) : Nat → Int32 → Mm → Option Mm
  | 0, _, _ => none
  | n19 + 1, x2, M0 => (rdR M0 x0 12 1).bind fun v20 =>
  v20.bind fun a22 =>
  (ldI M0 a22 3).bind fun v21 =>
  if v21 ≤ x2 then
    some M0
  else
    (rdR M0 x0 12 1).bind fun v24 =>
    v24.bind fun a26 =>
    (ldI M0 a26 (3710 + x2)).bind fun v25 =>
    if v25 = x1 then
      (rdR M0 x0 12 1).bind fun v28 =>
      v28.bind fun a30 =>
      (ldI M0 a30 (3890 + x2)).bind fun v29 =>
      if v29 = 1 then
        F_X12_hears_L63 x0 x1 n19 (x2 + 1) M0
      else
        (rdR M0 x0 12 1).bind fun v32 =>
        v32.bind fun a34 =>
        (ldI M0 a34 (3830 + x2)).bind fun v33 =>
        (rdR M0 x0 12 1).bind fun v35 =>
        v35.bind fun a37 =>
        (ldI M0 a37 1).bind fun v36 =>
        if v33 < v36 then
          (rdR M0 x0 12 1).bind fun v39 =>
          v39.bind fun a41 =>
          (stI M0 a41 (3890 + x2) 1).bind fun M40 =>
          (rdR M40 x0 12 1).bind fun v42 =>
          (rdR M40 x0 12 1).bind fun v43 =>
          v43.bind fun a45 =>
          (ldI M40 a45 (3770 + x2)).bind fun v44 =>
          v42.bind fun a47 =>
          (stI M40 a47 (2226 + x1) v44).bind fun M46 =>
          F_X12_hears_L63 x0 x1 n19 (x2 + 1) M46
        else
          F_X12_hears_L63 x0 x1 n19 (x2 + 1) M0
    else
      F_X12_hears_L63 x0 x1 n19 (x2 + 1) M0
def F_X12_hears (this : Nat) (p1 : Int32) (M : Mm) : Option Mm :=
  (rdR M this 12 1).bind fun v1 =>
  (rdR M this 12 1).bind fun v2 =>
  v2.bind fun a4 =>
  (ldI M a4 1).bind fun v3 =>
  v1.bind fun a6 =>
  (stI M a6 (2234 + p1) v3).bind fun M5 =>
  (rdR M5 this 12 1).bind fun v7 =>
  (rdR M5 this 12 1).bind fun v8 =>
  v8.bind fun a10 =>
  (ldI M5 a10 1).bind fun v9 =>
  (rdR M5 this 12 1).bind fun v11 =>
  v11.bind fun a13 =>
  (ldI M5 a13 (2178 + p1)).bind fun v12 =>
  (rdR M5 this 12 1).bind fun v14 =>
  v14.bind fun a16 =>
  (ldI M5 a16 (2186 + p1)).bind fun v15 =>
  v7.bind fun a18 =>
  (stI M5 a18 ((4351 + (401 * p1)) + v9) ((8 * v12) + v15)).bind fun M17 =>
  F_X12_hears_L63  this p1 1000000 0 M17

def F_X12_cut (this : Nat) (p1 : Int32) (p2 : Int32) (M : Mm) : Option (Int32 × Mm) :=
  if p1 ≤ p2 then
    if (-p2) ≤ p1 then
      some (p1, M)
    else
      some ((-p2), M)
  else
    some (p2, M)

def F_X12_acts (this : Nat) (p1 : Int32) (M : Mm) : Option (Int32 × Mm) :=
  (rdR M this 12 1).bind fun v1 =>
  v1.bind fun a3 =>
  (ldI M a3 (2226 + p1)).bind fun v2 =>
  if v2 < 0 then
    some ((0 : Int32), M)
  else
    (rdR M this 12 1).bind fun v5 =>
    v5.bind fun a7 =>
    (ldI M a7 (2226 + p1)).bind fun v6 =>
    (isO M this 12).bind fun _ =>
    (F_X12_goesOrder this v6 p1 M).bind fun (v10, M8) =>
    if v10 = 0 then
      some ((0 : Int32), M8)
    else
      (rdI M8 this 12 16).bind fun v12 =>
      if v12 < 0 then
        some ((0 : Int32), M8)
      else
        (rdI M8 this 12 17).bind fun v14 =>
        if v14 = 117 then
          some ((0 : Int32), M8)
        else
          (rdI M8 this 12 20).bind fun v16 =>
          (isO M8 this 12).bind fun _ =>
          (F_X12_layerFor this p1 v16 M8).bind fun (v19, M17) =>
          (rdR M17 this 12 1).bind fun v20 =>
          v20.bind fun a22 =>
          (ldI M17 a22 (2194 + p1)).bind fun v21 =>
          (isO M17 this 12).bind fun _ =>
          (F_X12_cost this p1 v19 M17).bind fun (v25, M23) =>
          if v25 ≤ v21 then
            (rdI M23 this 12 17).bind fun v27 =>
            jp (fun (s29 : Int32) (M30 : Mm) =>
            (rdI M30 this 12 17).bind fun v31 =>
            jp (fun (s33 : Int32) (M34 : Mm) =>
            (isO M34 this 12).bind fun _ =>
            (F_X12_dives this p1 v19 s29 s33 M34).bind fun (v37, M35) =>
            some ((1 : Int32), M35)) fun k32 =>
            if v31 = 115 then
              k32 0 M30
            else
              (rdI M30 this 12 19).bind fun v40 =>
              (rdR M30 this 12 1).bind fun v41 =>
              v41.bind fun a43 =>
              (ldI M30 a43 (2186 + p1)).bind fun v42 =>
              (isO M30 this 12).bind fun _ =>
              (F_X12_goes this p1 M30).bind fun (v46, M44) =>
              (isO M44 this 12).bind fun _ =>
              (F_X12_abs this s29 M44).bind fun (v49, M47) =>
              (isO M47 this 12).bind fun _ =>
              (F_X12_cut this (v40 - v42) (v46 - v49) M47).bind fun (v52, M50) =>
              k32 v52 M50) fun k28 =>
            if v27 = 115 then
              k28 0 M23
            else
              (rdI M23 this 12 18).bind fun v55 =>
              (rdR M23 this 12 1).bind fun v56 =>
              v56.bind fun a58 =>
              (ldI M23 a58 (2178 + p1)).bind fun v57 =>
              (isO M23 this 12).bind fun _ =>
              (F_X12_goes this p1 M23).bind fun (v61, M59) =>
              (isO M59 this 12).bind fun _ =>
              (F_X12_cut this (v55 - v57) v61 M59).bind fun (v64, M62) =>
              k28 v64 M62
          else
            some ((0 : Int32), M23)

def F_X12_goTime_L4 (k51 : Mm → Option (Int32 × Mm)) (x0 : Nat) (x1 : Int32) : Nat → Int32 → Mm → Option (Int32 × Mm)
  | 0, _, _ => none
  | n1 + 1, x2, M0 => (rdR M0 x0 12 1).bind fun v2 =>
  v2.bind fun a4 =>
  (ldI M0 a4 0).bind fun v3 =>
  if v3 ≤ x2 then
    k51  M0
  else
    (isO M0 x0 12).bind fun _ =>
    (F_X12_isUp x0 x2 M0).bind fun (v8, M6) =>
    if v8 = 0 then
      F_X12_goTime_L4 k51 x0 x1 n1 (x2 + 1) M6
    else
      (rdR M6 x0 12 1).bind fun v10 =>
      (rdR M6 x0 12 1).bind fun v11 =>
      v11.bind fun a13 =>
      (ldI M6 a13 1).bind fun v12 =>
      v10.bind fun a15 =>
      (ldI M6 a15 (3950 + v12)).bind fun v14 =>
      if v14 = 0 then
        (isO M6 x0 12).bind fun _ =>
        (F_X12_hears x0 x2 M6).bind fun M17 =>
        F_X12_goTime_L4 k51 x0 x1 n1 (x2 + 1) M17
      else
        F_X12_goTime_L4 k51 x0 x1 n1 (x2 + 1) M6
def F_X12_goTime_L53 (k93 : Int32 → Mm → Option (Int32 × Mm)) (x0 : Nat) : Nat → Int32 → Int32 → Mm → Option (Int32 × Mm)
  | 0, _, _, _ => none
  | n20 + 1, x1, x2, M0 => (rdR M0 x0 12 1).bind fun v21 =>
  v21.bind fun a23 =>
  (ldI M0 a23 0).bind fun v22 =>
  if v22 ≤ x2 then
    k93 x1 M0
  else
    (isO M0 x0 12).bind fun _ =>
    (F_X12_isUp x0 x2 M0).bind fun (v27, M25) =>
    if v27 = 0 then
      F_X12_goTime_L53 k93 x0 n20 (x1 + 0) (x2 + 1) M25
    else
      (isO M25 x0 12).bind fun _ =>
      (F_X12_acts x0 x2 M25).bind fun (v31, M29) =>
      nv (α := Int32) (if v31 = 0 then 0 else 1) fun v32 =>
      F_X12_goTime_L53 k93 x0 n20 (x1 + v32) (x2 + 1) M29
def F_X12_goTime_L95  (x0 : Nat) (x1 : Int32) : Nat → Int32 → Mm → Option (Int32 × Mm)
  | 0, _, _ => none
  | n37 + 1, x2, M0 => if 80 ≤ x2 then
    (rdR M0 x0 12 1).bind fun v39 =>
    v39.bind fun a41 =>
    (ldI M0 a41 1).bind fun v40 =>
    (stI M0 a41 1 (v40 + 1)).bind fun M42 =>
    some (x1, M42)
  else
    (rdR M0 x0 12 1).bind fun v43 =>
    v43.bind fun a45 =>
    (ldI M0 a45 (10 + x2)).bind fun v44 =>
    if v44 ≤ 0 then
      F_X12_goTime_L95 x0 x1 n37 (x2 + 1) M0
    else
      (rdR M0 x0 12 1).bind fun v47 =>
      v47.bind fun a49 =>
      (ldI M0 a49 (170 + x2)).bind fun v48 =>
      if 99 ≤ v48 then
        F_X12_goTime_L95 x0 x1 n37 (x2 + 1) M0
      else
        (rdR M0 x0 12 1).bind fun v51 =>
        v51.bind fun a53 =>
        (ldI M0 a53 (170 + x2)).bind fun v52 =>
        (stI M0 a53 (170 + x2) (v52 + 1)).bind fun M54 =>
        F_X12_goTime_L95 x0 x1 n37 (x2 + 1) M54
def F_X12_goTime (this : Nat) (M : Mm) : Option (Int32 × Mm) :=
  F_X12_goTime_L4 (fun  (M19 : Mm) =>
    F_X12_goTime_L53 (fun (y35 : Int32) (M36 : Mm) =>
      F_X12_goTime_L95  this y35 1000000 0 M36) this 1000000 0 0 M19) this 0 1000000 0 M

def F_X12_times_L34  (x0 : Nat) (x1 : Int32) : Nat → Int32 → Int32 → Mm → Option (Int32 × Mm)
  | 0, _, _, _ => none
  | n9 + 1, x2, x3, M0 => if x1 ≤ x3 then
    some (x2, M0)
  else
    (isO M0 x0 12).bind fun _ =>
    (F_X12_goTime x0 M0).bind fun (v13, M11) =>
    F_X12_times_L34 x0 x1 n9 (x2 + v13) (x3 + 1) M11
def F_X12_times (this : Nat) (p1 : Int32) (M : Mm) : Option (Int32 × Mm) :=
  (isO M this 12).bind fun _ =>
  (F_X12_is this p1 1 40 M).bind fun (v3, M1) =>
  if v3 = 0 then
    some (((-1) : Int32), M1)
  else
    (rdR M1 this 12 1).bind fun v5 =>
    v5.bind fun a7 =>
    (ldI M1 a7 1).bind fun v6 =>
    if (v6 + p1) ≤ 400 then
      F_X12_times_L34  this p1 1000000 0 0 M1
    else
      some (((-2) : Int32), M1)

def F_X12_known_L24  (x0 : Nat) (x1 : Int32) : Nat → Int32 → Mm → Option (Int32 × Mm)
  | 0, _, _ => none
  | n9 + 1, x3, M0 => if x3 < 0 then
    some (((-4) : Int32), M0)
  else
    (rdR M0 x0 12 1).bind fun v11 =>
    v11.bind fun a13 =>
    (ldI M0 a13 ((4351 + (401 * x1)) + x3)).bind fun v12 =>
    if v12 < 0 then
      F_X12_known_L24 x0 x1 n9 (x3 + (-1)) M0
    else
      (rdR M0 x0 12 1).bind fun v15 =>
      v15.bind fun a17 =>
      (ldI M0 a17 ((4351 + (401 * x1)) + x3)).bind fun v16 =>
      some (v16, M0)
def F_X12_known (this : Nat) (p1 : Int32) (p2 : Int32) (M : Mm) : Option (Int32 × Mm) :=
  (isO M this 12).bind fun _ =>
  (F_X12_isGlider this p1 M).bind fun (v3, M1) =>
  if v3 = 0 then
    some (((-1) : Int32), M1)
  else
    (isO M1 this 12).bind fun _ =>
    (F_X12_is this p2 0 400 M1).bind fun (v7, M5) =>
    if v7 = 0 then
      some (((-1) : Int32), M5)
    else
      F_X12_known_L24  this p1 1000000 p2 M5

def F_X12_clean (this : Nat) (p1 : Int32) (p2 : Int32) (M : Mm) : Option (Int32 × Mm) :=
  (isO M this 12).bind fun _ =>
  (F_X12_isGlider this p1 M).bind fun (v3, M1) =>
  if v3 = 0 then
    some (((-1) : Int32), M1)
  else
    (isO M1 this 12).bind fun _ =>
    (F_X12_is this p2 (-2000) 2000 M1).bind fun (v7, M5) =>
    if v7 = 0 then
      some (((-1) : Int32), M5)
    else
      (rdR M5 this 12 1).bind fun v9 =>
      v9.bind fun a11 =>
      (ldI M5 a11 5).bind fun v10 =>
      if v10 = 60 then
        some (((-2) : Int32), M5)
      else
        (rdR M5 this 12 1).bind fun v13 =>
        v13.bind fun a15 =>
        (stI M5 a15 (3470 + v10) p1).bind fun M14 =>
        (rdR M14 this 12 1).bind fun v16 =>
        v16.bind fun a18 =>
        (stI M14 a18 (3530 + v10) p2).bind fun M17 =>
        (rdR M17 this 12 1).bind fun v19 =>
        (rdR M17 this 12 1).bind fun v20 =>
        v20.bind fun a22 =>
        (ldI M17 a22 (2218 + p1)).bind fun v21 =>
        v19.bind fun a24 =>
        (stI M17 a24 (3590 + v10) v21).bind fun M23 =>
        (rdR M23 this 12 1).bind fun v25 =>
        (rdR M23 this 12 1).bind fun v26 =>
        v26.bind fun a28 =>
        (ldI M23 a28 2).bind fun v27 =>
        v25.bind fun a30 =>
        (stI M23 a30 (3650 + v10) v27).bind fun M29 =>
        (rdR M29 this 12 1).bind fun v31 =>
        v31.bind fun a33 =>
        (stI M29 a33 (2218 + p1) 0).bind fun M32 =>
        (rdR M32 this 12 1).bind fun v34 =>
        v34.bind fun a36 =>
        (ldI M32 a36 5).bind fun v35 =>
        (stI M32 a36 5 (v35 + 1)).bind fun M37 =>
        (rdR M37 this 12 1).bind fun v38 =>
        v38.bind fun a40 =>
        (ldI M37 a40 5).bind fun v39 =>
        some (v39, M37)

def F_X12_isReading (this : Nat) (p1 : Int32) (M : Mm) : Option (Int32 × Mm) :=
  (rdR M this 12 1).bind fun v1 =>
  v1.bind fun a3 =>
  (ldI M a3 2).bind fun v2 =>
  (isO M this 12).bind fun _ =>
  (F_X12_is this p1 0 (v2 - 1) M).bind fun (v6, M4) =>
  (ckZ v6).bind fun _ =>
  some (v6, M4)

def F_X12_reading (this : Nat) (p1 : Int32) (p2 : Int32) (M : Mm) : Option (Int32 × Mm) :=
  (isO M this 12).bind fun _ =>
  (F_X12_isReading this p1 M).bind fun (v3, M1) =>
  if v3 = 0 then
    some (((-1) : Int32), M1)
  else
    (isO M1 this 12).bind fun _ =>
    (F_X12_is this p2 0 4 M1).bind fun (v7, M5) =>
    if v7 = 0 then
      some (((-1) : Int32), M5)
    else
      if p2 = 0 then
        (rdR M5 this 12 1).bind fun v25 =>
        v25.bind fun a27 =>
        (ldI M5 a27 (2270 + p1)).bind fun v26 =>
        some (v26, M5)
      else
        if p2 = 1 then
          (rdR M5 this 12 1).bind fun v22 =>
          v22.bind fun a24 =>
          (ldI M5 a24 (2470 + p1)).bind fun v23 =>
          some (v23, M5)
        else
          if p2 = 2 then
            (rdR M5 this 12 1).bind fun v19 =>
            v19.bind fun a21 =>
            (ldI M5 a21 (2670 + p1)).bind fun v20 =>
            some (v20, M5)
          else
            if p2 = 3 then
              (rdR M5 this 12 1).bind fun v16 =>
              v16.bind fun a18 =>
              (ldI M5 a18 (2870 + p1)).bind fun v17 =>
              some (v17, M5)
            else
              (rdR M5 this 12 1).bind fun v13 =>
              v13.bind fun a15 =>
              (ldI M5 a15 (3070 + p1)).bind fun v14 =>
              some (v14, M5)

def F_X12_rightOf_L2 (k101 : Mm → Option (Int32 × Mm)) (k49 : Int32 → Mm → Option (Int32 × Mm)) (x0 : Nat) (x1 : Int32) : Nat → Int32 → Mm → Option (Int32 × Mm)
  | 0, _, _ => none
  | n1 + 1, x2, M0 => (rdR M0 x0 12 1).bind fun v2 =>
  v2.bind fun a4 =>
  (ldI M0 a4 5).bind fun v3 =>
  if v3 ≤ x2 then
    k101  M0
  else
    (rdR M0 x0 12 1).bind fun v6 =>
    v6.bind fun a8 =>
    (ldI M0 a8 (3470 + x2)).bind fun v7 =>
    (rdR M0 x0 12 1).bind fun v9 =>
    v9.bind fun a11 =>
    (ldI M0 a11 (2270 + x1)).bind fun v10 =>
    if v7 = v10 then
      (rdR M0 x0 12 1).bind fun v13 =>
      v13.bind fun a15 =>
      (ldI M0 a15 (3650 + x2)).bind fun v14 =>
      if v14 ≤ x1 then
        F_X12_rightOf_L2 k101 k49 x0 x1 n1 (x2 + 1) M0
      else
        k49 x2 M0
    else
      F_X12_rightOf_L2 k101 k49 x0 x1 n1 (x2 + 1) M0
def F_X12_rightOf (this : Nat) (p1 : Int32) (M : Mm) : Option (Int32 × Mm) :=
  F_X12_rightOf_L2 (fun  (M17 : Mm) =>
    (rdR M17 this 12 1).bind fun v18 =>
    v18.bind fun a20 =>
    (ldI M17 a20 (3270 + p1)).bind fun v19 =>
    (rdR M17 this 12 1).bind fun v21 =>
    v21.bind fun a23 =>
    (ldI M17 a23 (3070 + p1)).bind fun v22 =>
    some ((v19 - (3 * v22)), M17)) (fun (y24 : Int32) (M25 : Mm) =>
    (rdR M25 this 12 1).bind fun v26 =>
    v26.bind fun a28 =>
    (ldI M25 a28 (3270 + p1)).bind fun v27 =>
    (rdR M25 this 12 1).bind fun v29 =>
    v29.bind fun a31 =>
    (ldI M25 a31 (3530 + y24)).bind fun v30 =>
    (rdR M25 this 12 1).bind fun v32 =>
    v32.bind fun a34 =>
    (ldI M25 a34 (3070 + p1)).bind fun v33 =>
    (rdR M25 this 12 1).bind fun v35 =>
    v35.bind fun a37 =>
    (ldI M25 a37 (3590 + y24)).bind fun v36 =>
    (dvI (v30 * (v33 + 1)) v36).bind fun v38 =>
    some ((v27 - v38), M25)) this p1 1000000 0 M

def F_X12_read (this : Nat) (p1 : Int32) (p2 : Int32) (M : Mm) : Option (Int64 × Mm) :=
  (isO M this 12).bind fun _ =>
  (F_X12_isReading this p1 M).bind fun (v3, M1) =>
  nv (α := Int32) (if v3 = 0 then 1 else 0) fun v4 =>
  (wrI M1 this 12 0 v4).bind fun M6 =>
  (rdI M6 this 12 0).bind fun v7 =>
  if v7 ≤ 0 then
    if p2 = 0 then
      (rdR M6 this 12 1).bind fun v10 =>
      v10.bind fun a12 =>
      (ldI M6 a12 (3270 + p1)).bind fun v11 =>
      some ((v11.toInt64 : Int64), M6)
    else
      (isO M6 this 12).bind fun _ =>
      (F_X12_rightOf this p1 M6).bind fun (v15, M13) =>
      some ((v15.toInt64 : Int64), M13)
  else
    some ((0 : Int64), M6)

def F_X12_endBy (this : Nat) (p1 : Int32) (p2 : Int32) (p3 : Int32) (p4 : Int32) (M : Mm) : Option Mm :=
  (rdR M this 12 1).bind fun v1 =>
  v1.bind fun a3 =>
  (ldI M a3 (2178 + p1)).bind fun v2 =>
  (wrI M this 12 4 v2).bind fun M4 =>
  (rdR M4 this 12 1).bind fun v5 =>
  v5.bind fun a7 =>
  (ldI M4 a7 (2186 + p1)).bind fun v6 =>
  (wrI M4 this 12 5 v6).bind fun M8 =>
  (isO M8 this 12).bind fun _ =>
  (F_X12_sink this p2 1 M8).bind fun M9 =>
  (isO M9 this 12).bind fun _ =>
  (F_X12_steps this p3 p4 M9).bind fun M11 =>
  some M11

def F_X12_findEnds_L72 (k171 : Mm → Option Mm) (x0 : Nat) (x1 : Int32) (x2 : Int32) : Nat → Int32 → Mm → Option Mm
  | 0, _, _ => none
  | n27 + 1, x3, M0 => if 81 ≤ x3 then
    k171  M0
  else
    (rdR M0 x0 12 22).bind fun v29 =>
    (rdI M0 x0 12 26).bind fun v30 =>
    v29.bind fun a32 =>
    (stI M0 a32 ((81 * v30) + x3) (-1)).bind fun M31 =>
    (dvI x3 9).bind fun v33 =>
    (rmI x3 9).bind fun v34 =>
    (isO M31 x0 12).bind fun _ =>
    (F_X12_isHeading x0 x2 (v33 - 4) (v34 - 4) M31).bind fun (v37, M35) =>
    if v37 = 0 then
      F_X12_findEnds_L72 k171 x0 x1 x2 n27 (x3 + 1) M35
    else
      (isO M35 x0 12).bind fun _ =>
      (F_X12_layerFor x0 x2 x1 M35).bind fun (v41, M39) =>
      (dvI x3 9).bind fun v42 =>
      (rmI x3 9).bind fun v43 =>
      (isO M39 x0 12).bind fun _ =>
      (F_X12_endBy x0 x2 v41 (v42 - 4) (v43 - 4) M39).bind fun M44 =>
      (rdR M44 x0 12 22).bind fun v46 =>
      (rdI M44 x0 12 26).bind fun v47 =>
      (rdI M44 x0 12 4).bind fun v48 =>
      (rdI M44 x0 12 5).bind fun v49 =>
      v46.bind fun a51 =>
      (stI M44 a51 ((81 * v47) + x3) ((8 * v48) + v49)).bind fun M50 =>
      F_X12_findEnds_L72 k171 x0 x1 x2 n27 (x3 + 1) M50
def F_X12_findEnds_L7  (x0 : Nat) (x1 : Int32) : Nat → Int32 → Mm → Option Mm
  | 0, _, _ => none
  | n2 + 1, x2, M0 => (rdR M0 x0 12 1).bind fun v3 =>
  v3.bind fun a5 =>
  (ldI M0 a5 0).bind fun v4 =>
  if v4 ≤ x2 then
    some M0
  else
    (rdI M0 x0 12 26).bind fun v7 =>
    if 3 ≤ v7 then
      some M0
    else
      (isO M0 x0 12).bind fun _ =>
      (F_X12_isUp x0 x2 M0).bind fun (v11, M9) =>
      if v11 = 0 then
        F_X12_findEnds_L7 x0 x1 n2 (x2 + 1) M9
      else
        (rdR M9 x0 12 1).bind fun v13 =>
        v13.bind fun a15 =>
        (ldI M9 a15 (2194 + x2)).bind fun v14 =>
        (isO M9 x0 12).bind fun _ =>
        (F_X12_layerFor x0 x2 x1 M9).bind fun (v18, M16) =>
        (isO M16 x0 12).bind fun _ =>
        (F_X12_cost x0 x2 v18 M16).bind fun (v21, M19) =>
        if v21 ≤ v14 then
          (rdR M19 x0 12 21).bind fun v23 =>
          (rdI M19 x0 12 26).bind fun v24 =>
          v23.bind fun a26 =>
          (stI M19 a26 v24 x2).bind fun M25 =>
          F_X12_findEnds_L72 (fun  (M52 : Mm) =>
            (rdI M52 x0 12 26).bind fun v53 =>
            (wrI M52 x0 12 26 (v53 + 1)).bind fun M54 =>
            F_X12_findEnds_L7 x0 x1 n2 (x2 + 1) M54) x0 x1 x2 1000000 0 M25
        else
          F_X12_findEnds_L7 x0 x1 n2 (x2 + 1) M19
def F_X12_findEnds (this : Nat) (p1 : Int32) (M : Mm) : Option Mm :=
  (wrI M this 12 26 0).bind fun M1 =>
  F_X12_findEnds_L7  this p1 1000000 0 M1

def F_X12_raise (this : Nat) (p1 : Int32) (p2 : Int32) (M : Mm) : Option (Int32 × Mm) :=
  (rdR M this 12 25).bind fun v1 =>
  v1.bind fun a3 =>
  (ldI M a3 p1).bind fun v2 =>
  if v2 < p2 then
    (rdR M this 12 25).bind fun v5 =>
    v5.bind fun a7 =>
    (ldI M a7 p1).bind fun v6 =>
    (rdR M this 12 25).bind fun v8 =>
    v8.bind fun a10 =>
    (stI M a10 p1 p2).bind fun M9 =>
    some ((p2 - v6), M9)
  else
    some ((0 : Int32), M)

def F_X12_gainAt_L18  (x0 : Nat) (x1 : Int32) : Nat → Int32 → Int32 → Mm → Option (Int32 × Mm)
  | 0, _, _, _ => none
  | n7 + 1, x2, x3, M0 => if 4 ≤ x3 then
    some (x2, M0)
  else
    (isO M0 x0 12).bind fun _ =>
    (F_X12_besideOf x0 x1 x3 M0).bind fun (v11, M9) =>
    if v11 < 0 then
      F_X12_gainAt_L18 x0 x1 n7 x2 (x3 + 1) M9
    else
      (isO M9 x0 12).bind fun _ =>
      (F_X12_besideOf x0 x1 x3 M9).bind fun (v15, M13) =>
      (rdR M13 x0 12 1).bind fun v16 =>
      (isO M13 x0 12).bind fun _ =>
      (F_X12_besideOf x0 x1 x3 M13).bind fun (v19, M17) =>
      v16.bind fun a21 =>
      (ldI M17 a21 (170 + v19)).bind fun v20 =>
      (dvI (v20 + 1) 2).bind fun v22 =>
      (isO M17 x0 12).bind fun _ =>
      (F_X12_raise x0 v15 v22 M17).bind fun (v25, M23) =>
      F_X12_gainAt_L18 x0 x1 n7 (x2 + v25) (x3 + 1) M23
def F_X12_gainAt (this : Nat) (p1 : Int32) (M : Mm) : Option (Int32 × Mm) :=
  (rdR M this 12 1).bind fun v1 =>
  v1.bind fun a3 =>
  (ldI M a3 (170 + p1)).bind fun v2 =>
  (isO M this 12).bind fun _ =>
  (F_X12_raise this p1 v2 M).bind fun (v6, M4) =>
  F_X12_gainAt_L18  this p1 1000000 v6 0 M4

def F_X12_clearAt_L9  (x0 : Nat) (x1 : Int32) : Nat → Int32 → Mm → Option Mm
  | 0, _, _ => none
  | n4 + 1, x2, M0 => if 4 ≤ x2 then
    some M0
  else
    (isO M0 x0 12).bind fun _ =>
    (F_X12_besideOf x0 x1 x2 M0).bind fun (v8, M6) =>
    if v8 < 0 then
      F_X12_clearAt_L9 x0 x1 n4 (x2 + 1) M6
    else
      (rdR M6 x0 12 25).bind fun v10 =>
      (isO M6 x0 12).bind fun _ =>
      (F_X12_besideOf x0 x1 x2 M6).bind fun (v13, M11) =>
      v10.bind fun a15 =>
      (stI M11 a15 v13 0).bind fun M14 =>
      F_X12_clearAt_L9 x0 x1 n4 (x2 + 1) M14
def F_X12_clearAt (this : Nat) (p1 : Int32) (M : Mm) : Option Mm :=
  (rdR M this 12 25).bind fun v1 =>
  v1.bind fun a3 =>
  (stI M a3 p1 0).bind fun M2 =>
  F_X12_clearAt_L9  this p1 1000000 0 M2

def F_X12_gainOf_L4 (k41 : Int32 → Mm → Option (Int32 × Mm)) (x0 : Nat) : Nat → Int32 → Int32 → Mm → Option (Int32 × Mm)
  | 0, _, _, _ => none
  | n1 + 1, x1, x2, M0 => (rdI M0 x0 12 26).bind fun v2 =>
  if v2 ≤ x2 then
    k41 x1 M0
  else
    (rdR M0 x0 12 22).bind fun v4 =>
    (rdR M0 x0 12 23).bind fun v5 =>
    v5.bind fun a7 =>
    (ldI M0 a7 x2).bind fun v6 =>
    v4.bind fun a9 =>
    (ldI M0 a9 ((81 * x2) + v6)).bind fun v8 =>
    (isO M0 x0 12).bind fun _ =>
    (F_X12_gainAt x0 v8 M0).bind fun (v12, M10) =>
    F_X12_gainOf_L4 k41 x0 n1 (x1 + v12) (x2 + 1) M10
def F_X12_gainOf_L43  (x0 : Nat) (x1 : Int32) : Nat → Int32 → Mm → Option (Int32 × Mm)
  | 0, _, _ => none
  | n15 + 1, x2, M0 => (rdI M0 x0 12 26).bind fun v16 =>
  if v16 ≤ x2 then
    some (x1, M0)
  else
    (rdR M0 x0 12 22).bind fun v18 =>
    (rdR M0 x0 12 23).bind fun v19 =>
    v19.bind fun a21 =>
    (ldI M0 a21 x2).bind fun v20 =>
    v18.bind fun a23 =>
    (ldI M0 a23 ((81 * x2) + v20)).bind fun v22 =>
    (isO M0 x0 12).bind fun _ =>
    (F_X12_clearAt x0 v22 M0).bind fun M24 =>
    F_X12_gainOf_L43 x0 x1 n15 (x2 + 1) M24
def F_X12_gainOf (this : Nat) (M : Mm) : Option (Int32 × Mm) :=
  F_X12_gainOf_L4 (fun (y13 : Int32) (M14 : Mm) =>
    F_X12_gainOf_L43  this y13 1000000 0 M14) this 1000000 0 0 M

def F_X12_isApart_L27  (x0 : Nat) (x1 : Int32) : Nat → Int32 → Int32 → Mm → Option (Int32 × Mm)
  | 0, _, _, _ => none
  | n9 + 1, x2, x3, M0 => if x1 ≤ x3 then
    (ckZ x2).bind fun _ =>
    some (x2, M0)
  else
    if x2 = 0 then
      F_X12_isApart_L27 x0 x1 n9 0 (x3 + 1) M0
    else
      (rdR M0 x0 12 22).bind fun v12 =>
      (rdR M0 x0 12 23).bind fun v13 =>
      v13.bind fun a15 =>
      (ldI M0 a15 x3).bind fun v14 =>
      v12.bind fun a17 =>
      (ldI M0 a17 ((81 * x3) + v14)).bind fun v16 =>
      (rdR M0 x0 12 22).bind fun v18 =>
      (rdR M0 x0 12 23).bind fun v19 =>
      v19.bind fun a21 =>
      (ldI M0 a21 x1).bind fun v20 =>
      v18.bind fun a23 =>
      (ldI M0 a23 ((81 * x1) + v20)).bind fun v22 =>
      nv (α := Int32) (if v16 = v22 then 0 else 1) fun v24 =>
      F_X12_isApart_L27 x0 x1 n9 v24 (x3 + 1) M0
def F_X12_isApart (this : Nat) (p1 : Int32) (M : Mm) : Option (Int32 × Mm) :=
  (rdR M this 12 22).bind fun v1 =>
  (rdR M this 12 23).bind fun v2 =>
  v2.bind fun a4 =>
  (ldI M a4 p1).bind fun v3 =>
  v1.bind fun a6 =>
  (ldI M a6 ((81 * p1) + v3)).bind fun v5 =>
  nv (α := Int32) (if v5 < 0 then 0 else 1) fun v7 =>
  F_X12_isApart_L27  this p1 1000000 v7 0 M

def F_X12_findPlan_L122 (k151 : Mm → Option (Int32 × Mm)) (x0 : Nat) (x2 : Int32) : Nat → Int32 → Mm → Option (Int32 × Mm)
  | 0, _, _ => none
  | n31 + 1, x4, M0 => (rdI M0 x0 12 26).bind fun v32 =>
  if v32 ≤ x4 then
    k151  M0
  else
    (rdR M0 x0 12 24).bind fun v34 =>
    (rdR M0 x0 12 23).bind fun v35 =>
    v35.bind fun a37 =>
    (ldI M0 a37 x4).bind fun v36 =>
    v34.bind fun a39 =>
    (stI M0 a39 x4 v36).bind fun M38 =>
    F_X12_findPlan_L122 k151 x0 x2 n31 (x4 + 1) M38
def F_X12_findPlan_L33 (k154 : Mm → Option (Int32 × Mm)) (x0 : Nat) : Nat → Int32 → Mm → Option (Int32 × Mm)
  | 0, _, _ => none
  | n9 + 1, x2, M0 => if x2 < 0 then
    k154  M0
  else
    (rdR M0 x0 12 23).bind fun v11 =>
    v11.bind fun a13 =>
    (ldI M0 a13 x2).bind fun v12 =>
    (stI M0 a13 x2 (v12 + 1)).bind fun M14 =>
    (rdR M14 x0 12 23).bind fun v15 =>
    v15.bind fun a17 =>
    (ldI M14 a17 x2).bind fun v16 =>
    if v16 ≤ 80 then
      (isO M14 x0 12).bind fun _ =>
      (F_X12_isApart x0 x2 M14).bind fun (v21, M19) =>
      if v21 = 0 then
        F_X12_findPlan_L33 k154 x0 n9 x2 M19
      else
        (rdI M19 x0 12 26).bind fun v23 =>
        if (v23 - 1) ≤ x2 then
          (isO M19 x0 12).bind fun _ =>
          (F_X12_gainOf x0 M19).bind fun (v27, M25) =>
          (rdI M25 x0 12 27).bind fun v28 =>
          if v28 < v27 then
            (wrI M25 x0 12 27 v27).bind fun M30 =>
            F_X12_findPlan_L122 (fun  (M40 : Mm) =>
              F_X12_findPlan_L33 k154 x0 n9 x2 M40) x0 x2 1000000 0 M30
          else
            F_X12_findPlan_L33 k154 x0 n9 x2 M25
        else
          (rdR M19 x0 12 23).bind fun v41 =>
          v41.bind fun a43 =>
          (stI M19 a43 (x2 + 1) (-1)).bind fun M42 =>
          F_X12_findPlan_L33 k154 x0 n9 (x2 + 1) M42
    else
      F_X12_findPlan_L33 k154 x0 n9 (x2 + (-1)) M14
def F_X12_findPlan (this : Nat) (p1 : Int32) (M : Mm) : Option (Int32 × Mm) :=
  (isO M this 12).bind fun _ =>
  (F_X12_findEnds this p1 M).bind fun M1 =>
  (wrI M1 this 12 27 (-1)).bind fun M3 =>
  (rdI M3 this 12 26).bind fun v4 =>
  if v4 = 0 then
    (wrI M3 this 12 27 0).bind fun M47 =>
    some ((1 : Int32), M47)
  else
    (rdR M3 this 12 23).bind fun v6 =>
    v6.bind fun a8 =>
    (stI M3 a8 0 (-1)).bind fun M7 =>
    F_X12_findPlan_L33 (fun  (M44 : Mm) =>
      (rdI M44 this 12 27).bind fun v45 =>
      if v45 < 0 then
        some ((0 : Int32), M44)
      else
        some ((1 : Int32), M44)) this 1000000 0 M7

def F_X12_plan (this : Nat) (p1 : Int32) (M : Mm) : Option (Int32 × Mm) :=
  (isO M this 12).bind fun _ =>
  (F_X12_is this p1 0 3 M).bind fun (v3, M1) =>
  if v3 = 0 then
    some (((-1) : Int32), M1)
  else
    (isO M1 this 12).bind fun _ =>
    (F_X12_findPlan this p1 M1).bind fun (v7, M5) =>
    if v7 = 0 then
      some (((-4) : Int32), M5)
    else
      (rdI M5 this 12 27).bind fun v9 =>
      some (v9, M5)

def F_X12_planned_L33 (k51 : Int32 → Mm → Option (Int32 × Mm)) (x0 : Nat) (x2 : Int32) : Nat → Int32 → Mm → Option (Int32 × Mm)
  | 0, _, _ => none
  | n13 + 1, x3, M0 => (rdI M0 x0 12 26).bind fun v14 =>
  if v14 ≤ x3 then
    some (((-4) : Int32), M0)
  else
    (rdR M0 x0 12 21).bind fun v16 =>
    v16.bind fun a18 =>
    (ldI M0 a18 x3).bind fun v17 =>
    if v17 = x2 then
      k51 x3 M0
    else
      F_X12_planned_L33 k51 x0 x2 n13 (x3 + 1) M0
def F_X12_planned (this : Nat) (p1 : Int32) (p2 : Int32) (M : Mm) : Option (Int32 × Mm) :=
  (isO M this 12).bind fun _ =>
  (F_X12_is this p1 0 3 M).bind fun (v3, M1) =>
  if v3 = 0 then
    some (((-1) : Int32), M1)
  else
    (isO M1 this 12).bind fun _ =>
    (F_X12_isGlider this p2 M1).bind fun (v7, M5) =>
    if v7 = 0 then
      some (((-1) : Int32), M5)
    else
      (isO M5 this 12).bind fun _ =>
      (F_X12_findPlan this p1 M5).bind fun (v11, M9) =>
      if v11 = 0 then
        some (((-4) : Int32), M9)
      else
        F_X12_planned_L33 (fun (y20 : Int32) (M21 : Mm) =>
          (rdR M21 this 12 24).bind fun v22 =>
          v22.bind fun a24 =>
          (ldI M21 a24 y20).bind fun v23 =>
          (dvI v23 9).bind fun v25 =>
          (rdR M21 this 12 24).bind fun v26 =>
          v26.bind fun a28 =>
          (ldI M21 a28 y20).bind fun v27 =>
          (rmI v27 9).bind fun v29 =>
          some ((((20 * (v25 + 6)) + v29) + 6), M21)) this p2 1000000 0 M9

def F_X12_ends (this : Nat) (p1 : Int32) (p2 : Int32) (p3 : Int32) (p4 : Int32) (M : Mm) : Option (Int32 × Mm) :=
  (isO M this 12).bind fun _ =>
  (F_X12_isGlider this p1 M).bind fun (v3, M1) =>
  if v3 = 0 then
    some (((-1) : Int32), M1)
  else
    (isO M1 this 12).bind fun _ =>
    (F_X12_sinks this p1 M1).bind fun (v7, M5) =>
    (isO M5 this 12).bind fun _ =>
    (F_X12_is this p2 0 v7 M5).bind fun (v10, M8) =>
    if v10 = 0 then
      some (((-1) : Int32), M8)
    else
      (isO M8 this 12).bind fun _ =>
      (F_X12_isHeading this p1 p3 p4 M8).bind fun (v14, M12) =>
      if v14 = 0 then
        some (((-1) : Int32), M12)
      else
        (isO M12 this 12).bind fun _ =>
        (F_X12_isUp this p1 M12).bind fun (v18, M16) =>
        if v18 = 0 then
          some (((-3) : Int32), M16)
        else
          (isO M16 this 12).bind fun _ =>
          (F_X12_endBy this p1 p2 p3 p4 M16).bind fun M20 =>
          (rdI M20 this 12 4).bind fun v22 =>
          (rdI M20 this 12 5).bind fun v23 =>
          some (((8 * v22) + v23), M20)

def F_X12_comesTo_L5  (x0 : Nat) (x1 : Int32) (x2 : Int32) : Nat → Int32 → Int32 → Mm → Option (Int32 × Mm)
  | 0, _, _, _ => none
  | n1 + 1, x3, x4, M0 => if 4 ≤ x4 then
    some (x3, M0)
  else
    (isO M0 x0 12).bind fun _ =>
    (F_X12_besideOf x0 x1 x4 M0).bind fun (v5, M3) =>
    if v5 < 0 then
      F_X12_comesTo_L5 x0 x1 x2 n1 x3 (x4 + 1) M3
    else
      (rdR M3 x0 12 1).bind fun v7 =>
      v7.bind fun a9 =>
      (ldI M3 a9 (10 + v5)).bind fun v8 =>
      if x2 < v8 then
        (rmI x4 2).bind fun v11 =>
        jp (fun (s13 : Int32) (M14 : Mm) =>
        nv (α := Int32) (if 2 ≤ x4 then s13 else (-s13)) fun v15 =>
        nv (α := Int32) (if v15 ≤ 0 then 0 else v15) fun v17 =>
        F_X12_comesTo_L5 x0 x1 x2 n1 (x3 + v17) (x4 + 1) M14) fun k12 =>
        if v11 = 0 then
          (rdR M3 x0 12 1).bind fun v26 =>
          v26.bind fun a28 =>
          (ldI M3 a28 ((890 + (4 * v5)) + x2)).bind fun v27 =>
          k12 v27 M3
        else
          (rdR M3 x0 12 1).bind fun v23 =>
          v23.bind fun a25 =>
          (ldI M3 a25 ((1210 + (4 * v5)) + x2)).bind fun v24 =>
          k12 v24 M3
      else
        F_X12_comesTo_L5 x0 x1 x2 n1 x3 (x4 + 1) M3
def F_X12_comesTo (this : Nat) (p1 : Int32) (p2 : Int32) (M : Mm) : Option (Int32 × Mm) :=
  F_X12_comesTo_L5  this p1 p2 1000000 0 0 M

def F_X12_whole_L16  (x0 : Nat) (x1 : Int32) : Nat → Int32 → Int32 → Mm → Option (Int32 × Mm)
  | 0, _, _, _ => none
  | n5 + 1, x2, x3, M0 => if 80 ≤ x3 then
    some (x2, M0)
  else
    (rdR M0 x0 12 1).bind fun v7 =>
    v7.bind fun a9 =>
    (ldI M0 a9 (10 + x3)).bind fun v8 =>
    if v8 ≤ x1 then
      F_X12_whole_L16 x0 x1 n5 x2 (x3 + 1) M0
    else
      (rdR M0 x0 12 1).bind fun v11 =>
      v11.bind fun a13 =>
      (ldI M0 a13 ((890 + (4 * x3)) + x1)).bind fun v12 =>
      (isO M0 x0 12).bind fun _ =>
      (F_X12_abs x0 v12 M0).bind fun (v16, M14) =>
      (rdR M14 x0 12 1).bind fun v17 =>
      v17.bind fun a19 =>
      (ldI M14 a19 ((1210 + (4 * x3)) + x1)).bind fun v18 =>
      (isO M14 x0 12).bind fun _ =>
      (F_X12_abs x0 v18 M14).bind fun (v22, M20) =>
      (isO M20 x0 12).bind fun _ =>
      (F_X12_comesTo x0 x3 x1 M20).bind fun (v25, M23) =>
      if (v16 + v22) = v25 then
        F_X12_whole_L16 x0 x1 n5 (x2 + 1) (x3 + 1) M23
      else
        F_X12_whole_L16 x0 x1 n5 x2 (x3 + 1) M23
def F_X12_whole (this : Nat) (p1 : Int32) (M : Mm) : Option (Int32 × Mm) :=
  (isO M this 12).bind fun _ =>
  (F_X12_is this p1 0 3 M).bind fun (v3, M1) =>
  if v3 = 0 then
    some (((-1) : Int32), M1)
  else
    F_X12_whole_L16  this p1 1000000 0 0 M1

def F_X12_ship (this : Nat) (p1 : Int32) (p2 : Int32) (M : Mm) : Option (Int32 × Mm) :=
  (isO M this 12).bind fun _ =>
  (F_X12_isCell this p1 p2 M).bind fun (v3, M1) =>
  if v3 = 0 then
    some (((-1) : Int32), M1)
  else
    (isO M1 this 12).bind fun _ =>
    (F_X12_isWater this p1 p2 M1).bind fun (v7, M5) =>
    if v7 = 0 then
      some (((-3) : Int32), M5)
    else
      (rdR M5 this 12 1).bind fun v9 =>
      v9.bind fun a11 =>
      (ldI M5 a11 6).bind fun v10 =>
      (rdR M5 this 12 1).bind fun v12 =>
      v12.bind fun a14 =>
      (stI M5 a14 6 ((8 * p1) + p2)).bind fun M13 =>
      some (v10, M13)

def F_X12_leftOf (this : Nat) (p1 : Int32) (M : Mm) : Option (Int32 × Mm) :=
  (rdR M this 12 1).bind fun v1 =>
  v1.bind fun a3 =>
  (ldI M a3 (2194 + p1)).bind fun v2 =>
  (isO M this 12).bind fun _ =>
  (F_X12_cost this p1 1 M).bind fun (v6, M4) =>
  (dvI v2 v6).bind fun v7 =>
  some (v7, M4)

def F_X12_left (this : Nat) (p1 : Int32) (M : Mm) : Option (Int32 × Mm) :=
  (isO M this 12).bind fun _ =>
  (F_X12_isGlider this p1 M).bind fun (v3, M1) =>
  if v3 = 0 then
    some (((-1) : Int32), M1)
  else
    (isO M1 this 12).bind fun _ =>
    (F_X12_isUp this p1 M1).bind fun (v7, M5) =>
    if v7 = 0 then
      some (((-3) : Int32), M5)
    else
      (isO M5 this 12).bind fun _ =>
      (F_X12_leftOf this p1 M5).bind fun (v11, M9) =>
      some (v11, M9)

def F_X12_offShip (this : Nat) (p1 : Int32) (M : Mm) : Option (Int32 × Mm) :=
  (rdR M this 12 1).bind fun v1 =>
  v1.bind fun a3 =>
  (ldI M a3 (2178 + p1)).bind fun v2 =>
  (rdR M this 12 1).bind fun v4 =>
  v4.bind fun a6 =>
  (ldI M a6 6).bind fun v5 =>
  (dvI v5 8).bind fun v7 =>
  (isO M this 12).bind fun _ =>
  (F_X12_abs this (v2 - v7) M).bind fun (v10, M8) =>
  (rdR M8 this 12 1).bind fun v11 =>
  v11.bind fun a13 =>
  (ldI M8 a13 (2186 + p1)).bind fun v12 =>
  (rdR M8 this 12 1).bind fun v14 =>
  v14.bind fun a16 =>
  (ldI M8 a16 6).bind fun v15 =>
  (rmI v15 8).bind fun v17 =>
  (isO M8 this 12).bind fun _ =>
  (F_X12_abs this (v12 - v17) M8).bind fun (v20, M18) =>
  some ((v10 + v20), M18)

def F_X12_next_L5  (x0 : Nat) : Nat → Int32 → Int32 → Mm → Option (Int32 × Mm)
  | 0, _, _, _ => none
  | n1 + 1, x1, x2, M0 => (rdR M0 x0 12 1).bind fun v2 =>
  v2.bind fun a4 =>
  (ldI M0 a4 0).bind fun v3 =>
  if v3 ≤ x2 then
    some (x1, M0)
  else
    (isO M0 x0 12).bind fun _ =>
    (F_X12_isUp x0 x2 M0).bind fun (v8, M6) =>
    if v8 = 0 then
      F_X12_next_L5 x0 n1 x1 (x2 + 1) M6
    else
      if x1 < 0 then
        F_X12_next_L5 x0 n1 x2 (x2 + 1) M6
      else
        (isO M6 x0 12).bind fun _ =>
        (F_X12_leftOf x0 x2 M6).bind fun (v13, M11) =>
        (isO M11 x0 12).bind fun _ =>
        (F_X12_leftOf x0 x1 M11).bind fun (v16, M14) =>
        if v13 < v16 then
          F_X12_next_L5 x0 n1 x2 (x2 + 1) M14
        else
          (isO M14 x0 12).bind fun _ =>
          (F_X12_leftOf x0 x2 M14).bind fun (v20, M18) =>
          (isO M18 x0 12).bind fun _ =>
          (F_X12_leftOf x0 x1 M18).bind fun (v23, M21) =>
          if v20 = v23 then
            (isO M21 x0 12).bind fun _ =>
            (F_X12_offShip x0 x2 M21).bind fun (v27, M25) =>
            (isO M25 x0 12).bind fun _ =>
            (F_X12_offShip x0 x1 M25).bind fun (v30, M28) =>
            if v30 ≤ v27 then
              F_X12_next_L5 x0 n1 x1 (x2 + 1) M28
            else
              F_X12_next_L5 x0 n1 x2 (x2 + 1) M28
          else
            F_X12_next_L5 x0 n1 x1 (x2 + 1) M21
def F_X12_next (this : Nat) (M : Mm) : Option (Int32 × Mm) :=
  F_X12_next_L5  this 1000000 (-4) 0 M

def F_X12_fetch (this : Nat) (p1 : Int32) (M : Mm) : Option (Int32 × Mm) :=
  (isO M this 12).bind fun _ =>
  (F_X12_isGlider this p1 M).bind fun (v3, M1) =>
  if v3 = 0 then
    some (((-1) : Int32), M1)
  else
    (isO M1 this 12).bind fun _ =>
    (F_X12_isUp this p1 M1).bind fun (v7, M5) =>
    if v7 = 0 then
      some (((-3) : Int32), M5)
    else
      (isO M5 this 12).bind fun _ =>
      (F_X12_offShip this p1 M5).bind fun (v11, M9) =>
      if v11 ≤ 3 then
        (rdR M9 this 12 1).bind fun v13 =>
        v13.bind fun a15 =>
        (stI M9 a15 (2202 + p1) 1).bind fun M14 =>
        (isO M14 this 12).bind fun _ =>
        (F_X12_offShip this p1 M14).bind fun (v18, M16) =>
        some (v18, M16)
      else
        some (((-3) : Int32), M9)

def F_X12_image_L2  (x0 : Nat) : Nat → Int32 → Mm → Option (Int32 × Mm)
  | 0, _, _ => none
  | n1 + 1, x1, M0 => if 8369 ≤ x1 then
    (wrZ M0 x0 12 3 1).bind fun M3 =>
    (rdR M3 x0 12 1).bind fun v4 =>
    v4.bind fun a6 =>
    (ldI M3 a6 1).bind fun v5 =>
    some (v5, M3)
  else
    (rdR M0 x0 12 2).bind fun v7 =>
    (rdR M0 x0 12 1).bind fun v8 =>
    v8.bind fun a10 =>
    (ldI M0 a10 x1).bind fun v9 =>
    v7.bind fun a12 =>
    (stI M0 a12 x1 v9).bind fun M11 =>
    F_X12_image_L2 x0 n1 (x1 + 1) M11
def F_X12_image (this : Nat) (M : Mm) : Option (Int32 × Mm) :=
  F_X12_image_L2  this 1000000 0 M

def F_X12_restore_L12  (x0 : Nat) : Nat → Int32 → Mm → Option (Int32 × Mm)
  | 0, _, _ => none
  | n3 + 1, x1, M0 => if 8369 ≤ x1 then
    (rdR M0 x0 12 1).bind fun v5 =>
    v5.bind fun a7 =>
    (ldI M0 a7 1).bind fun v6 =>
    some (v6, M0)
  else
    (rdR M0 x0 12 1).bind fun v8 =>
    (rdR M0 x0 12 2).bind fun v9 =>
    v9.bind fun a11 =>
    (ldI M0 a11 x1).bind fun v10 =>
    v8.bind fun a13 =>
    (stI M0 a13 x1 v10).bind fun M12 =>
    F_X12_restore_L12 x0 n3 (x1 + 1) M12
def F_X12_restore (this : Nat) (M : Mm) : Option (Int32 × Mm) :=
  (rdI M this 12 3).bind fun v1 =>
  if v1 = 0 then
    some (((-3) : Int32), M)
  else
    F_X12_restore_L12  this 1000000 0 M

def F_X12_count_L69  (x0 : Nat) (x1 : Int32) : Nat → Int32 → Int32 → Mm → Option (Int32 × Mm)
  | 0, _, _, _ => none
  | n6 + 1, x2, x3, M0 => (rdR M0 x0 12 1).bind fun v7 =>
  v7.bind fun a9 =>
  (ldI M0 a9 0).bind fun v8 =>
  if v8 ≤ x3 then
    some (x2, M0)
  else
    (rdR M0 x0 12 1).bind fun v11 =>
    v11.bind fun a13 =>
    (ldI M0 a13 (2202 + x3)).bind fun v12 =>
    nv (α := Int32) (if v12 = (x1 - 1) then 1 else 0) fun v14 =>
    F_X12_count_L69 x0 x1 n6 (x2 + v14) (x3 + 1) M0
def F_X12_count_L141  (x0 : Nat) : Nat → Int32 → Int32 → Mm → Option (Int32 × Mm)
  | 0, _, _, _ => none
  | n35 + 1, x2, x3, M0 => if 80 ≤ x3 then
    some (x2, M0)
  else
    (rdR M0 x0 12 1).bind fun v37 =>
    v37.bind fun a39 =>
    (ldI M0 a39 (170 + x3)).bind fun v38 =>
    F_X12_count_L141 x0 n35 (x2 + v38) (x3 + 1) M0
def F_X12_count_L177  (x0 : Nat) : Nat → Int32 → Int32 → Mm → Option (Int32 × Mm)
  | 0, _, _, _ => none
  | n45 + 1, x2, x3, M0 => (rdR M0 x0 12 1).bind fun v46 =>
  v46.bind fun a48 =>
  (ldI M0 a48 0).bind fun v47 =>
  if v47 ≤ x3 then
    some (x2, M0)
  else
    (rdR M0 x0 12 1).bind fun v50 =>
    v50.bind fun a52 =>
    (ldI M0 a52 (2194 + x3)).bind fun v51 =>
    F_X12_count_L177 x0 n45 (x2 + v51) (x3 + 1) M0
def F_X12_count (this : Nat) (p1 : Int32) (M : Mm) : Option (Int32 × Mm) :=
  if p1 = 0 then
    (rdR M this 12 1).bind fun v2 =>
    v2.bind fun a4 =>
    (ldI M a4 0).bind fun v3 =>
    some (v3, M)
  else
  if p1 = 1 ∨ p1 = 2 ∨ p1 = 3 then
    F_X12_count_L69  this p1 1000000 0 0 M
  else
  if p1 = 4 then
    (rdR M this 12 1).bind fun v19 =>
    v19.bind fun a21 =>
    (ldI M a21 1).bind fun v20 =>
    some (v20, M)
  else
  if p1 = 5 then
    (rdR M this 12 1).bind fun v23 =>
    v23.bind fun a25 =>
    (ldI M a25 2).bind fun v24 =>
    some (v24, M)
  else
  if p1 = 6 then
    (rdR M this 12 1).bind fun v27 =>
    v27.bind fun a29 =>
    (ldI M a29 3).bind fun v28 =>
    some (v28, M)
  else
  if p1 = 7 then
    (rdR M this 12 1).bind fun v31 =>
    v31.bind fun a33 =>
    (ldI M a33 4).bind fun v32 =>
    some (v32, M)
  else
  if p1 = 8 then
    F_X12_count_L141  this 1000000 0 0 M
  else
  if p1 = 9 then
    (rdR M this 12 1).bind fun v41 =>
    v41.bind fun a43 =>
    (ldI M a43 5).bind fun v42 =>
    some (v42, M)
  else
  if p1 = 10 then
    F_X12_count_L177  this 1000000 0 0 M
  else
  some (((-1) : Int32), M)

def F_X12_isShelf (this : Nat) (p1 : Int32) (M : Mm) : Option (Int32 × Mm) :=
  (isO M this 12).bind fun _ =>
  (F_X12_is this p1 0 7 M).bind fun (v3, M1) =>
  (ckZ v3).bind fun _ =>
  some (v3, M1)

def F_X12_keep (this : Nat) (p1 : Int32) (p2 : Int32) (p3 : Int32) (M : Mm) : Option (Int32 × Mm) :=
  (isO M this 12).bind fun _ =>
  (F_X12_isShelf this p1 M).bind fun (v3, M1) =>
  if v3 = 0 then
    some (((-1) : Int32), M1)
  else
    (isO M1 this 12).bind fun _ =>
    (F_X12_is this p2 0 1 M1).bind fun (v7, M5) =>
    if v7 = 0 then
      some (((-1) : Int32), M5)
    else
      jp (fun  (M10 : Mm) =>
      (rdR M10 this 12 28).bind fun v11 =>
      v11.bind fun a13 =>
      (stI M10 a13 p1 p2).bind fun M12 =>
      if p2 = 1 then
        (rdR M12 this 12 29).bind fun v15 =>
        (rdR M12 this 12 1).bind fun v16 =>
        v16.bind fun a18 =>
        (ldI M12 a18 (2170 + p3)).bind fun v17 =>
        v15.bind fun a20 =>
        (stI M12 a20 p1 v17).bind fun M19 =>
        (rdR M19 this 12 30).bind fun v21 =>
        (rdR M19 this 12 1).bind fun v22 =>
        v22.bind fun a24 =>
        (ldI M19 a24 (2178 + p3)).bind fun v23 =>
        (rdR M19 this 12 1).bind fun v25 =>
        v25.bind fun a27 =>
        (ldI M19 a27 (2186 + p3)).bind fun v26 =>
        v21.bind fun a29 =>
        (stI M19 a29 p1 ((8 * v23) + v26)).bind fun M28 =>
        (rdR M28 this 12 31).bind fun v30 =>
        (rdR M28 this 12 1).bind fun v31 =>
        v31.bind fun a33 =>
        (ldI M28 a33 (2194 + p3)).bind fun v32 =>
        v30.bind fun a35 =>
        (stI M28 a35 p1 v32).bind fun M34 =>
        (rdR M34 this 12 32).bind fun v36 =>
        (rdR M34 this 12 1).bind fun v37 =>
        v37.bind fun a39 =>
        (ldI M34 a39 (2202 + p3)).bind fun v38 =>
        v36.bind fun a41 =>
        (stI M34 a41 p1 v38).bind fun M40 =>
        some ((0 : Int32), M40)
      else
        some ((0 : Int32), M12)) fun k9 =>
      if p2 = 1 then
        (isO M5 this 12).bind fun _ =>
        (F_X12_isGlider this p3 M5).bind fun (v46, M44) =>
        if v46 = 0 then
          some (((-1) : Int32), M44)
        else
          k9  M44
      else
        k9  M5

def F_X12_row_L57  (x0 : Nat) (x1 : Int32) : Nat → Int32 → Mm → Option (Int32 × Mm)
  | 0, _, _ => none
  | n20 + 1, x4, M0 => if 80 ≤ x4 then
    some ((0 : Int32), M0)
  else
    (rdR M0 x0 12 35).bind fun v22 =>
    v22.bind fun a24 =>
    (stI M0 a24 ((80 * x1) + x4) 0).bind fun M23 =>
    F_X12_row_L57 x0 x1 n20 (x4 + 1) M23
def F_X12_row (this : Nat) (p1 : Int32) (p2 : Int32) (p3 : Int32) (M : Mm) : Option (Int32 × Mm) :=
  (isO M this 12).bind fun _ =>
  (F_X12_isShelf this p1 M).bind fun (v3, M1) =>
  if v3 = 0 then
    some (((-1) : Int32), M1)
  else
    (isO M1 this 12).bind fun _ =>
    (F_X12_is this p2 0 2 M1).bind fun (v7, M5) =>
    if v7 = 0 then
      some (((-1) : Int32), M5)
    else
      if p3 ≤ 80 then
        if 0 ≤ p3 then
          (rdR M5 this 12 28).bind fun v11 =>
          v11.bind fun a13 =>
          (stI M5 a13 p1 2).bind fun M12 =>
          (rdR M12 this 12 33).bind fun v14 =>
          v14.bind fun a16 =>
          (stI M12 a16 p1 p2).bind fun M15 =>
          (rdR M15 this 12 34).bind fun v17 =>
          v17.bind fun a19 =>
          (stI M15 a19 p1 p3).bind fun M18 =>
          F_X12_row_L57  this p1 1000000 0 M18
        else
          some (((-14) : Int32), M5)
      else
        some (((-1) : Int32), M5)

def F_X12_narrow (this : Nat) (p1 : Int32) (p2 : Int32) (M : Mm) : Option (Int32 × Mm) :=
  if p1 = 0 then
    some (p2.toInt8.toInt32, M)
  else
    if p1 = 1 then
      some (p2.toInt16.toInt32, M)
    else
      some (p2, M)

def F_X12_put (this : Nat) (p1 : Int32) (p2 : Int32) (p3 : Int32) (M : Mm) : Option (Int32 × Mm) :=
  (isO M this 12).bind fun _ =>
  (F_X12_isShelf this p1 M).bind fun (v3, M1) =>
  if v3 = 0 then
    some (((-1) : Int32), M1)
  else
    (rdR M1 this 12 28).bind fun v5 =>
    v5.bind fun a7 =>
    (ldI M1 a7 p1).bind fun v6 =>
    if v6 = 0 then
      some (((-11) : Int32), M1)
    else
      (rdR M1 this 12 28).bind fun v9 =>
      v9.bind fun a11 =>
      (ldI M1 a11 p1).bind fun v10 =>
      if v10 = 2 then
        (rdR M1 this 12 34).bind fun v13 =>
        v13.bind fun a15 =>
        (ldI M1 a15 p1).bind fun v14 =>
        (isO M1 this 12).bind fun _ =>
        (F_X12_is this p2 0 (v14 - 1) M1).bind fun (v18, M16) =>
        if v18 = 0 then
          some (((-13) : Int32), M16)
        else
          (rdR M16 this 12 35).bind fun v20 =>
          (rdR M16 this 12 33).bind fun v21 =>
          v21.bind fun a23 =>
          (ldI M16 a23 p1).bind fun v22 =>
          (isO M16 this 12).bind fun _ =>
          (F_X12_narrow this v22 p3 M16).bind fun (v26, M24) =>
          v20.bind fun a28 =>
          (stI M24 a28 ((80 * p1) + p2) v26).bind fun M27 =>
          some ((0 : Int32), M27)
      else
        some (((-12) : Int32), M1)

def F_X12_element (this : Nat) (p1 : Int32) (p2 : Int32) (M : Mm) : Option (Int64 × Mm) :=
  (isO M this 12).bind fun _ =>
  (F_X12_isShelf this p1 M).bind fun (v3, M1) =>
  jp (fun (s5 : Int32) (M6 : Mm) =>
  (wrI M6 this 12 0 s5).bind fun M7 =>
  (rdI M7 this 12 0).bind fun v8 =>
  if v8 ≤ 0 then
    (rdR M7 this 12 35).bind fun v10 =>
    v10.bind fun a12 =>
    (ldI M7 a12 ((80 * p1) + p2)).bind fun v11 =>
    some ((v11.toInt64 : Int64), M7)
  else
    some ((0 : Int64), M7)) fun k4 =>
  if v3 = 0 then
    k4 1 M1
  else
    (rdR M1 this 12 28).bind fun v15 =>
    v15.bind fun a17 =>
    (ldI M1 a17 p1).bind fun v16 =>
    if v16 = 2 then
      (rdR M1 this 12 34).bind fun v19 =>
      v19.bind fun a21 =>
      (ldI M1 a21 p1).bind fun v20 =>
      (isO M1 this 12).bind fun _ =>
      (F_X12_is this p2 0 (v20 - 1) M1).bind fun (v24, M22) =>
      if v24 = 0 then
        k4 2 M22
      else
        k4 0 M22
    else
      k4 2 M1

def F_X12_copy_L124 (k158 : Mm → Option (Int32 × Mm)) (x0 : Nat) (x1 : Int32) (x2 : Int32) (x3 : Int32) (x4 : Int32) (x5 : Int32) : Nat → Int32 → Mm → Option (Int32 × Mm)
  | 0, _, _ => none
  | n43 + 1, x6, M0 => if x5 ≤ x6 then
    k158  M0
  else
    (rdR M0 x0 12 36).bind fun v45 =>
    (rdR M0 x0 12 35).bind fun v46 =>
    v46.bind fun a48 =>
    (ldI M0 a48 (((80 * x1) + x2) + x6)).bind fun v47 =>
    v45.bind fun a50 =>
    (stI M0 a50 x6 v47).bind fun M49 =>
    F_X12_copy_L124 k158 x0 x1 x2 x3 x4 x5 n43 (x6 + 1) M49
def F_X12_copy_L161  (x0 : Nat) (x3 : Int32) (x4 : Int32) (x5 : Int32) : Nat → Int32 → Mm → Option (Int32 × Mm)
  | 0, _, _ => none
  | n52 + 1, x6, M0 => if x5 ≤ x6 then
    some (x5, M0)
  else
    (rdR M0 x0 12 35).bind fun v54 =>
    (rdR M0 x0 12 36).bind fun v55 =>
    v55.bind fun a57 =>
    (ldI M0 a57 x6).bind fun v56 =>
    v54.bind fun a59 =>
    (stI M0 a59 (((80 * x3) + x4) + x6) v56).bind fun M58 =>
    F_X12_copy_L161 x0 x3 x4 x5 n52 (x6 + 1) M58
def F_X12_copy (this : Nat) (p1 : Int32) (p2 : Int32) (p3 : Int32) (p4 : Int32) (p5 : Int32) (M : Mm) : Option (Int32 × Mm) :=
  (isO M this 12).bind fun _ =>
  (F_X12_isShelf this p1 M).bind fun (v3, M1) =>
  if v3 = 0 then
    some (((-1) : Int32), M1)
  else
    (isO M1 this 12).bind fun _ =>
    (F_X12_isShelf this p3 M1).bind fun (v7, M5) =>
    if v7 = 0 then
      some (((-1) : Int32), M5)
    else
      (rdR M5 this 12 28).bind fun v9 =>
      v9.bind fun a11 =>
      (ldI M5 a11 p1).bind fun v10 =>
      if v10 = 0 then
        some (((-11) : Int32), M5)
      else
        (rdR M5 this 12 28).bind fun v13 =>
        v13.bind fun a15 =>
        (ldI M5 a15 p3).bind fun v14 =>
        if v14 = 0 then
          some (((-11) : Int32), M5)
        else
          (rdR M5 this 12 28).bind fun v17 =>
          v17.bind fun a19 =>
          (ldI M5 a19 p1).bind fun v18 =>
          if v18 = 2 then
            (rdR M5 this 12 28).bind fun v21 =>
            v21.bind fun a23 =>
            (ldI M5 a23 p3).bind fun v22 =>
            if v22 = 2 then
              (rdR M5 this 12 33).bind fun v25 =>
              v25.bind fun a27 =>
              (ldI M5 a27 p1).bind fun v26 =>
              (rdR M5 this 12 33).bind fun v28 =>
              v28.bind fun a30 =>
              (ldI M5 a30 p3).bind fun v29 =>
              if v26 = v29 then
                if p5 < 0 then
                  some (((-13) : Int32), M5)
                else
                  if p2 < 0 then
                    some (((-13) : Int32), M5)
                  else
                    if p4 < 0 then
                      some (((-13) : Int32), M5)
                    else
                      (rdR M5 this 12 34).bind fun v35 =>
                      v35.bind fun a37 =>
                      (ldI M5 a37 p1).bind fun v36 =>
                      if (v36 - p5) < p2 then
                        some (((-13) : Int32), M5)
                      else
                        (rdR M5 this 12 34).bind fun v39 =>
                        v39.bind fun a41 =>
                        (ldI M5 a41 p3).bind fun v40 =>
                        if p4 ≤ (v40 - p5) then
                          F_X12_copy_L124 (fun  (M51 : Mm) =>
                            F_X12_copy_L161  this p3 p4 p5 1000000 0 M51) this p1 p2 p3 p4 p5 1000000 0 M5
                        else
                          some (((-13) : Int32), M5)
              else
                some (((-12) : Int32), M5)
            else
              some (((-12) : Int32), M5)
          else
            some (((-12) : Int32), M5)

def F_X12_lacksGlider (this : Nat) (p1 : Int32) (M : Mm) : Option (Int32 × Mm) :=
  (isO M this 12).bind fun _ =>
  (F_X12_isShelf this p1 M).bind fun (v3, M1) =>
  if v3 = 0 then
    some (((-1) : Int32), M1)
  else
    (rdR M1 this 12 28).bind fun v5 =>
    v5.bind fun a7 =>
    (ldI M1 a7 p1).bind fun v6 =>
    if v6 = 0 then
      some (((-11) : Int32), M1)
    else
      (rdR M1 this 12 28).bind fun v9 =>
      v9.bind fun a11 =>
      (ldI M1 a11 p1).bind fun v10 =>
      if v10 = 2 then
        some (((-12) : Int32), M1)
      else
        some ((0 : Int32), M1)

def F_X12_sum (this : Nat) (p1 : Int32) (M : Mm) : Option (Int32 × Mm) :=
  (isO M this 12).bind fun _ =>
  (F_X12_lacksGlider this p1 M).bind fun (v3, M1) =>
  if v3 = 0 then
    (rdR M1 this 12 29).bind fun v5 =>
    v5.bind fun a7 =>
    (ldI M1 a7 p1).bind fun v6 =>
    nv (α := Int32) (if v6 = 0 then 2 else (if v6 = 2 then 3 else 1)) fun v8 =>
    nv (α := Int32) (if v6 = 0 then 2 else (if v6 = 1 then 3 else (if v6 = 2 then 1 else 4))) fun v10 =>
    jp (fun (s13 : Int32) (M14 : Mm) =>
    if v6 = 3 then
      some ((2 * (((100 + (10 * v8)) + v10) + s13)), M14)
    else
      some ((((100 + (10 * v8)) + v10) + s13), M14)) fun k12 =>
    if v6 = 1 then
      (isO M1 this 12).bind fun _ =>
      (F_X12_dry this v6 0 M1).bind fun (v20, M18) =>
      k12 v20 M18
    else
      if v6 = 3 then
        (isO M1 this 12).bind fun _ =>
        (F_X12_dry this v6 0 M1).bind fun (v28, M26) =>
        k12 v28 M26
      else
        if v6 = 2 then
          (rdR M1 this 12 31).bind fun v23 =>
          v23.bind fun a25 =>
          (ldI M1 a25 p1).bind fun v24 =>
          k12 v24 M1
        else
          k12 0 M1
  else
    (isO M1 this 12).bind fun _ =>
    (F_X12_lacksGlider this p1 M1).bind fun (v36, M34) =>
    some (v36, M34)

def F_X12_toss (this : Nat) (p1 : Int32) (M : Mm) : Option (Int32 × Mm) :=
  (isO M this 12).bind fun _ =>
  (F_X12_lacksGlider this p1 M).bind fun (v3, M1) =>
  if v3 = 0 then
    (rdR M1 this 12 29).bind fun v5 =>
    v5.bind fun a7 =>
    (ldI M1 a7 p1).bind fun v6 =>
    if v6 = 0 then
      some (((-15) : Int32), M1)
    else
      (rdR M1 this 12 32).bind fun v9 =>
      v9.bind fun a11 =>
      (ldI M1 a11 p1).bind fun v10 =>
      if v10 = 0 then
        (rdR M1 this 12 30).bind fun v13 =>
        v13.bind fun a15 =>
        (ldI M1 a15 p1).bind fun v14 =>
        (rdR M1 this 12 29).bind fun v16 =>
        v16.bind fun a18 =>
        (ldI M1 a18 p1).bind fun v17 =>
        nv (α := Int32) (if v17 = 3 then 100 else 0) fun v19 =>
        some ((v14 + v19), M1)
      else
        some (((-15) : Int32), M1)
  else
    (isO M1 this 12).bind fun _ =>
    (F_X12_lacksGlider this p1 M1).bind fun (v24, M22) =>
    some (v24, M22)
