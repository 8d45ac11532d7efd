def H_J7_fill_53178_L5 (E : Em) (x0 : Nat) (zx1 : Int) (zx3 : Int) : Nat → Int → Jm → Option Jm
  | 0, _, _ => none
  | n2 + 1, zx2, J0 =>
  if zx3 ≤ zx2 then
    some J0
  else
    (jS J0 x0 ((E.1 x0).2 : Int) zx2 zx1).bind fun J4 =>
    H_J7_fill_53178_L5 E x0 zx1 zx3 n2 (wr (zx2 + 1)) J4
def H_J7_fill_53178 (E : Em) (p1 : Nat) (zp2 : Int) (J : Jm) : Option Jm :=
  H_J7_fill_53178_L5 E p1 zp2 ((E.1 p1).2 : Int) 1000000 0 J

def H_X0_begin (E : Em) (this : Nat) (zp1 : Int) (zp2 : Int) (zp3 : Int) (J : Jm) : Option Jm :=
  nv (jW J this 0 zp1) fun J1 =>
  nv (jW J1 this 1 zp2) fun J2 =>
  nv (jW J2 this 2 zp3) fun J3 =>
  nv (jW J3 this 3 0) fun J4 =>
  nv (jW J4 this 4 0) fun J5 =>
  nv (jW J5 this 5 0) fun J6 =>
  nv (jW J6 this 6 (-4)) fun J7 =>
  nv (jW J7 this 7 (-4)) fun J8 =>
  nv (jW J8 this 8 0) fun J9 =>
  nv (jW J9 this 9 0) fun J10 =>
  nv (jW J10 this 10 0) fun J11 =>
  (H_J7_fill_53178 E (this + 1) (-4) J11).bind fun J14 =>
  some J14

def H_X11_copyAll (E : Em) (p1 : Nat) (p2 : Nat) (J : Jm) : Option Jm :=
  (jCp J p1 ((E.1 p1).2 : Int) 0 p2 ((E.1 p2).2 : Int) 0 (mnZ ((E.1 p1).2 : Int) ((E.1 p2).2 : Int))).bind fun J3 =>
  some J3

def H_X0_become (E : Em) (this : Nat) (p1 : Nat) (J : Jm) : Option Jm :=
  nv (jW J this 0 (J p1 0)) fun J2 =>
  nv (jW J2 this 1 (J2 p1 1)) fun J4 =>
  nv (jW J4 this 2 (J4 p1 2)) fun J6 =>
  nv (jW J6 this 3 (J6 p1 3)) fun J8 =>
  (jZ (J8 p1 4)).bind fun _ =>
  nv (jW J8 this 4 (J8 p1 4)) fun J10 =>
  nv (jW J10 this 5 (J10 p1 5)) fun J12 =>
  nv (jW J12 this 6 (J12 p1 6)) fun J14 =>
  nv (jW J14 this 7 (J14 p1 7)) fun J16 =>
  nv (jW J16 this 8 (J16 p1 8)) fun J18 =>
  nv (jW J18 this 9 (J18 p1 9)) fun J20 =>
  (jZ (J20 p1 10)).bind fun _ =>
  nv (jW J20 this 10 (J20 p1 10)) fun J22 =>
  (H_X11_copyAll E (p1 + 1) (this + 1) J22).bind fun J27 =>
  some J27

def H_X0_deepest (this : Nat) (J : Jm) : Option Int :=
  (jT 0 (J this 0)).bind fun zv2 =>
  some zv2

def H_X0_reach (this : Nat) (J : Jm) : Option Int :=
  (jT 1 (J this 0)).bind fun zv2 =>
  some zv2

def H_X11_costOf (zp1 : Int) (zp2 : Int) : Option Int :=
  if zp1 = 1 then
    (jD (wr (4 + (wr (2 * zp2)))) 2).bind fun zv2 =>
    some zv2
  else
    if zp1 = 2 then
      some (wr ((wr (4 + (wr (2 * zp2)))) - 1))
    else
      if zp1 = 3 then
        (jD (wr (4 + (wr (2 * zp2)))) 2).bind fun zv5 =>
        some (wr (zv5 + 1))
      else
        some (wr (4 + (wr (2 * zp2))))

def H_X0_costTo (this : Nat) (zp1 : Int) (J : Jm) : Option Int :=
  (H_X11_costOf (J this 0) zp1).bind fun zv3 =>
  nv (α := Int) (if (J this 4) = 0 then 0 else 3) fun zv5 =>
  some (wr (zv3 + zv5))

def H_X0_mayDive (this : Nat) (zp1 : Int) (zp2 : Int) (zp3 : Int) (J : Jm) : Option Int :=
  (H_X0_reach this J).bind fun zv3 =>
  if zp1 < 0 then
    some (0 : Int)
  else
    (H_X0_deepest this J).bind fun zv7 =>
    if zv7 < zp1 then
      some (0 : Int)
    else
      if zp2 < (wr (-zv3)) then
        some (0 : Int)
      else
        if zv3 < zp2 then
          some (0 : Int)
        else
          if zp3 < (wr (-zv3)) then
            some (0 : Int)
          else
            if zv3 < zp3 then
              some (0 : Int)
            else
              if zv3 < (wr ((abZ zp2) + (abZ zp3))) then
                some (0 : Int)
              else
                some (1 : Int)

def H_X0_divesLeft (this : Nat) (J : Jm) : Option Int :=
  (H_X0_deepest this J).bind fun zv3 =>
  (H_X0_costTo this (mnZ 1 zv3) J).bind fun zv6 =>
  if zv6 ≤ 0 then
    some (0 : Int)
  else
    (jD (J this 2) zv6).bind fun zv9 =>
    some zv9

def H_X0_fixBy_L8 (x0 : Nat) (J : Jm) : Nat → Int → Option Int
  | 0, _ => none
  | n1 + 1, zx2 =>
  if zx2 < 0 then
    some ((-4) : Int)
  else
    (jL J (x0 + 1) 400 zx2).bind fun zv4 =>
    if zv4 = (-4) then
      H_X0_fixBy_L8 x0 J n1 (wr (zx2 + (-1)))
    else
      (jL J (x0 + 1) 400 zx2).bind fun zv8 =>
      some zv8
def H_X0_fixBy (this : Nat) (zp1 : Int) (J : Jm) : Option Int :=
  H_X0_fixBy_L8 this J 1000000 (mnZ zp1 399)

def H_X1_become (E : Em) (this : Nat) (p1 : Nat) (J : Jm) : Option Jm :=
  nv (jW J this 0 (J p1 0)) fun J2 =>
  (H_X11_copyAll E (p1 + 1) (this + 1) J2).bind fun J7 =>
  (H_X11_copyAll E (p1 + 2) (this + 2) J7).bind fun J12 =>
  (H_X11_copyAll E (p1 + 3) (this + 3) J12).bind fun J17 =>
  (H_X11_copyAll E (p1 + 4) (this + 4) J17).bind fun J22 =>
  some J22

def H_X1_send (this : Nat) (zp1 : Int) (zp2 : Int) (zp3 : Int) (J : Jm) : Option (Int × Jm) :=
  (jS J (this + 1) 60 (J this 0) zp1).bind fun J3 =>
  (jS J3 (this + 2) 60 (J3 this 0) zp2).bind fun J7 =>
  (jS J7 (this + 3) 60 (J7 this 0) zp3).bind fun J11 =>
  (jS J11 (this + 4) 60 (J11 this 0) 0).bind fun J15 =>
  nv (jW J15 this 0 (wr ((J15 this 0) + 1))) fun J18 =>
  some ((J18 this 0), J18)

def H_X1_unheardBy_L4 (x0 : Nat) (zx1 : Int) (J : Jm) : Nat → Int → Int → Option Int
  | 0, _, _ => none
  | n1 + 1, zx2, zx3 =>
  if (J x0 0) ≤ zx3 then
    some zx2
  else
    (jL J (x0 + 1) 60 zx3).bind fun zv5 =>
    if zv5 = zx1 then
      (jL J (x0 + 4) 60 zx3).bind fun zv9 =>
      if zv9 = 0 then
        H_X1_unheardBy_L4 x0 zx1 J n1 (wr (zx2 + 1)) (wr (zx3 + 1))
      else
        H_X1_unheardBy_L4 x0 zx1 J n1 zx2 (wr (zx3 + 1))
    else
      H_X1_unheardBy_L4 x0 zx1 J n1 zx2 (wr (zx3 + 1))
def H_X1_unheardBy (this : Nat) (zp1 : Int) (J : Jm) : Option Int :=
  H_X1_unheardBy_L4 this zp1 J 1000000 0 0

def H_X1_hearBy_L6 (x0 : Nat) (zx1 : Int) (zx2 : Int) : Nat → Int → Int → Jm → Option (Int × Jm)
  | 0, _, _, _ => none
  | n1 + 1, zx4, zx5, J0 =>
  if (J0 x0 0) ≤ zx5 then
    some (zx4, J0)
  else
    (jL J0 (x0 + 1) 60 zx5).bind fun zv5 =>
    if zv5 = zx1 then
      (jL J0 (x0 + 4) 60 zx5).bind fun zv9 =>
      if zv9 = 0 then
        (jL J0 (x0 + 3) 60 zx5).bind fun zv13 =>
        if zx2 ≤ zv13 then
          H_X1_hearBy_L6 x0 zx1 zx2 n1 zx4 (wr (zx5 + 1)) J0
        else
          (jS J0 (x0 + 4) 60 zx5 1).bind fun J17 =>
          (jL J17 (x0 + 2) 60 zx5).bind fun zv20 =>
          H_X1_hearBy_L6 x0 zx1 zx2 n1 zv20 (wr (zx5 + 1)) J17
      else
        H_X1_hearBy_L6 x0 zx1 zx2 n1 zx4 (wr (zx5 + 1)) J0
    else
      H_X1_hearBy_L6 x0 zx1 zx2 n1 zx4 (wr (zx5 + 1)) J0
def H_X1_hearBy (this : Nat) (zp1 : Int) (zp2 : Int) (zp3 : Int) (J : Jm) : Option (Int × Jm) :=
  H_X1_hearBy_L6 this zp1 zp2 1000000 zp3 0 J

def H_X2_addCheck (this : Nat) (zp1 : Int) (zp2 : Int) (zp3 : Int) (zp4 : Int) (J : Jm) : Option Jm :=
  if 20 ≤ (J this 1) then
    some J
  else
    (jS J (this + 5) 20 (J this 1) zp1).bind fun J5 =>
    (jS J5 (this + 6) 20 (J5 this 1) zp2).bind fun J9 =>
    (jS J9 (this + 7) 20 (J9 this 1) zp3).bind fun J13 =>
    (jZ zp4).bind fun _ =>
    (jS J13 (this + 8) 20 (J13 this 1) zp4).bind fun J17 =>
    nv (jW J17 this 1 (wr ((J17 this 1) + 1))) fun J20 =>
    some J20

def H_X2_addRule (this : Nat) (zp1 : Int) (zp2 : Int) (zp3 : Int) (J : Jm) : Option Jm :=
  if 6 ≤ (J this 0) then
    some J
  else
    (jS J (this + 2) 6 (J this 0) zp1).bind fun J5 =>
    (jS J5 (this + 3) 6 (J5 this 0) zp2).bind fun J9 =>
    (jS J9 (this + 4) 6 (J9 this 0) zp3).bind fun J13 =>
    (jS J13 (this + 1) 6 (J13 this 0) (J13 this 1)).bind fun J18 =>
    nv (jW J18 this 0 (wr ((J18 this 0) + 1))) fun J21 =>
    some J21

def H_X2_holds (this : Nat) (zp1 : Int) (zp2 : Int) (J : Jm) : Option Int :=
  (jL J (this + 6) 20 zp1).bind fun zv2 =>
  jp (fun (zx5 : Int) =>
    (jL J (this + 8) 20 zp1).bind fun zv8 =>
    if zx5 = zv8 then
      some (0 : Int)
    else
      some (1 : Int)) fun k4h =>
  if zv2 = 60 then
    (jL J (this + 7) 20 zp1).bind fun zv14 =>
    nv (α := Int) (if zv14 ≤ zp2 then 0 else 1) fun zv16 =>
    k4h zv16
  else
    if zv2 = 62 then
      (jL J (this + 7) 20 zp1).bind fun zv21 =>
      nv (α := Int) (if zp2 ≤ zv21 then 0 else 1) fun zv23 =>
      k4h zv23
    else
      (jL J (this + 7) 20 zp1).bind fun zv27 =>
      nv (α := Int) (if zp2 = zv27 then 1 else 0) fun zv29 =>
      k4h zv29

def H_X3_take (E : Em) (this : Nat) (zp1 : Int) (J : Jm) : Option (Int × Jm) :=
  if (J this 2) ≤ (J this 3) then
    some ((0 : Int), J)
  else
    (E.2.1 this 1).bind fun a7 =>
    (jL J a7 ((E.1 a7).2 : Int) (J this 3)).bind fun zv6 =>
    if zv6 = zp1 then
      nv (jW J this 3 (wr ((J this 3) + 1))) fun J10 =>
      some ((1 : Int), J10)
    else
      some ((0 : Int), J)

def H_X3_takeOneOf_L2 (E : Em) (x0 : Nat) (x1 : Nat) : Nat → Int → Jm → Option (Int × Jm)
  | 0, _, _ => none
  | n1 + 1, zx2, J0 =>
  (jtL x1).bind fun zv2 =>
  if zv2 ≤ zx2 then
    some (((-1) : Int), J0)
  else
    (jtC x1 zx2).bind fun zv4 =>
    (H_X3_take E x0 zv4 J0).bind fun (zv7, J5) =>
    if zv7 = 0 then
      H_X3_takeOneOf_L2 E x0 x1 n1 (wr (zx2 + 1)) J5
    else
      (jtC x1 zx2).bind fun zv9 =>
      some (zv9, J5)
def H_X3_takeOneOf (E : Em) (this : Nat) (p1 : Nat) (J : Jm) : Option (Int × Jm) :=
  H_X3_takeOneOf_L2 E this p1 1000000 0 J

def H_X3_takeDigit (E : Em) (this : Nat) (zp1 : Int) (J : Jm) : Option (Int × Jm) :=
  if (J this 2) ≤ (J this 3) then
    some (((-1) : Int), J)
  else
    (E.2.1 this 1).bind fun a7 =>
    (jL J a7 ((E.1 a7).2 : Int) (J this 3)).bind fun zv6 =>
    if zv6 < 48 then
      some (((-1) : Int), J)
    else
      (E.2.1 this 1).bind fun a12 =>
      (jL J a12 ((E.1 a12).2 : Int) (J this 3)).bind fun zv11 =>
      if zv11 ≤ (wr (48 + zp1)) then
        nv (jW J this 3 (wr ((J this 3) + 1))) fun J15 =>
        (E.2.1 this 1).bind fun a19 =>
        (jL J15 a19 ((E.1 a19).2 : Int) (wr ((J15 this 3) - 1))).bind fun zv18 =>
        some ((wr (zv18 - 48)), J15)
      else
        some (((-1) : Int), J)

def H_X3_takeNumber_L9 (E : Em) (x0 : Nat) : Nat → Int → Int → Jm → Option (Int × Jm)
  | 0, _, _, _ => none
  | n4 + 1, zx1, zx2, J0 =>
  if 3 ≤ zx2 then
    some (zx1, J0)
  else
    if zx1 ≤ 0 then
      some (zx1, J0)
    else
      (H_X3_takeDigit E x0 9 J0).bind fun (zv9, J7) =>
      if 0 ≤ zv9 then
        H_X3_takeNumber_L9 E x0 n4 (wr ((wr (10 * zx1)) + zv9)) (wr (zx2 + 1)) J7
      else
        some (zx1, J7)
def H_X3_takeNumber (E : Em) (this : Nat) (J : Jm) : Option (Int × Jm) :=
  (H_X3_takeDigit E this 9 J).bind fun (zv3, J1) =>
  H_X3_takeNumber_L9 E this 1000000 zv3 1 J1

def H_X3_takeCheck_L4 (k37h : Int → Jm → Option (Int × Jm)) (E : Em) (x0 : Nat) : Nat → Int → Int → Jm → Option (Int × Jm)
  | 0, _, _, _ => none
  | n1 + 1, zx1, zx2, J0 =>
  if (J0 x0 2) ≤ zx2 then
    k37h zx1 J0
  else
    (H_X3_take E x0 33 J0).bind fun (zv6, J4) =>
    if zv6 = 0 then
      k37h zx1 J4
    else
      nv (α := Int) (if zx1 = 0 then 1 else 0) fun zv8 =>
      H_X3_takeCheck_L4 k37h E x0 n1 zv8 (wr (zx2 + 1)) J4
def H_X3_takeCheck (E : Em) (this : Nat) (J : Jm) : Option (Int × Jm) :=
  H_X3_takeCheck_L4 (fun (zy11 : Int) (J12 : Jm) =>
    (H_X3_takeOneOf E this 0 J12).bind fun (zv15, J13) =>
    if 0 ≤ zv15 then
      (H_X3_takeOneOf E this 1 J13).bind fun (zv19, J17) =>
      if 0 ≤ zv19 then
        (H_X3_takeNumber E this J17).bind fun (zv23, J21) =>
        if 0 ≤ zv23 then
          (E.2.1 this 0).bind fun a26 =>
          (H_X2_addCheck a26 zv15 zv19 zv23 zy11 J21).bind fun J27 =>
          some ((1 : Int), J27)
        else
          some ((0 : Int), J21)
      else
        some ((0 : Int), J17)
    else
      some ((0 : Int), J13)) E this 1000000 0 0 J

def H_X3_takeLayer (E : Em) (this : Nat) (zp1 : Int) (zp2 : Int) (J : Jm) : Option (Int × Jm) :=
  (H_X3_takeDigit E this 3 J).bind fun (zv3, J1) =>
  if 0 ≤ zv3 then
    (E.2.1 this 0).bind fun a6 =>
    (H_X2_addRule a6 zp1 zp2 zv3 J1).bind fun J7 =>
    some ((1 : Int), J7)
  else
    some ((0 : Int), J1)

def H_X11_cellOf (zp1 : Int) (zp2 : Int) : Option Int :=
  some (wr ((wr (8 * zp1)) + zp2))

def H_X3_takeAct (E : Em) (this : Nat) (J : Jm) : Option (Int × Jm) :=
  (H_X3_take E this 117 J).bind fun (zv3, J1) =>
  if zv3 = 0 then
    (H_X3_take E this 115 J1).bind fun (zv7, J5) =>
    if zv7 = 0 then
      (H_X3_take E this 103 J5).bind fun (zv11, J9) =>
      if zv11 = 0 then
        some ((0 : Int), J9)
      else
        (H_X3_takeDigit E this 9 J9).bind fun (zv15, J13) =>
        if 0 ≤ zv15 then
          (H_X3_takeDigit E this 7 J13).bind fun (zv19, J17) =>
          if zv19 < 0 then
            some ((0 : Int), J17)
          else
            (H_X11_cellOf zv15 zv19).bind fun zv22 =>
            (H_X3_takeLayer E this 2 zv22 J17).bind fun (zv25, J23) =>
            if zv25 = 0 then
              some ((0 : Int), J23)
            else
              some ((1 : Int), J23)
        else
          some ((0 : Int), J13)
    else
      (H_X3_takeLayer E this 1 0 J5).bind fun (zv29, J27) =>
      (jZ zv29).bind fun _ =>
      some (zv29, J27)
  else
    (E.2.1 this 0).bind fun a31 =>
    (H_X2_addRule a31 0 0 0 J1).bind fun J32 =>
    some ((1 : Int), J32)

def H_X3_takeRule_L4 (k38h : Jm → Option (Int × Jm)) (E : Em) (x0 : Nat) : Nat → Int → Int → Jm → Option (Int × Jm)
  | 0, _, _, _ => none
  | n1 + 1, zx1, zx2, J0 =>
  if zx1 = 0 then
    k38h J0
  else
    if (J0 x0 2) ≤ zx2 then
      k38h J0
    else
      (H_X3_takeCheck E x0 J0).bind fun (zv7, J5) =>
      if zv7 = 0 then
        some ((0 : Int), J5)
      else
        (H_X3_take E x0 38 J5).bind fun (zv11, J9) =>
        H_X3_takeRule_L4 k38h E x0 n1 zv11 (wr (zx2 + 1)) J9
def H_X3_takeRule (E : Em) (this : Nat) (J : Jm) : Option (Int × Jm) :=
  H_X3_takeRule_L4 (fun (J12 : Jm) =>
    (H_X3_take E this 63 J12).bind fun (zv15, J13) =>
    if zv15 = 0 then
      some ((0 : Int), J13)
    else
      (H_X3_takeAct E this J13).bind fun (zv19, J17) =>
      if zv19 = 0 then
        some ((0 : Int), J17)
      else
        (H_X3_take E this 59 J17).bind fun (zv23, J21) =>
        if zv23 = 0 then
          some ((0 : Int), J21)
        else
          some ((1 : Int), J21)) E this 1000000 1 0 J

def H_X4_init (this : Nat) : Option Unit :=
  some ()

def H_X7_has (this : Nat) (zp1 : Int) (zp2 : Int) (J : Jm) : Option Int :=
  (jL J (this + 1) 80 zp1).bind fun zv2 =>
  if zv2 ≤ zp2 then
    some (0 : Int)
  else
    some (1 : Int)

def H_X11_placeOf (zp1 : Int) (zp2 : Int) : Option Int :=
  some (wr ((wr (4 * zp1)) + zp2))

def H_X11_xOf (zp1 : Int) : Option Int :=
  (jD zp1 8).bind fun zv1 =>
  some zv1

def H_X11_yOf (zp1 : Int) : Option Int :=
  (jM zp1 8).bind fun zv1 =>
  some zv1

def H_X11_isCell (zp1 : Int) (zp2 : Int) : Option Int :=
  if zp1 < 0 then
    some (0 : Int)
  else
    if 10 ≤ zp1 then
      some (0 : Int)
    else
      if zp2 < 0 then
        some (0 : Int)
      else
        if 8 ≤ zp2 then
          some (0 : Int)
        else
          some (1 : Int)

def H_X7_stepped (this : Nat) (zp1 : Int) (zp2 : Int) (zp3 : Int) (J : Jm) : Option Int :=
  (H_X11_xOf zp1).bind fun zv2 =>
  (H_X11_yOf zp1).bind fun zv4 =>
  (H_X11_isCell (wr (zv2 + zp2)) (wr (zv4 + zp3))).bind fun zv6 =>
  if zv6 = 0 then
    some zp1
  else
    (H_X11_cellOf (wr (zv2 + zp2)) (wr (zv4 + zp3))).bind fun zv10 =>
    (jL J (this + 1) 80 zv10).bind fun zv11 =>
    if zv11 ≤ 0 then
      some zp1
    else
      (H_X11_cellOf (wr (zv2 + zp2)) (wr (zv4 + zp3))).bind fun zv15 =>
      some zv15

def H_X7_walked_L6 (k39h : Int → Option Int) (x0 : Nat) (zx2 : Int) (zx3 : Int) (J : Jm) : Nat → Int → Int → Option Int
  | 0, _, _ => none
  | n1 + 1, zx4, zx5 =>
  if (abZ zx2) ≤ zx5 then
    k39h zx4
  else
    nv (α := Int) (if 0 ≤ zx2 then 1 else (-1)) fun zv3 =>
    (H_X7_stepped x0 zx4 zv3 0 J).bind fun zv7 =>
    H_X7_walked_L6 k39h x0 zx2 zx3 J n1 zv7 (wr (zx5 + 1))
def H_X7_walked_L42 (x0 : Nat) (zx3 : Int) (J : Jm) : Nat → Int → Int → Option Int
  | 0, _, _ => none
  | n11 + 1, zx4, zx5 =>
  if (abZ zx3) ≤ zx5 then
    some zx4
  else
    nv (α := Int) (if 0 ≤ zx3 then 1 else (-1)) fun zv13 =>
    (H_X7_stepped x0 zx4 0 zv13 J).bind fun zv17 =>
    H_X7_walked_L42 x0 zx3 J n11 zv17 (wr (zx5 + 1))
def H_X7_walked (this : Nat) (zp1 : Int) (zp2 : Int) (zp3 : Int) (J : Jm) : Option Int :=
  H_X7_walked_L6 (fun (zy9 : Int) =>
    H_X7_walked_L42 this zp3 J 1000000 zy9 0) this zp2 zp3 J 1000000 zp1 0

def H_X4_sink_L18 (x0 : Nat) (x1 : Nat) (x2 : Nat) (zx4 : Int) (zx5 : Int) : Nat → Int → Jm → Option Jm
  | 0, _, _ => none
  | n4 + 1, zx6, J0 =>
  if zx4 < zx6 then
    some J0
  else
    if (J0 x0 2) = 0 then
      (H_X7_has x1 (J0 x0 0) zx6 J0).bind fun zv11 =>
      if zv11 = 0 then
        some J0
      else
        nv (jW J0 x0 1 zx6) fun J13 =>
        (H_X11_placeOf (J13 x0 0) zx6).bind fun zv16 =>
        (jL J13 (x2 + 1) 320 zv16).bind fun zv19 =>
        (jL J13 (x2 + 2) 320 zv16).bind fun zv22 =>
        (H_X7_walked x1 (J13 x0 0) zv19 zv22 J13).bind fun zv26 =>
        nv (jW J13 x0 0 zv26) fun J27 =>
        if zx5 = 0 then
          nv (jW J27 x0 2 0) fun J29 =>
          H_X4_sink_L18 x0 x1 x2 zx4 zx5 n4 (wr (zx6 + 1)) J29
        else
          (H_X7_has x1 (J27 x0 0) zx6 J27).bind fun zv33 =>
          if zv33 = 0 then
            nv (jW J27 x0 2 0) fun J35 =>
            H_X4_sink_L18 x0 x1 x2 zx4 zx5 n4 (wr (zx6 + 1)) J35
          else
            (H_X11_placeOf (J27 x0 0) zx6).bind fun zv39 =>
            (jL J27 (x1 + 5) 320 zv39).bind fun zv40 =>
            nv (α := Int) (if zv40 = 1 then 1 else 0) fun zv42 =>
            (jZ zv42).bind fun _ =>
            nv (jW J27 x0 2 zv42) fun J44 =>
            H_X4_sink_L18 x0 x1 x2 zx4 zx5 n4 (wr (zx6 + 1)) J44
    else
      some J0
def H_X4_sink (this : Nat) (p1 : Nat) (p2 : Nat) (zp3 : Int) (zp4 : Int) (zp5 : Int) (J : Jm) : Option Jm :=
  nv (jW J this 0 zp3) fun J1 =>
  nv (jW J1 this 1 0) fun J2 =>
  nv (jW J2 this 2 0) fun J3 =>
  H_X4_sink_L18 this p1 p2 zp4 zp5 1000000 0 J3

def H_X7_beside (this : Nat) (zp1 : Int) (zp2 : Int) : Option Int :=
  (H_X11_xOf zp1).bind fun zv2 =>
  (jT 2 zp2).bind fun zv3 =>
  (H_X11_yOf zp1).bind fun zv5 =>
  (jT 3 zp2).bind fun zv6 =>
  (H_X11_isCell (wr (zv2 + zv3)) (wr (zv5 + zv6))).bind fun zv8 =>
  if zv8 = 0 then
    some ((-1) : Int)
  else
    (H_X11_cellOf (wr (zv2 + zv3)) (wr (zv5 + zv6))).bind fun zv11 =>
    some zv11

def H_X5_worth (E : Em) (this : Nat) (zp1 : Int) (zp2 : Int) (J : Jm) : Option Int :=
  if zp2 = 0 then
    (E.2.1 this 1).bind fun a9 =>
    (jL J (a9 + 3) 80 zp1).bind fun zv11 =>
    some zv11
  else
    (E.2.1 this 1).bind fun a3 =>
    (jL J (a3 + 3) 80 zp1).bind fun zv5 =>
    (jD (wr (zv5 + 1)) 2).bind fun zv7 =>
    some zv7

def H_X5_gainBy_L4 (E : Em) (x0 : Nat) (zx1 : Int) (J : Jm) : Nat → Int → Int → Option Int
  | 0, _, _ => none
  | n1 + 1, zx2, zx3 =>
  if 5 ≤ zx3 then
    some zx2
  else
    (E.2.1 x0 1).bind fun a4 =>
    (H_X7_beside a4 zx1 zx3).bind fun zv7 =>
    if zv7 < 0 then
      H_X5_gainBy_L4 E x0 zx1 J n1 zx2 (wr (zx3 + 1))
    else
      (H_X5_worth E x0 zv7 zx3 J).bind fun zv11 =>
      (jL J (x0 + 7) 80 zv7).bind fun zv13 =>
      H_X5_gainBy_L4 E x0 zx1 J n1 (wr (zx2 + (mxZ 0 (wr (zv11 - zv13))))) (wr (zx3 + 1))
def H_X5_gainBy (E : Em) (this : Nat) (zp1 : Int) (J : Jm) : Option Int :=
  H_X5_gainBy_L4 E this zp1 J 1000000 0 0

def H_X5_addEnd_L21 (k46h : Jm → Option Jm) (E : Em) (x0 : Nat) (zx1 : Int) (zx2 : Int) (zx3 : Int) (zx5 : Int) : Nat → Int → Jm → Option Jm
  | 0, _, _ => none
  | n4 + 1, zx6, J0 =>
  if zx5 ≤ zx6 then
    k46h J0
  else
    (jL J0 (x0 + 3) 123 zx6).bind fun zv7 =>
    if zv7 = zx2 then
      some J0
    else
      H_X5_addEnd_L21 k46h E x0 zx1 zx2 zx3 zx5 n4 (wr (zx6 + 1)) J0
def H_X5_addEnd (E : Em) (this : Nat) (zp1 : Int) (zp2 : Int) (zp3 : Int) (J : Jm) : Option Jm :=
  (jL J (this + 2) 3 zp1).bind fun zv2 =>
  H_X5_addEnd_L21 (fun (J10 : Jm) =>
    (jL J10 (this + 2) 3 zp1).bind fun zv12 =>
    if 41 ≤ zv12 then
      some J10
    else
      (jS J10 (this + 3) 123 (wr ((wr (zp1 * 41)) + zv2)) zp2).bind fun J16 =>
      (jS J16 (this + 4) 123 (wr ((wr (zp1 * 41)) + zv2)) zp3).bind fun J19 =>
      (H_X5_gainBy E this zp2 J19).bind fun zv24 =>
      (jS J19 (this + 5) 123 (wr ((wr (zp1 * 41)) + zv2)) zv24).bind fun J25 =>
      (jL J25 (this + 2) 3 zp1).bind fun zv28 =>
      (jS J25 (this + 2) 3 zp1 (wr (zv28 + 1))).bind fun J30 =>
      some J30) E this zp1 zp2 zp3 (wr ((wr (zp1 * 41)) + zv2)) 1000000 (wr (zp1 * 41)) J

def H_X5_listEnds_L31 (k75h : Jm → Option Jm) (E : Em) (x0 : Nat) (zx1 : Int) (zx2 : Int) (zx3 : Int) (zx4 : Int) (zx5 : Int) : Nat → Int → Jm → Option Jm
  | 0, _, _ => none
  | n6 + 1, zx6, J0 =>
  if zx5 < zx6 then
    k75h J0
  else
    (E.2.1 x0 1).bind fun a9 =>
    (H_X7_walked a9 zx2 zx4 zx6 J0).bind fun zv12 =>
    (H_X5_addEnd E x0 zx1 zv12 (wr ((wr ((wr (20 * (wr (zx4 + 10)))) + zx6)) + 10)) J0).bind fun J13 =>
    H_X5_listEnds_L31 k75h E x0 zx1 zx2 zx3 zx4 zx5 n6 (wr (zx6 + 1)) J13
def H_X5_listEnds_L11 (E : Em) (x0 : Nat) (zx1 : Int) (zx2 : Int) (zx3 : Int) : Nat → Int → Jm → Option Jm
  | 0, _, _ => none
  | n4 + 1, zx4, J0 =>
  if zx3 < zx4 then
    some J0
  else
    H_X5_listEnds_L31 (fun (J15 : Jm) =>
      H_X5_listEnds_L11 E x0 zx1 zx2 zx3 n4 (wr (zx4 + 1)) J15) E x0 zx1 zx2 zx3 zx4 (wr (zx3 - (abZ zx4))) 1000000 (wr (-(wr (zx3 - (abZ zx4))))) J0
def H_X5_listEnds (E : Em) (this : Nat) (zp1 : Int) (zp2 : Int) (zp3 : Int) (J : Jm) : Option Jm :=
  (jS J (this + 2) 3 zp1 0).bind fun J2 =>
  H_X5_listEnds_L11 E this zp1 zp2 zp3 1000000 (wr (-zp3)) J2

def H_X5_sumMostFrom_L25 (k57h : Int → Jm → Option Jm) (x0 : Nat) (zx1 : Int) : Nat → Int → Int → Jm → Option Jm
  | 0, _, _, _ => none
  | n8 + 1, zx2, zx3, J0 =>
  (jL J0 (x0 + 2) 3 zx1).bind fun zv10 =>
  if zv10 ≤ zx3 then
    k57h zx2 J0
  else
    (jL J0 (x0 + 5) 123 (wr ((wr (zx1 * 41)) + zx3))).bind fun zv14 =>
    H_X5_sumMostFrom_L25 k57h x0 zx1 n8 (mxZ zx2 zv14) (wr (zx3 + 1)) J0
def H_X5_sumMostFrom_L17 (x0 : Nat) : Nat → Int → Jm → Option Jm
  | 0, _, _ => none
  | n6 + 1, zx1, J0 =>
  if zx1 < 0 then
    some J0
  else
    H_X5_sumMostFrom_L25 (fun (zy16 : Int) (J17 : Jm) =>
      (jL J17 (x0 + 6) 4 (wr (zx1 + 1))).bind fun zv20 =>
      (jS J17 (x0 + 6) 4 zx1 (wr (zv20 + zy16))).bind fun J22 =>
      H_X5_sumMostFrom_L17 x0 n6 (wr (zx1 + (-1))) J22) x0 zx1 1000000 0 0 J0
def H_X5_sumMostFrom (this : Nat) (J : Jm) : Option Jm :=
  (jS J (this + 6) 4 (J this 3) 0).bind fun J3 =>
  H_X5_sumMostFrom_L17 this 1000000 (wr ((J3 this 3) - 1)) J3

def H_X5_isTaken_L2 (x0 : Nat) (zx1 : Int) (zx2 : Int) (J : Jm) : Nat → Int → Option Int
  | 0, _ => none
  | n1 + 1, zx3 =>
  if zx1 ≤ zx3 then
    some (0 : Int)
  else
    (jL J (x0 + 9) 3 zx3).bind fun zv5 =>
    (jL J (x0 + 3) 123 zv5).bind fun zv7 =>
    if zv7 = zx2 then
      some (1 : Int)
    else
      H_X5_isTaken_L2 x0 zx1 zx2 J n1 (wr (zx3 + 1))
def H_X5_isTaken (this : Nat) (zp1 : Int) (zp2 : Int) (J : Jm) : Option Int :=
  H_X5_isTaken_L2 this zp1 zp2 J 1000000 0

def H_X5_cover_L2 (E : Em) (x0 : Nat) (zx1 : Int) (zx2 : Int) : Nat → Int → Jm → Option Jm
  | 0, _, _ => none
  | n1 + 1, zx3, J0 =>
  if 5 ≤ zx3 then
    some J0
  else
    (E.2.1 x0 1).bind fun a4 =>
    (H_X7_beside a4 zx2 zx3).bind fun zv7 =>
    if zv7 < 0 then
      H_X5_cover_L2 E x0 zx1 zx2 n1 (wr (zx3 + 1)) J0
    else
      (jL J0 (x0 + 7) 80 zv7).bind fun zv11 =>
      (jS J0 (x0 + 8) 15 (wr ((wr (zx1 * 5)) + zx3)) zv11).bind fun J13 =>
      (jL J13 (x0 + 7) 80 zv7).bind fun zv17 =>
      (H_X5_worth E x0 zv7 zx3 J13).bind fun zv21 =>
      (jS J13 (x0 + 7) 80 zv7 (mxZ zv17 zv21)).bind fun J22 =>
      H_X5_cover_L2 E x0 zx1 zx2 n1 (wr (zx3 + 1)) J22
def H_X5_cover (E : Em) (this : Nat) (zp1 : Int) (zp2 : Int) (J : Jm) : Option Jm :=
  H_X5_cover_L2 E this zp1 zp2 1000000 0 J

def H_X5_uncover_L2 (E : Em) (x0 : Nat) (zx1 : Int) (zx2 : Int) : Nat → Int → Jm → Option Jm
  | 0, _, _ => none
  | n1 + 1, zx3, J0 =>
  if 5 ≤ zx3 then
    some J0
  else
    (E.2.1 x0 1).bind fun a4 =>
    (H_X7_beside a4 zx2 zx3).bind fun zv7 =>
    if zv7 < 0 then
      H_X5_uncover_L2 E x0 zx1 zx2 n1 (wr (zx3 + 1)) J0
    else
      (jL J0 (x0 + 8) 15 (wr ((wr (zx1 * 5)) + zx3))).bind fun zv11 =>
      (jS J0 (x0 + 7) 80 zv7 zv11).bind fun J13 =>
      H_X5_uncover_L2 E x0 zx1 zx2 n1 (wr (zx3 + 1)) J13
def H_X5_uncover (E : Em) (this : Nat) (zp1 : Int) (zp2 : Int) (J : Jm) : Option Jm :=
  H_X5_uncover_L2 E this zp1 zp2 1000000 0 J

def H_X5_search_L33 (rech : Nat → Int → Int → Jm → Option Jm) (E : Em) (x0 : Nat) (zx1 : Int) (zx2 : Int) (zx3 : Int) : Nat → Int → Jm → Option Jm
  | 0, _, _ => none
  | n3 + 1, zx4, J0 =>
  (jL J0 (x0 + 2) 3 zx1).bind fun zv5 =>
  if (wr (zx3 + zv5)) ≤ zx4 then
    some J0
  else
    (jL J0 (x0 + 5) 123 zx4).bind fun zv9 =>
    (jL J0 (x0 + 6) 4 (wr (zx1 + 1))).bind fun zv12 =>
    nv (α := Int) (if (wr ((wr (zx2 + zv9)) + zv12)) ≤ (J0 x0 13) then 0 else 1) fun zv15 =>
    if zv15 = 0 then
      H_X5_search_L33 rech E x0 zx1 zx2 zx3 n3 (wr (zx4 + 1)) J0
    else
      (jL J0 (x0 + 3) 123 zx4).bind fun zv19 =>
      (H_X5_isTaken x0 zx1 zv19 J0).bind fun zv23 =>
      if zv23 = 0 then
        (jL J0 (x0 + 3) 123 zx4).bind fun zv26 =>
        (H_X5_gainBy E x0 zv26 J0).bind fun zv30 =>
        (jL J0 (x0 + 6) 4 (wr (zx1 + 1))).bind fun zv32 =>
        if (wr ((wr (zx2 + zv30)) + zv32)) ≤ (J0 x0 13) then
          H_X5_search_L33 rech E x0 zx1 zx2 zx3 n3 (wr (zx4 + 1)) J0
        else
          (jS J0 (x0 + 9) 3 zx1 zx4).bind fun J37 =>
          (jL J37 (x0 + 3) 123 zx4).bind fun zv40 =>
          (H_X5_cover E x0 zx1 zv40 J37).bind fun J42 =>
          (rech x0 (wr (zx1 + 1)) (wr (zx2 + zv30)) J42).bind fun J44 =>
          (jL J44 (x0 + 3) 123 zx4).bind fun zv47 =>
          (H_X5_uncover E x0 zx1 zv47 J44).bind fun J49 =>
          H_X5_search_L33 rech E x0 zx1 zx2 zx3 n3 (wr (zx4 + 1)) J49
      else
        H_X5_search_L33 rech E x0 zx1 zx2 zx3 n3 (wr (zx4 + 1)) J0
def H_X5_search (E : Em) : Nat → Nat → Int → Int → Jm → Option Jm
  | 0, _, _, _, _ => none
  | nr + 1, this, zp1, zp2, J =>
  if zp1 < (J this 3) then
    H_X5_search_L33 (H_X5_search E nr) E this zp1 zp2 (wr (zp1 * 41)) 1000000 (wr (zp1 * 41)) J
  else
    nv (jW J this 13 zp2) fun J52 =>
    (H_X11_copyAll E (this + 9) (this + 10) J52).bind fun J57 =>
    some J57

def H_X5_work_L21 (E : Em) (x0 : Nat) (zx1 : Int) : Nat → Int → Jm → Option (Int × Jm)
  | 0, _, _ => none
  | n6 + 1, zx2, J0 =>
  (E.2.1 x0 0).bind fun a8 =>
  jp (fun (J11 : Jm) =>
    (H_X5_sumMostFrom x0 J11).bind fun J12 =>
    (H_X5_search E 5 x0 0 0 J12).bind fun J14 =>
    some ((J14 x0 13), J14)) fun k10h =>
  if (J0 a8 2) ≤ zx2 then
    k10h J0
  else
    if 3 ≤ (J0 x0 3) then
      k10h J0
    else
      (E.2.1 x0 0).bind fun a22 =>
      (jR E (a22 + 13) 8 zx2).bind fun v24 =>
      v24.bind fun a26 =>
      (H_X0_deepest a26 J0).bind fun zv29 =>
      if (J0 a26 3) = 0 then
        (H_X0_costTo a26 (mnZ zx1 zv29) J0).bind fun zv35 =>
        if (J0 a26 2) < zv35 then
          H_X5_work_L21 E x0 zx1 n6 (wr (zx2 + 1)) J0
        else
          (jS J0 (x0 + 1) 3 (J0 x0 3) zx2).bind fun J39 =>
          (E.2.1 x0 0).bind fun a42 =>
          (E.2.1 x0 1).bind fun a46 =>
          (E.2.1 x0 1).bind fun a50 =>
          (H_X4_sink (a42 + 32) a50 (a46 + 9) (J39 a26 1) (mnZ zx1 zv29) 0 J39).bind fun J52 =>
          (E.2.1 x0 0).bind fun a56 =>
          (H_X0_reach a26 J52).bind fun zv62 =>
          (H_X5_listEnds E x0 (J52 x0 3) (J52 (a56 + 32) 0) zv62 J52).bind fun J63 =>
          nv (jW J63 x0 3 (wr ((J63 x0 3) + 1))) fun J66 =>
          H_X5_work_L21 E x0 zx1 n6 (wr (zx2 + 1)) J66
      else
        H_X5_work_L21 E x0 zx1 n6 (wr (zx2 + 1)) J0
def H_X5_work (E : Em) (this : Nat) (zp1 : Int) (J : Jm) : Option (Int × Jm) :=
  nv (jW J this 3 0) fun J1 =>
  nv (jW J1 this 13 (-4)) fun J2 =>
  (H_J7_fill_53178 E (this + 7) 0 J2).bind fun J5 =>
  H_X5_work_L21 E this zp1 1000000 0 J5

def H_X5_headingOf_L2 (x0 : Nat) (zx1 : Int) (J : Jm) : Nat → Int → Option Int
  | 0, _ => none
  | n1 + 1, zx2 =>
  if (J x0 3) ≤ zx2 then
    some ((-4) : Int)
  else
    if (J x0 13) = (-4) then
      some ((-4) : Int)
    else
      (jL J (x0 + 1) 3 zx2).bind fun zv7 =>
      if zv7 = zx1 then
        (jL J (x0 + 10) 3 zx2).bind fun zv12 =>
        (jL J (x0 + 4) 123 zv12).bind fun zv14 =>
        some zv14
      else
        H_X5_headingOf_L2 x0 zx1 J n1 (wr (zx2 + 1))
def H_X5_headingOf (this : Nat) (zp1 : Int) (J : Jm) : Option Int :=
  H_X5_headingOf_L2 this zp1 J 1000000 0

def H_X6_become (E : Em) (this : Nat) (p1 : Nat) (J : Jm) : Option Jm :=
  nv (jW J this 0 (J p1 0)) fun J2 =>
  (H_X11_copyAll E (p1 + 1) (this + 1) J2).bind fun J7 =>
  (H_X11_copyAll E (p1 + 2) (this + 2) J7).bind fun J12 =>
  (H_X11_copyAll E (p1 + 3) (this + 3) J12).bind fun J17 =>
  (H_X11_copyAll E (p1 + 4) (this + 4) J17).bind fun J22 =>
  (H_X11_copyAll E (p1 + 5) (this + 5) J22).bind fun J27 =>
  (H_X11_copyAll E (p1 + 6) (this + 6) J27).bind fun J32 =>
  nv (jW J32 this 7 (J32 p1 7)) fun J34 =>
  (H_X11_copyAll E (p1 + 7) (this + 7) J34).bind fun J39 =>
  (H_X11_copyAll E (p1 + 8) (this + 8) J39).bind fun J44 =>
  (H_X11_copyAll E (p1 + 9) (this + 9) J44).bind fun J49 =>
  (H_X11_copyAll E (p1 + 10) (this + 10) J49).bind fun J54 =>
  some J54

def H_X6_addReading (this : Nat) (zp1 : Int) (p2 : Nat) (zp3 : Int) (zp4 : Int) (J : Jm) : Option Jm :=
  if (J this 0) < 200 then
    (jS J (this + 1) 200 (J this 0) zp1).bind fun J5 =>
    (jS J5 (this + 2) 200 (J5 this 0) zp3).bind fun J9 =>
    (jS J9 (this + 3) 200 (J9 this 0) (J9 p2 1)).bind fun J14 =>
    (jS J14 (this + 4) 200 (J14 this 0) zp4).bind fun J18 =>
    (jS J18 (this + 5) 200 (J18 this 0) (J18 p2 5)).bind fun J23 =>
    (jS J23 (this + 6) 200 (J23 this 0) (J23 p2 9)).bind fun J28 =>
    nv (jW J28 this 0 (wr ((J28 this 0) + 1))) fun J31 =>
    some J31
  else
    some J

def H_X6_addCleaning (this : Nat) (zp1 : Int) (zp2 : Int) (zp3 : Int) (J : Jm) : Option (Int × Jm) :=
  (jS J (this + 7) 60 (J this 7) zp1).bind fun J3 =>
  (jS J3 (this + 8) 60 (J3 this 7) zp2).bind fun J7 =>
  (jS J7 (this + 9) 60 (J7 this 7) zp3).bind fun J11 =>
  (jS J11 (this + 10) 60 (J11 this 7) (J11 this 0)).bind fun J16 =>
  nv (jW J16 this 7 (wr ((J16 this 7) + 1))) fun J19 =>
  some ((J19 this 7), J19)

def H_X6_putRight_L2 (k54h : Int → Option Int) (x0 : Nat) (zx1 : Int) (J : Jm) : Nat → Int → Option Int
  | 0, _ => none
  | n1 + 1, zx2 =>
  if (J x0 7) ≤ zx2 then
    (jL J (x0 + 6) 200 zx1).bind fun zv5 =>
    (jL J (x0 + 5) 200 zx1).bind fun zv8 =>
    some (wr (zv5 - (wr (3 * zv8))))
  else
    (jL J (x0 + 7) 60 zx2).bind fun zv11 =>
    (jL J (x0 + 1) 200 zx1).bind fun zv14 =>
    jp (fun (zs17 : Int) =>
      if zs17 = 0 then
        H_X6_putRight_L2 k54h x0 zx1 J n1 (wr (zx2 + 1))
      else
        (jL J (x0 + 9) 60 zx2).bind fun zv21 =>
        if zv21 ≤ 0 then
          H_X6_putRight_L2 k54h x0 zx1 J n1 (wr (zx2 + 1))
        else
          k54h zx2) fun k16h =>
    if zv11 = zv14 then
      (jL J (x0 + 10) 60 zx2).bind fun zv27 =>
      if zv27 ≤ zx1 then
        k16h 0
      else
        k16h 1
    else
      k16h 0
def H_X6_putRight (this : Nat) (zp1 : Int) (J : Jm) : Option Int :=
  H_X6_putRight_L2 (fun (zy30 : Int) =>
    (jL J (this + 6) 200 zp1).bind fun zv33 =>
    (jL J (this + 8) 60 zy30).bind fun zv36 =>
    (jL J (this + 5) 200 zp1).bind fun zv39 =>
    (jL J (this + 9) 60 zy30).bind fun zv42 =>
    (jD (wr (zv36 * (wr (zv39 + 1)))) zv42).bind fun zv44 =>
    some (wr (zv33 - zv44))) this zp1 J 1000000 0

def H_X9_become (E : Em) (this : Nat) (p1 : Nat) (J : Jm) : Option Jm :=
  (H_X11_copyAll E (p1 + 1) (this + 1) J).bind fun J5 =>
  (H_X11_copyAll E (p1 + 2) (this + 2) J5).bind fun J10 =>
  some J10

def H_X7_become (E : Em) (this : Nat) (p1 : Nat) (J : Jm) : Option Jm :=
  (H_X11_copyAll E (p1 + 1) (this + 1) J).bind fun J5 =>
  (H_X11_copyAll E (p1 + 2) (this + 2) J5).bind fun J10 =>
  (H_X11_copyAll E (p1 + 3) (this + 3) J10).bind fun J15 =>
  (H_X11_copyAll E (p1 + 4) (this + 4) J15).bind fun J20 =>
  (H_X11_copyAll E (p1 + 5) (this + 5) J20).bind fun J25 =>
  (H_X9_become E (this + 6) (p1 + 6) J25).bind fun J30 =>
  (H_X9_become E (this + 9) (p1 + 9) J30).bind fun J36 =>
  some J36

def H_X7_cellRow (this : Nat) (zp1 : Int) : Option (Option Nat) :=
  if zp1 = 0 then
    some (some (this + 1))
  else
    if zp1 = 1 then
      some (some (this + 2))
    else
      some (some (this + 3))

def H_X7_placeRow (this : Nat) (zp1 : Int) : Option (Option Nat) :=
  if zp1 = 3 then
    some (some (this + 6 + 1))
  else
    if zp1 = 4 then
      some (some (this + 6 + 2))
    else
      if zp1 = 5 then
        some (some (this + 9 + 1))
      else
        if zp1 = 6 then
          some (some (this + 9 + 2))
        else
          if zp1 = 7 then
            some (some (this + 4))
          else
            some (some (this + 5))

def H_X11_changeAt (E : Em) (p1 : Nat) (zp2 : Int) (zp3 : Int) (J : Jm) : Option (Int × Jm) :=
  (jL J p1 ((E.1 p1).2 : Int) zp2).bind fun zv1 =>
  (jS J p1 ((E.1 p1).2 : Int) zp2 zp3).bind fun J2 =>
  if zv1 = zp3 then
    some ((0 : Int), J2)
  else
    some ((1 : Int), J2)

def H_X7_change_L31 (k105h : Int → Jm → Option (Int × Jm)) (E : Em) (x0 : Nat) (zx1 : Int) (zx2 : Int) (zx3 : Int) (zx4 : Int) (x5 : Option Nat) (zx7 : Int) : Nat → Int → Int → Jm → Option (Int × Jm)
  | 0, _, _, _ => none
  | n9 + 1, zx6, zx8, J0 =>
  (jM zx2 10).bind fun zv10 =>
  if zv10 < zx8 then
    k105h zx6 J0
  else
    (H_X11_cellOf zx7 zx8).bind fun zv13 =>
    if zx3 = 2 then
      (jL J0 (x0 + 1) 80 zv13).bind fun zv26 =>
      if zv26 = 0 then
        H_X7_change_L31 k105h E x0 zx1 zx2 zx3 zx4 x5 zx7 n9 zx6 (wr (zx8 + 1)) J0
      else
        x5.bind fun a29 =>
        (H_X11_changeAt E a29 zv13 zx4 J0).bind fun (zv31, J30) =>
        (jL J30 (x0 + 1) 80 zv13).bind fun zv33 =>
        if zv33 = 0 then
          (jS J30 (x0 + 3) 80 zv13 0).bind fun J37 =>
          H_X7_change_L31 k105h E x0 zx1 zx2 zx3 zx4 x5 zx7 n9 (wr (zx6 + zv31)) (wr (zx8 + 1)) J37
        else
          H_X7_change_L31 k105h E x0 zx1 zx2 zx3 zx4 x5 zx7 n9 (wr (zx6 + zv31)) (wr (zx8 + 1)) J30
    else
      x5.bind fun a15 =>
      (H_X11_changeAt E a15 zv13 zx4 J0).bind fun (zv17, J16) =>
      (jL J16 (x0 + 1) 80 zv13).bind fun zv19 =>
      if zv19 = 0 then
        (jS J16 (x0 + 3) 80 zv13 0).bind fun J23 =>
        H_X7_change_L31 k105h E x0 zx1 zx2 zx3 zx4 x5 zx7 n9 (wr (zx6 + zv17)) (wr (zx8 + 1)) J23
      else
        H_X7_change_L31 k105h E x0 zx1 zx2 zx3 zx4 x5 zx7 n9 (wr (zx6 + zv17)) (wr (zx8 + 1)) J16
def H_X7_change_L16 (E : Em) (x0 : Nat) (zx1 : Int) (zx2 : Int) (zx3 : Int) (zx4 : Int) (x5 : Option Nat) : Nat → Int → Int → Jm → Option (Int × Jm)
  | 0, _, _, _ => none
  | n5 + 1, zx6, zx7, J0 =>
  (jM zx1 10).bind fun zv6 =>
  if zv6 < zx7 then
    some (zx6, J0)
  else
    (jD zx2 10).bind fun zv8 =>
    H_X7_change_L31 (fun (zy39 : Int) (J40 : Jm) =>
      H_X7_change_L16 E x0 zx1 zx2 zx3 zx4 x5 n5 zy39 (wr (zx7 + 1)) J40) E x0 zx1 zx2 zx3 zx4 x5 zx7 1000000 zx6 zv8 J0
def H_X7_change (E : Em) (this : Nat) (zp1 : Int) (zp2 : Int) (zp3 : Int) (zp4 : Int) (J : Jm) : Option (Int × Jm) :=
  (H_X7_cellRow this zp3).bind fun v3 =>
  (jD zp1 10).bind fun zv4 =>
  H_X7_change_L16 E this zp1 zp2 zp3 zp4 v3 1000000 0 zv4 J

def H_X7_lessenDoubt_L9 (x0 : Nat) (zx1 : Int) : Nat → Int → Jm → Option Jm
  | 0, _, _ => none
  | n4 + 1, zx2, J0 =>
  if 5 ≤ zx2 then
    some J0
  else
    (H_X7_beside x0 zx1 zx2).bind fun zv8 =>
    if zv8 < 0 then
      H_X7_lessenDoubt_L9 x0 zx1 n4 (wr (zx2 + 1)) J0
    else
      (jL J0 (x0 + 3) 80 zv8).bind fun zv11 =>
      (jD zv11 2).bind fun zv13 =>
      (jS J0 (x0 + 3) 80 zv8 zv13).bind fun J14 =>
      H_X7_lessenDoubt_L9 x0 zx1 n4 (wr (zx2 + 1)) J14
def H_X7_lessenDoubt (this : Nat) (zp1 : Int) (J : Jm) : Option Jm :=
  (jS J (this + 3) 80 zp1 0).bind fun J2 =>
  H_X7_lessenDoubt_L9 this zp1 1000000 1 J2

def H_X7_growDoubt_L2 (x0 : Nat) : Nat → Int → Jm → Option Jm
  | 0, _, _ => none
  | n1 + 1, zx1, J0 =>
  if 80 ≤ zx1 then
    some J0
  else
    (jL J0 (x0 + 1) 80 zx1).bind fun zv4 =>
    if zv4 ≤ 0 then
      H_X7_growDoubt_L2 x0 n1 (wr (zx1 + 1)) J0
    else
      (jL J0 (x0 + 3) 80 zx1).bind fun zv8 =>
      if 99 ≤ zv8 then
        H_X7_growDoubt_L2 x0 n1 (wr (zx1 + 1)) J0
      else
        (jL J0 (x0 + 3) 80 zx1).bind fun zv12 =>
        (jS J0 (x0 + 3) 80 zx1 (wr (zv12 + 1))).bind fun J14 =>
        H_X7_growDoubt_L2 x0 n1 (wr (zx1 + 1)) J14
def H_X7_growDoubt (this : Nat) (J : Jm) : Option Jm :=
  H_X7_growDoubt_L2 this 1000000 0 J

def H_X7_allDoubt_L4 (x0 : Nat) (J : Jm) : Nat → Int → Int → Option Int
  | 0, _, _ => none
  | n1 + 1, zx1, zx2 =>
  if 80 ≤ zx2 then
    some zx1
  else
    (jL J (x0 + 3) 80 zx2).bind fun zv4 =>
    H_X7_allDoubt_L4 x0 J n1 (wr (zx1 + zv4)) (wr (zx2 + 1))
def H_X7_allDoubt (this : Nat) (J : Jm) : Option Int :=
  H_X7_allDoubt_L4 this J 1000000 0 0

def H_X7_nudged (zp1 : Int) (zp2 : Int) : Option Int :=
  if zp2 ≤ 0 then
    if 0 ≤ zp2 then
      some zp1
    else
      some (mxZ (-2) (wr (zp1 - 1)))
  else
    some (mnZ 2 (wr (zp1 + 1)))

def H_X7_learn_L24 (k75h : Int → Int → Jm → Option Jm) (x0 : Nat) (zx1 : Int) (zx5 : Int) : Nat → Int → Int → Int → Jm → Option Jm
  | 0, _, _, _, _ => none
  | n4 + 1, zx6, zx7, zx8, J0 =>
  if zx5 ≤ zx8 then
    k75h zx6 zx7 J0
  else
    (H_X11_placeOf zx1 zx8).bind fun zv10 =>
    (jL J0 (x0 + 9 + 1) 320 zv10).bind fun zv11 =>
    (H_X11_placeOf zx1 zx8).bind fun zv17 =>
    (jL J0 (x0 + 9 + 2) 320 zv17).bind fun zv18 =>
    H_X7_learn_L24 k75h x0 zx1 zx5 n4 (wr (zx6 - zv11)) (wr (zx7 - zv18)) (wr (zx8 + 1)) J0
def H_X7_learn_L78 (x0 : Nat) (zx1 : Int) (zx5 : Int) (zx6 : Int) (zx7 : Int) : Nat → Int → Jm → Option Jm
  | 0, _, _ => none
  | n23 + 1, zx8, J0 =>
  if zx5 ≤ zx8 then
    some J0
  else
    (H_X11_placeOf zx1 zx8).bind fun zv26 =>
    (jL J0 (x0 + 9 + 1) 320 zv26).bind fun zv33 =>
    (H_X7_nudged zv33 zx6).bind fun zv36 =>
    (jS J0 (x0 + 9 + 1) 320 zv26 zv36).bind fun J37 =>
    (jL J37 (x0 + 9 + 2) 320 zv26).bind fun zv45 =>
    (H_X7_nudged zv45 zx7).bind fun zv48 =>
    (jS J37 (x0 + 9 + 2) 320 zv26 zv48).bind fun J49 =>
    H_X7_learn_L78 x0 zx1 zx5 zx6 zx7 n23 (wr (zx8 + 1)) J49
def H_X7_learn (this : Nat) (zp1 : Int) (zp2 : Int) (zp3 : Int) (zp4 : Int) (J : Jm) : Option Jm :=
  (jL J (this + 1) 80 zp1).bind fun zv2 =>
  H_X7_learn_L24 (fun (zy20 : Int) (zy21 : Int) (J22 : Jm) =>
    H_X7_learn_L78 this zp1 (mnZ (wr (zp2 + 1)) zv2) zy20 zy21 1000000 0 J22) this zp1 (mnZ (wr (zp2 + 1)) zv2) 1000000 zp3 zp4 0 J

def H_X7_isWhole_L39 (k132h : Int → Option Int) (x0 : Nat) (zx1 : Int) (zx2 : Int) (zx4 : Int) (J : Jm) : Nat → Int → Int → Option Int
  | 0, _, _ => none
  | n13 + 1, zx5, zx6 =>
  if 5 ≤ zx6 then
    k132h zx5
  else
    (H_X7_beside x0 zx1 zx6).bind fun zv17 =>
    if zv17 < 0 then
      H_X7_isWhole_L39 k132h x0 zx1 zx2 zx4 J n13 zx5 (wr (zx6 + 1))
    else
      (H_X7_has x0 zv17 zx2 J).bind fun zv21 =>
      if zv21 = 0 then
        H_X7_isWhole_L39 k132h x0 zx1 zx2 zx4 J n13 zx5 (wr (zx6 + 1))
      else
        (H_X11_placeOf zv17 zx2).bind fun zv24 =>
        (jL J (x0 + 9 + 1) 320 zv24).bind fun zv28 =>
        (jT 2 zx6).bind fun zv30 =>
        (jL J (x0 + 9 + 2) 320 zv24).bind fun zv34 =>
        (jT 3 zx6).bind fun zv36 =>
        H_X7_isWhole_L39 k132h x0 zx1 zx2 zx4 J n13 (wr (zx5 + (mxZ 0 (wr (-(wr ((wr (zv28 * zv30)) + (wr (zv34 * zv36))))))))) (wr (zx6 + 1))
def H_X7_isWhole (this : Nat) (zp1 : Int) (zp2 : Int) (J : Jm) : Option Int :=
  (H_X11_placeOf zp1 zp2).bind fun zv2 =>
  (jL J (this + 9 + 1) 320 zv2).bind fun zv6 =>
  (jL J (this + 9 + 2) 320 zv2).bind fun zv11 =>
  H_X7_isWhole_L39 (fun (zy37 : Int) =>
    if zy37 = (wr ((abZ zv6) + (abZ zv11))) then
      some (1 : Int)
    else
      some (0 : Int)) this zp1 zp2 (wr ((abZ zv6) + (abZ zv11))) J 1000000 0 1

def H_X8_holdGlider (this : Nat) (p1 : Nat) (J : Jm) : Option Jm :=
  nv (jW J this 0 1) fun J1 =>
  nv (jW J1 this 4 (J1 p1 0)) fun J3 =>
  nv (jW J3 this 5 (J3 p1 1)) fun J5 =>
  nv (jW J5 this 6 (J5 p1 2)) fun J7 =>
  nv (jW J7 this 7 (J7 p1 3)) fun J9 =>
  some J9

def H_X8_holdRow (E : Em) (this : Nat) (zp1 : Int) (zp2 : Int) (J : Jm) : Option Jm :=
  nv (jW J this 0 2) fun J1 =>
  nv (jW J1 this 1 zp1) fun J2 =>
  nv (jW J2 this 2 zp2) fun J3 =>
  (H_J7_fill_53178 E (this + 1) 0 J3).bind fun J6 =>
  some J6

def H_X8_refusesAsText (this : Nat) (J : Jm) : Option Int :=
  if (J this 0) = 0 then
    some ((-11) : Int)
  else
    if (J this 0) = 2 then
      if (J this 1) = 0 then
        some (0 : Int)
      else
        some ((-12) : Int)
    else
      some ((-12) : Int)

def H_X10_gliderAt (E : Em) (this : Nat) (zp1 : Int) (J : Jm) : Option (Option Nat) :=
  if zp1 < 0 then
    some none
  else
    if (J this 2) ≤ zp1 then
      some none
    else
      (jR E (this + 13) 8 zp1).bind fun v5 =>
      some v5

def H_X10_orderOf (E : Em) (this : Nat) (p1 : Nat) (J : Jm) : Option (Option Nat) :=
  if (J p1 6) < 0 then
    some none
  else
    if (J this 7) ≤ (J p1 6) then
      some none
    else
      (jR E (this + 15) 10 (J p1 6)).bind fun v8 =>
      some v8

def H_X10_isAnyUpWithin_L2 (E : Em) (x0 : Nat) (zx1 : Int) (zx2 : Int) (J : Jm) : Nat → Int → Option Int
  | 0, _ => none
  | n1 + 1, zx3 =>
  if (J x0 2) ≤ zx3 then
    some (0 : Int)
  else
    (jR E (x0 + 13) 8 zx3).bind fun v5 =>
    v5.bind fun a7 =>
    (H_X11_xOf (J a7 1)).bind fun zv10 =>
    (jR E (x0 + 13) 8 zx3).bind fun v12 =>
    v12.bind fun a14 =>
    (H_X11_yOf (J a14 1)).bind fun zv17 =>
    (jR E (x0 + 13) 8 zx3).bind fun v19 =>
    v19.bind fun a21 =>
    if (J a21 3) = 0 then
      (jD zx1 10).bind fun zv24 =>
      if zv10 < zv24 then
        H_X10_isAnyUpWithin_L2 E x0 zx1 zx2 J n1 (wr (zx3 + 1))
      else
        (jM zx1 10).bind fun zv26 =>
        if zv26 < zv10 then
          H_X10_isAnyUpWithin_L2 E x0 zx1 zx2 J n1 (wr (zx3 + 1))
        else
          (jD zx2 10).bind fun zv28 =>
          if zv17 < zv28 then
            H_X10_isAnyUpWithin_L2 E x0 zx1 zx2 J n1 (wr (zx3 + 1))
          else
            (jM zx2 10).bind fun zv30 =>
            if zv30 < zv17 then
              H_X10_isAnyUpWithin_L2 E x0 zx1 zx2 J n1 (wr (zx3 + 1))
            else
              some (1 : Int)
    else
      H_X10_isAnyUpWithin_L2 E x0 zx1 zx2 J n1 (wr (zx3 + 1))
def H_X10_isAnyUpWithin (E : Em) (this : Nat) (zp1 : Int) (zp2 : Int) (J : Jm) : Option Int :=
  H_X10_isAnyUpWithin_L2 E this zp1 zp2 J 1000000 0

def H_X10_howMany_L4 (E : Em) (x0 : Nat) (zx1 : Int) (J : Jm) : Nat → Int → Int → Option Int
  | 0, _, _ => none
  | n1 + 1, zx2, zx3 =>
  if (J x0 2) ≤ zx3 then
    some zx2
  else
    (jR E (x0 + 13) 8 zx3).bind fun v5 =>
    v5.bind fun a7 =>
    if (J a7 3) = zx1 then
      H_X10_howMany_L4 E x0 zx1 J n1 (wr (zx2 + 1)) (wr (zx3 + 1))
    else
      H_X10_howMany_L4 E x0 zx1 J n1 zx2 (wr (zx3 + 1))
def H_X10_howMany (E : Em) (this : Nat) (zp1 : Int) (J : Jm) : Option Int :=
  H_X10_howMany_L4 E this zp1 J 1000000 0 0

def H_X10_allPower_L4 (E : Em) (x0 : Nat) (J : Jm) : Nat → Int → Int → Option Int
  | 0, _, _ => none
  | n1 + 1, zx1, zx2 =>
  if (J x0 2) ≤ zx2 then
    some zx1
  else
    (jR E (x0 + 13) 8 zx2).bind fun v5 =>
    v5.bind fun a7 =>
    H_X10_allPower_L4 E x0 J n1 (wr (zx1 + (J a7 2))) (wr (zx2 + 1))
def H_X10_allPower (E : Em) (this : Nat) (J : Jm) : Option Int :=
  H_X10_allPower_L4 E this J 1000000 0 0

def H_X10_hearAll_L16 (E : Em) (x0 : Nat) : Nat → Int → Jm → Option Jm
  | 0, _, _ => none
  | n6 + 1, zx1, J0 =>
  if (J0 x0 2) ≤ zx1 then
    some J0
  else
    (jR E (x0 + 13) 8 zx1).bind fun v10 =>
    v10.bind fun a12 =>
    if (J0 a12 3) = 0 then
      (H_X1_hearBy (x0 + 16) zx1 (J0 x0 3) (J0 a12 6) J0).bind fun (zv21, J19) =>
      nv (jW J19 a12 6 zv21) fun J22 =>
      nv (jW J22 a12 7 (J22 x0 3)) fun J24 =>
      (jS J24 (a12 + 1) 400 (J24 x0 3) (J24 a12 1)).bind fun J28 =>
      H_X10_hearAll_L16 E x0 n6 (wr (zx1 + 1)) J28
    else
      H_X10_hearAll_L16 E x0 n6 (wr (zx1 + 1)) J0
def H_X10_hearAll (E : Em) (this : Nat) (J : Jm) : Option Jm :=
  (jL J (this + 14) 401 (J this 3)).bind fun zv3 =>
  if zv3 = 1 then
    some J
  else
    H_X10_hearAll_L16 E this 1000000 0 J

def H_X10_sensed (this : Nat) (p1 : Nat) (zp2 : Int) (J : Jm) : Option Int :=
  if zp2 = 102 then
    some (J p1 5)
  else
    if zp2 = 104 then
      if (J p1 7) = (-4) then
        some (J this 3)
      else
        some (wr ((J this 3) - (J p1 7)))
    else
      if zp2 = 108 then
        if (J p1 4) = 0 then
          some (0 : Int)
        else
          some (1 : Int)
      else
        if zp2 = 112 then
          some (J p1 2)
        else
          if zp2 = 115 then
            some (J p1 9)
          else
            if zp2 = 116 then
              (jM (J this 3) 10).bind fun zv18 =>
              some zv18
            else
              if zp2 = 120 then
                (H_X11_xOf (J p1 1)).bind fun zv22 =>
                some zv22
              else
                if zp2 = 121 then
                  (H_X11_yOf (J p1 1)).bind fun zv26 =>
                  some zv26
                else
                  (jL J (this + 1 + 1) 80 (J p1 1)).bind fun zv31 =>
                  some zv31

def H_X10_ruleFor_L17 (k65h : Int → Int → Option Int) (x0 : Nat) (x1 : Nat) (x2 : Nat) (zx4 : Int) (J : Jm) : Nat → Int → Int → Option Int
  | 0, _, _ => none
  | n4 + 1, zx3, zx5 =>
  (jL J (x2 + 1) 6 zx4).bind fun zv6 =>
  if zv6 ≤ zx3 then
    k65h zx3 zx5
  else
    if zx5 = 0 then
      H_X10_ruleFor_L17 k65h x0 x1 x2 zx4 J n4 (wr (zx3 + 1)) 0
    else
      (jL J (x2 + 5) 20 zx3).bind fun zv11 =>
      (H_X10_sensed x0 x1 zv11 J).bind fun zv15 =>
      (H_X2_holds x2 zx3 zv15 J).bind fun zv18 =>
      nv (α := Int) (if zv18 = 0 then 0 else 1) fun zv19 =>
      H_X10_ruleFor_L17 k65h x0 x1 x2 zx4 J n4 (wr (zx3 + 1)) zv19
def H_X10_ruleFor_L5 (x0 : Nat) (x1 : Nat) (x2 : Nat) (J : Jm) : Nat → Int → Int → Option Int
  | 0, _, _ => none
  | n1 + 1, zx3, zx4 =>
  if (J x2 0) ≤ zx4 then
    some ((-4) : Int)
  else
    H_X10_ruleFor_L17 (fun (zy22 : Int) (zy23 : Int) =>
      if zy23 = 0 then
        H_X10_ruleFor_L5 x0 x1 x2 J n1 zy22 (wr (zx4 + 1))
      else
        some zx4) x0 x1 x2 zx4 J 1000000 zx3 1
def H_X10_ruleFor (this : Nat) (p1 : Nat) (p2 : Nat) (J : Jm) : Option Int :=
  H_X10_ruleFor_L5 this p1 p2 J 1000000 0 0

def H_X10_cut (zp1 : Int) (zp2 : Int) : Option Int :=
  some (mxZ (wr (-zp2)) (mnZ zp2 zp1))

def H_X10_numberOf_L2 (E : Em) (x0 : Nat) (x1 : Nat) (J : Jm) : Nat → Int → Option Int
  | 0, _ => none
  | n1 + 1, zx2 =>
  if (J x0 2) ≤ zx2 then
    some ((-4) : Int)
  else
    (jR E (x0 + 13) 8 zx2).bind fun v5 =>
    if v5 = (some x1) then
      some zx2
    else
      H_X10_numberOf_L2 E x0 x1 J n1 (wr (zx2 + 1))
def H_X10_numberOf (E : Em) (this : Nat) (p1 : Nat) (J : Jm) : Option Int :=
  H_X10_numberOf_L2 E this p1 J 1000000 0

def H_X10_measure (E : Em) (this : Nat) (p1 : Nat) (zp2 : Int) (J : Jm) : Option Jm :=
  (jL J (this + 1 + 1) 80 (J p1 1)).bind fun zv5 =>
  (H_X11_placeOf (J p1 1) (mxZ 0 (mnZ zp2 (wr (zv5 - 1))))).bind fun zv12 =>
  (jL J (this + 1 + 4) 320 zv12).bind fun zv13 =>
  nv (jW J p1 9 (wr (zv13 + (wr (3 * (J p1 5)))))) fun J16 =>
  nv (jW J16 p1 10 1) fun J17 =>
  (H_X10_numberOf E this p1 J17).bind fun zv21 =>
  (H_X6_addReading (this + 21) zv21 p1 (J17 this 3) (mxZ 0 (mnZ zp2 (wr (zv5 - 1)))) J17).bind fun J24 =>
  (H_X7_lessenDoubt (this + 1) (J24 p1 1) J24).bind fun J29 =>
  nv (jW J29 p1 5 (wr ((J29 p1 5) + 1))) fun J32 =>
  some J32

def H_X10_descend (E : Em) (this : Nat) (p1 : Nat) (zp2 : Int) (zp3 : Int) (zp4 : Int) (J : Jm) : Option (Int × Jm) :=
  (H_X0_costTo p1 zp2 J).bind fun zv5 =>
  nv (jW J p1 2 (wr ((J p1 2) - zv5))) fun J6 =>
  nv (jW J6 p1 8 (wr ((J6 p1 8) + 1))) fun J8 =>
  (H_X4_sink (this + 32) (this + 1) (this + 1 + 6) (J p1 1) zp2 1 J8).bind fun J17 =>
  nv (jW J17 p1 1 (J17 (this + 32) 0)) fun J22 =>
  if (J22 (this + 32) 2) = 0 then
    (H_X7_walked (this + 1) (J22 (this + 32) 0) zp3 zp4 J22).bind fun zv34 =>
    nv (jW J22 p1 1 zv34) fun J35 =>
    (H_X10_measure E this p1 (J35 (this + 32) 1) J35).bind fun J39 =>
    (jL J39 (this + 1 + 2) 80 (J39 p1 1)).bind fun zv45 =>
    jp (fun (J48 : Jm) =>
      (H_X7_walked (this + 1) (J p1 1) zp3 zp4 J48).bind fun zv53 =>
      (H_X11_xOf (J48 p1 1)).bind fun zv60 =>
      (H_X11_xOf zv53).bind fun zv62 =>
      (H_X11_yOf (J48 p1 1)).bind fun zv65 =>
      (H_X11_yOf zv53).bind fun zv67 =>
      (H_X7_learn (this + 1) (J p1 1) (J48 (this + 32) 1) (wr (zv60 - zv62)) (wr (zv65 - zv67)) J48).bind fun J69 =>
      some ((J69 p1 1), J69)) fun k47h =>
    if zv45 = 1 then
      nv (jW J39 p1 2 (mxZ 0 (wr ((J39 p1 2) - 5)))) fun J75 =>
      k47h J75
    else
      k47h J39
  else
    nv (jW J22 p1 3 2) fun J76 =>
    some (((-5) : Int), J76)

def H_X10_obey (E : Em) (this : Nat) (p1 : Nat) (p2 : Nat) (J : Jm) : Option (Int × Jm) :=
  (H_X10_ruleFor this p1 p2 J).bind fun zv3 =>
  if zv3 < 0 then
    some ((0 : Int), J)
  else
    (jL J (p2 + 2) 6 zv3).bind fun zv6 =>
    if zv6 = 0 then
      some ((0 : Int), J)
    else
      (jL J (p2 + 4) 6 zv3).bind fun zv10 =>
      (H_X0_deepest p1 J).bind fun zv14 =>
      (H_X0_costTo p1 (mnZ zv10 zv14) J).bind fun zv18 =>
      if zv18 ≤ (J p1 2) then
        (jL J (p2 + 2) 6 zv3).bind fun zv21 =>
        jp (fun (zx24 : Int) (zx25 : Int) (J26 : Jm) =>
          (H_X10_descend E this p1 (mnZ zv10 zv14) zx24 zx25 J26).bind fun (zv29, J27) =>
          some ((1 : Int), J27)) fun k23h =>
        if zv21 = 2 then
          (jL J (p2 + 3) 6 zv3).bind fun zv33 =>
          (H_X11_xOf zv33).bind fun zv36 =>
          (H_X11_xOf (J p1 1)).bind fun zv39 =>
          (H_X0_reach p1 J).bind fun zv42 =>
          (H_X10_cut (wr (zv36 - zv39)) zv42).bind fun zv44 =>
          (jL J (p2 + 3) 6 zv3).bind fun zv46 =>
          (H_X11_yOf zv46).bind fun zv49 =>
          (H_X11_yOf (J p1 1)).bind fun zv52 =>
          (H_X0_reach p1 J).bind fun zv55 =>
          (H_X10_cut (wr (zv49 - zv52)) (wr (zv55 - (abZ zv44)))).bind fun zv57 =>
          k23h zv44 zv57 J
        else
          k23h 0 0 J
      else
        some ((0 : Int), J)

def H_X10_obeyAll_L4 (E : Em) (x0 : Nat) : Nat → Int → Int → Jm → Option (Int × Jm)
  | 0, _, _, _ => none
  | n1 + 1, zx1, zx2, J0 =>
  if (J0 x0 2) ≤ zx2 then
    some (zx1, J0)
  else
    (jR E (x0 + 13) 8 zx2).bind fun v5 =>
    v5.bind fun a7 =>
    (H_X10_orderOf E x0 a7 J0).bind fun v10 =>
    (jR E (x0 + 13) 8 zx2).bind fun v12 =>
    v12.bind fun a14 =>
    if (J0 a14 3) = 0 then
      oe v10 (
        H_X10_obeyAll_L4 E x0 n1 zx1 (wr (zx2 + 1)) J0) fun a17 =>
        (jR E (x0 + 13) 8 zx2).bind fun v19 =>
        v19.bind fun a21 =>
        (H_X10_obey E x0 a21 a17 J0).bind fun (zv24, J22) =>
        if zv24 = 0 then
          H_X10_obeyAll_L4 E x0 n1 zx1 (wr (zx2 + 1)) J22
        else
          H_X10_obeyAll_L4 E x0 n1 (wr (zx1 + 1)) (wr (zx2 + 1)) J22
    else
      H_X10_obeyAll_L4 E x0 n1 zx1 (wr (zx2 + 1)) J0
def H_X10_obeyAll (E : Em) (this : Nat) (J : Jm) : Option (Int × Jm) :=
  H_X10_obeyAll_L4 E this 1000000 0 0 J

def H_X11_isSpan (zp1 : Int) (zp2 : Int) : Option Int :=
  if zp1 < 0 then
    some (0 : Int)
  else
    if 100 ≤ zp1 then
      some (0 : Int)
    else
      (jD zp1 10).bind fun zv3 =>
      (jM zp1 10).bind fun zv4 =>
      if zv4 < zv3 then
        some (0 : Int)
      else
        (jM zp1 10).bind fun zv6 =>
        if zp2 ≤ zv6 then
          some (0 : Int)
        else
          some (1 : Int)

def H_X11_isSeaValue (zp1 : Int) (zp2 : Int) : Option Int :=
  if zp1 = 0 then
    if zp2 < 0 then
      some (0 : Int)
    else
      if 4 < zp2 then
        some (0 : Int)
      else
        some (1 : Int)
  else
    if zp1 = 1 then
      if zp2 = 0 then
        some (1 : Int)
      else
        if zp2 = 1 then
          some (1 : Int)
        else
          some (0 : Int)
    else
      if zp1 = 2 then
        if zp2 < 0 then
          some (0 : Int)
        else
          if 99 < zp2 then
            some (0 : Int)
          else
            some (1 : Int)
      else
        some (0 : Int)

def H_X11_sea (E : Em) (this : Nat) (zp1 : Int) (zp2 : Int) (zp3 : Int) (zp4 : Int) (J : Jm) : Option (Int × Jm) :=
  (H_X11_isSpan zp1 10).bind fun zv2 =>
  if zv2 = 0 then
    some (((-1) : Int), J)
  else
    (H_X11_isSpan zp2 8).bind fun zv5 =>
    if zv5 = 0 then
      some (((-1) : Int), J)
    else
      (H_X11_isSeaValue zp3 zp4).bind fun zv8 =>
      if zv8 = 0 then
        some (((-1) : Int), J)
      else
        jp (fun (J11 : Jm) =>
          (H_X7_change E (this + 1 + 1) zp1 zp2 zp3 zp4 J11).bind fun (zv18, J16) =>
          some (zv18, J16)) fun k10h =>
        if zp3 = 0 then
          if zp4 = 0 then
            (H_X10_isAnyUpWithin E (this + 1) zp1 zp2 J).bind fun zv26 =>
            if zv26 = 0 then
              k10h J
            else
              some (((-3) : Int), J)
          else
            k10h J
        else
          k10h J

def H_X11_isLayer (zp1 : Int) : Option Int :=
  if zp1 < 0 then
    some (0 : Int)
  else
    if 4 ≤ zp1 then
      some (0 : Int)
    else
      some (1 : Int)

def H_X11_isStream (zp1 : Int) : Option Int :=
  if zp1 < (-2) then
    some (0 : Int)
  else
    if 2 < zp1 then
      some (0 : Int)
    else
      some (1 : Int)

def H_X11_stream (this : Nat) (zp1 : Int) (zp2 : Int) (zp3 : Int) (zp4 : Int) (zp5 : Int) (zp6 : Int) (J : Jm) : Option (Int × Jm) :=
  (H_X11_isCell zp1 zp2).bind fun zv2 =>
  if zv2 = 0 then
    some (((-1) : Int), J)
  else
    (H_X11_isLayer zp3).bind fun zv5 =>
    if zv5 = 0 then
      some (((-1) : Int), J)
    else
      (H_X11_isStream zp4).bind fun zv8 =>
      if zv8 = 0 then
        some (((-1) : Int), J)
      else
        (H_X11_isStream zp5).bind fun zv11 =>
        if zv11 = 0 then
          some (((-1) : Int), J)
        else
          jp (fun (s14 : Option Nat) (J15 : Jm) =>
            (H_X11_cellOf zp1 zp2).bind fun zv17 =>
            (H_X11_placeOf zv17 zp3).bind fun zv19 =>
            s14.bind fun a20 =>
            (jS J15 (a20 + 1) 320 zv19 zp4).bind fun J22 =>
            (jS J22 (a20 + 2) 320 zv19 zp5).bind fun J25 =>
            some ((0 : Int), J25)) fun k13h =>
          if zp6 = 0 then
            k13h (some (this + 1 + 1 + 6)) J
          else
            k13h (some (this + 1 + 1 + 9)) J

def H_X11_salt (E : Em) (this : Nat) (zp1 : Int) (zp2 : Int) (zp3 : Int) (zp4 : Int) (J : Jm) : Option (Int × Jm) :=
  (H_X11_isCell zp1 zp2).bind fun zv2 =>
  if zv2 = 0 then
    some (((-1) : Int), J)
  else
    (H_X11_isLayer zp3).bind fun zv5 =>
    if zv5 = 0 then
      some (((-1) : Int), J)
    else
      if zp4 < 0 then
        some (((-1) : Int), J)
      else
        if zp4 ≤ 1001 then
          (H_X11_cellOf zp1 zp2).bind fun zv10 =>
          (H_X11_placeOf zv10 zp3).bind fun zv12 =>
          if 999 < zp4 then
            nv (α := Int) (if zp4 = 1000 then 1 else 0) fun zv19 =>
            (H_X11_changeAt E (this + 1 + 1 + 5) zv12 zv19 J).bind fun (zv23, J22) =>
            some (zv23, J22)
          else
            (H_X11_changeAt E (this + 1 + 1 + 4) zv12 zp4 J).bind fun (zv32, J31) =>
            some (zv32, J31)
        else
          some (((-1) : Int), J)

def H_X11_cell (E : Em) (this : Nat) (zp1 : Int) (zp2 : Int) (zp3 : Int) (zp4 : Int) (J : Jm) : Option Int :=
  (H_X11_isCell zp1 zp2).bind fun zv2 =>
  if zv2 = 0 then
    some ((-1) : Int)
  else
    if zp4 < 0 then
      some ((-1) : Int)
    else
      if zp4 ≤ 8 then
        (H_X11_cellOf zp1 zp2).bind fun zv7 =>
        if 2 < zp4 then
          (H_X11_isLayer zp3).bind fun zv10 =>
          if zv10 = 0 then
            some ((-1) : Int)
          else
            (H_X7_placeRow (this + 1 + 1) zp4).bind fun v18 =>
            (H_X11_placeOf zv7 zp3).bind fun zv20 =>
            v18.bind fun a22 =>
            (jL J a22 ((E.1 a22).2 : Int) zv20).bind fun zv21 =>
            some zv21
        else
          (H_X7_cellRow (this + 1 + 1) zp4).bind fun v29 =>
          v29.bind fun a31 =>
          (jL J a31 ((E.1 a31).2 : Int) zv7).bind fun zv30 =>
          some zv30
      else
        some ((-1) : Int)

def H_X11_tellAbout (p1 : Nat) (zp2 : Int) (J : Jm) : Option Int :=
  if zp2 = 0 then
    some (J p1 0)
  else
    if zp2 = 1 then
      (H_X11_xOf (J p1 1)).bind fun zv6 =>
      some zv6
    else
      if zp2 = 2 then
        (H_X11_yOf (J p1 1)).bind fun zv10 =>
        some zv10
      else
        if zp2 = 3 then
          some (J p1 2)
        else
          if zp2 = 4 then
            some (J p1 3)
          else
            if zp2 = 5 then
              if (J p1 4) = 0 then
                some (0 : Int)
              else
                some (1 : Int)
            else
              if zp2 = 6 then
                some (J p1 5)
              else
                if zp2 = 7 then
                  some (J p1 6)
                else
                  if zp2 = 8 then
                    some (J p1 7)
                  else
                    if zp2 = 9 then
                      some (J p1 8)
                    else
                      if zp2 = 10 then
                        if (J p1 10) = 0 then
                          some ((-4) : Int)
                        else
                          some (J p1 9)
                      else
                        some ((-1) : Int)

def H_X11_about (E : Em) (this : Nat) (zp1 : Int) (zp2 : Int) (J : Jm) : Option Int :=
  (H_X10_gliderAt E (this + 1) zp1 J).bind fun v5 =>
  oe v5 (
    some ((-1) : Int)) fun a6 =>
    (H_X11_tellAbout a6 zp2 J).bind fun zv8 =>
    some zv8

def H_X11_can (E : Em) (this : Nat) (zp1 : Int) (zp2 : Int) (J : Jm) : Option Int :=
  (H_X10_gliderAt E (this + 1) zp1 J).bind fun v5 =>
  oe v5 (
    some ((-1) : Int)) fun a6 =>
    if zp2 < 0 then
      some ((-1) : Int)
    else
      if zp2 ≤ 5 then
        if zp2 = 0 then
          (H_X0_deepest a6 J).bind fun zv23 =>
          some zv23
        else
          if zp2 = 1 then
            (H_X0_reach a6 J).bind fun zv20 =>
            some zv20
          else
            (H_X0_deepest a6 J).bind fun zv13 =>
            if (wr (zp2 - 2)) ≤ zv13 then
              (H_X0_costTo a6 (wr (zp2 - 2)) J).bind fun zv17 =>
              some zv17
            else
              some ((-3) : Int)
      else
        some ((-1) : Int)

def H_X11_leak (E : Em) (this : Nat) (zp1 : Int) (zp2 : Int) (J : Jm) : Option (Int × Jm) :=
  (H_X10_gliderAt E (this + 1) zp1 J).bind fun v5 =>
  oe v5 (
    some (((-1) : Int), J)) fun a6 =>
    (jZ zp2).bind fun _ =>
    nv (jW J a6 4 zp2) fun J8 =>
    if (J a6 4) = zp2 then
      some ((0 : Int), J8)
    else
      some ((1 : Int), J8)

def H_X11_dive (E : Em) (this : Nat) (zp1 : Int) (zp2 : Int) (zp3 : Int) (zp4 : Int) (J : Jm) : Option (Int × Jm) :=
  (H_X10_gliderAt E (this + 1) zp1 J).bind fun v5 =>
  oe v5 (
    some (((-1) : Int), J)) fun a6 =>
    (H_X0_mayDive a6 zp2 zp3 zp4 J).bind fun zv9 =>
    if zv9 = 0 then
      some (((-1) : Int), J)
    else
      if (J a6 3) = 0 then
        (H_X0_costTo a6 zp2 J).bind fun zv16 =>
        if zv16 ≤ (J a6 2) then
          (H_X10_descend E (this + 1) a6 zp2 zp3 zp4 J).bind fun (zv22, J20) =>
          some (zv22, J20)
        else
          some (((-3) : Int), J)
      else
        some (((-3) : Int), J)

def H_X11_shelfAt (E : Em) (this : Nat) (zp1 : Int) : Option (Option Nat) :=
  if zp1 < 0 then
    some none
  else
    if 8 ≤ zp1 then
      some none
    else
      (jR E (this + 56) 8 zp1).bind fun v4 =>
      some v4

def H_X11_letter (E : Em) (this : Nat) (zp1 : Int) (zp2 : Int) (J : Jm) : Option (Int × Jm) :=
  (H_X10_gliderAt E (this + 1) zp1 J).bind fun v5 =>
  oe v5 (
    some (((-1) : Int), J)) fun a6 =>
    if zp2 < 0 then
      some (((-1) : Int), J)
    else
      if zp2 < (J (this + 1) 7) then
        if (J (this + 1 + 16) 0) < 60 then
          (H_X1_send (this + 1 + 16) zp1 zp2 (J (this + 1) 3) J).bind fun (zv27, J25) =>
          some (zv27, J25)
        else
          some (((-2) : Int), J)
      else
        some (((-1) : Int), J)

def H_X11_waiting (E : Em) (this : Nat) (zp1 : Int) (J : Jm) : Option Int :=
  (H_X10_gliderAt E (this + 1) zp1 J).bind fun v5 =>
  oe v5 (
    some ((-1) : Int)) fun a6 =>
    (H_X1_unheardBy (this + 1 + 16) zp1 J).bind fun zv13 =>
    some zv13

def H_X11_deaf (E : Em) (this : Nat) (zp1 : Int) (zp2 : Int) (J : Jm) : Option (Int × Jm) :=
  if zp1 < 0 then
    some (((-1) : Int), J)
  else
    if zp1 ≤ 400 then
      nv (α := Int) (if zp2 = 0 then 0 else 1) fun zv6 =>
      (H_X11_changeAt E (this + 1 + 14) zp1 zv6 J).bind fun (zv10, J9) =>
      some (zv10, J9)
    else
      some (((-1) : Int), J)

def H_X11_rule (E : Em) (this : Nat) (zp1 : Int) (J : Jm) : Option Int :=
  (H_X10_gliderAt E (this + 1) zp1 J).bind fun v5 =>
  oe v5 (
    some ((-1) : Int)) fun a6 =>
    (H_X10_orderOf E (this + 1) a6 J).bind fun v11 =>
    if (J a6 3) = 0 then
      oe v11 (
        some ((-3) : Int)) fun a14 =>
        (H_X10_ruleFor (this + 1) a6 a14 J).bind fun zv19 =>
        some zv19
    else
      some ((-3) : Int)

def H_X11_times_L35 (E : Em) (x0 : Nat) (zx1 : Int) : Nat → Int → Int → Jm → Option (Int × Jm)
  | 0, _, _, _ => none
  | n7 + 1, zx2, zx3, J0 =>
  if zx1 ≤ zx3 then
    some (zx2, J0)
  else
    (H_X10_hearAll E (x0 + 1) J0).bind fun J11 =>
    (H_X10_obeyAll E (x0 + 1) J11).bind fun (zv17, J15) =>
    (H_X7_growDoubt (x0 + 1 + 1) J15).bind fun J22 =>
    nv (jW J22 (x0 + 1) 3 (wr ((J22 (x0 + 1) 3) + 1))) fun J27 =>
    H_X11_times_L35 E x0 zx1 n7 (wr (zx2 + zv17)) (wr (zx3 + 1)) J27
def H_X11_times (E : Em) (this : Nat) (zp1 : Int) (J : Jm) : Option (Int × Jm) :=
  if zp1 < 1 then
    some (((-1) : Int), J)
  else
    if zp1 ≤ 40 then
      if (wr ((J (this + 1) 3) + zp1)) ≤ 400 then
        H_X11_times_L35 E this zp1 1000000 0 0 J
      else
        some (((-2) : Int), J)
    else
      some (((-1) : Int), J)

def H_X11_known (E : Em) (this : Nat) (zp1 : Int) (zp2 : Int) (J : Jm) : Option Int :=
  (H_X10_gliderAt E (this + 1) zp1 J).bind fun v5 =>
  oe v5 (
    some ((-1) : Int)) fun a6 =>
    if zp2 < 0 then
      some ((-1) : Int)
    else
      if zp2 ≤ 400 then
        (H_X0_fixBy a6 zp2 J).bind fun zv11 =>
        some zv11
      else
        some ((-1) : Int)

def H_X11_clean (E : Em) (this : Nat) (zp1 : Int) (zp2 : Int) (J : Jm) : Option (Int × Jm) :=
  (H_X10_gliderAt E (this + 1) zp1 J).bind fun v5 =>
  oe v5 (
    some (((-1) : Int), J)) fun a6 =>
    if zp2 < (-2000) then
      some (((-1) : Int), J)
    else
      if zp2 ≤ 2000 then
        if (J (this + 1 + 21) 7) < 60 then
          (H_X6_addCleaning (this + 1 + 21) zp1 zp2 (J a6 5) J).bind fun (zv22, J20) =>
          nv (jW J20 a6 5 0) fun J23 =>
          some (zv22, J23)
        else
          some (((-2) : Int), J)
      else
        some (((-1) : Int), J)

def H_X11_reading (this : Nat) (zp1 : Int) (zp2 : Int) (J : Jm) : Option Int :=
  if zp1 < 0 then
    some ((-1) : Int)
  else
    if zp1 < (J (this + 1 + 21) 0) then
      if zp2 = 0 then
        (jL J (this + 1 + 21 + 1) 200 zp1).bind fun zv10 =>
        some zv10
      else
        if zp2 = 1 then
          (jL J (this + 1 + 21 + 2) 200 zp1).bind fun zv14 =>
          some zv14
        else
          if zp2 = 2 then
            (jL J (this + 1 + 21 + 3) 200 zp1).bind fun zv18 =>
            some zv18
          else
            if zp2 = 3 then
              (jL J (this + 1 + 21 + 4) 200 zp1).bind fun zv22 =>
              some zv22
            else
              if zp2 = 4 then
                (jL J (this + 1 + 21 + 5) 200 zp1).bind fun zv26 =>
                some zv26
              else
                some ((-1) : Int)
    else
      some ((-1) : Int)

def H_X11_plan (E : Em) (this : Nat) (zp1 : Int) (J : Jm) : Option (Int × Jm) :=
  (H_X11_isLayer zp1).bind fun zv2 =>
  if zv2 = 0 then
    some (((-1) : Int), J)
  else
    (H_X5_work E (this + 34) zp1 J).bind fun (zv8, J6) =>
    some (zv8, J6)

def H_X11_planned (E : Em) (this : Nat) (zp1 : Int) (zp2 : Int) (J : Jm) : Option (Int × Jm) :=
  (H_X11_isLayer zp1).bind fun zv2 =>
  if zv2 = 0 then
    some (((-1) : Int), J)
  else
    (H_X10_gliderAt E (this + 1) zp2 J).bind fun v8 =>
    oe v8 (
      some (((-1) : Int), J)) fun a9 =>
      (H_X5_work E (this + 34) zp1 J).bind fun (zv14, J12) =>
      (H_X5_headingOf (this + 34) zp2 J12).bind fun zv19 =>
      some (zv19, J12)

def H_X11_ends (E : Em) (this : Nat) (zp1 : Int) (zp2 : Int) (zp3 : Int) (zp4 : Int) (J : Jm) : Option (Int × Jm) :=
  (H_X10_gliderAt E (this + 1) zp1 J).bind fun v5 =>
  oe v5 (
    some (((-1) : Int), J)) fun a6 =>
    (H_X0_mayDive a6 zp2 zp3 zp4 J).bind fun zv9 =>
    if zv9 = 0 then
      some (((-1) : Int), J)
    else
      if (J a6 3) = 0 then
        (H_X4_sink (this + 1 + 32) (this + 1 + 1) (this + 1 + 1 + 9) (J a6 1) zp2 0 J).bind fun J28 =>
        (H_X7_walked (this + 1 + 1) (J28 (this + 1 + 32) 0) zp3 zp4 J28).bind fun zv41 =>
        some (zv41, J28)
      else
        some (((-3) : Int), J)

def H_X11_whole_L13 (x0 : Nat) (zx1 : Int) (J : Jm) : Nat → Int → Int → Option Int
  | 0, _, _ => none
  | n4 + 1, zx2, zx3 =>
  if 80 ≤ zx3 then
    some zx2
  else
    (H_X7_has (x0 + 1 + 1) zx3 zx1 J).bind fun zv12 =>
    if zv12 = 0 then
      H_X11_whole_L13 x0 zx1 J n4 zx2 (wr (zx3 + 1))
    else
      (H_X7_isWhole (x0 + 1 + 1) zx3 zx1 J).bind fun zv20 =>
      if zv20 = 0 then
        H_X11_whole_L13 x0 zx1 J n4 zx2 (wr (zx3 + 1))
      else
        H_X11_whole_L13 x0 zx1 J n4 (wr (zx2 + 1)) (wr (zx3 + 1))
def H_X11_whole (this : Nat) (zp1 : Int) (J : Jm) : Option Int :=
  (H_X11_isLayer zp1).bind fun zv2 =>
  if zv2 = 0 then
    some ((-1) : Int)
  else
    H_X11_whole_L13 this zp1 J 1000000 0 0

def H_X11_ship (this : Nat) (zp1 : Int) (zp2 : Int) (J : Jm) : Option (Int × Jm) :=
  (H_X11_isCell zp1 zp2).bind fun zv2 =>
  if zv2 = 0 then
    some (((-1) : Int), J)
  else
    (H_X11_cellOf zp1 zp2).bind fun zv10 =>
    (jL J (this + 1 + 1 + 1) 80 zv10).bind fun zv11 =>
    if zv11 = 0 then
      some (((-3) : Int), J)
    else
      (H_X11_cellOf zp1 zp2).bind fun zv19 =>
      nv (jW J (this + 1) 4 zv19) fun J21 =>
      some ((J (this + 1) 4), J21)

def H_X11_left (E : Em) (this : Nat) (zp1 : Int) (J : Jm) : Option Int :=
  (H_X10_gliderAt E (this + 1) zp1 J).bind fun v5 =>
  oe v5 (
    some ((-1) : Int)) fun a6 =>
    if (J a6 3) = 0 then
      (H_X0_divesLeft a6 J).bind fun zv11 =>
      some zv11
    else
      some ((-3) : Int)

def H_X11_stepsBetween (zp1 : Int) (zp2 : Int) : Option Int :=
  (H_X11_xOf zp1).bind fun zv2 =>
  (H_X11_xOf zp2).bind fun zv4 =>
  (H_X11_yOf zp1).bind fun zv6 =>
  (H_X11_yOf zp2).bind fun zv8 =>
  some (wr ((abZ (wr (zv2 - zv4))) + (abZ (wr (zv6 - zv8)))))

def H_X11_next_L10 (E : Em) (x0 : Nat) (J : Jm) : Nat → Int → Int → Int → Int → Option Int
  | 0, _, _, _, _ => none
  | n1 + 1, zx1, zx2, zx3, zx4 =>
  if (J (x0 + 1) 2) ≤ zx4 then
    some zx1
  else
    (jR E (x0 + 1 + 13) 8 zx4).bind fun v9 =>
    v9.bind fun a11 =>
    if (J a11 3) = 0 then
      (H_X0_divesLeft a11 J).bind fun zv16 =>
      (H_X11_stepsBetween (J a11 1) (J (x0 + 1) 4)).bind fun zv22 =>
      if zx1 = (-4) then
        H_X11_next_L10 E x0 J n1 zx4 zv16 zv22 (wr (zx4 + 1))
      else
        if zv16 < zx2 then
          H_X11_next_L10 E x0 J n1 zx4 zv16 zv22 (wr (zx4 + 1))
        else
          if zv16 = zx2 then
            if zx3 ≤ zv22 then
              H_X11_next_L10 E x0 J n1 zx1 zx2 zx3 (wr (zx4 + 1))
            else
              H_X11_next_L10 E x0 J n1 zx4 zv16 zv22 (wr (zx4 + 1))
          else
            H_X11_next_L10 E x0 J n1 zx1 zx2 zx3 (wr (zx4 + 1))
    else
      H_X11_next_L10 E x0 J n1 zx1 zx2 zx3 (wr (zx4 + 1))
def H_X11_next (E : Em) (this : Nat) (J : Jm) : Option Int :=
  H_X11_next_L10 E this J 1000000 (-4) 0 0 0

def H_X11_fetch (E : Em) (this : Nat) (zp1 : Int) (J : Jm) : Option (Int × Jm) :=
  (H_X10_gliderAt E (this + 1) zp1 J).bind fun v5 =>
  oe v5 (
    some (((-1) : Int), J)) fun a6 =>
    (H_X11_stepsBetween (J a6 1) (J (this + 1) 4)).bind fun zv12 =>
    if (J a6 3) = 0 then
      if zv12 ≤ 3 then
        nv (jW J a6 3 1) fun J16 =>
        some (zv12, J16)
      else
        some (((-3) : Int), J)
    else
      some (((-3) : Int), J)

def H_X11_count (E : Em) (this : Nat) (zp1 : Int) (J : Jm) : Option Int :=
  if zp1 = 0 then
    some (J (this + 1) 2)
  else
    if zp1 = 1 then
      (H_X10_howMany E (this + 1) 0 J).bind fun zv10 =>
      some zv10
    else
      if zp1 = 2 then
        (H_X10_howMany E (this + 1) 1 J).bind fun zv16 =>
        some zv16
      else
        if zp1 = 3 then
          (H_X10_howMany E (this + 1) 2 J).bind fun zv22 =>
          some zv22
        else
          if zp1 = 4 then
            some (J (this + 1) 3)
          else
            if zp1 = 5 then
              some (J (this + 1 + 21) 0)
            else
              if zp1 = 6 then
                some (J (this + 1 + 16) 0)
              else
                if zp1 = 7 then
                  some (J (this + 1) 7)
                else
                  if zp1 = 8 then
                    (H_X7_allDoubt (this + 1 + 1) J).bind fun zv50 =>
                    some zv50
                  else
                    if zp1 = 9 then
                      some (J (this + 1 + 21) 7)
                    else
                      if zp1 = 10 then
                        (H_X10_allPower E (this + 1) J).bind fun zv62 =>
                        some zv62
                      else
                        some ((-1) : Int)

def H_X11_keep (E : Em) (this : Nat) (zp1 : Int) (zp2 : Int) (zp3 : Int) (J : Jm) : Option (Int × Jm) :=
  (H_X11_shelfAt E this zp1).bind fun v3 =>
  oe v3 (
    some (((-1) : Int), J)) fun a4 =>
    if zp2 < 0 then
      some (((-1) : Int), J)
    else
      if zp2 ≤ 1 then
        if zp2 = 0 then
          nv (jW J a4 0 0) fun J16 =>
          some ((0 : Int), J16)
        else
          (H_X10_gliderAt E (this + 1) zp3 J).bind fun v12 =>
          oe v12 (
            some (((-1) : Int), J)) fun a13 =>
            (H_X8_holdGlider a4 a13 J).bind fun J14 =>
            some ((0 : Int), J14)
      else
        some (((-1) : Int), J)

def H_X11_row (E : Em) (this : Nat) (zp1 : Int) (zp2 : Int) (zp3 : Int) (J : Jm) : Option (Int × Jm) :=
  (H_X11_shelfAt E this zp1).bind fun v3 =>
  oe v3 (
    some (((-1) : Int), J)) fun a4 =>
    if zp2 < 0 then
      some (((-1) : Int), J)
    else
      if 2 < zp2 then
        some (((-1) : Int), J)
      else
        if zp3 ≤ 80 then
          if 0 ≤ zp3 then
            (H_X8_holdRow E a4 zp2 zp3 J).bind fun J9 =>
            some ((0 : Int), J9)
          else
            some (((-14) : Int), J)
        else
          some (((-1) : Int), J)

def H_X11_lowestBits (zp1 : Int) (zp2 : Int) : Option Int :=
  if zp1 = 0 then
    some (b8 zp2)
  else
    if zp1 = 1 then
      some (s16 zp2)
    else
      some zp2

def H_X11_put (E : Em) (this : Nat) (zp1 : Int) (zp2 : Int) (zp3 : Int) (J : Jm) : Option (Int × Jm) :=
  (H_X11_shelfAt E this zp1).bind fun v3 =>
  oe v3 (
    some (((-1) : Int), J)) fun a4 =>
    if (J a4 0) = 2 then
      if zp2 < 0 then
        some (((-13) : Int), J)
      else
        if zp2 < (J a4 2) then
          (H_X11_lowestBits (J a4 1) zp3).bind fun zv13 =>
          (jS J (a4 + 1) 80 zp2 zv13).bind fun J14 =>
          some ((0 : Int), J14)
        else
          some (((-13) : Int), J)
    else
      if (J a4 0) = 0 then
        some (((-11) : Int), J)
      else
        some (((-12) : Int), J)

def H_X11_isStretch (zp1 : Int) (zp2 : Int) (zp3 : Int) : Option Int :=
  if zp1 < 0 then
    some (0 : Int)
  else
    if zp2 < 0 then
      some (0 : Int)
    else
      if zp3 < zp1 then
        some (0 : Int)
      else
        if (wr (zp3 - zp1)) < zp2 then
          some (0 : Int)
        else
          some (1 : Int)

def H_X11_copy (E : Em) (this : Nat) (zp1 : Int) (zp2 : Int) (zp3 : Int) (zp4 : Int) (zp5 : Int) (J : Jm) : Option (Int × Jm) :=
  (H_X11_shelfAt E this zp1).bind fun v3 =>
  (H_X11_shelfAt E this zp3).bind fun v6 =>
  oe v3 (
    some (((-1) : Int), J)) fun a7 =>
    oe v6 (
      some (((-1) : Int), J)) fun a8 =>
      if (J a7 0) = 0 then
        some (((-11) : Int), J)
      else
        if (J a8 0) = 0 then
          some (((-11) : Int), J)
        else
          if (J a7 0) = 2 then
            if (J a8 0) = 2 then
              if (J a7 1) = (J a8 1) then
                (H_X11_isStretch zp2 zp5 (J a7 2)).bind fun zv22 =>
                if zv22 = 0 then
                  some (((-13) : Int), J)
                else
                  (H_X11_isStretch zp4 zp5 (J a8 2)).bind fun zv26 =>
                  if zv26 = 0 then
                    some (((-13) : Int), J)
                  else
                    (jCp J (a7 + 1) 80 zp2 (a8 + 1) 80 zp4 zp5).bind fun J32 =>
                    some (zp5, J32)
              else
                some (((-12) : Int), J)
            else
              some (((-12) : Int), J)
          else
            some (((-12) : Int), J)

def H_X11_sum (E : Em) (this : Nat) (zp1 : Int) (J : Jm) : Option Int :=
  (H_X11_shelfAt E this zp1).bind fun v3 =>
  oe v3 (
    some ((-1) : Int)) fun a4 =>
    if (J a4 0) = 1 then
      (jT 0 (J a4 4)).bind fun zv8 =>
      (jT 1 (J a4 4)).bind fun zv10 =>
      if (J a4 4) = 1 then
        (H_X11_costOf 1 0).bind fun zv14 =>
        some (wr ((wr ((wr (100 + (wr (10 * zv8)))) + zv10)) + zv14))
      else
        if (J a4 4) = 2 then
          some (wr ((wr ((wr (100 + (wr (10 * zv8)))) + zv10)) + (J a4 6)))
        else
          if (J a4 4) = 3 then
            (H_X11_costOf 3 0).bind fun zv19 =>
            some (wr (2 * (wr ((wr ((wr (100 + (wr (10 * zv8)))) + zv10)) + zv19))))
          else
            some (wr ((wr (100 + (wr (10 * zv8)))) + zv10))
    else
      if (J a4 0) = 0 then
        some ((-11) : Int)
      else
        some ((-12) : Int)

def H_X12_thrown (this : Nat) (J : Jm) : Option Int :=
  some (J this 0)

def H_X12_is (this : Nat) (zp1 : Int) (zp2 : Int) (zp3 : Int) : Option Int :=
  if zp1 < zp2 then
    some (0 : Int)
  else
    if zp3 < zp1 then
      some (0 : Int)
    else
      some (1 : Int)

def H_X12_isCell (this : Nat) (zp1 : Int) (zp2 : Int) : Option Int :=
  (H_X12_is this zp1 0 9).bind fun zv3 =>
  if zv3 = 0 then
    some (0 : Int)
  else
    (H_X12_is this zp2 0 7).bind fun zv7 =>
    if zv7 = 0 then
      some (0 : Int)
    else
      some (1 : Int)

def H_X12_isWater (this : Nat) (zp1 : Int) (zp2 : Int) (J : Jm) : Option Int :=
  (H_X12_isCell this zp1 zp2).bind fun zv3 =>
  if zv3 = 0 then
    some (0 : Int)
  else
    (jL J (this + 1) 8369 (wr ((wr (10 + (wr (8 * zp1)))) + zp2))).bind fun zv6 =>
    if zv6 ≤ 0 then
      some (0 : Int)
    else
      some (1 : Int)

def H_X12_sea_L104 (k199h : Jm → Option (Int × Jm)) (x0 : Nat) (zx1 : Int) (zx2 : Int) (zx3 : Int) (zx4 : Int) : Nat → Int → Jm → Option (Int × Jm)
  | 0, _, _ => none
  | n31 + 1, zx5, J0 =>
  (jL J0 (x0 + 1) 8369 0).bind fun zv33 =>
  if zv33 ≤ zx5 then
    k199h J0
  else
    if zx3 = 0 then
      if zx4 = 0 then
        (jL J0 (x0 + 1) 8369 (wr (2202 + zx5))).bind fun zv39 =>
        if zv39 = 0 then
          (jL J0 (x0 + 1) 8369 (wr (2178 + zx5))).bind fun zv43 =>
          (jD zx1 10).bind fun zv45 =>
          (jM zx1 10).bind fun zv46 =>
          (H_X12_is x0 zv43 zv45 zv46).bind fun zv49 =>
          if zv49 = 0 then
            H_X12_sea_L104 k199h x0 zx1 zx2 zx3 zx4 n31 (wr (zx5 + 1)) J0
          else
            (jL J0 (x0 + 1) 8369 (wr (2186 + zx5))).bind fun zv52 =>
            (jD zx2 10).bind fun zv54 =>
            (jM zx2 10).bind fun zv55 =>
            (H_X12_is x0 zv52 zv54 zv55).bind fun zv58 =>
            if zv58 = 0 then
              H_X12_sea_L104 k199h x0 zx1 zx2 zx3 zx4 n31 (wr (zx5 + 1)) J0
            else
              some (((-3) : Int), J0)
        else
          H_X12_sea_L104 k199h x0 zx1 zx2 zx3 zx4 n31 (wr (zx5 + 1)) J0
      else
        H_X12_sea_L104 k199h x0 zx1 zx2 zx3 zx4 n31 (wr (zx5 + 1)) J0
    else
      H_X12_sea_L104 k199h x0 zx1 zx2 zx3 zx4 n31 (wr (zx5 + 1)) J0
def H_X12_sea_L205 (x0 : Nat) (zx1 : Int) (zx2 : Int) (zx3 : Int) (zx4 : Int) : Nat → Int → Int → Jm → Option (Int × Jm)
  | 0, _, _, _ => none
  | n61 + 1, zx5, zx6, J0 =>
  if 80 ≤ zx6 then
    some (zx5, J0)
  else
    (jD zx6 8).bind fun zv63 =>
    (jD zx1 10).bind fun zv64 =>
    (jM zx1 10).bind fun zv65 =>
    (H_X12_is x0 zv63 zv64 zv65).bind fun zv68 =>
    if zv68 = 0 then
      H_X12_sea_L205 x0 zx1 zx2 zx3 zx4 n61 zx5 (wr (zx6 + 1)) J0
    else
      (jM zx6 8).bind fun zv70 =>
      (jD zx2 10).bind fun zv71 =>
      (jM zx2 10).bind fun zv72 =>
      (H_X12_is x0 zv70 zv71 zv72).bind fun zv75 =>
      if zv75 = 0 then
        H_X12_sea_L205 x0 zx1 zx2 zx3 zx4 n61 zx5 (wr (zx6 + 1)) J0
      else
        if zx3 = 2 then
          (jL J0 (x0 + 1) 8369 (wr (10 + zx6))).bind fun zv99 =>
          if zv99 = 0 then
            H_X12_sea_L205 x0 zx1 zx2 zx3 zx4 n61 zx5 (wr (zx6 + 1)) J0
          else
            nv (α := Int) (if zx3 = 0 then 10 else (if zx3 = 1 then 90 else 170)) fun zv102 =>
            (jL J0 (x0 + 1) 8369 (wr (zv102 + zx6))).bind fun zv105 =>
            nv (α := Int) (if zv105 = zx4 then 0 else 1) fun zv107 =>
            (jS J0 (x0 + 1) 8369 (wr (zv102 + zx6)) zx4).bind fun J110 =>
            (jL J110 (x0 + 1) 8369 (wr (10 + zx6))).bind fun zv113 =>
            if zv113 = 0 then
              (jS J110 (x0 + 1) 8369 (wr (170 + zx6)) 0).bind fun J117 =>
              H_X12_sea_L205 x0 zx1 zx2 zx3 zx4 n61 (wr (zx5 + zv107)) (wr (zx6 + 1)) J117
            else
              H_X12_sea_L205 x0 zx1 zx2 zx3 zx4 n61 (wr (zx5 + zv107)) (wr (zx6 + 1)) J110
        else
          nv (α := Int) (if zx3 = 0 then 10 else (if zx3 = 1 then 90 else 170)) fun zv78 =>
          (jL J0 (x0 + 1) 8369 (wr (zv78 + zx6))).bind fun zv81 =>
          nv (α := Int) (if zv81 = zx4 then 0 else 1) fun zv83 =>
          (jS J0 (x0 + 1) 8369 (wr (zv78 + zx6)) zx4).bind fun J86 =>
          (jL J86 (x0 + 1) 8369 (wr (10 + zx6))).bind fun zv89 =>
          if zv89 = 0 then
            (jS J86 (x0 + 1) 8369 (wr (170 + zx6)) 0).bind fun J93 =>
            H_X12_sea_L205 x0 zx1 zx2 zx3 zx4 n61 (wr (zx5 + zv83)) (wr (zx6 + 1)) J93
          else
            H_X12_sea_L205 x0 zx1 zx2 zx3 zx4 n61 (wr (zx5 + zv83)) (wr (zx6 + 1)) J86
def H_X12_sea (this : Nat) (zp1 : Int) (zp2 : Int) (zp3 : Int) (zp4 : Int) (J : Jm) : Option (Int × Jm) :=
  if zp1 < 0 then
    some (((-1) : Int), J)
  else
    if zp2 < 0 then
      some (((-1) : Int), J)
    else
      (jD zp1 10).bind fun zv3 =>
      (jD zp2 10).bind fun zv4 =>
      (H_X12_isCell this zv3 zv4).bind fun zv7 =>
      if zv7 = 0 then
        some (((-1) : Int), J)
      else
        (jM zp1 10).bind fun zv9 =>
        (jM zp2 10).bind fun zv10 =>
        (H_X12_isCell this zv9 zv10).bind fun zv13 =>
        if zv13 = 0 then
          some (((-1) : Int), J)
        else
          (jD zp1 10).bind fun zv15 =>
          (jM zp1 10).bind fun zv16 =>
          if zv16 < zv15 then
            some (((-1) : Int), J)
          else
            (jD zp2 10).bind fun zv18 =>
            (jM zp2 10).bind fun zv19 =>
            if zv19 < zv18 then
              some (((-1) : Int), J)
            else
              (H_X12_is this zp3 0 2).bind fun zv23 =>
              if zv23 = 0 then
                some (((-1) : Int), J)
              else
                nv (α := Int) (if zp3 = 0 then 4 else (if zp3 = 1 then 1 else 99)) fun zv25 =>
                (H_X12_is this zp4 0 zv25).bind fun zv29 =>
                if zv29 = 0 then
                  some (((-1) : Int), J)
                else
                  H_X12_sea_L104 (fun (J60 : Jm) =>
                    H_X12_sea_L205 this zp1 zp2 zp3 zp4 1000000 0 0 J60) this zp1 zp2 zp3 zp4 1000000 0 J

def H_X12_stream (this : Nat) (zp1 : Int) (zp2 : Int) (zp3 : Int) (zp4 : Int) (zp5 : Int) (zp6 : Int) (J : Jm) : Option (Int × Jm) :=
  (H_X12_isCell this zp1 zp2).bind fun zv3 =>
  if zv3 = 0 then
    some (((-1) : Int), J)
  else
    (H_X12_is this zp3 0 3).bind fun zv7 =>
    if zv7 = 0 then
      some (((-1) : Int), J)
    else
      (H_X12_is this zp4 (-2) 2).bind fun zv11 =>
      if zv11 = 0 then
        some (((-1) : Int), J)
      else
        (H_X12_is this zp5 (-2) 2).bind fun zv15 =>
        if zv15 = 0 then
          some (((-1) : Int), J)
        else
          nv (α := Int) (if zp6 = 0 then 250 else 890) fun zv18 =>
          (jS J (this + 1) 8369 (wr (zv18 + (wr ((wr (4 * (wr ((wr (8 * zp1)) + zp2)))) + zp3)))) zp4).bind fun J20 =>
          nv (α := Int) (if zp6 = 0 then 570 else 1210) fun zv23 =>
          (jS J20 (this + 1) 8369 (wr (zv23 + (wr ((wr (4 * (wr ((wr (8 * zp1)) + zp2)))) + zp3)))) zp5).bind fun J25 =>
          some ((0 : Int), J25)

def H_X12_salt (this : Nat) (zp1 : Int) (zp2 : Int) (zp3 : Int) (zp4 : Int) (J : Jm) : Option (Int × Jm) :=
  (H_X12_isCell this zp1 zp2).bind fun zv3 =>
  if zv3 = 0 then
    some (((-1) : Int), J)
  else
    (H_X12_is this zp3 0 3).bind fun zv7 =>
    if zv7 = 0 then
      some (((-1) : Int), J)
    else
      (H_X12_is this zp4 0 1001).bind fun zv11 =>
      if zv11 = 0 then
        some (((-1) : Int), J)
      else
        nv (α := Int) (if 1000 ≤ zp4 then 1850 else 1530) fun zv13 =>
        nv (α := Int) (if 1000 ≤ zp4 then (wr (1001 - zp4)) else zp4) fun zv15 =>
        (jL J (this + 1) 8369 (wr ((wr (zv13 + (wr (4 * (wr ((wr (8 * zp1)) + zp2)))))) + zp3))).bind fun zv18 =>
        (jS J (this + 1) 8369 (wr ((wr (zv13 + (wr (4 * (wr ((wr (8 * zp1)) + zp2)))))) + zp3)) zv15).bind fun J21 =>
        if zv18 = zv15 then
          some ((0 : Int), J21)
        else
          some ((1 : Int), J21)

def H_X12_cell (this : Nat) (zp1 : Int) (zp2 : Int) (zp3 : Int) (zp4 : Int) (J : Jm) : Option Int :=
  (H_X12_isCell this zp1 zp2).bind fun zv3 =>
  if zv3 = 0 then
    some ((-1) : Int)
  else
    (H_X12_is this zp4 0 8).bind fun zv7 =>
    if zv7 = 0 then
      some ((-1) : Int)
    else
      jp (if zp4 = 0 then
        (jL J (this + 1) 8369 (wr (10 + (wr ((wr (8 * zp1)) + zp2))))).bind fun zv13 =>
        some zv13
      else
        if zp4 = 1 then
          (jL J (this + 1) 8369 (wr (90 + (wr ((wr (8 * zp1)) + zp2))))).bind fun zv17 =>
          some zv17
        else
          if zp4 = 2 then
            (jL J (this + 1) 8369 (wr (170 + (wr ((wr (8 * zp1)) + zp2))))).bind fun zv21 =>
            some zv21
          else
            if zp4 = 3 then
              (jL J (this + 1) 8369 (wr ((wr (250 + (wr (4 * (wr ((wr (8 * zp1)) + zp2)))))) + zp3))).bind fun zv25 =>
              some zv25
            else
              if zp4 = 4 then
                (jL J (this + 1) 8369 (wr ((wr (570 + (wr (4 * (wr ((wr (8 * zp1)) + zp2)))))) + zp3))).bind fun zv29 =>
                some zv29
              else
                if zp4 = 5 then
                  (jL J (this + 1) 8369 (wr ((wr (890 + (wr (4 * (wr ((wr (8 * zp1)) + zp2)))))) + zp3))).bind fun zv33 =>
                  some zv33
                else
                  if zp4 = 6 then
                    (jL J (this + 1) 8369 (wr ((wr (1210 + (wr (4 * (wr ((wr (8 * zp1)) + zp2)))))) + zp3))).bind fun zv37 =>
                    some zv37
                  else
                    if zp4 = 7 then
                      (jL J (this + 1) 8369 (wr ((wr (1530 + (wr (4 * (wr ((wr (8 * zp1)) + zp2)))))) + zp3))).bind fun zv41 =>
                      some zv41
                    else
                      (jL J (this + 1) 8369 (wr ((wr (1850 + (wr (4 * (wr ((wr (8 * zp1)) + zp2)))))) + zp3))).bind fun zv44 =>
                      some zv44) fun k9h =>
      if zp4 ≤ 2 then
        k9h
      else
        (H_X12_is this zp3 0 3).bind fun zv50 =>
        if zv50 = 0 then
          some ((-1) : Int)
        else
          k9h

def H_X12_isGlider (this : Nat) (zp1 : Int) (J : Jm) : Option Int :=
  (jL J (this + 1) 8369 0).bind fun zv2 =>
  (H_X12_is this zp1 0 (wr (zv2 - 1))).bind fun zv6 =>
  (jZ zv6).bind fun _ =>
  some zv6

def H_X12_isUp (this : Nat) (zp1 : Int) (J : Jm) : Option Int :=
  (jL J (this + 1) 8369 (wr (2202 + zp1))).bind fun zv2 =>
  if zv2 = 0 then
    some (1 : Int)
  else
    some (0 : Int)

def H_X12_sinks (this : Nat) (zp1 : Int) (J : Jm) : Option Int :=
  (jL J (this + 1) 8369 (wr (2170 + zp1))).bind fun zv2 =>
  if zv2 = 0 then
    some (2 : Int)
  else
    (jL J (this + 1) 8369 (wr (2170 + zp1))).bind fun zv6 =>
    if zv6 = 2 then
      some (3 : Int)
    else
      some (1 : Int)

def H_X12_goes (this : Nat) (zp1 : Int) (J : Jm) : Option Int :=
  (jL J (this + 1) 8369 (wr (2170 + zp1))).bind fun zv2 =>
  if zv2 = 0 then
    some (2 : Int)
  else
    (jL J (this + 1) 8369 (wr (2170 + zp1))).bind fun zv6 =>
    if zv6 = 1 then
      some (3 : Int)
    else
      (jL J (this + 1) 8369 (wr (2170 + zp1))).bind fun zv10 =>
      if zv10 = 2 then
        some (1 : Int)
      else
        some (4 : Int)

def H_X12_dry (this : Nat) (zp1 : Int) (zp2 : Int) : Option Int :=
  if zp1 = 0 then
    some (wr (4 + (wr (2 * zp2))))
  else
    if zp1 = 1 then
      some (wr (2 + zp2))
    else
      nv (α := Int) (if zp1 = 2 then (wr (2 * zp2)) else zp2) fun zv3 =>
      some (wr (3 + zv3))

def H_X12_cost (this : Nat) (zp1 : Int) (zp2 : Int) (J : Jm) : Option Int :=
  (jL J (this + 1) 8369 (wr (2170 + zp1))).bind fun zv2 =>
  (H_X12_dry this zv2 zp2).bind fun zv6 =>
  (jL J (this + 1) 8369 (wr (2210 + zp1))).bind fun zv8 =>
  nv (α := Int) (if zv8 = 1 then 3 else 0) fun zv10 =>
  some (wr (zv6 + zv10))

def H_X12_layerFor (this : Nat) (zp1 : Int) (zp2 : Int) (J : Jm) : Option Int :=
  (H_X12_sinks this zp1 J).bind fun zv3 =>
  if zv3 ≤ zp2 then
    (H_X12_sinks this zp1 J).bind fun zv7 =>
    some zv7
  else
    some zp2

def H_X12_glider (this : Nat) (zp1 : Int) (zp2 : Int) (zp3 : Int) (zp4 : Int) (J : Jm) : Option (Int × Jm) :=
  (H_X12_is this zp1 0 3).bind fun zv3 =>
  if zv3 = 0 then
    some (((-1) : Int), J)
  else
    (H_X12_isCell this zp2 zp3).bind fun zv7 =>
    if zv7 = 0 then
      some (((-1) : Int), J)
    else
      (H_X12_is this zp4 0 999).bind fun zv11 =>
      if zv11 = 0 then
        some (((-1) : Int), J)
      else
        (jL J (this + 1) 8369 0).bind fun zv14 =>
        if zv14 = 8 then
          some (((-2) : Int), J)
        else
          (H_X12_isWater this zp2 zp3 J).bind fun zv19 =>
          if zv19 = 0 then
            some (((-3) : Int), J)
          else
            (jS J (this + 1) 8369 (wr (2170 + zv14)) zp1).bind fun J22 =>
            (jS J22 (this + 1) 8369 (wr (2178 + zv14)) zp2).bind fun J25 =>
            (jS J25 (this + 1) 8369 (wr (2186 + zv14)) zp3).bind fun J28 =>
            (jS J28 (this + 1) 8369 (wr (2194 + zv14)) zp4).bind fun J31 =>
            (jS J31 (this + 1) 8369 (wr (2226 + zv14)) (-4)).bind fun J34 =>
            (jS J34 (this + 1) 8369 (wr (2234 + zv14)) (-4)).bind fun J37 =>
            (jS J37 (this + 1) 8369 (wr (2250 + zv14)) (-4)).bind fun J40 =>
            (jL J40 (this + 1) 8369 0).bind fun zv43 =>
            (jS J40 (this + 1) 8369 0 (wr (zv43 + 1))).bind fun J45 =>
            some (zv14, J45)

def H_X12_about (this : Nat) (zp1 : Int) (zp2 : Int) (J : Jm) : Option Int :=
  (H_X12_isGlider this zp1 J).bind fun zv3 =>
  if zv3 = 0 then
    some ((-1) : Int)
  else
    if zp2 = 0 then
      (jL J (this + 1) 8369 (wr (2170 + zp1))).bind fun zv7 =>
      some zv7
    else
      if zp2 = 1 then
        (jL J (this + 1) 8369 (wr (2178 + zp1))).bind fun zv11 =>
        some zv11
      else
        if zp2 = 2 then
          (jL J (this + 1) 8369 (wr (2186 + zp1))).bind fun zv15 =>
          some zv15
        else
          if zp2 = 3 then
            (jL J (this + 1) 8369 (wr (2194 + zp1))).bind fun zv19 =>
            some zv19
          else
            if zp2 = 4 then
              (jL J (this + 1) 8369 (wr (2202 + zp1))).bind fun zv23 =>
              some zv23
            else
              if zp2 = 5 then
                (jL J (this + 1) 8369 (wr (2210 + zp1))).bind fun zv27 =>
                some zv27
              else
                if zp2 = 6 then
                  (jL J (this + 1) 8369 (wr (2218 + zp1))).bind fun zv31 =>
                  some zv31
                else
                  if zp2 = 7 then
                    (jL J (this + 1) 8369 (wr (2226 + zp1))).bind fun zv35 =>
                    some zv35
                  else
                    if zp2 = 8 then
                      (jL J (this + 1) 8369 (wr (2234 + zp1))).bind fun zv39 =>
                      some zv39
                    else
                      if zp2 = 9 then
                        (jL J (this + 1) 8369 (wr (2242 + zp1))).bind fun zv43 =>
                        some zv43
                      else
                        if zp2 = 10 then
                          (jL J (this + 1) 8369 (wr (2250 + zp1))).bind fun zv47 =>
                          some zv47
                        else
                          some ((-1) : Int)

def H_X12_can (this : Nat) (zp1 : Int) (zp2 : Int) (J : Jm) : Option Int :=
  (H_X12_isGlider this zp1 J).bind fun zv3 =>
  if zv3 = 0 then
    some ((-1) : Int)
  else
    (H_X12_is this zp2 0 5).bind fun zv7 =>
    if zv7 = 0 then
      some ((-1) : Int)
    else
      if zp2 = 0 then
        (H_X12_sinks this zp1 J).bind fun zv23 =>
        some zv23
      else
        if zp2 = 1 then
          (H_X12_goes this zp1 J).bind fun zv20 =>
          some zv20
        else
          (H_X12_sinks this zp1 J).bind fun zv13 =>
          if (wr (zp2 - 2)) ≤ zv13 then
            (H_X12_cost this zp1 (wr (zp2 - 2)) J).bind fun zv17 =>
            some zv17
          else
            some ((-3) : Int)

def H_X12_leak (this : Nat) (zp1 : Int) (zp2 : Int) (J : Jm) : Option (Int × Jm) :=
  (H_X12_isGlider this zp1 J).bind fun zv3 =>
  if zv3 = 0 then
    some (((-1) : Int), J)
  else
    (jL J (this + 1) 8369 (wr (2210 + zp1))).bind fun zv6 =>
    nv (α := Int) (if zp2 = 0 then 0 else 1) fun zv9 =>
    (jS J (this + 1) 8369 (wr (2210 + zp1)) zv9).bind fun J11 =>
    (jL J11 (this + 1) 8369 (wr (2210 + zp1))).bind fun zv14 =>
    if zv6 = zv14 then
      some ((0 : Int), J11)
    else
      some ((1 : Int), J11)

def H_X12_abs (this : Nat) (zp1 : Int) : Option Int :=
  if 0 ≤ zp1 then
    some zp1
  else
    some (wr (-zp1))

def H_X12_step (this : Nat) (zp1 : Int) (zp2 : Int) (J : Jm) : Option Jm :=
  (H_X12_isWater this (wr ((J this 4) + zp1)) (wr ((J this 5) + zp2)) J).bind fun zv5 =>
  if zv5 = 0 then
    some J
  else
    nv (jW J this 4 (wr ((J this 4) + zp1))) fun J8 =>
    nv (jW J8 this 5 (wr ((J8 this 5) + zp2))) fun J10 =>
    some J10

def H_X12_steps_L2 (k31h : Jm → Option Jm) (x0 : Nat) (zx1 : Int) (zx2 : Int) : Nat → Int → Jm → Option Jm
  | 0, _, _ => none
  | n1 + 1, zx3, J0 =>
  (H_X12_abs x0 zx1).bind fun zv4 =>
  if zv4 ≤ zx3 then
    k31h J0
  else
    nv (α := Int) (if 0 ≤ zx1 then 1 else (-1)) fun zv6 =>
    (H_X12_step x0 zv6 0 J0).bind fun J8 =>
    H_X12_steps_L2 k31h x0 zx1 zx2 n1 (wr (zx3 + 1)) J8
def H_X12_steps_L33 (x0 : Nat) (zx2 : Int) : Nat → Int → Jm → Option Jm
  | 0, _, _ => none
  | n12 + 1, zx3, J0 =>
  (H_X12_abs x0 zx2).bind fun zv15 =>
  if zv15 ≤ zx3 then
    some J0
  else
    nv (α := Int) (if 0 ≤ zx2 then 1 else (-1)) fun zv17 =>
    (H_X12_step x0 0 zv17 J0).bind fun J19 =>
    H_X12_steps_L33 x0 zx2 n12 (wr (zx3 + 1)) J19
def H_X12_steps (this : Nat) (zp1 : Int) (zp2 : Int) (J : Jm) : Option Jm :=
  H_X12_steps_L2 (fun (J11 : Jm) =>
    H_X12_steps_L33 this zp2 1000000 0 J11) this zp1 zp2 1000000 0 J

def H_X12_isNet (this : Nat) (zp1 : Int) (J : Jm) : Option Int :=
  (jL J (this + 1) 8369 (wr ((wr (1850 + (wr (4 * (wr ((wr (8 * (J this 4))) + (J this 5))))))) + zp1))).bind fun zv4 =>
  if zv4 = 1 then
    (jL J (this + 1) 8369 (wr ((wr (10 + (wr (8 * (J this 4))))) + (J this 5)))).bind fun zv10 =>
    if zv10 ≤ zp1 then
      some (0 : Int)
    else
      some (1 : Int)
  else
    some (0 : Int)

def H_X12_sink_L12 (x0 : Nat) (zx1 : Int) (zx2 : Int) : Nat → Int → Jm → Option Jm
  | 0, _, _ => none
  | n3 + 1, zx3, J0 =>
  if zx1 < zx3 then
    some J0
  else
    if (J0 x0 7) = 0 then
      (jL J0 (x0 + 1) 8369 (wr (10 + (wr ((wr (8 * (J0 x0 4))) + (J0 x0 5)))))).bind fun zv10 =>
      if zx3 < zv10 then
        nv (jW J0 x0 6 zx3) fun J13 =>
        nv (α := Int) (if zx2 = 0 then 250 else 890) fun zv15 =>
        (jL J13 (x0 + 1) 8369 (wr ((wr (zv15 + (wr (4 * (wr ((wr (8 * (J0 x0 4))) + (J0 x0 5))))))) + zx3))).bind fun zv17 =>
        nv (α := Int) (if zx2 = 0 then 570 else 1210) fun zv20 =>
        (jL J13 (x0 + 1) 8369 (wr ((wr (zv20 + (wr (4 * (wr ((wr (8 * (J0 x0 4))) + (J0 x0 5))))))) + zx3))).bind fun zv22 =>
        (H_X12_steps x0 zv17 zv22 J13).bind fun J24 =>
        if zx2 = 0 then
          (H_X12_isNet x0 zx3 J24).bind fun zv30 =>
          nv (α := Int) (if zv30 = 0 then 0 else 1) fun zv31 =>
          (jZ zv31).bind fun _ =>
          nv (jW J24 x0 7 zv31) fun J33 =>
          H_X12_sink_L12 x0 zx1 zx2 n3 (wr (zx3 + 1)) J33
        else
          nv (jW J24 x0 7 0) fun J27 =>
          H_X12_sink_L12 x0 zx1 zx2 n3 (wr (zx3 + 1)) J27
      else
        some J0
    else
      some J0
def H_X12_sink (this : Nat) (zp1 : Int) (zp2 : Int) (J : Jm) : Option Jm :=
  nv (jW J this 6 0) fun J1 =>
  nv (jW J1 this 7 0) fun J2 =>
  H_X12_sink_L12 this zp1 zp2 1000000 0 J2

def H_X12_isHeading (this : Nat) (zp1 : Int) (zp2 : Int) (zp3 : Int) (J : Jm) : Option Int :=
  (H_X12_is this zp2 (-4) 4).bind fun zv3 =>
  if zv3 = 0 then
    some (0 : Int)
  else
    (H_X12_is this zp3 (-4) 4).bind fun zv7 =>
    if zv7 = 0 then
      some (0 : Int)
    else
      (H_X12_abs this zp2).bind fun zv11 =>
      (H_X12_abs this zp3).bind fun zv14 =>
      (H_X12_goes this zp1 J).bind fun zv17 =>
      if zv17 < (wr (zv11 + zv14)) then
        some (0 : Int)
      else
        some (1 : Int)

def H_X12_besideOf (this : Nat) (zp1 : Int) (zp2 : Int) : Option Int :=
  (jD zp1 8).bind fun zv1 =>
  nv (α := Int) (if zp2 = 0 then 1 else (if zp2 = 2 then (-1) else 0)) fun zv2 =>
  (jM zp1 8).bind fun zv4 =>
  nv (α := Int) (if zp2 = 1 then 1 else (if zp2 = 3 then (-1) else 0)) fun zv5 =>
  (H_X12_isCell this (wr (zv1 + zv2)) (wr (zv4 + zv5))).bind fun zv9 =>
  if zv9 = 0 then
    some ((-1) : Int)
  else
    some (wr ((wr (8 * (wr (zv1 + zv2)))) + (wr (zv4 + zv5))))

def H_X12_measure_L230 (x0 : Nat) (zx2 : Int) : Nat → Int → Jm → Option Jm
  | 0, _, _ => none
  | n31 + 1, zx6, J0 =>
  if 4 ≤ zx6 then
    some J0
  else
    (H_X12_besideOf x0 zx2 zx6).bind fun zv35 =>
    if zv35 < 0 then
      H_X12_measure_L230 x0 zx2 n31 (wr (zx6 + 1)) J0
    else
      (H_X12_besideOf x0 zx2 zx6).bind fun zv40 =>
      (jL J0 (x0 + 1) 8369 (wr (170 + zv40))).bind fun zv41 =>
      (jD zv41 2).bind fun zv43 =>
      (jS J0 (x0 + 1) 8369 (wr (170 + zv40)) zv43).bind fun J44 =>
      H_X12_measure_L230 x0 zx2 n31 (wr (zx6 + 1)) J44
def H_X12_measure (this : Nat) (zp1 : Int) (J : Jm) : Option Jm :=
  (jL J (this + 1) 8369 (wr (10 + (wr ((wr (8 * (J this 4))) + (J this 5)))))).bind fun zv5 =>
  jp (fun (zs8 : Int) (J9 : Jm) =>
    (jL J9 (this + 1) 8369 (wr ((wr (1530 + (wr (4 * (wr ((wr (8 * (J this 4))) + (J this 5))))))) + zs8))).bind fun zv11 =>
    (jL J9 (this + 1) 8369 (wr (2218 + zp1))).bind fun zv14 =>
    (jL J9 (this + 1) 8369 2).bind fun zv17 =>
    jp (fun (J20 : Jm) =>
      (jS J20 (this + 1) 8369 (wr (2250 + zp1)) (wr (zv11 + (wr (3 * zv14))))).bind fun J22 =>
      (jL J22 (this + 1) 8369 (wr (2218 + zp1))).bind fun zv25 =>
      (jS J22 (this + 1) 8369 (wr (2218 + zp1)) (wr (zv25 + 1))).bind fun J27 =>
      (jS J27 (this + 1) 8369 (wr (170 + (wr ((wr (8 * (J this 4))) + (J this 5))))) 0).bind fun J29 =>
      H_X12_measure_L230 this (wr ((wr (8 * (J this 4))) + (J this 5))) 1000000 0 J29) fun k19h =>
    if 200 ≤ zv17 then
      k19h J9
    else
      (jS J9 (this + 1) 8369 (wr (2270 + zv17)) zp1).bind fun J48 =>
      (jL J48 (this + 1) 8369 1).bind fun zv52 =>
      (jS J48 (this + 1) 8369 (wr (2470 + zv17)) zv52).bind fun J54 =>
      (jS J54 (this + 1) 8369 (wr (2670 + zv17)) (wr ((wr (8 * (J this 4))) + (J this 5)))).bind fun J57 =>
      (jS J57 (this + 1) 8369 (wr (2870 + zv17)) zs8).bind fun J60 =>
      (jL J60 (this + 1) 8369 (wr (2218 + zp1))).bind fun zv64 =>
      (jS J60 (this + 1) 8369 (wr (3070 + zv17)) zv64).bind fun J66 =>
      (jS J66 (this + 1) 8369 (wr (3270 + zv17)) (wr (zv11 + (wr (3 * zv14))))).bind fun J69 =>
      (jL J69 (this + 1) 8369 2).bind fun zv72 =>
      (jS J69 (this + 1) 8369 2 (wr (zv72 + 1))).bind fun J74 =>
      k19h J74) fun k7h =>
  if zv5 ≤ (J this 6) then
    (jL J (this + 1) 8369 (wr (10 + (wr ((wr (8 * (J this 4))) + (J this 5)))))).bind fun zv78 =>
    k7h (wr (zv78 - 1)) J
  else
    k7h (J this 6) J

def H_X12_nearer (this : Nat) (zp1 : Int) (zp2 : Int) (zp3 : Int) : Option Int :=
  if zp2 ≤ zp3 then
    if zp3 ≤ zp2 then
      some zp1
    else
      if zp1 ≤ (-2) then
        some zp1
      else
        some (wr (zp1 - 1))
  else
    if 2 ≤ zp1 then
      if zp3 ≤ zp2 then
        some zp1
      else
        if zp1 ≤ (-2) then
          some zp1
        else
          some (wr (zp1 - 1))
    else
      some (wr (zp1 + 1))

def H_X12_learn_L73 (k142h : Int → Int → Jm → Option Jm) (x0 : Nat) (zx1 : Int) (zx6 : Int) (zx7 : Int) : Nat → Int → Int → Int → Jm → Option Jm
  | 0, _, _, _, _ => none
  | n13 + 1, zx8, zx9, zx10, J0 =>
  if (J0 x0 6) < zx10 then
    k142h zx8 zx9 J0
  else
    (jL J0 (x0 + 1) 8369 (wr (10 + zx1))).bind fun zv17 =>
    if zv17 ≤ zx10 then
      k142h zx8 zx9 J0
    else
      (jL J0 (x0 + 1) 8369 (wr ((wr (890 + (wr (4 * zx1)))) + zx10))).bind fun zv21 =>
      (jL J0 (x0 + 1) 8369 (wr ((wr (1210 + (wr (4 * zx1)))) + zx10))).bind fun zv24 =>
      H_X12_learn_L73 k142h x0 zx1 zx6 zx7 n13 (wr (zx8 + zv21)) (wr (zx9 + zv24)) (wr (zx10 + 1)) J0
def H_X12_learn_L145 (x0 : Nat) (zx1 : Int) (zx6 : Int) (zx7 : Int) (zx8 : Int) (zx9 : Int) : Nat → Int → Jm → Option Jm
  | 0, _, _ => none
  | n29 + 1, zx10, J0 =>
  if (J0 x0 6) < zx10 then
    some J0
  else
    (jL J0 (x0 + 1) 8369 (wr (10 + zx1))).bind fun zv33 =>
    if zv33 ≤ zx10 then
      some J0
    else
      (jL J0 (x0 + 1) 8369 (wr ((wr (890 + (wr (4 * zx1)))) + zx10))).bind fun zv38 =>
      (H_X12_nearer x0 zv38 zx6 zx8).bind fun zv42 =>
      (jS J0 (x0 + 1) 8369 (wr ((wr (890 + (wr (4 * zx1)))) + zx10)) zv42).bind fun J43 =>
      (jL J43 (x0 + 1) 8369 (wr ((wr (1210 + (wr (4 * zx1)))) + zx10))).bind fun zv47 =>
      (H_X12_nearer x0 zv47 zx7 zx9).bind fun zv51 =>
      (jS J43 (x0 + 1) 8369 (wr ((wr (1210 + (wr (4 * zx1)))) + zx10)) zv51).bind fun J52 =>
      H_X12_learn_L145 x0 zx1 zx6 zx7 zx8 zx9 n29 (wr (zx10 + 1)) J52
def H_X12_learn (this : Nat) (zp1 : Int) (zp2 : Int) (zp3 : Int) (J : Jm) : Option Jm :=
  (jD zp1 8).bind fun zv3 =>
  nv (jW J this 4 zv3) fun J4 =>
  (jM zp1 8).bind fun zv5 =>
  nv (jW J4 this 5 zv5) fun J6 =>
  (H_X12_steps this zp2 zp3 J6).bind fun J7 =>
  nv (jW J7 this 4 (J this 4)) fun J11 =>
  nv (jW J11 this 5 (J this 5)) fun J12 =>
  H_X12_learn_L73 (fun (zy26 : Int) (zy27 : Int) (J28 : Jm) =>
    H_X12_learn_L145 this zp1 (wr ((J this 4) - (J7 this 4))) (wr ((J this 5) - (J7 this 5))) zy26 zy27 1000000 0 J28) this zp1 (wr ((J this 4) - (J7 this 4))) (wr ((J this 5) - (J7 this 5))) 1000000 0 0 0 J12

def H_X12_dives (this : Nat) (zp1 : Int) (zp2 : Int) (zp3 : Int) (zp4 : Int) (J : Jm) : Option (Int × Jm) :=
  (jL J (this + 1) 8369 (wr (2178 + zp1))).bind fun zv2 =>
  (jL J (this + 1) 8369 (wr (2186 + zp1))).bind fun zv5 =>
  (jL J (this + 1) 8369 (wr (2194 + zp1))).bind fun zv8 =>
  (H_X12_cost this zp1 zp2 J).bind fun zv12 =>
  (jS J (this + 1) 8369 (wr (2194 + zp1)) (wr (zv8 - zv12))).bind fun J13 =>
  (jL J13 (this + 1) 8369 (wr (2242 + zp1))).bind fun zv15 =>
  (jS J13 (this + 1) 8369 (wr (2242 + zp1)) (wr (zv15 + 1))).bind fun J17 =>
  (jL J17 (this + 1) 8369 (wr (2178 + zp1))).bind fun zv19 =>
  nv (jW J17 this 4 zv19) fun J21 =>
  (jL J21 (this + 1) 8369 (wr (2186 + zp1))).bind fun zv23 =>
  nv (jW J21 this 5 zv23) fun J25 =>
  (H_X12_sink this zp2 0 J25).bind fun J26 =>
  jp (fun (J30 : Jm) =>
    (jS J30 (this + 1) 8369 (wr (2178 + zp1)) (J30 this 4)).bind fun J33 =>
    (jS J33 (this + 1) 8369 (wr (2186 + zp1)) (J33 this 5)).bind fun J37 =>
    if (J37 this 7) = 0 then
      (jL J37 (this + 1) 8369 (wr ((wr (90 + (wr (8 * (J37 this 4))))) + (J37 this 5)))).bind fun zv44 =>
      jp (fun (J47 : Jm) =>
        (H_X12_learn this (wr ((wr (8 * zv2)) + zv5)) zp3 zp4 J47).bind fun J48 =>
        some ((wr ((wr (8 * (J48 this 4))) + (J48 this 5))), J48)) fun k46h =>
      if zv44 = 1 then
        (jL J37 (this + 1) 8369 (wr (2194 + zp1))).bind fun zv56 =>
        if zv56 ≤ 5 then
          (jS J37 (this + 1) 8369 (wr (2194 + zp1)) 0).bind fun J59 =>
          k46h J59
        else
          (jL J37 (this + 1) 8369 (wr (2194 + zp1))).bind fun zv62 =>
          (jS J37 (this + 1) 8369 (wr (2194 + zp1)) (wr (zv62 - 5))).bind fun J64 =>
          k46h J64
      else
        k46h J37
    else
      (jS J37 (this + 1) 8369 (wr (2202 + zp1)) 2).bind fun J67 =>
      some (((-5) : Int), J67)) fun k29h =>
  if (J26 this 7) = 0 then
    (H_X12_steps this zp3 zp4 J26).bind fun J71 =>
    (H_X12_measure this zp1 J71).bind fun J73 =>
    k29h J73
  else
    k29h J26

def H_X12_dive (this : Nat) (zp1 : Int) (zp2 : Int) (zp3 : Int) (zp4 : Int) (J : Jm) : Option (Int × Jm) :=
  (H_X12_isGlider this zp1 J).bind fun zv3 =>
  if zv3 = 0 then
    some (((-1) : Int), J)
  else
    (H_X12_sinks this zp1 J).bind fun zv7 =>
    (H_X12_is this zp2 0 zv7).bind fun zv10 =>
    if zv10 = 0 then
      some (((-1) : Int), J)
    else
      (H_X12_isHeading this zp1 zp3 zp4 J).bind fun zv14 =>
      if zv14 = 0 then
        some (((-1) : Int), J)
      else
        (H_X12_isUp this zp1 J).bind fun zv18 =>
        if zv18 = 0 then
          some (((-3) : Int), J)
        else
          (jL J (this + 1) 8369 (wr (2194 + zp1))).bind fun zv21 =>
          (H_X12_cost this zp1 zp2 J).bind fun zv25 =>
          if zv25 ≤ zv21 then
            (H_X12_dives this zp1 zp2 zp3 zp4 J).bind fun (zv29, J27) =>
            some (zv29, J27)
          else
            some (((-3) : Int), J)

def H_X12_at (this : Nat) (J : Jm) : Option Int :=
  if (J this 12) < (J this 11) then
    if (J this 13) = 0 then
      (jL J (this + 1) 8369 (wr ((J this 10) + (J this 12)))).bind fun zv9 =>
      some zv9
    else
      (jL J (this + 3) 80 (J this 12)).bind fun zv13 =>
      some zv13
  else
    some ((-1) : Int)

def H_X12_takes (this : Nat) (zp1 : Int) (zp2 : Int) (J : Jm) : Option (Int × Jm) :=
  (H_X12_at this J).bind fun zv3 =>
  (H_X12_is this zv3 (wr (48 + zp1)) (wr (48 + zp2))).bind fun zv6 =>
  if zv6 = 0 then
    some ((0 : Int), J)
  else
    (H_X12_at this J).bind fun zv10 =>
    nv (jW J this 14 (wr (zv10 - 48))) fun J11 =>
    nv (jW J11 this 12 (wr ((J11 this 12) + 1))) fun J13 =>
    some ((1 : Int), J13)

def H_X12_isField (this : Nat) (zp1 : Int) : Option Int :=
  if zp1 = 112 then
    some (1 : Int)
  else
    if zp1 = 120 then
      some (1 : Int)
    else
      if zp1 = 121 then
        some (1 : Int)
      else
        if zp1 = 108 then
          some (1 : Int)
        else
          if zp1 = 102 then
            some (1 : Int)
          else
            if zp1 = 104 then
              some (1 : Int)
            else
              if zp1 = 116 then
                some (1 : Int)
              else
                if zp1 = 115 then
                  some (1 : Int)
                else
                  if zp1 = 100 then
                    some (1 : Int)
                  else
                    some (0 : Int)

def H_X12_fieldOf (this : Nat) (zp1 : Int) (zp2 : Int) (J : Jm) : Option Int :=
  if 0 ≤ zp2 then
    if zp1 = 102 then
      (jL J (this + 1) 8369 (wr (2218 + zp2))).bind fun zv4 =>
      some zv4
    else
      if zp1 = 104 then
        (jL J (this + 1) 8369 (wr (2234 + zp2))).bind fun zv8 =>
        if 0 ≤ zv8 then
          (jL J (this + 1) 8369 1).bind fun zv12 =>
          (jL J (this + 1) 8369 (wr (2234 + zp2))).bind fun zv15 =>
          some (wr (zv12 - zv15))
        else
          (jL J (this + 1) 8369 1).bind fun zv18 =>
          some zv18
      else
        if zp1 = 108 then
          (jL J (this + 1) 8369 (wr (2210 + zp2))).bind fun zv22 =>
          some zv22
        else
          if zp1 = 112 then
            (jL J (this + 1) 8369 (wr (2194 + zp2))).bind fun zv26 =>
            some zv26
          else
            if zp1 = 115 then
              (jL J (this + 1) 8369 (wr (2250 + zp2))).bind fun zv30 =>
              if 0 ≤ zv30 then
                (jL J (this + 1) 8369 (wr (2250 + zp2))).bind fun zv34 =>
                some zv34
              else
                some (0 : Int)
            else
              if zp1 = 116 then
                (jL J (this + 1) 8369 1).bind fun zv38 =>
                (jM zv38 10).bind fun zv40 =>
                some zv40
              else
                if zp1 = 120 then
                  (jL J (this + 1) 8369 (wr (2178 + zp2))).bind fun zv43 =>
                  some zv43
                else
                  if zp1 = 121 then
                    (jL J (this + 1) 8369 (wr (2186 + zp2))).bind fun zv47 =>
                    some zv47
                  else
                    (jL J (this + 1) 8369 (wr (2178 + zp2))).bind fun zv51 =>
                    (jL J (this + 1) 8369 (wr (2186 + zp2))).bind fun zv54 =>
                    (jL J (this + 1) 8369 (wr ((wr (10 + (wr (8 * zv51)))) + zv54))).bind fun zv56 =>
                    some zv56
  else
    some (0 : Int)

def H_X12_takesCheck_L2 (k34h : Int → Jm → Option (Int × Jm)) (x0 : Nat) (zx1 : Int) : Nat → Int → Jm → Option (Int × Jm)
  | 0, _, _ => none
  | n1 + 1, zx2, J0 =>
  (H_X12_at x0 J0).bind fun zv4 =>
  if zv4 = 33 then
    nv (α := Int) (if zx2 = 0 then 1 else 0) fun zv6 =>
    nv (jW J0 x0 12 (wr ((J0 x0 12) + 1))) fun J9 =>
    H_X12_takesCheck_L2 k34h x0 zx1 n1 zv6 J9
  else
    k34h zx2 J0
def H_X12_takesCheck_L127 (k184h : Int → Jm → Option (Int × Jm)) (x0 : Nat) (zx2 : Int) (zx4 : Int) (zx5 : Int) : Nat → Int → Int → Jm → Option (Int × Jm)
  | 0, _, _, _ => none
  | n37 + 1, zx6, zx7, J0 =>
  if 3 ≤ zx7 then
    k184h zx6 J0
  else
    if zx6 ≤ 0 then
      k184h zx6 J0
    else
      (H_X12_at x0 J0).bind fun zv42 =>
      (H_X12_is x0 zv42 48 57).bind fun zv45 =>
      if zv45 = 0 then
        k184h zx6 J0
      else
        (H_X12_at x0 J0).bind fun zv49 =>
        nv (jW J0 x0 12 (wr ((J0 x0 12) + 1))) fun J51 =>
        H_X12_takesCheck_L127 k184h x0 zx2 zx4 zx5 n37 (wr ((wr ((wr (10 * zx6)) + zv49)) - 48)) (wr (zx7 + 1)) J51
def H_X12_takesCheck (this : Nat) (zp1 : Int) (J : Jm) : Option (Int × Jm) :=
  H_X12_takesCheck_L2 (fun (zy11 : Int) (J12 : Jm) =>
    (H_X12_at this J12).bind fun zv15 =>
    (H_X12_isField this zv15).bind fun zv18 =>
    if zv18 = 0 then
      some ((0 : Int), J12)
    else
      (H_X12_fieldOf this zv15 zp1 J12).bind fun zv22 =>
      nv (jW J12 this 12 (wr ((J12 this 12) + 1))) fun J24 =>
      (H_X12_at this J24).bind fun zv27 =>
      jp (fun (J29 : Jm) =>
        nv (jW J29 this 12 (wr ((J29 this 12) + 1))) fun J31 =>
        (H_X12_takes this 0 9 J31).bind fun (zv34, J32) =>
        if zv34 = 0 then
          some ((0 : Int), J32)
        else
          H_X12_takesCheck_L127 (fun (zy52 : Int) (J53 : Jm) =>
            nv (α := Int) (if zv27 = 60 then (if zy52 ≤ zv22 then 0 else 1) else (if zv27 = 61 then (if zv22 = zy52 then 1 else 0) else (if zv22 ≤ zy52 then 0 else 1))) fun zv54 =>
            nv (α := Int) (if (J53 this 15) = 0 then 0 else (if zv54 = zy11 then 0 else 1)) fun zv57 =>
            (jZ zv57).bind fun _ =>
            nv (jW J53 this 15 zv57) fun J59 =>
            some ((1 : Int), J59)) this zy11 zv22 zv27 1000000 (J32 this 14) 1 J32) fun k28h =>
      if zv27 = 60 then
        k28h J24
      else
        if zv27 = 61 then
          k28h J24
        else
          if zv27 = 62 then
            k28h J24
          else
            some ((0 : Int), J24)) this zp1 1000000 0 J

def H_X12_takesTest_L15 (x0 : Nat) (zx1 : Int) : Nat → Jm → Option (Int × Jm)
  | 0, _ => none
  | n6 + 1, J0 =>
  (H_X12_at x0 J0).bind fun zv9 =>
  if zv9 = 38 then
    nv (jW J0 x0 12 (wr ((J0 x0 12) + 1))) fun J12 =>
    (H_X12_takesCheck x0 zx1 J12).bind fun (zv15, J13) =>
    if zv15 = 0 then
      some ((0 : Int), J13)
    else
      H_X12_takesTest_L15 x0 zx1 n6 J13
  else
    some ((1 : Int), J0)
def H_X12_takesTest (this : Nat) (zp1 : Int) (J : Jm) : Option (Int × Jm) :=
  nv (jW J this 15 1) fun J1 =>
  (H_X12_takesCheck this zp1 J1).bind fun (zv4, J2) =>
  if zv4 = 0 then
    some ((0 : Int), J2)
  else
    H_X12_takesTest_L15 this zp1 1000000 J2

def H_X12_takesAct (this : Nat) (zp1 : Int) (J : Jm) : Option (Int × Jm) :=
  (H_X12_at this J).bind fun zv3 =>
  jp (fun (J5 : Jm) =>
    nv (jW J5 this 12 (wr ((J5 this 12) + 1))) fun J7 =>
    jp (fun (zx9 : Int) (zx10 : Int) (J11 : Jm) =>
      jp (fun (zx13 : Int) (J14 : Jm) =>
        if (J14 this 15) = 0 then
          some ((1 : Int), J14)
        else
          if (J14 this 16) < 0 then
            nv (jW J14 this 16 zp1) fun J19 =>
            nv (jW J19 this 17 zv3) fun J20 =>
            nv (jW J20 this 18 zx9) fun J21 =>
            nv (jW J21 this 19 zx10) fun J22 =>
            nv (jW J22 this 20 zx13) fun J23 =>
            some ((1 : Int), J23)
          else
            some ((1 : Int), J14)) fun k12h =>
      if zv3 = 117 then
        k12h 0 J11
      else
        (H_X12_takes this 0 3 J11).bind fun (zv28, J26) =>
        if zv28 = 0 then
          some ((0 : Int), J26)
        else
          k12h (J26 this 14) J26) fun k8h =>
    if zv3 = 103 then
      (H_X12_takes this 0 9 J7).bind fun (zv35, J33) =>
      if zv35 = 0 then
        some ((0 : Int), J33)
      else
        (H_X12_takes this 0 7 J33).bind fun (zv40, J38) =>
        if zv40 = 0 then
          some ((0 : Int), J38)
        else
          k8h (J33 this 14) (J38 this 14) J38
    else
      k8h 0 0 J7) fun k4h =>
  if zv3 = 115 then
    k4h J
  else
    if zv3 = 103 then
      k4h J
    else
      if zv3 = 117 then
        k4h J
      else
        some ((0 : Int), J)

def H_X12_goesOrder_L77 (k158h : Int → Jm → Option (Int × Jm)) (x0 : Nat) (zx2 : Int) : Nat → Int → Jm → Option (Int × Jm)
  | 0, _, _ => none
  | n15 + 1, zx3, J0 =>
  if (J0 x0 11) ≤ (J0 x0 12) then
    k158h zx3 J0
  else
    if zx3 = 6 then
      some ((0 : Int), J0)
    else
      (H_X12_takesTest x0 zx2 J0).bind fun (zv22, J20) =>
      if zv22 = 0 then
        some ((0 : Int), J20)
      else
        (H_X12_at x0 J20).bind fun zv26 =>
        if zv26 = 63 then
          nv (jW J20 x0 12 (wr ((J20 x0 12) + 1))) fun J29 =>
          (H_X12_takesAct x0 zx3 J29).bind fun (zv32, J30) =>
          if zv32 = 0 then
            some ((0 : Int), J30)
          else
            (H_X12_at x0 J30).bind fun zv36 =>
            if zv36 = 59 then
              nv (jW J30 x0 12 (wr ((J30 x0 12) + 1))) fun J39 =>
              H_X12_goesOrder_L77 k158h x0 zx2 n15 (wr (zx3 + 1)) J39
            else
              some ((0 : Int), J30)
        else
          some ((0 : Int), J20)
def H_X12_goesOrder (this : Nat) (zp1 : Int) (zp2 : Int) (J : Jm) : Option (Int × Jm) :=
  nv (α := Int) (if 0 ≤ zp1 then 0 else 1) fun zv1 =>
  (jZ zv1).bind fun _ =>
  nv (jW J this 13 zv1) fun J3 =>
  nv (α := Int) (if (J3 this 13) = 0 then (wr (7559 + (wr (80 * zp1)))) else 0) fun zv5 =>
  nv (jW J3 this 10 zv5) fun J7 =>
  jp (fun (zs10 : Int) (J11 : Jm) =>
    nv (jW J11 this 11 zs10) fun J12 =>
    nv (jW J12 this 12 0) fun J13 =>
    nv (jW J13 this 16 (-4)) fun J14 =>
    H_X12_goesOrder_L77 (fun (zy40 : Int) (J41 : Jm) =>
      if zy40 ≤ 0 then
        some ((0 : Int), J41)
      else
        some ((1 : Int), J41)) this zp2 1000000 0 J14) fun k9h =>
  if (J7 this 13) = 0 then
    (jL J7 (this + 1) 8369 (wr (8359 + zp1))).bind fun zv46 =>
    k9h zv46 J7
  else
    k9h (J7 this 9) J7

def H_X12_lacksText (this : Nat) (zp1 : Int) (J : Jm) : Option Int :=
  (H_X12_is this zp1 0 7).bind fun zv3 =>
  if zv3 = 0 then
    some ((-1) : Int)
  else
    (jL J (this + 9) 8 zp1).bind fun zv6 =>
    if zv6 = 0 then
      some ((-11) : Int)
    else
      (jL J (this + 9) 8 zp1).bind fun zv10 =>
      if zv10 = 2 then
        (jL J (this + 14) 8 zp1).bind fun zv14 =>
        if zv14 = 0 then
          some (0 : Int)
        else
          some ((-12) : Int)
      else
        some ((-12) : Int)

def H_X12_bring_L12 (x0 : Nat) (zx1 : Int) : Nat → Int → Jm → Option Jm
  | 0, _, _ => none
  | n5 + 1, zx2, J0 =>
  (jL J0 (x0 + 15) 8 zx1).bind fun zv7 =>
  if zv7 ≤ zx2 then
    some J0
  else
    (jL J0 (x0 + 16) 640 (wr ((wr (80 * zx1)) + zx2))).bind fun zv12 =>
    (jS J0 (x0 + 3) 80 zx2 zv12).bind fun J14 =>
    H_X12_bring_L12 x0 zx1 n5 (wr (zx2 + 1)) J14
def H_X12_bring (this : Nat) (zp1 : Int) (J : Jm) : Option Jm :=
  (jL J (this + 15) 8 zp1).bind fun zv2 =>
  nv (jW J this 9 zv2) fun J4 =>
  H_X12_bring_L12 this zp1 1000000 0 J4

def H_X12_fault (this : Nat) (zp1 : Int) (J : Jm) : Option (Int × Jm) :=
  (H_X12_lacksText this zp1 J).bind fun zv3 =>
  if zv3 = 0 then
    (H_X12_bring this zp1 J).bind fun J5 =>
    (H_X12_goesOrder this (-1) (-1) J5).bind fun (zv9, J7) =>
    if zv9 = 0 then
      some ((J7 this 12), J7)
    else
      some (((-4) : Int), J7)
  else
    (H_X12_lacksText this zp1 J).bind fun zv14 =>
    some (zv14, J)

def H_X12_order_L81 (x0 : Nat) (zx2 : Int) : Nat → Int → Jm → Option (Int × Jm)
  | 0, _, _ => none
  | n23 + 1, zx3, J0 =>
  if (J0 x0 9) ≤ zx3 then
    (jL J0 (x0 + 1) 8369 4).bind fun zv27 =>
    (jS J0 (x0 + 1) 8369 4 (wr (zv27 + 1))).bind fun J29 =>
    some (zx2, J29)
  else
    (jL J0 (x0 + 3) 80 zx3).bind fun zv32 =>
    (jS J0 (x0 + 1) 8369 (wr ((wr (7559 + (wr (80 * zx2)))) + zx3)) zv32).bind fun J34 =>
    H_X12_order_L81 x0 zx2 n23 (wr (zx3 + 1)) J34
def H_X12_order (this : Nat) (zp1 : Int) (J : Jm) : Option (Int × Jm) :=
  (H_X12_is this zp1 0 7).bind fun zv3 =>
  if zv3 = 0 then
    some (((-1) : Int), J)
  else
    (jL J (this + 1) 8369 4).bind fun zv6 =>
    if zv6 = 10 then
      some (((-2) : Int), J)
    else
      (H_X12_lacksText this zp1 J).bind fun zv11 =>
      if zv11 = 0 then
        (H_X12_bring this zp1 J).bind fun J13 =>
        (H_X12_goesOrder this (-1) (-1) J13).bind fun (zv17, J15) =>
        if zv17 = 0 then
          some ((wr ((-100) - (J15 this 12))), J15)
        else
          (jS J15 (this + 1) 8369 (wr (8359 + zv6)) (J15 this 9)).bind fun J21 =>
          H_X12_order_L81 this zv6 1000000 0 J21
      else
        (H_X12_lacksText this zp1 J).bind fun zv39 =>
        some (zv39, J)

def H_X12_letter (this : Nat) (zp1 : Int) (zp2 : Int) (J : Jm) : Option (Int × Jm) :=
  (H_X12_isGlider this zp1 J).bind fun zv3 =>
  if zv3 = 0 then
    some (((-1) : Int), J)
  else
    (jL J (this + 1) 8369 4).bind fun zv6 =>
    (H_X12_is this zp2 0 (wr (zv6 - 1))).bind fun zv10 =>
    if zv10 = 0 then
      some (((-1) : Int), J)
    else
      (jL J (this + 1) 8369 3).bind fun zv13 =>
      if zv13 = 60 then
        some (((-2) : Int), J)
      else
        (jS J (this + 1) 8369 (wr (3710 + zv13)) zp1).bind fun J17 =>
        (jS J17 (this + 1) 8369 (wr (3770 + zv13)) zp2).bind fun J20 =>
        (jL J20 (this + 1) 8369 1).bind fun zv24 =>
        (jS J20 (this + 1) 8369 (wr (3830 + zv13)) zv24).bind fun J26 =>
        (jS J26 (this + 1) 8369 (wr (3890 + zv13)) 0).bind fun J29 =>
        (jL J29 (this + 1) 8369 3).bind fun zv32 =>
        (jS J29 (this + 1) 8369 3 (wr (zv32 + 1))).bind fun J34 =>
        (jL J34 (this + 1) 8369 3).bind fun zv36 =>
        some (zv36, J34)

def H_X12_waiting_L14 (x0 : Nat) (zx1 : Int) (J : Jm) : Nat → Int → Int → Option Int
  | 0, _, _ => none
  | n5 + 1, zx2, zx3 =>
  (jL J (x0 + 1) 8369 3).bind fun zv7 =>
  if zv7 ≤ zx3 then
    some zx2
  else
    (jL J (x0 + 1) 8369 (wr (3710 + zx3))).bind fun zv11 =>
    if zv11 = zx1 then
      (jL J (x0 + 1) 8369 (wr (3890 + zx3))).bind fun zv15 =>
      nv (α := Int) (if zv15 = 0 then 1 else 0) fun zv17 =>
      H_X12_waiting_L14 x0 zx1 J n5 (wr (zx2 + zv17)) (wr (zx3 + 1))
    else
      H_X12_waiting_L14 x0 zx1 J n5 (wr (zx2 + 0)) (wr (zx3 + 1))
def H_X12_waiting (this : Nat) (zp1 : Int) (J : Jm) : Option Int :=
  (H_X12_isGlider this zp1 J).bind fun zv3 =>
  if zv3 = 0 then
    some ((-1) : Int)
  else
    H_X12_waiting_L14 this zp1 J 1000000 0 0

def H_X12_deaf (this : Nat) (zp1 : Int) (zp2 : Int) (J : Jm) : Option (Int × Jm) :=
  (H_X12_is this zp1 0 400).bind fun zv3 =>
  if zv3 = 0 then
    some (((-1) : Int), J)
  else
    (jL J (this + 1) 8369 (wr (3950 + zp1))).bind fun zv6 =>
    nv (α := Int) (if zp2 = 0 then 0 else 1) fun zv9 =>
    (jS J (this + 1) 8369 (wr (3950 + zp1)) zv9).bind fun J11 =>
    (jL J11 (this + 1) 8369 (wr (3950 + zp1))).bind fun zv14 =>
    if zv6 = zv14 then
      some ((0 : Int), J11)
    else
      some ((1 : Int), J11)

def H_X12_rule (this : Nat) (zp1 : Int) (J : Jm) : Option (Int × Jm) :=
  (H_X12_isGlider this zp1 J).bind fun zv3 =>
  if zv3 = 0 then
    some (((-1) : Int), J)
  else
    (H_X12_isUp this zp1 J).bind fun zv7 =>
    if zv7 = 0 then
      some (((-3) : Int), J)
    else
      (jL J (this + 1) 8369 (wr (2226 + zp1))).bind fun zv10 =>
      if 0 ≤ zv10 then
        (jL J (this + 1) 8369 (wr (2226 + zp1))).bind fun zv14 =>
        (H_X12_goesOrder this zv14 zp1 J).bind fun (zv18, J16) =>
        if zv18 = 0 then
          some (((-4) : Int), J16)
        else
          some ((J16 this 16), J16)
      else
        some (((-3) : Int), J)

def H_X12_hears_L63 (x0 : Nat) (zx1 : Int) : Nat → Int → Jm → Option Jm
  | 0, _, _ => none
  | n19 + 1, zx2, J0 =>
  (jL J0 (x0 + 1) 8369 3).bind fun zv21 =>
  if zv21 ≤ zx2 then
    some J0
  else
    (jL J0 (x0 + 1) 8369 (wr (3710 + zx2))).bind fun zv25 =>
    if zv25 = zx1 then
      (jL J0 (x0 + 1) 8369 (wr (3890 + zx2))).bind fun zv29 =>
      if zv29 = 1 then
        H_X12_hears_L63 x0 zx1 n19 (wr (zx2 + 1)) J0
      else
        (jL J0 (x0 + 1) 8369 (wr (3830 + zx2))).bind fun zv33 =>
        (jL J0 (x0 + 1) 8369 1).bind fun zv36 =>
        if zv33 < zv36 then
          (jS J0 (x0 + 1) 8369 (wr (3890 + zx2)) 1).bind fun J40 =>
          (jL J40 (x0 + 1) 8369 (wr (3770 + zx2))).bind fun zv44 =>
          (jS J40 (x0 + 1) 8369 (wr (2226 + zx1)) zv44).bind fun J46 =>
          H_X12_hears_L63 x0 zx1 n19 (wr (zx2 + 1)) J46
        else
          H_X12_hears_L63 x0 zx1 n19 (wr (zx2 + 1)) J0
    else
      H_X12_hears_L63 x0 zx1 n19 (wr (zx2 + 1)) J0
def H_X12_hears (this : Nat) (zp1 : Int) (J : Jm) : Option Jm :=
  (jL J (this + 1) 8369 1).bind fun zv3 =>
  (jS J (this + 1) 8369 (wr (2234 + zp1)) zv3).bind fun J5 =>
  (jL J5 (this + 1) 8369 1).bind fun zv9 =>
  (jL J5 (this + 1) 8369 (wr (2178 + zp1))).bind fun zv12 =>
  (jL J5 (this + 1) 8369 (wr (2186 + zp1))).bind fun zv15 =>
  (jS J5 (this + 1) 8369 (wr ((wr (4351 + (wr (401 * zp1)))) + zv9)) (wr ((wr (8 * zv12)) + zv15))).bind fun J17 =>
  H_X12_hears_L63 this zp1 1000000 0 J17

def H_X12_cut (this : Nat) (zp1 : Int) (zp2 : Int) : Option Int :=
  if zp1 ≤ zp2 then
    if (wr (-zp2)) ≤ zp1 then
      some zp1
    else
      some (wr (-zp2))
  else
    some zp2

def H_X12_acts (this : Nat) (zp1 : Int) (J : Jm) : Option (Int × Jm) :=
  (jL J (this + 1) 8369 (wr (2226 + zp1))).bind fun zv2 =>
  if zv2 < 0 then
    some ((0 : Int), J)
  else
    (jL J (this + 1) 8369 (wr (2226 + zp1))).bind fun zv6 =>
    (H_X12_goesOrder this zv6 zp1 J).bind fun (zv10, J8) =>
    if zv10 = 0 then
      some ((0 : Int), J8)
    else
      if (J8 this 16) < 0 then
        some ((0 : Int), J8)
      else
        if (J8 this 17) = 117 then
          some ((0 : Int), J8)
        else
          (H_X12_layerFor this zp1 (J8 this 20) J8).bind fun zv19 =>
          (jL J8 (this + 1) 8369 (wr (2194 + zp1))).bind fun zv21 =>
          (H_X12_cost this zp1 zv19 J8).bind fun zv25 =>
          if zv25 ≤ zv21 then
            jp (fun (zs29 : Int) (J30 : Jm) =>
              jp (fun (zs33 : Int) (J34 : Jm) =>
                (H_X12_dives this zp1 zv19 zs29 zs33 J34).bind fun (zv37, J35) =>
                some ((1 : Int), J35)) fun k32h =>
              if (J30 this 17) = 115 then
                k32h 0 J30
              else
                (jL J30 (this + 1) 8369 (wr (2186 + zp1))).bind fun zv42 =>
                (H_X12_goes this zp1 J30).bind fun zv46 =>
                (H_X12_abs this zs29).bind fun zv49 =>
                (H_X12_cut this (wr ((J30 this 19) - zv42)) (wr (zv46 - zv49))).bind fun zv52 =>
                k32h zv52 J30) fun k28h =>
            if (J8 this 17) = 115 then
              k28h 0 J8
            else
              (jL J8 (this + 1) 8369 (wr (2178 + zp1))).bind fun zv57 =>
              (H_X12_goes this zp1 J8).bind fun zv61 =>
              (H_X12_cut this (wr ((J8 this 18) - zv57)) zv61).bind fun zv64 =>
              k28h zv64 J8
          else
            some ((0 : Int), J8)

def H_X12_goTime_L4 (k51h : Jm → Option (Int × Jm)) (x0 : Nat) (zx1 : Int) : Nat → Int → Jm → Option (Int × Jm)
  | 0, _, _ => none
  | n1 + 1, zx2, J0 =>
  (jL J0 (x0 + 1) 8369 0).bind fun zv3 =>
  if zv3 ≤ zx2 then
    k51h J0
  else
    (H_X12_isUp x0 zx2 J0).bind fun zv8 =>
    if zv8 = 0 then
      H_X12_goTime_L4 k51h x0 zx1 n1 (wr (zx2 + 1)) J0
    else
      (jL J0 (x0 + 1) 8369 1).bind fun zv12 =>
      (jL J0 (x0 + 1) 8369 (wr (3950 + zv12))).bind fun zv14 =>
      if zv14 = 0 then
        (H_X12_hears x0 zx2 J0).bind fun J17 =>
        H_X12_goTime_L4 k51h x0 zx1 n1 (wr (zx2 + 1)) J17
      else
        H_X12_goTime_L4 k51h x0 zx1 n1 (wr (zx2 + 1)) J0
def H_X12_goTime_L53 (k93h : Int → Jm → Option (Int × Jm)) (x0 : Nat) : Nat → Int → Int → Jm → Option (Int × Jm)
  | 0, _, _, _ => none
  | n20 + 1, zx1, zx2, J0 =>
  (jL J0 (x0 + 1) 8369 0).bind fun zv22 =>
  if zv22 ≤ zx2 then
    k93h zx1 J0
  else
    (H_X12_isUp x0 zx2 J0).bind fun zv27 =>
    if zv27 = 0 then
      H_X12_goTime_L53 k93h x0 n20 (wr (zx1 + 0)) (wr (zx2 + 1)) J0
    else
      (H_X12_acts x0 zx2 J0).bind fun (zv31, J29) =>
      nv (α := Int) (if zv31 = 0 then 0 else 1) fun zv32 =>
      H_X12_goTime_L53 k93h x0 n20 (wr (zx1 + zv32)) (wr (zx2 + 1)) J29
def H_X12_goTime_L95 (x0 : Nat) (zx1 : Int) : Nat → Int → Jm → Option (Int × Jm)
  | 0, _, _ => none
  | n37 + 1, zx2, J0 =>
  if 80 ≤ zx2 then
    (jL J0 (x0 + 1) 8369 1).bind fun zv40 =>
    (jS J0 (x0 + 1) 8369 1 (wr (zv40 + 1))).bind fun J42 =>
    some (zx1, J42)
  else
    (jL J0 (x0 + 1) 8369 (wr (10 + zx2))).bind fun zv44 =>
    if zv44 ≤ 0 then
      H_X12_goTime_L95 x0 zx1 n37 (wr (zx2 + 1)) J0
    else
      (jL J0 (x0 + 1) 8369 (wr (170 + zx2))).bind fun zv48 =>
      if 99 ≤ zv48 then
        H_X12_goTime_L95 x0 zx1 n37 (wr (zx2 + 1)) J0
      else
        (jL J0 (x0 + 1) 8369 (wr (170 + zx2))).bind fun zv52 =>
        (jS J0 (x0 + 1) 8369 (wr (170 + zx2)) (wr (zv52 + 1))).bind fun J54 =>
        H_X12_goTime_L95 x0 zx1 n37 (wr (zx2 + 1)) J54
def H_X12_goTime (this : Nat) (J : Jm) : Option (Int × Jm) :=
  H_X12_goTime_L4 (fun (J19 : Jm) =>
    H_X12_goTime_L53 (fun (zy35 : Int) (J36 : Jm) =>
      H_X12_goTime_L95 this zy35 1000000 0 J36) this 1000000 0 0 J19) this 0 1000000 0 J

def H_X12_times_L34 (x0 : Nat) (zx1 : Int) : Nat → Int → Int → Jm → Option (Int × Jm)
  | 0, _, _, _ => none
  | n9 + 1, zx2, zx3, J0 =>
  if zx1 ≤ zx3 then
    some (zx2, J0)
  else
    (H_X12_goTime x0 J0).bind fun (zv13, J11) =>
    H_X12_times_L34 x0 zx1 n9 (wr (zx2 + zv13)) (wr (zx3 + 1)) J11
def H_X12_times (this : Nat) (zp1 : Int) (J : Jm) : Option (Int × Jm) :=
  (H_X12_is this zp1 1 40).bind fun zv3 =>
  if zv3 = 0 then
    some (((-1) : Int), J)
  else
    (jL J (this + 1) 8369 1).bind fun zv6 =>
    if (wr (zv6 + zp1)) ≤ 400 then
      H_X12_times_L34 this zp1 1000000 0 0 J
    else
      some (((-2) : Int), J)

def H_X12_known_L24 (x0 : Nat) (zx1 : Int) (J : Jm) : Nat → Int → Option Int
  | 0, _ => none
  | n9 + 1, zx3 =>
  if zx3 < 0 then
    some ((-4) : Int)
  else
    (jL J (x0 + 1) 8369 (wr ((wr (4351 + (wr (401 * zx1)))) + zx3))).bind fun zv12 =>
    if zv12 < 0 then
      H_X12_known_L24 x0 zx1 J n9 (wr (zx3 + (-1)))
    else
      (jL J (x0 + 1) 8369 (wr ((wr (4351 + (wr (401 * zx1)))) + zx3))).bind fun zv16 =>
      some zv16
def H_X12_known (this : Nat) (zp1 : Int) (zp2 : Int) (J : Jm) : Option Int :=
  (H_X12_isGlider this zp1 J).bind fun zv3 =>
  if zv3 = 0 then
    some ((-1) : Int)
  else
    (H_X12_is this zp2 0 400).bind fun zv7 =>
    if zv7 = 0 then
      some ((-1) : Int)
    else
      H_X12_known_L24 this zp1 J 1000000 zp2

def H_X12_clean (this : Nat) (zp1 : Int) (zp2 : Int) (J : Jm) : Option (Int × Jm) :=
  (H_X12_isGlider this zp1 J).bind fun zv3 =>
  if zv3 = 0 then
    some (((-1) : Int), J)
  else
    (H_X12_is this zp2 (-2000) 2000).bind fun zv7 =>
    if zv7 = 0 then
      some (((-1) : Int), J)
    else
      (jL J (this + 1) 8369 5).bind fun zv10 =>
      if zv10 = 60 then
        some (((-2) : Int), J)
      else
        (jS J (this + 1) 8369 (wr (3470 + zv10)) zp1).bind fun J14 =>
        (jS J14 (this + 1) 8369 (wr (3530 + zv10)) zp2).bind fun J17 =>
        (jL J17 (this + 1) 8369 (wr (2218 + zp1))).bind fun zv21 =>
        (jS J17 (this + 1) 8369 (wr (3590 + zv10)) zv21).bind fun J23 =>
        (jL J23 (this + 1) 8369 2).bind fun zv27 =>
        (jS J23 (this + 1) 8369 (wr (3650 + zv10)) zv27).bind fun J29 =>
        (jS J29 (this + 1) 8369 (wr (2218 + zp1)) 0).bind fun J32 =>
        (jL J32 (this + 1) 8369 5).bind fun zv35 =>
        (jS J32 (this + 1) 8369 5 (wr (zv35 + 1))).bind fun J37 =>
        (jL J37 (this + 1) 8369 5).bind fun zv39 =>
        some (zv39, J37)

def H_X12_isReading (this : Nat) (zp1 : Int) (J : Jm) : Option Int :=
  (jL J (this + 1) 8369 2).bind fun zv2 =>
  (H_X12_is this zp1 0 (wr (zv2 - 1))).bind fun zv6 =>
  (jZ zv6).bind fun _ =>
  some zv6

def H_X12_reading (this : Nat) (zp1 : Int) (zp2 : Int) (J : Jm) : Option Int :=
  (H_X12_isReading this zp1 J).bind fun zv3 =>
  if zv3 = 0 then
    some ((-1) : Int)
  else
    (H_X12_is this zp2 0 4).bind fun zv7 =>
    if zv7 = 0 then
      some ((-1) : Int)
    else
      if zp2 = 0 then
        (jL J (this + 1) 8369 (wr (2270 + zp1))).bind fun zv26 =>
        some zv26
      else
        if zp2 = 1 then
          (jL J (this + 1) 8369 (wr (2470 + zp1))).bind fun zv23 =>
          some zv23
        else
          if zp2 = 2 then
            (jL J (this + 1) 8369 (wr (2670 + zp1))).bind fun zv20 =>
            some zv20
          else
            if zp2 = 3 then
              (jL J (this + 1) 8369 (wr (2870 + zp1))).bind fun zv17 =>
              some zv17
            else
              (jL J (this + 1) 8369 (wr (3070 + zp1))).bind fun zv14 =>
              some zv14

def H_X12_rightOf_L2 (k101h : Option Int) (k49h : Int → Option Int) (x0 : Nat) (zx1 : Int) (J : Jm) : Nat → Int → Option Int
  | 0, _ => none
  | n1 + 1, zx2 =>
  (jL J (x0 + 1) 8369 5).bind fun zv3 =>
  if zv3 ≤ zx2 then
    k101h
  else
    (jL J (x0 + 1) 8369 (wr (3470 + zx2))).bind fun zv7 =>
    (jL J (x0 + 1) 8369 (wr (2270 + zx1))).bind fun zv10 =>
    if zv7 = zv10 then
      (jL J (x0 + 1) 8369 (wr (3650 + zx2))).bind fun zv14 =>
      if zv14 ≤ zx1 then
        H_X12_rightOf_L2 k101h k49h x0 zx1 J n1 (wr (zx2 + 1))
      else
        k49h zx2
    else
      H_X12_rightOf_L2 k101h k49h x0 zx1 J n1 (wr (zx2 + 1))
def H_X12_rightOf (this : Nat) (zp1 : Int) (J : Jm) : Option Int :=
  H_X12_rightOf_L2 ((jL J (this + 1) 8369 (wr (3270 + zp1))).bind fun zv19 =>
  (jL J (this + 1) 8369 (wr (3070 + zp1))).bind fun zv22 =>
  some (wr (zv19 - (wr (3 * zv22))))) (fun (zy24 : Int) =>
    (jL J (this + 1) 8369 (wr (3270 + zp1))).bind fun zv27 =>
    (jL J (this + 1) 8369 (wr (3530 + zy24))).bind fun zv30 =>
    (jL J (this + 1) 8369 (wr (3070 + zp1))).bind fun zv33 =>
    (jL J (this + 1) 8369 (wr (3590 + zy24))).bind fun zv36 =>
    (jD (wr (zv30 * (wr (zv33 + 1)))) zv36).bind fun zv38 =>
    some (wr (zv27 - zv38))) this zp1 J 1000000 0

def H_X12_read (this : Nat) (zp1 : Int) (zp2 : Int) (J : Jm) : Option (Int × Jm) :=
  (H_X12_isReading this zp1 J).bind fun zv3 =>
  nv (α := Int) (if zv3 = 0 then 1 else 0) fun zv4 =>
  nv (jW J this 0 zv4) fun J6 =>
  if (J6 this 0) ≤ 0 then
    if zp2 = 0 then
      (jL J6 (this + 1) 8369 (wr (3270 + zp1))).bind fun zv11 =>
      some (zv11, J6)
    else
      (H_X12_rightOf this zp1 J6).bind fun zv15 =>
      some (zv15, J6)
  else
    some ((0 : Int), J6)

def H_X12_endBy (this : Nat) (zp1 : Int) (zp2 : Int) (zp3 : Int) (zp4 : Int) (J : Jm) : Option Jm :=
  (jL J (this + 1) 8369 (wr (2178 + zp1))).bind fun zv2 =>
  nv (jW J this 4 zv2) fun J4 =>
  (jL J4 (this + 1) 8369 (wr (2186 + zp1))).bind fun zv6 =>
  nv (jW J4 this 5 zv6) fun J8 =>
  (H_X12_sink this zp2 1 J8).bind fun J9 =>
  (H_X12_steps this zp3 zp4 J9).bind fun J11 =>
  some J11

def H_X12_findEnds_L72 (k171h : Jm → Option Jm) (x0 : Nat) (zx1 : Int) (zx2 : Int) : Nat → Int → Jm → Option Jm
  | 0, _, _ => none
  | n27 + 1, zx3, J0 =>
  if 81 ≤ zx3 then
    k171h J0
  else
    (jS J0 (x0 + 5) 243 (wr ((wr (81 * (J0 x0 26))) + zx3)) (-1)).bind fun J31 =>
    (jD zx3 9).bind fun zv33 =>
    (jM zx3 9).bind fun zv34 =>
    (H_X12_isHeading x0 zx2 (wr (zv33 - 4)) (wr (zv34 - 4)) J31).bind fun zv37 =>
    if zv37 = 0 then
      H_X12_findEnds_L72 k171h x0 zx1 zx2 n27 (wr (zx3 + 1)) J31
    else
      (H_X12_layerFor x0 zx2 zx1 J31).bind fun zv41 =>
      (jD zx3 9).bind fun zv42 =>
      (jM zx3 9).bind fun zv43 =>
      (H_X12_endBy x0 zx2 zv41 (wr (zv42 - 4)) (wr (zv43 - 4)) J31).bind fun J44 =>
      (jS J44 (x0 + 5) 243 (wr ((wr (81 * (J44 x0 26))) + zx3)) (wr ((wr (8 * (J44 x0 4))) + (J44 x0 5)))).bind fun J50 =>
      H_X12_findEnds_L72 k171h x0 zx1 zx2 n27 (wr (zx3 + 1)) J50
def H_X12_findEnds_L7 (x0 : Nat) (zx1 : Int) : Nat → Int → Jm → Option Jm
  | 0, _, _ => none
  | n2 + 1, zx2, J0 =>
  (jL J0 (x0 + 1) 8369 0).bind fun zv4 =>
  if zv4 ≤ zx2 then
    some J0
  else
    if 3 ≤ (J0 x0 26) then
      some J0
    else
      (H_X12_isUp x0 zx2 J0).bind fun zv11 =>
      if zv11 = 0 then
        H_X12_findEnds_L7 x0 zx1 n2 (wr (zx2 + 1)) J0
      else
        (jL J0 (x0 + 1) 8369 (wr (2194 + zx2))).bind fun zv14 =>
        (H_X12_layerFor x0 zx2 zx1 J0).bind fun zv18 =>
        (H_X12_cost x0 zx2 zv18 J0).bind fun zv21 =>
        if zv21 ≤ zv14 then
          (jS J0 (x0 + 4) 3 (J0 x0 26) zx2).bind fun J25 =>
          H_X12_findEnds_L72 (fun (J52 : Jm) =>
            nv (jW J52 x0 26 (wr ((J52 x0 26) + 1))) fun J54 =>
            H_X12_findEnds_L7 x0 zx1 n2 (wr (zx2 + 1)) J54) x0 zx1 zx2 1000000 0 J25
        else
          H_X12_findEnds_L7 x0 zx1 n2 (wr (zx2 + 1)) J0
def H_X12_findEnds (this : Nat) (zp1 : Int) (J : Jm) : Option Jm :=
  nv (jW J this 26 0) fun J1 =>
  H_X12_findEnds_L7 this zp1 1000000 0 J1

def H_X12_raise (this : Nat) (zp1 : Int) (zp2 : Int) (J : Jm) : Option (Int × Jm) :=
  (jL J (this + 8) 80 zp1).bind fun zv2 =>
  if zv2 < zp2 then
    (jL J (this + 8) 80 zp1).bind fun zv6 =>
    (jS J (this + 8) 80 zp1 zp2).bind fun J9 =>
    some ((wr (zp2 - zv6)), J9)
  else
    some ((0 : Int), J)

def H_X12_gainAt_L18 (x0 : Nat) (zx1 : Int) : Nat → Int → Int → Jm → Option (Int × Jm)
  | 0, _, _, _ => none
  | n7 + 1, zx2, zx3, J0 =>
  if 4 ≤ zx3 then
    some (zx2, J0)
  else
    (H_X12_besideOf x0 zx1 zx3).bind fun zv11 =>
    if zv11 < 0 then
      H_X12_gainAt_L18 x0 zx1 n7 zx2 (wr (zx3 + 1)) J0
    else
      (H_X12_besideOf x0 zx1 zx3).bind fun zv15 =>
      (H_X12_besideOf x0 zx1 zx3).bind fun zv19 =>
      (jL J0 (x0 + 1) 8369 (wr (170 + zv19))).bind fun zv20 =>
      (jD (wr (zv20 + 1)) 2).bind fun zv22 =>
      (H_X12_raise x0 zv15 zv22 J0).bind fun (zv25, J23) =>
      H_X12_gainAt_L18 x0 zx1 n7 (wr (zx2 + zv25)) (wr (zx3 + 1)) J23
def H_X12_gainAt (this : Nat) (zp1 : Int) (J : Jm) : Option (Int × Jm) :=
  (jL J (this + 1) 8369 (wr (170 + zp1))).bind fun zv2 =>
  (H_X12_raise this zp1 zv2 J).bind fun (zv6, J4) =>
  H_X12_gainAt_L18 this zp1 1000000 zv6 0 J4

def H_X12_clearAt_L9 (x0 : Nat) (zx1 : Int) : Nat → Int → Jm → Option Jm
  | 0, _, _ => none
  | n4 + 1, zx2, J0 =>
  if 4 ≤ zx2 then
    some J0
  else
    (H_X12_besideOf x0 zx1 zx2).bind fun zv8 =>
    if zv8 < 0 then
      H_X12_clearAt_L9 x0 zx1 n4 (wr (zx2 + 1)) J0
    else
      (H_X12_besideOf x0 zx1 zx2).bind fun zv13 =>
      (jS J0 (x0 + 8) 80 zv13 0).bind fun J14 =>
      H_X12_clearAt_L9 x0 zx1 n4 (wr (zx2 + 1)) J14
def H_X12_clearAt (this : Nat) (zp1 : Int) (J : Jm) : Option Jm :=
  (jS J (this + 8) 80 zp1 0).bind fun J2 =>
  H_X12_clearAt_L9 this zp1 1000000 0 J2

def H_X12_gainOf_L4 (k41h : Int → Jm → Option (Int × Jm)) (x0 : Nat) : Nat → Int → Int → Jm → Option (Int × Jm)
  | 0, _, _, _ => none
  | n1 + 1, zx1, zx2, J0 =>
  if (J0 x0 26) ≤ zx2 then
    k41h zx1 J0
  else
    (jL J0 (x0 + 6) 3 zx2).bind fun zv6 =>
    (jL J0 (x0 + 5) 243 (wr ((wr (81 * zx2)) + zv6))).bind fun zv8 =>
    (H_X12_gainAt x0 zv8 J0).bind fun (zv12, J10) =>
    H_X12_gainOf_L4 k41h x0 n1 (wr (zx1 + zv12)) (wr (zx2 + 1)) J10
def H_X12_gainOf_L43 (x0 : Nat) (zx1 : Int) : Nat → Int → Jm → Option (Int × Jm)
  | 0, _, _ => none
  | n15 + 1, zx2, J0 =>
  if (J0 x0 26) ≤ zx2 then
    some (zx1, J0)
  else
    (jL J0 (x0 + 6) 3 zx2).bind fun zv20 =>
    (jL J0 (x0 + 5) 243 (wr ((wr (81 * zx2)) + zv20))).bind fun zv22 =>
    (H_X12_clearAt x0 zv22 J0).bind fun J24 =>
    H_X12_gainOf_L43 x0 zx1 n15 (wr (zx2 + 1)) J24
def H_X12_gainOf (this : Nat) (J : Jm) : Option (Int × Jm) :=
  H_X12_gainOf_L4 (fun (zy13 : Int) (J14 : Jm) =>
    H_X12_gainOf_L43 this zy13 1000000 0 J14) this 1000000 0 0 J

def H_X12_isApart_L27 (x0 : Nat) (zx1 : Int) (J : Jm) : Nat → Int → Int → Option Int
  | 0, _, _ => none
  | n9 + 1, zx2, zx3 =>
  if zx1 ≤ zx3 then
    (jZ zx2).bind fun _ =>
    some zx2
  else
    if zx2 = 0 then
      H_X12_isApart_L27 x0 zx1 J n9 0 (wr (zx3 + 1))
    else
      (jL J (x0 + 6) 3 zx3).bind fun zv14 =>
      (jL J (x0 + 5) 243 (wr ((wr (81 * zx3)) + zv14))).bind fun zv16 =>
      (jL J (x0 + 6) 3 zx1).bind fun zv20 =>
      (jL J (x0 + 5) 243 (wr ((wr (81 * zx1)) + zv20))).bind fun zv22 =>
      nv (α := Int) (if zv16 = zv22 then 0 else 1) fun zv24 =>
      H_X12_isApart_L27 x0 zx1 J n9 zv24 (wr (zx3 + 1))
def H_X12_isApart (this : Nat) (zp1 : Int) (J : Jm) : Option Int :=
  (jL J (this + 6) 3 zp1).bind fun zv3 =>
  (jL J (this + 5) 243 (wr ((wr (81 * zp1)) + zv3))).bind fun zv5 =>
  nv (α := Int) (if zv5 < 0 then 0 else 1) fun zv7 =>
  H_X12_isApart_L27 this zp1 J 1000000 zv7 0

def H_X12_findPlan_L122 (k151h : Jm → Option (Int × Jm)) (x0 : Nat) (zx2 : Int) : Nat → Int → Jm → Option (Int × Jm)
  | 0, _, _ => none
  | n31 + 1, zx4, J0 =>
  if (J0 x0 26) ≤ zx4 then
    k151h J0
  else
    (jL J0 (x0 + 6) 3 zx4).bind fun zv36 =>
    (jS J0 (x0 + 7) 3 zx4 zv36).bind fun J38 =>
    H_X12_findPlan_L122 k151h x0 zx2 n31 (wr (zx4 + 1)) J38
def H_X12_findPlan_L33 (k154h : Jm → Option (Int × Jm)) (x0 : Nat) : Nat → Int → Jm → Option (Int × Jm)
  | 0, _, _ => none
  | n9 + 1, zx2, J0 =>
  if zx2 < 0 then
    k154h J0
  else
    (jL J0 (x0 + 6) 3 zx2).bind fun zv12 =>
    (jS J0 (x0 + 6) 3 zx2 (wr (zv12 + 1))).bind fun J14 =>
    (jL J14 (x0 + 6) 3 zx2).bind fun zv16 =>
    if zv16 ≤ 80 then
      (H_X12_isApart x0 zx2 J14).bind fun zv21 =>
      if zv21 = 0 then
        H_X12_findPlan_L33 k154h x0 n9 zx2 J14
      else
        if (wr ((J14 x0 26) - 1)) ≤ zx2 then
          (H_X12_gainOf x0 J14).bind fun (zv27, J25) =>
          if (J25 x0 27) < zv27 then
            nv (jW J25 x0 27 zv27) fun J30 =>
            H_X12_findPlan_L122 (fun (J40 : Jm) =>
              H_X12_findPlan_L33 k154h x0 n9 zx2 J40) x0 zx2 1000000 0 J30
          else
            H_X12_findPlan_L33 k154h x0 n9 zx2 J25
        else
          (jS J14 (x0 + 6) 3 (wr (zx2 + 1)) (-1)).bind fun J42 =>
          H_X12_findPlan_L33 k154h x0 n9 (wr (zx2 + 1)) J42
    else
      H_X12_findPlan_L33 k154h x0 n9 (wr (zx2 + (-1))) J14
def H_X12_findPlan (this : Nat) (zp1 : Int) (J : Jm) : Option (Int × Jm) :=
  (H_X12_findEnds this zp1 J).bind fun J1 =>
  nv (jW J1 this 27 (-1)) fun J3 =>
  if (J3 this 26) = 0 then
    nv (jW J3 this 27 0) fun J47 =>
    some ((1 : Int), J47)
  else
    (jS J3 (this + 6) 3 0 (-1)).bind fun J7 =>
    H_X12_findPlan_L33 (fun (J44 : Jm) =>
      if (J44 this 27) < 0 then
        some ((0 : Int), J44)
      else
        some ((1 : Int), J44)) this 1000000 0 J7

def H_X12_plan (this : Nat) (zp1 : Int) (J : Jm) : Option (Int × Jm) :=
  (H_X12_is this zp1 0 3).bind fun zv3 =>
  if zv3 = 0 then
    some (((-1) : Int), J)
  else
    (H_X12_findPlan this zp1 J).bind fun (zv7, J5) =>
    if zv7 = 0 then
      some (((-4) : Int), J5)
    else
      some ((J5 this 27), J5)

def H_X12_planned_L33 (k51h : Int → Jm → Option (Int × Jm)) (x0 : Nat) (zx2 : Int) : Nat → Int → Jm → Option (Int × Jm)
  | 0, _, _ => none
  | n13 + 1, zx3, J0 =>
  if (J0 x0 26) ≤ zx3 then
    some (((-4) : Int), J0)
  else
    (jL J0 (x0 + 4) 3 zx3).bind fun zv17 =>
    if zv17 = zx2 then
      k51h zx3 J0
    else
      H_X12_planned_L33 k51h x0 zx2 n13 (wr (zx3 + 1)) J0
def H_X12_planned (this : Nat) (zp1 : Int) (zp2 : Int) (J : Jm) : Option (Int × Jm) :=
  (H_X12_is this zp1 0 3).bind fun zv3 =>
  if zv3 = 0 then
    some (((-1) : Int), J)
  else
    (H_X12_isGlider this zp2 J).bind fun zv7 =>
    if zv7 = 0 then
      some (((-1) : Int), J)
    else
      (H_X12_findPlan this zp1 J).bind fun (zv11, J9) =>
      if zv11 = 0 then
        some (((-4) : Int), J9)
      else
        H_X12_planned_L33 (fun (zy20 : Int) (J21 : Jm) =>
          (jL J21 (this + 7) 3 zy20).bind fun zv23 =>
          (jD zv23 9).bind fun zv25 =>
          (jL J21 (this + 7) 3 zy20).bind fun zv27 =>
          (jM zv27 9).bind fun zv29 =>
          some ((wr ((wr ((wr (20 * (wr (zv25 + 6)))) + zv29)) + 6)), J21)) this zp2 1000000 0 J9

def H_X12_ends (this : Nat) (zp1 : Int) (zp2 : Int) (zp3 : Int) (zp4 : Int) (J : Jm) : Option (Int × Jm) :=
  (H_X12_isGlider this zp1 J).bind fun zv3 =>
  if zv3 = 0 then
    some (((-1) : Int), J)
  else
    (H_X12_sinks this zp1 J).bind fun zv7 =>
    (H_X12_is this zp2 0 zv7).bind fun zv10 =>
    if zv10 = 0 then
      some (((-1) : Int), J)
    else
      (H_X12_isHeading this zp1 zp3 zp4 J).bind fun zv14 =>
      if zv14 = 0 then
        some (((-1) : Int), J)
      else
        (H_X12_isUp this zp1 J).bind fun zv18 =>
        if zv18 = 0 then
          some (((-3) : Int), J)
        else
          (H_X12_endBy this zp1 zp2 zp3 zp4 J).bind fun J20 =>
          some ((wr ((wr (8 * (J20 this 4))) + (J20 this 5))), J20)

def H_X12_comesTo_L5 (x0 : Nat) (zx1 : Int) (zx2 : Int) (J : Jm) : Nat → Int → Int → Option Int
  | 0, _, _ => none
  | n1 + 1, zx3, zx4 =>
  if 4 ≤ zx4 then
    some zx3
  else
    (H_X12_besideOf x0 zx1 zx4).bind fun zv5 =>
    if zv5 < 0 then
      H_X12_comesTo_L5 x0 zx1 zx2 J n1 zx3 (wr (zx4 + 1))
    else
      (jL J (x0 + 1) 8369 (wr (10 + zv5))).bind fun zv8 =>
      if zx2 < zv8 then
        (jM zx4 2).bind fun zv11 =>
        jp (fun (zs13 : Int) =>
          nv (α := Int) (if 2 ≤ zx4 then zs13 else (wr (-zs13))) fun zv15 =>
          nv (α := Int) (if zv15 ≤ 0 then 0 else zv15) fun zv17 =>
          H_X12_comesTo_L5 x0 zx1 zx2 J n1 (wr (zx3 + zv17)) (wr (zx4 + 1))) fun k12h =>
        if zv11 = 0 then
          (jL J (x0 + 1) 8369 (wr ((wr (890 + (wr (4 * zv5)))) + zx2))).bind fun zv27 =>
          k12h zv27
        else
          (jL J (x0 + 1) 8369 (wr ((wr (1210 + (wr (4 * zv5)))) + zx2))).bind fun zv24 =>
          k12h zv24
      else
        H_X12_comesTo_L5 x0 zx1 zx2 J n1 zx3 (wr (zx4 + 1))
def H_X12_comesTo (this : Nat) (zp1 : Int) (zp2 : Int) (J : Jm) : Option Int :=
  H_X12_comesTo_L5 this zp1 zp2 J 1000000 0 0

def H_X12_whole_L16 (x0 : Nat) (zx1 : Int) (J : Jm) : Nat → Int → Int → Option Int
  | 0, _, _ => none
  | n5 + 1, zx2, zx3 =>
  if 80 ≤ zx3 then
    some zx2
  else
    (jL J (x0 + 1) 8369 (wr (10 + zx3))).bind fun zv8 =>
    if zv8 ≤ zx1 then
      H_X12_whole_L16 x0 zx1 J n5 zx2 (wr (zx3 + 1))
    else
      (jL J (x0 + 1) 8369 (wr ((wr (890 + (wr (4 * zx3)))) + zx1))).bind fun zv12 =>
      (H_X12_abs x0 zv12).bind fun zv16 =>
      (jL J (x0 + 1) 8369 (wr ((wr (1210 + (wr (4 * zx3)))) + zx1))).bind fun zv18 =>
      (H_X12_abs x0 zv18).bind fun zv22 =>
      (H_X12_comesTo x0 zx3 zx1 J).bind fun zv25 =>
      if (wr (zv16 + zv22)) = zv25 then
        H_X12_whole_L16 x0 zx1 J n5 (wr (zx2 + 1)) (wr (zx3 + 1))
      else
        H_X12_whole_L16 x0 zx1 J n5 zx2 (wr (zx3 + 1))
def H_X12_whole (this : Nat) (zp1 : Int) (J : Jm) : Option Int :=
  (H_X12_is this zp1 0 3).bind fun zv3 =>
  if zv3 = 0 then
    some ((-1) : Int)
  else
    H_X12_whole_L16 this zp1 J 1000000 0 0

def H_X12_ship (this : Nat) (zp1 : Int) (zp2 : Int) (J : Jm) : Option (Int × Jm) :=
  (H_X12_isCell this zp1 zp2).bind fun zv3 =>
  if zv3 = 0 then
    some (((-1) : Int), J)
  else
    (H_X12_isWater this zp1 zp2 J).bind fun zv7 =>
    if zv7 = 0 then
      some (((-3) : Int), J)
    else
      (jL J (this + 1) 8369 6).bind fun zv10 =>
      (jS J (this + 1) 8369 6 (wr ((wr (8 * zp1)) + zp2))).bind fun J13 =>
      some (zv10, J13)

def H_X12_leftOf (this : Nat) (zp1 : Int) (J : Jm) : Option Int :=
  (jL J (this + 1) 8369 (wr (2194 + zp1))).bind fun zv2 =>
  (H_X12_cost this zp1 1 J).bind fun zv6 =>
  (jD zv2 zv6).bind fun zv7 =>
  some zv7

def H_X12_left (this : Nat) (zp1 : Int) (J : Jm) : Option Int :=
  (H_X12_isGlider this zp1 J).bind fun zv3 =>
  if zv3 = 0 then
    some ((-1) : Int)
  else
    (H_X12_isUp this zp1 J).bind fun zv7 =>
    if zv7 = 0 then
      some ((-3) : Int)
    else
      (H_X12_leftOf this zp1 J).bind fun zv11 =>
      some zv11

def H_X12_offShip (this : Nat) (zp1 : Int) (J : Jm) : Option Int :=
  (jL J (this + 1) 8369 (wr (2178 + zp1))).bind fun zv2 =>
  (jL J (this + 1) 8369 6).bind fun zv5 =>
  (jD zv5 8).bind fun zv7 =>
  (H_X12_abs this (wr (zv2 - zv7))).bind fun zv10 =>
  (jL J (this + 1) 8369 (wr (2186 + zp1))).bind fun zv12 =>
  (jL J (this + 1) 8369 6).bind fun zv15 =>
  (jM zv15 8).bind fun zv17 =>
  (H_X12_abs this (wr (zv12 - zv17))).bind fun zv20 =>
  some (wr (zv10 + zv20))

def H_X12_next_L5 (x0 : Nat) (J : Jm) : Nat → Int → Int → Option Int
  | 0, _, _ => none
  | n1 + 1, zx1, zx2 =>
  (jL J (x0 + 1) 8369 0).bind fun zv3 =>
  if zv3 ≤ zx2 then
    some zx1
  else
    (H_X12_isUp x0 zx2 J).bind fun zv8 =>
    if zv8 = 0 then
      H_X12_next_L5 x0 J n1 zx1 (wr (zx2 + 1))
    else
      if zx1 < 0 then
        H_X12_next_L5 x0 J n1 zx2 (wr (zx2 + 1))
      else
        (H_X12_leftOf x0 zx2 J).bind fun zv13 =>
        (H_X12_leftOf x0 zx1 J).bind fun zv16 =>
        if zv13 < zv16 then
          H_X12_next_L5 x0 J n1 zx2 (wr (zx2 + 1))
        else
          (H_X12_leftOf x0 zx2 J).bind fun zv20 =>
          (H_X12_leftOf x0 zx1 J).bind fun zv23 =>
          if zv20 = zv23 then
            (H_X12_offShip x0 zx2 J).bind fun zv27 =>
            (H_X12_offShip x0 zx1 J).bind fun zv30 =>
            if zv30 ≤ zv27 then
              H_X12_next_L5 x0 J n1 zx1 (wr (zx2 + 1))
            else
              H_X12_next_L5 x0 J n1 zx2 (wr (zx2 + 1))
          else
            H_X12_next_L5 x0 J n1 zx1 (wr (zx2 + 1))
def H_X12_next (this : Nat) (J : Jm) : Option Int :=
  H_X12_next_L5 this J 1000000 (-4) 0

def H_X12_fetch (this : Nat) (zp1 : Int) (J : Jm) : Option (Int × Jm) :=
  (H_X12_isGlider this zp1 J).bind fun zv3 =>
  if zv3 = 0 then
    some (((-1) : Int), J)
  else
    (H_X12_isUp this zp1 J).bind fun zv7 =>
    if zv7 = 0 then
      some (((-3) : Int), J)
    else
      (H_X12_offShip this zp1 J).bind fun zv11 =>
      if zv11 ≤ 3 then
        (jS J (this + 1) 8369 (wr (2202 + zp1)) 1).bind fun J14 =>
        (H_X12_offShip this zp1 J14).bind fun zv18 =>
        some (zv18, J14)
      else
        some (((-3) : Int), J)

def H_X12_image_L2 (x0 : Nat) : Nat → Int → Jm → Option (Int × Jm)
  | 0, _, _ => none
  | n1 + 1, zx1, J0 =>
  if 8369 ≤ zx1 then
    nv (jW J0 x0 3 1) fun J3 =>
    (jL J3 (x0 + 1) 8369 1).bind fun zv5 =>
    some (zv5, J3)
  else
    (jL J0 (x0 + 1) 8369 zx1).bind fun zv9 =>
    (jS J0 (x0 + 2) 8369 zx1 zv9).bind fun J11 =>
    H_X12_image_L2 x0 n1 (wr (zx1 + 1)) J11
def H_X12_image (this : Nat) (J : Jm) : Option (Int × Jm) :=
  H_X12_image_L2 this 1000000 0 J

def H_X12_restore_L12 (x0 : Nat) : Nat → Int → Jm → Option (Int × Jm)
  | 0, _, _ => none
  | n3 + 1, zx1, J0 =>
  if 8369 ≤ zx1 then
    (jL J0 (x0 + 1) 8369 1).bind fun zv6 =>
    some (zv6, J0)
  else
    (jL J0 (x0 + 2) 8369 zx1).bind fun zv10 =>
    (jS J0 (x0 + 1) 8369 zx1 zv10).bind fun J12 =>
    H_X12_restore_L12 x0 n3 (wr (zx1 + 1)) J12
def H_X12_restore (this : Nat) (J : Jm) : Option (Int × Jm) :=
  if (J this 3) = 0 then
    some (((-3) : Int), J)
  else
    H_X12_restore_L12 this 1000000 0 J

def H_X12_count_L69 (x0 : Nat) (zx1 : Int) (J : Jm) : Nat → Int → Int → Option Int
  | 0, _, _ => none
  | n6 + 1, zx2, zx3 =>
  (jL J (x0 + 1) 8369 0).bind fun zv8 =>
  if zv8 ≤ zx3 then
    some zx2
  else
    (jL J (x0 + 1) 8369 (wr (2202 + zx3))).bind fun zv12 =>
    nv (α := Int) (if zv12 = (wr (zx1 - 1)) then 1 else 0) fun zv14 =>
    H_X12_count_L69 x0 zx1 J n6 (wr (zx2 + zv14)) (wr (zx3 + 1))
def H_X12_count_L141 (x0 : Nat) (J : Jm) : Nat → Int → Int → Option Int
  | 0, _, _ => none
  | n35 + 1, zx2, zx3 =>
  if 80 ≤ zx3 then
    some zx2
  else
    (jL J (x0 + 1) 8369 (wr (170 + zx3))).bind fun zv38 =>
    H_X12_count_L141 x0 J n35 (wr (zx2 + zv38)) (wr (zx3 + 1))
def H_X12_count_L177 (x0 : Nat) (J : Jm) : Nat → Int → Int → Option Int
  | 0, _, _ => none
  | n45 + 1, zx2, zx3 =>
  (jL J (x0 + 1) 8369 0).bind fun zv47 =>
  if zv47 ≤ zx3 then
    some zx2
  else
    (jL J (x0 + 1) 8369 (wr (2194 + zx3))).bind fun zv51 =>
    H_X12_count_L177 x0 J n45 (wr (zx2 + zv51)) (wr (zx3 + 1))
def H_X12_count (this : Nat) (zp1 : Int) (J : Jm) : Option Int :=
  if zp1 = 0 then
    (jL J (this + 1) 8369 0).bind fun zv3 =>
    some zv3
  else
    if zp1 = 1 ∨ zp1 = 2 ∨ zp1 = 3 then
      H_X12_count_L69 this zp1 J 1000000 0 0
    else
      if zp1 = 4 then
        (jL J (this + 1) 8369 1).bind fun zv20 =>
        some zv20
      else
        if zp1 = 5 then
          (jL J (this + 1) 8369 2).bind fun zv24 =>
          some zv24
        else
          if zp1 = 6 then
            (jL J (this + 1) 8369 3).bind fun zv28 =>
            some zv28
          else
            if zp1 = 7 then
              (jL J (this + 1) 8369 4).bind fun zv32 =>
              some zv32
            else
              if zp1 = 8 then
                H_X12_count_L141 this J 1000000 0 0
              else
                if zp1 = 9 then
                  (jL J (this + 1) 8369 5).bind fun zv42 =>
                  some zv42
                else
                  if zp1 = 10 then
                    H_X12_count_L177 this J 1000000 0 0
                  else
                    some ((-1) : Int)

def H_X12_isShelf (this : Nat) (zp1 : Int) : Option Int :=
  (H_X12_is this zp1 0 7).bind fun zv3 =>
  (jZ zv3).bind fun _ =>
  some zv3

def H_X12_keep (this : Nat) (zp1 : Int) (zp2 : Int) (zp3 : Int) (J : Jm) : Option (Int × Jm) :=
  (H_X12_isShelf this zp1).bind fun zv3 =>
  if zv3 = 0 then
    some (((-1) : Int), J)
  else
    (H_X12_is this zp2 0 1).bind fun zv7 =>
    if zv7 = 0 then
      some (((-1) : Int), J)
    else
      jp (fun (J10 : Jm) =>
        (jS J10 (this + 9) 8 zp1 zp2).bind fun J12 =>
        if zp2 = 1 then
          (jL J12 (this + 1) 8369 (wr (2170 + zp3))).bind fun zv17 =>
          (jS J12 (this + 10) 8 zp1 zv17).bind fun J19 =>
          (jL J19 (this + 1) 8369 (wr (2178 + zp3))).bind fun zv23 =>
          (jL J19 (this + 1) 8369 (wr (2186 + zp3))).bind fun zv26 =>
          (jS J19 (this + 11) 8 zp1 (wr ((wr (8 * zv23)) + zv26))).bind fun J28 =>
          (jL J28 (this + 1) 8369 (wr (2194 + zp3))).bind fun zv32 =>
          (jS J28 (this + 12) 8 zp1 zv32).bind fun J34 =>
          (jL J34 (this + 1) 8369 (wr (2202 + zp3))).bind fun zv38 =>
          (jS J34 (this + 13) 8 zp1 zv38).bind fun J40 =>
          some ((0 : Int), J40)
        else
          some ((0 : Int), J12)) fun k9h =>
      if zp2 = 1 then
        (H_X12_isGlider this zp3 J).bind fun zv46 =>
        if zv46 = 0 then
          some (((-1) : Int), J)
        else
          k9h J
      else
        k9h J

def H_X12_row_L57 (x0 : Nat) (zx1 : Int) : Nat → Int → Jm → Option (Int × Jm)
  | 0, _, _ => none
  | n20 + 1, zx4, J0 =>
  if 80 ≤ zx4 then
    some ((0 : Int), J0)
  else
    (jS J0 (x0 + 16) 640 (wr ((wr (80 * zx1)) + zx4)) 0).bind fun J23 =>
    H_X12_row_L57 x0 zx1 n20 (wr (zx4 + 1)) J23
def H_X12_row (this : Nat) (zp1 : Int) (zp2 : Int) (zp3 : Int) (J : Jm) : Option (Int × Jm) :=
  (H_X12_isShelf this zp1).bind fun zv3 =>
  if zv3 = 0 then
    some (((-1) : Int), J)
  else
    (H_X12_is this zp2 0 2).bind fun zv7 =>
    if zv7 = 0 then
      some (((-1) : Int), J)
    else
      if zp3 ≤ 80 then
        if 0 ≤ zp3 then
          (jS J (this + 9) 8 zp1 2).bind fun J12 =>
          (jS J12 (this + 14) 8 zp1 zp2).bind fun J15 =>
          (jS J15 (this + 15) 8 zp1 zp3).bind fun J18 =>
          H_X12_row_L57 this zp1 1000000 0 J18
        else
          some (((-14) : Int), J)
      else
        some (((-1) : Int), J)

def H_X12_narrow (this : Nat) (zp1 : Int) (zp2 : Int) : Option Int :=
  if zp1 = 0 then
    some (b8 zp2)
  else
    if zp1 = 1 then
      some (s16 zp2)
    else
      some zp2

def H_X12_put (this : Nat) (zp1 : Int) (zp2 : Int) (zp3 : Int) (J : Jm) : Option (Int × Jm) :=
  (H_X12_isShelf this zp1).bind fun zv3 =>
  if zv3 = 0 then
    some (((-1) : Int), J)
  else
    (jL J (this + 9) 8 zp1).bind fun zv6 =>
    if zv6 = 0 then
      some (((-11) : Int), J)
    else
      (jL J (this + 9) 8 zp1).bind fun zv10 =>
      if zv10 = 2 then
        (jL J (this + 15) 8 zp1).bind fun zv14 =>
        (H_X12_is this zp2 0 (wr (zv14 - 1))).bind fun zv18 =>
        if zv18 = 0 then
          some (((-13) : Int), J)
        else
          (jL J (this + 14) 8 zp1).bind fun zv22 =>
          (H_X12_narrow this zv22 zp3).bind fun zv26 =>
          (jS J (this + 16) 640 (wr ((wr (80 * zp1)) + zp2)) zv26).bind fun J27 =>
          some ((0 : Int), J27)
      else
        some (((-12) : Int), J)

def H_X12_element (this : Nat) (zp1 : Int) (zp2 : Int) (J : Jm) : Option (Int × Jm) :=
  (H_X12_isShelf this zp1).bind fun zv3 =>
  jp (fun (zs5 : Int) (J6 : Jm) =>
    nv (jW J6 this 0 zs5) fun J7 =>
    if (J7 this 0) ≤ 0 then
      (jL J7 (this + 16) 640 (wr ((wr (80 * zp1)) + zp2))).bind fun zv11 =>
      some (zv11, J7)
    else
      some ((0 : Int), J7)) fun k4h =>
  if zv3 = 0 then
    k4h 1 J
  else
    (jL J (this + 9) 8 zp1).bind fun zv16 =>
    if zv16 = 2 then
      (jL J (this + 15) 8 zp1).bind fun zv20 =>
      (H_X12_is this zp2 0 (wr (zv20 - 1))).bind fun zv24 =>
      if zv24 = 0 then
        k4h 2 J
      else
        k4h 0 J
    else
      k4h 2 J

def H_X12_copy_L124 (k158h : Jm → Option (Int × Jm)) (x0 : Nat) (zx1 : Int) (zx2 : Int) (zx3 : Int) (zx4 : Int) (zx5 : Int) : Nat → Int → Jm → Option (Int × Jm)
  | 0, _, _ => none
  | n43 + 1, zx6, J0 =>
  if zx5 ≤ zx6 then
    k158h J0
  else
    (jL J0 (x0 + 16) 640 (wr ((wr ((wr (80 * zx1)) + zx2)) + zx6))).bind fun zv47 =>
    (jS J0 (x0 + 17) 80 zx6 zv47).bind fun J49 =>
    H_X12_copy_L124 k158h x0 zx1 zx2 zx3 zx4 zx5 n43 (wr (zx6 + 1)) J49
def H_X12_copy_L161 (x0 : Nat) (zx3 : Int) (zx4 : Int) (zx5 : Int) : Nat → Int → Jm → Option (Int × Jm)
  | 0, _, _ => none
  | n52 + 1, zx6, J0 =>
  if zx5 ≤ zx6 then
    some (zx5, J0)
  else
    (jL J0 (x0 + 17) 80 zx6).bind fun zv56 =>
    (jS J0 (x0 + 16) 640 (wr ((wr ((wr (80 * zx3)) + zx4)) + zx6)) zv56).bind fun J58 =>
    H_X12_copy_L161 x0 zx3 zx4 zx5 n52 (wr (zx6 + 1)) J58
def H_X12_copy (this : Nat) (zp1 : Int) (zp2 : Int) (zp3 : Int) (zp4 : Int) (zp5 : Int) (J : Jm) : Option (Int × Jm) :=
  (H_X12_isShelf this zp1).bind fun zv3 =>
  if zv3 = 0 then
    some (((-1) : Int), J)
  else
    (H_X12_isShelf this zp3).bind fun zv7 =>
    if zv7 = 0 then
      some (((-1) : Int), J)
    else
      (jL J (this + 9) 8 zp1).bind fun zv10 =>
      if zv10 = 0 then
        some (((-11) : Int), J)
      else
        (jL J (this + 9) 8 zp3).bind fun zv14 =>
        if zv14 = 0 then
          some (((-11) : Int), J)
        else
          (jL J (this + 9) 8 zp1).bind fun zv18 =>
          if zv18 = 2 then
            (jL J (this + 9) 8 zp3).bind fun zv22 =>
            if zv22 = 2 then
              (jL J (this + 14) 8 zp1).bind fun zv26 =>
              (jL J (this + 14) 8 zp3).bind fun zv29 =>
              if zv26 = zv29 then
                if zp5 < 0 then
                  some (((-13) : Int), J)
                else
                  if zp2 < 0 then
                    some (((-13) : Int), J)
                  else
                    if zp4 < 0 then
                      some (((-13) : Int), J)
                    else
                      (jL J (this + 15) 8 zp1).bind fun zv36 =>
                      if (wr (zv36 - zp5)) < zp2 then
                        some (((-13) : Int), J)
                      else
                        (jL J (this + 15) 8 zp3).bind fun zv40 =>
                        if zp4 ≤ (wr (zv40 - zp5)) then
                          H_X12_copy_L124 (fun (J51 : Jm) =>
                            H_X12_copy_L161 this zp3 zp4 zp5 1000000 0 J51) this zp1 zp2 zp3 zp4 zp5 1000000 0 J
                        else
                          some (((-13) : Int), J)
              else
                some (((-12) : Int), J)
            else
              some (((-12) : Int), J)
          else
            some (((-12) : Int), J)

def H_X12_lacksGlider (this : Nat) (zp1 : Int) (J : Jm) : Option Int :=
  (H_X12_isShelf this zp1).bind fun zv3 =>
  if zv3 = 0 then
    some ((-1) : Int)
  else
    (jL J (this + 9) 8 zp1).bind fun zv6 =>
    if zv6 = 0 then
      some ((-11) : Int)
    else
      (jL J (this + 9) 8 zp1).bind fun zv10 =>
      if zv10 = 2 then
        some ((-12) : Int)
      else
        some (0 : Int)

def H_X12_sum (this : Nat) (zp1 : Int) (J : Jm) : Option Int :=
  (H_X12_lacksGlider this zp1 J).bind fun zv3 =>
  if zv3 = 0 then
    (jL J (this + 10) 8 zp1).bind fun zv6 =>
    nv (α := Int) (if zv6 = 0 then 2 else (if zv6 = 2 then 3 else 1)) fun zv8 =>
    nv (α := Int) (if zv6 = 0 then 2 else (if zv6 = 1 then 3 else (if zv6 = 2 then 1 else 4))) fun zv10 =>
    jp (fun (zs13 : Int) =>
      if zv6 = 3 then
        some (wr (2 * (wr ((wr ((wr (100 + (wr (10 * zv8)))) + zv10)) + zs13))))
      else
        some (wr ((wr ((wr (100 + (wr (10 * zv8)))) + zv10)) + zs13))) fun k12h =>
    if zv6 = 1 then
      (H_X12_dry this zv6 0).bind fun zv20 =>
      k12h zv20
    else
      if zv6 = 3 then
        (H_X12_dry this zv6 0).bind fun zv28 =>
        k12h zv28
      else
        if zv6 = 2 then
          (jL J (this + 12) 8 zp1).bind fun zv24 =>
          k12h zv24
        else
          k12h 0
  else
    (H_X12_lacksGlider this zp1 J).bind fun zv36 =>
    some zv36

def H_X12_toss (this : Nat) (zp1 : Int) (J : Jm) : Option Int :=
  (H_X12_lacksGlider this zp1 J).bind fun zv3 =>
  if zv3 = 0 then
    (jL J (this + 10) 8 zp1).bind fun zv6 =>
    if zv6 = 0 then
      some ((-15) : Int)
    else
      (jL J (this + 13) 8 zp1).bind fun zv10 =>
      if zv10 = 0 then
        (jL J (this + 11) 8 zp1).bind fun zv14 =>
        (jL J (this + 10) 8 zp1).bind fun zv17 =>
        nv (α := Int) (if zv17 = 3 then 100 else 0) fun zv19 =>
        some (wr (zv14 + zv19))
      else
        some ((-15) : Int)
  else
    (H_X12_lacksGlider this zp1 J).bind fun zv24 =>
    some zv24
