set_option maxHeartbeats 4000000 in
set_option maxRecDepth 100000 in
theorem h_J7_fill_53178_L5 {E : Em} {J1 : Jm}   (x0 : Nat) (wx0 : Wa E x0) (x1 : Int32) (zx1 : Int) (tx1 : x1.toInt = zx1) (x3 : Int32) (zx3 : Int) (tx3 : x3.toInt = zx3) : ∀ (fu : Nat), ∀ (x2 : Int32) (zx2 : Int), x2.toInt = zx2 → ∀ (M0 : Mm) (J0 : Jm), Mre E M0 J0 → H_J7_fill_53178_L5 E x0 zx1 zx3 fu zx2 J0 = some J1 → Ok (F_J7_fill_53178_L5 x0 x1 x3 fu x2 M0) (fun q => Mre E q J1) := by
  intro fu
  induction fu with
  | zero =>
    intro x2 zx2 tx2 M0 J0 hM0 h
    rw [H_J7_fill_53178_L5] at h
    cases h
  | succ n2 ih =>
    intro x2 zx2 tx2 M0 J0 hM0 h
    rw [H_J7_fill_53178_L5] at h
    rw [F_J7_fill_53178_L5]
    by_cases c1 : zx3 ≤ zx2
    · replace h := it_t c1 h
      refine ok_t ((c_le tx3 tx2).mpr c1) ?_
      exact o_rv hM0 h
    · replace h := it_f c1 h
      refine ok_f (mt (c_le tx3 tx2).mp c1) ?_
      replace h := ob h; obtain ⟨J4, eJ4, h⟩ := h
      obtain ⟨M4, eM4, hM4⟩ := o_stI hM0 (Wa.k wx0) rfl tx2 tx1 eJ4
      refine ok_b eM4 ?_
      exact ih _ _ (t_add tx2 (show (1 : Int32).toInt = 1 from rfl)) _ _ hM4 h
set_option maxHeartbeats 4000000 in
set_option maxRecDepth 100000 in
theorem h_J7_fill_53178 {E : Em} {M : Mm} {J : Jm} (hM : Mre E M J) {p1 : Nat} (wp1 : Wa E p1) {p2 : Int32} {zp2 : Int} (tp2 : p2.toInt = zp2) {J1 : Jm} (h : H_J7_fill_53178 E p1 zp2 J = some J1) : Ok (F_J7_fill_53178 p1 p2 M) (fun q => Mre E q J1) := by
  unfold H_J7_fill_53178 at h
  unfold F_J7_fill_53178
  obtain ⟨v1, ev1, tv1⟩ := o_lnI hM (Wa.k wp1) wp1.2 rfl
  refine ok_b ev1 ?_
  refine h_J7_fill_53178_L5   _ wp1 _ _ tp2 _ _ tv1 _ _ _ (show (0 : Int32).toInt = 0 from rfl) _ _ hM h

set_option maxHeartbeats 4000000 in
set_option maxRecDepth 100000 in
theorem h_X0_begin {E : Em} {M : Mm} {J : Jm} (hM : Mre E M J) {this : Nat} (wthis : W0 E this) {p1 : Int32} {zp1 : Int} (tp1 : p1.toInt = zp1) {p2 : Int32} {zp2 : Int} (tp2 : p2.toInt = zp2) {p3 : Int32} {zp3 : Int} (tp3 : p3.toInt = zp3) {J1 : Jm} (h : H_X0_begin E this zp1 zp2 zp3 J = some J1) : Ok (F_X0_begin this p1 p2 p3 M) (fun q => Mre E q J1) := by
  unfold H_X0_begin at h
  unfold F_X0_begin
  replace h := nv_e h; obtain ⟨J1, eJ1, h⟩ := h
  obtain ⟨M1, eM1, hM1⟩ := o_wrI (k := 0) hM wthis.1 tp1 eJ1
  refine ok_b eM1 ?_
  replace h := nv_e h; obtain ⟨J2, eJ2, h⟩ := h
  obtain ⟨M2, eM2, hM2⟩ := o_wrI (k := 1) hM1 wthis.1 tp2 eJ2
  refine ok_b eM2 ?_
  replace h := nv_e h; obtain ⟨J3, eJ3, h⟩ := h
  obtain ⟨M3, eM3, hM3⟩ := o_wrI (k := 2) hM2 wthis.1 tp3 eJ3
  refine ok_b eM3 ?_
  replace h := nv_e h; obtain ⟨J4, eJ4, h⟩ := h
  obtain ⟨M4, eM4, hM4⟩ := o_wrI (k := 3) hM3 wthis.1 (show (0 : Int32).toInt = 0 from rfl) eJ4
  refine ok_b eM4 ?_
  replace h := nv_e h; obtain ⟨J5, eJ5, h⟩ := h
  obtain ⟨M5, eM5, hM5⟩ := o_wrZ (k := 4) hM4 wthis.1 (show (0 : Int32).toInt = 0 from rfl) (by decide) eJ5
  refine ok_b eM5 ?_
  replace h := nv_e h; obtain ⟨J6, eJ6, h⟩ := h
  obtain ⟨M6, eM6, hM6⟩ := o_wrI (k := 5) hM5 wthis.1 (show (0 : Int32).toInt = 0 from rfl) eJ6
  refine ok_b eM6 ?_
  replace h := nv_e h; obtain ⟨J7, eJ7, h⟩ := h
  obtain ⟨M7, eM7, hM7⟩ := o_wrI (k := 6) hM6 wthis.1 (show ((-4) : Int32).toInt = (-4) from rfl) eJ7
  refine ok_b eM7 ?_
  replace h := nv_e h; obtain ⟨J8, eJ8, h⟩ := h
  obtain ⟨M8, eM8, hM8⟩ := o_wrI (k := 7) hM7 wthis.1 (show ((-4) : Int32).toInt = (-4) from rfl) eJ8
  refine ok_b eM8 ?_
  replace h := nv_e h; obtain ⟨J9, eJ9, h⟩ := h
  obtain ⟨M9, eM9, hM9⟩ := o_wrI (k := 8) hM8 wthis.1 (show (0 : Int32).toInt = 0 from rfl) eJ9
  refine ok_b eM9 ?_
  replace h := nv_e h; obtain ⟨J10, eJ10, h⟩ := h
  obtain ⟨M10, eM10, hM10⟩ := o_wrI (k := 9) hM9 wthis.1 (show (0 : Int32).toInt = 0 from rfl) eJ10
  refine ok_b eM10 ?_
  replace h := nv_e h; obtain ⟨J11, eJ11, h⟩ := h
  obtain ⟨M11, eM11, hM11⟩ := o_wrZ (k := 10) hM10 wthis.1 (show (0 : Int32).toInt = 0 from rfl) (by decide) eJ11
  refine ok_b eM11 ?_
  refine ok_b (o_rdS hM11 wthis.1 (wthis.2.1)) ?_
  refine ok_s ?_
  replace h := ob h; obtain ⟨J14, eJ14, h⟩ := h
  obtain ⟨M14, eM14, hM14⟩ := h_J7_fill_53178 hM11 (⟨by rw [wthis.2.2], by rw [wthis.2.2]; exact (by decide)⟩ : Wa E (this + 1)) (show ((-4) : Int32).toInt = (-4) from rfl) eJ14
  refine ok_b eM14 ?_
  exact o_rv hM14 h

set_option maxHeartbeats 4000000 in
set_option maxRecDepth 100000 in
theorem h_X11_copyAll {E : Em} {M : Mm} {J : Jm} (hM : Mre E M J) {p1 : Nat} (wp1 : Wa E p1) {p2 : Nat} (wp2 : Wa E p2) {J1 : Jm} (h : H_X11_copyAll E p1 p2 J = some J1) : Ok (F_X11_copyAll p1 p2 M) (fun q => Mre E q J1) := by
  unfold H_X11_copyAll at h
  unfold F_X11_copyAll
  obtain ⟨v1, ev1, tv1⟩ := o_lnI hM (Wa.k wp1) wp1.2 rfl
  refine ok_b ev1 ?_
  obtain ⟨v2, ev2, tv2⟩ := o_lnI hM (Wa.k wp2) wp2.2 rfl
  refine ok_b ev2 ?_
  replace h := ob h; obtain ⟨J3, eJ3, h⟩ := h
  obtain ⟨M3, eM3, hM3⟩ := o_cpI hM (Wa.k wp1) (Wa.k wp2) rfl rfl (show (0 : Int32).toInt = 0 from rfl) (show (0 : Int32).toInt = 0 from rfl) (t_mn tv1 tv2) eJ3
  refine ok_b eM3 ?_
  exact o_rv hM3 h

set_option maxHeartbeats 4000000 in
set_option maxRecDepth 100000 in
theorem h_X0_become {E : Em} {M : Mm} {J : Jm} (hM : Mre E M J) {this : Nat} (wthis : W0 E this) {p1 : Nat} (wp1 : W0 E p1) {J1 : Jm} (h : H_X0_become E this p1 J = some J1) : Ok (F_X0_become this p1 M) (fun q => Mre E q J1) := by
  unfold H_X0_become at h
  unfold F_X0_become
  obtain ⟨v1, ev1, tv1⟩ := o_rdI (k := 0) hM wp1.1
  refine ok_b ev1 ?_
  replace h := nv_e h; obtain ⟨J2, eJ2, h⟩ := h
  obtain ⟨M2, eM2, hM2⟩ := o_wrI (k := 0) hM wthis.1 tv1 eJ2
  refine ok_b eM2 ?_
  obtain ⟨v3, ev3, tv3⟩ := o_rdI (k := 1) hM2 wp1.1
  refine ok_b ev3 ?_
  replace h := nv_e h; obtain ⟨J4, eJ4, h⟩ := h
  obtain ⟨M4, eM4, hM4⟩ := o_wrI (k := 1) hM2 wthis.1 tv3 eJ4
  refine ok_b eM4 ?_
  obtain ⟨v5, ev5, tv5⟩ := o_rdI (k := 2) hM4 wp1.1
  refine ok_b ev5 ?_
  replace h := nv_e h; obtain ⟨J6, eJ6, h⟩ := h
  obtain ⟨M6, eM6, hM6⟩ := o_wrI (k := 2) hM4 wthis.1 tv5 eJ6
  refine ok_b eM6 ?_
  obtain ⟨v7, ev7, tv7⟩ := o_rdI (k := 3) hM6 wp1.1
  refine ok_b ev7 ?_
  replace h := nv_e h; obtain ⟨J8, eJ8, h⟩ := h
  obtain ⟨M8, eM8, hM8⟩ := o_wrI (k := 3) hM6 wthis.1 tv7 eJ8
  refine ok_b eM8 ?_
  obtain ⟨v9, ev9, tv9⟩ := o_rdI (k := 4) hM8 wp1.1
  refine ok_b ev9 ?_
  replace h := ob h; obtain ⟨_, hzM10, h⟩ := h
  replace h := nv_e h; obtain ⟨J10, eJ10, h⟩ := h
  obtain ⟨M10, eM10, hM10⟩ := o_wrZ (k := 4) hM8 wthis.1 tv9 (jZ_e hzM10) eJ10
  refine ok_b eM10 ?_
  obtain ⟨v11, ev11, tv11⟩ := o_rdI (k := 5) hM10 wp1.1
  refine ok_b ev11 ?_
  replace h := nv_e h; obtain ⟨J12, eJ12, h⟩ := h
  obtain ⟨M12, eM12, hM12⟩ := o_wrI (k := 5) hM10 wthis.1 tv11 eJ12
  refine ok_b eM12 ?_
  obtain ⟨v13, ev13, tv13⟩ := o_rdI (k := 6) hM12 wp1.1
  refine ok_b ev13 ?_
  replace h := nv_e h; obtain ⟨J14, eJ14, h⟩ := h
  obtain ⟨M14, eM14, hM14⟩ := o_wrI (k := 6) hM12 wthis.1 tv13 eJ14
  refine ok_b eM14 ?_
  obtain ⟨v15, ev15, tv15⟩ := o_rdI (k := 7) hM14 wp1.1
  refine ok_b ev15 ?_
  replace h := nv_e h; obtain ⟨J16, eJ16, h⟩ := h
  obtain ⟨M16, eM16, hM16⟩ := o_wrI (k := 7) hM14 wthis.1 tv15 eJ16
  refine ok_b eM16 ?_
  obtain ⟨v17, ev17, tv17⟩ := o_rdI (k := 8) hM16 wp1.1
  refine ok_b ev17 ?_
  replace h := nv_e h; obtain ⟨J18, eJ18, h⟩ := h
  obtain ⟨M18, eM18, hM18⟩ := o_wrI (k := 8) hM16 wthis.1 tv17 eJ18
  refine ok_b eM18 ?_
  obtain ⟨v19, ev19, tv19⟩ := o_rdI (k := 9) hM18 wp1.1
  refine ok_b ev19 ?_
  replace h := nv_e h; obtain ⟨J20, eJ20, h⟩ := h
  obtain ⟨M20, eM20, hM20⟩ := o_wrI (k := 9) hM18 wthis.1 tv19 eJ20
  refine ok_b eM20 ?_
  obtain ⟨v21, ev21, tv21⟩ := o_rdI (k := 10) hM20 wp1.1
  refine ok_b ev21 ?_
  replace h := ob h; obtain ⟨_, hzM22, h⟩ := h
  replace h := nv_e h; obtain ⟨J22, eJ22, h⟩ := h
  obtain ⟨M22, eM22, hM22⟩ := o_wrZ (k := 10) hM20 wthis.1 tv21 (jZ_e hzM22) eJ22
  refine ok_b eM22 ?_
  refine ok_b (o_rdS hM22 wp1.1 (wp1.2.1)) ?_
  refine ok_b (o_rdS hM22 wthis.1 (wthis.2.1)) ?_
  refine ok_s ?_
  refine ok_s ?_
  replace h := ob h; obtain ⟨J27, eJ27, h⟩ := h
  obtain ⟨M27, eM27, hM27⟩ := h_X11_copyAll hM22 (⟨by rw [wp1.2.2], by rw [wp1.2.2]; exact (by decide)⟩ : Wa E (p1 + 1)) (⟨by rw [wthis.2.2], by rw [wthis.2.2]; exact (by decide)⟩ : Wa E (this + 1)) eJ27
  refine ok_b eM27 ?_
  exact o_rv hM27 h

set_option maxHeartbeats 4000000 in
set_option maxRecDepth 100000 in
theorem h_X0_deepest {E : Em} {M : Mm} {J : Jm} (hM : Mre E M J) {this : Nat} (wthis : W0 E this) {z : Int} (h : H_X0_deepest this J = some z) : Ok (F_X0_deepest this M) (fun q => q.1.toInt = z ∧ Mre E q.2 J) := by
  unfold H_X0_deepest at h
  unfold F_X0_deepest
  obtain ⟨v1, ev1, tv1⟩ := o_rdI (k := 0) hM wthis.1
  refine ok_b ev1 ?_
  replace h := ob h; obtain ⟨zv2, ezv2, h⟩ := h
  obtain ⟨v2, ev2, tv2⟩ := o_ldS tv1 ezv2
  refine ok_b ev2 ?_
  exact o_ri0 tv2 hM h

set_option maxHeartbeats 4000000 in
set_option maxRecDepth 100000 in
theorem h_X0_reach {E : Em} {M : Mm} {J : Jm} (hM : Mre E M J) {this : Nat} (wthis : W0 E this) {z : Int} (h : H_X0_reach this J = some z) : Ok (F_X0_reach this M) (fun q => q.1.toInt = z ∧ Mre E q.2 J) := by
  unfold H_X0_reach at h
  unfold F_X0_reach
  obtain ⟨v1, ev1, tv1⟩ := o_rdI (k := 0) hM wthis.1
  refine ok_b ev1 ?_
  replace h := ob h; obtain ⟨zv2, ezv2, h⟩ := h
  obtain ⟨v2, ev2, tv2⟩ := o_ldS tv1 ezv2
  refine ok_b ev2 ?_
  exact o_ri0 tv2 hM h

set_option maxHeartbeats 4000000 in
set_option maxRecDepth 100000 in
theorem h_X11_costOf {E : Em} {M : Mm} {J : Jm} (hM : Mre E M J) {p1 : Int32} {zp1 : Int} (tp1 : p1.toInt = zp1) {p2 : Int32} {zp2 : Int} (tp2 : p2.toInt = zp2) {z : Int} (h : H_X11_costOf zp1 zp2 = some z) : Ok (F_X11_costOf p1 p2 M) (fun q => q.1.toInt = z ∧ Mre E q.2 J) := by
  unfold H_X11_costOf at h
  unfold F_X11_costOf
  by_cases c1 : zp1 = 1
  · replace h := it_t c1 h
    refine ok_t ((c_eq tp1 (show (1 : Int32).toInt = 1 from rfl)).mpr c1) ?_
    replace h := ob h; obtain ⟨zv2, ezv2, h⟩ := h
    obtain ⟨v2, ev2, tv2⟩ := o_dvI (t_add (show (4 : Int32).toInt = 4 from rfl) (t_mul (show (2 : Int32).toInt = 2 from rfl) tp2)) (show (2 : Int32).toInt = 2 from rfl) ezv2
    refine ok_b ev2 ?_
    exact o_ri0 tv2 hM h
  · replace h := it_f c1 h
    refine ok_f (mt (c_eq tp1 (show (1 : Int32).toInt = 1 from rfl)).mp c1) ?_
    by_cases c2 : zp1 = 2
    · replace h := it_t c2 h
      refine ok_t ((c_eq tp1 (show (2 : Int32).toInt = 2 from rfl)).mpr c2) ?_
      exact o_ri0 (t_sub (t_add (show (4 : Int32).toInt = 4 from rfl) (t_mul (show (2 : Int32).toInt = 2 from rfl) tp2)) (show (1 : Int32).toInt = 1 from rfl)) hM h
    · replace h := it_f c2 h
      refine ok_f (mt (c_eq tp1 (show (2 : Int32).toInt = 2 from rfl)).mp c2) ?_
      by_cases c3 : zp1 = 3
      · replace h := it_t c3 h
        refine ok_t ((c_eq tp1 (show (3 : Int32).toInt = 3 from rfl)).mpr c3) ?_
        replace h := ob h; obtain ⟨zv5, ezv5, h⟩ := h
        obtain ⟨v5, ev5, tv5⟩ := o_dvI (t_add (show (4 : Int32).toInt = 4 from rfl) (t_mul (show (2 : Int32).toInt = 2 from rfl) tp2)) (show (2 : Int32).toInt = 2 from rfl) ezv5
        refine ok_b ev5 ?_
        exact o_ri0 (t_add tv5 (show (1 : Int32).toInt = 1 from rfl)) hM h
      · replace h := it_f c3 h
        refine ok_f (mt (c_eq tp1 (show (3 : Int32).toInt = 3 from rfl)).mp c3) ?_
        exact o_ri0 (t_add (show (4 : Int32).toInt = 4 from rfl) (t_mul (show (2 : Int32).toInt = 2 from rfl) tp2)) hM h

set_option maxHeartbeats 4000000 in
set_option maxRecDepth 100000 in
theorem h_X0_costTo {E : Em} {M : Mm} {J : Jm} (hM : Mre E M J) {this : Nat} (wthis : W0 E this) {p1 : Int32} {zp1 : Int} (tp1 : p1.toInt = zp1) {z : Int} (h : H_X0_costTo this zp1 J = some z) : Ok (F_X0_costTo this p1 M) (fun q => q.1.toInt = z ∧ Mre E q.2 J) := by
  unfold H_X0_costTo at h
  unfold F_X0_costTo
  obtain ⟨v1, ev1, tv1⟩ := o_rdI (k := 0) hM wthis.1
  refine ok_b ev1 ?_
  replace h := ob h; obtain ⟨zv3, ezv3, h⟩ := h
  obtain ⟨⟨v3, M2⟩, eM2, tv3, hM2⟩ := h_X11_costOf hM tv1 tp1 ezv3
  refine ok_b eM2 ?_
  obtain ⟨v4, ev4, tv4⟩ := o_rdI (k := 4) hM2 wthis.1
  refine ok_b ev4 ?_
  replace h := nv_e h; obtain ⟨zv5, ezv5, h⟩ := h
  obtain ⟨v5, evv5⟩ : ∃ v : Int32, v = (if v4 = 0 then 0 else 3) := ⟨_, rfl⟩
  have tv5 : v5.toInt = zv5 := by rw [evv5, ezv5]; exact (t_ite (c_eq tv4 (show (0 : Int32).toInt = 0 from rfl)) (show (0 : Int32).toInt = 0 from rfl) (show (3 : Int32).toInt = 3 from rfl))
  refine ok_nv evv5 ?_
  exact o_ri0 (t_add tv3 tv5) hM2 h

set_option maxHeartbeats 4000000 in
set_option maxRecDepth 100000 in
theorem h_X0_mayDive {E : Em} {M : Mm} {J : Jm} (hM : Mre E M J) {this : Nat} (wthis : W0 E this) {p1 : Int32} {zp1 : Int} (tp1 : p1.toInt = zp1) {p2 : Int32} {zp2 : Int} (tp2 : p2.toInt = zp2) {p3 : Int32} {zp3 : Int} (tp3 : p3.toInt = zp3) {z : Int} (h : H_X0_mayDive this zp1 zp2 zp3 J = some z) : Ok (F_X0_mayDive this p1 p2 p3 M) (fun q => q.1.toInt = z ∧ Mre E q.2 J) := by
  unfold H_X0_mayDive at h
  unfold F_X0_mayDive
  refine ok_b (o_isO hM wthis.1) ?_
  replace h := ob h; obtain ⟨zv3, ezv3, h⟩ := h
  obtain ⟨⟨v3, M1⟩, eM1, tv3, hM1⟩ := h_X0_reach hM wthis ezv3
  refine ok_b eM1 ?_
  by_cases c1 : zp1 < 0
  · replace h := it_t c1 h
    refine ok_t ((c_lt tp1 (show (0 : Int32).toInt = 0 from rfl)).mpr c1) ?_
    exact o_ri0 (show (0 : Int32).toInt = 0 from rfl) hM1 h
  · replace h := it_f c1 h
    refine ok_f (mt (c_lt tp1 (show (0 : Int32).toInt = 0 from rfl)).mp c1) ?_
    refine ok_b (o_isO hM1 wthis.1) ?_
    replace h := ob h; obtain ⟨zv7, ezv7, h⟩ := h
    obtain ⟨⟨v7, M5⟩, eM5, tv7, hM5⟩ := h_X0_deepest hM1 wthis ezv7
    refine ok_b eM5 ?_
    by_cases c2 : zv7 < zp1
    · replace h := it_t c2 h
      refine ok_t ((c_lt tv7 tp1).mpr c2) ?_
      exact o_ri0 (show (0 : Int32).toInt = 0 from rfl) hM5 h
    · replace h := it_f c2 h
      refine ok_f (mt (c_lt tv7 tp1).mp c2) ?_
      by_cases c3 : zp2 < (wr (-zv3))
      · replace h := it_t c3 h
        refine ok_t ((c_lt tp2 (t_neg tv3)).mpr c3) ?_
        exact o_ri0 (show (0 : Int32).toInt = 0 from rfl) hM5 h
      · replace h := it_f c3 h
        refine ok_f (mt (c_lt tp2 (t_neg tv3)).mp c3) ?_
        by_cases c4 : zv3 < zp2
        · replace h := it_t c4 h
          refine ok_t ((c_lt tv3 tp2).mpr c4) ?_
          exact o_ri0 (show (0 : Int32).toInt = 0 from rfl) hM5 h
        · replace h := it_f c4 h
          refine ok_f (mt (c_lt tv3 tp2).mp c4) ?_
          by_cases c5 : zp3 < (wr (-zv3))
          · replace h := it_t c5 h
            refine ok_t ((c_lt tp3 (t_neg tv3)).mpr c5) ?_
            exact o_ri0 (show (0 : Int32).toInt = 0 from rfl) hM5 h
          · replace h := it_f c5 h
            refine ok_f (mt (c_lt tp3 (t_neg tv3)).mp c5) ?_
            by_cases c6 : zv3 < zp3
            · replace h := it_t c6 h
              refine ok_t ((c_lt tv3 tp3).mpr c6) ?_
              exact o_ri0 (show (0 : Int32).toInt = 0 from rfl) hM5 h
            · replace h := it_f c6 h
              refine ok_f (mt (c_lt tv3 tp3).mp c6) ?_
              by_cases c7 : zv3 < (wr ((abZ zp2) + (abZ zp3)))
              · replace h := it_t c7 h
                refine ok_t ((c_lt tv3 (t_add (t_ab tp2) (t_ab tp3))).mpr c7) ?_
                exact o_ri0 (show (0 : Int32).toInt = 0 from rfl) hM5 h
              · replace h := it_f c7 h
                refine ok_f (mt (c_lt tv3 (t_add (t_ab tp2) (t_ab tp3))).mp c7) ?_
                exact o_ri0 (show (1 : Int32).toInt = 1 from rfl) hM5 h

set_option maxHeartbeats 4000000 in
set_option maxRecDepth 100000 in
theorem h_X0_divesLeft {E : Em} {M : Mm} {J : Jm} (hM : Mre E M J) {this : Nat} (wthis : W0 E this) {z : Int} (h : H_X0_divesLeft this J = some z) : Ok (F_X0_divesLeft this M) (fun q => q.1.toInt = z ∧ Mre E q.2 J) := by
  unfold H_X0_divesLeft at h
  unfold F_X0_divesLeft
  refine ok_b (o_isO hM wthis.1) ?_
  replace h := ob h; obtain ⟨zv3, ezv3, h⟩ := h
  obtain ⟨⟨v3, M1⟩, eM1, tv3, hM1⟩ := h_X0_deepest hM wthis ezv3
  refine ok_b eM1 ?_
  refine ok_b (o_isO hM1 wthis.1) ?_
  replace h := ob h; obtain ⟨zv6, ezv6, h⟩ := h
  obtain ⟨⟨v6, M4⟩, eM4, tv6, hM4⟩ := h_X0_costTo hM1 wthis (t_mn (show (1 : Int32).toInt = 1 from rfl) tv3) ezv6
  refine ok_b eM4 ?_
  by_cases c1 : zv6 ≤ 0
  · replace h := it_t c1 h
    refine ok_t ((c_le tv6 (show (0 : Int32).toInt = 0 from rfl)).mpr c1) ?_
    exact o_ri0 (show (0 : Int32).toInt = 0 from rfl) hM4 h
  · replace h := it_f c1 h
    refine ok_f (mt (c_le tv6 (show (0 : Int32).toInt = 0 from rfl)).mp c1) ?_
    obtain ⟨v8, ev8, tv8⟩ := o_rdI (k := 2) hM4 wthis.1
    refine ok_b ev8 ?_
    replace h := ob h; obtain ⟨zv9, ezv9, h⟩ := h
    obtain ⟨v9, ev9, tv9⟩ := o_dvI tv8 tv6 ezv9
    refine ok_b ev9 ?_
    exact o_ri0 tv9 hM4 h

set_option maxHeartbeats 4000000 in
set_option maxRecDepth 100000 in
theorem h_X0_fixBy_L8 {E : Em} {z : Int} (J : Jm)  (x0 : Nat) (wx0 : W0 E x0) : ∀ (fu : Nat), ∀ (x2 : Int32) (zx2 : Int), x2.toInt = zx2 → ∀ (M0 : Mm), Mre E M0 J → H_X0_fixBy_L8 x0 J fu zx2 = some z → Ok (F_X0_fixBy_L8 x0 fu x2 M0) (fun q => q.1.toInt = z ∧ Mre E q.2 J) := by
  intro fu
  induction fu with
  | zero =>
    intro x2 zx2 tx2 M0 hM0 h
    rw [H_X0_fixBy_L8] at h
    cases h
  | succ n1 ih =>
    intro x2 zx2 tx2 M0 hM0 h
    rw [H_X0_fixBy_L8] at h
    rw [F_X0_fixBy_L8]
    by_cases c1 : zx2 < 0
    · replace h := it_t c1 h
      refine ok_t ((c_lt tx2 (show (0 : Int32).toInt = 0 from rfl)).mpr c1) ?_
      exact o_ri0 (show ((-4) : Int32).toInt = (-4) from rfl) hM0 h
    · replace h := it_f c1 h
      refine ok_f (mt (c_lt tx2 (show (0 : Int32).toInt = 0 from rfl)).mp c1) ?_
      refine ok_b (o_rdS hM0 wx0.1 (wx0.2.1)) ?_
      refine ok_s ?_
      replace h := ob h; obtain ⟨zv4, ezv4, h⟩ := h
      obtain ⟨v4, ev4, tv4⟩ := o_ldI hM0 wx0.2.2 rfl tx2 ezv4
      refine ok_b ev4 ?_
      by_cases c2 : zv4 = (-4)
      · replace h := it_t c2 h
        refine ok_t ((c_eq tv4 (show ((-4) : Int32).toInt = (-4) from rfl)).mpr c2) ?_
        exact ih _ _ (t_add tx2 (show ((-1) : Int32).toInt = (-1) from rfl)) _ hM0 h
      · replace h := it_f c2 h
        refine ok_f (mt (c_eq tv4 (show ((-4) : Int32).toInt = (-4) from rfl)).mp c2) ?_
        refine ok_b (o_rdS hM0 wx0.1 (wx0.2.1)) ?_
        refine ok_s ?_
        replace h := ob h; obtain ⟨zv8, ezv8, h⟩ := h
        obtain ⟨v8, ev8, tv8⟩ := o_ldI hM0 wx0.2.2 rfl tx2 ezv8
        refine ok_b ev8 ?_
        exact o_ri0 tv8 hM0 h
set_option maxHeartbeats 4000000 in
set_option maxRecDepth 100000 in
theorem h_X0_fixBy {E : Em} {M : Mm} {J : Jm} (hM : Mre E M J) {this : Nat} (wthis : W0 E this) {p1 : Int32} {zp1 : Int} (tp1 : p1.toInt = zp1) {z : Int} (h : H_X0_fixBy this zp1 J = some z) : Ok (F_X0_fixBy this p1 M) (fun q => q.1.toInt = z ∧ Mre E q.2 J) := by
  unfold H_X0_fixBy at h
  unfold F_X0_fixBy
  refine h_X0_fixBy_L8 _  _ wthis _ _ _ (t_mn tp1 (show (399 : Int32).toInt = 399 from rfl)) _ hM h

set_option maxHeartbeats 4000000 in
set_option maxRecDepth 100000 in
theorem h_X1_become {E : Em} {M : Mm} {J : Jm} (hM : Mre E M J) {this : Nat} (wthis : W1 E this) {p1 : Nat} (wp1 : W1 E p1) {J1 : Jm} (h : H_X1_become E this p1 J = some J1) : Ok (F_X1_become this p1 M) (fun q => Mre E q J1) := by
  unfold H_X1_become at h
  unfold F_X1_become
  obtain ⟨v1, ev1, tv1⟩ := o_rdI (k := 0) hM wp1.1
  refine ok_b ev1 ?_
  replace h := nv_e h; obtain ⟨J2, eJ2, h⟩ := h
  obtain ⟨M2, eM2, hM2⟩ := o_wrI (k := 0) hM wthis.1 tv1 eJ2
  refine ok_b eM2 ?_
  refine ok_b (o_rdS hM2 wp1.1 (wp1.2.1.1)) ?_
  refine ok_b (o_rdS hM2 wthis.1 (wthis.2.1.1)) ?_
  refine ok_s ?_
  refine ok_s ?_
  replace h := ob h; obtain ⟨J7, eJ7, h⟩ := h
  obtain ⟨M7, eM7, hM7⟩ := h_X11_copyAll hM2 (⟨by rw [wp1.2.1.2], by rw [wp1.2.1.2]; exact (by decide)⟩ : Wa E (p1 + 1)) (⟨by rw [wthis.2.1.2], by rw [wthis.2.1.2]; exact (by decide)⟩ : Wa E (this + 1)) eJ7
  refine ok_b eM7 ?_
  refine ok_b (o_rdS hM7 wp1.1 (wp1.2.2.1.1)) ?_
  refine ok_b (o_rdS hM7 wthis.1 (wthis.2.2.1.1)) ?_
  refine ok_s ?_
  refine ok_s ?_
  replace h := ob h; obtain ⟨J12, eJ12, h⟩ := h
  obtain ⟨M12, eM12, hM12⟩ := h_X11_copyAll hM7 (⟨by rw [wp1.2.2.1.2], by rw [wp1.2.2.1.2]; exact (by decide)⟩ : Wa E (p1 + 2)) (⟨by rw [wthis.2.2.1.2], by rw [wthis.2.2.1.2]; exact (by decide)⟩ : Wa E (this + 2)) eJ12
  refine ok_b eM12 ?_
  refine ok_b (o_rdS hM12 wp1.1 (wp1.2.2.2.1.1)) ?_
  refine ok_b (o_rdS hM12 wthis.1 (wthis.2.2.2.1.1)) ?_
  refine ok_s ?_
  refine ok_s ?_
  replace h := ob h; obtain ⟨J17, eJ17, h⟩ := h
  obtain ⟨M17, eM17, hM17⟩ := h_X11_copyAll hM12 (⟨by rw [wp1.2.2.2.1.2], by rw [wp1.2.2.2.1.2]; exact (by decide)⟩ : Wa E (p1 + 3)) (⟨by rw [wthis.2.2.2.1.2], by rw [wthis.2.2.2.1.2]; exact (by decide)⟩ : Wa E (this + 3)) eJ17
  refine ok_b eM17 ?_
  refine ok_b (o_rdS hM17 wp1.1 (wp1.2.2.2.2.1)) ?_
  refine ok_b (o_rdS hM17 wthis.1 (wthis.2.2.2.2.1)) ?_
  refine ok_s ?_
  refine ok_s ?_
  replace h := ob h; obtain ⟨J22, eJ22, h⟩ := h
  obtain ⟨M22, eM22, hM22⟩ := h_X11_copyAll hM17 (⟨by rw [wp1.2.2.2.2.2], by rw [wp1.2.2.2.2.2]; exact (by decide)⟩ : Wa E (p1 + 4)) (⟨by rw [wthis.2.2.2.2.2], by rw [wthis.2.2.2.2.2]; exact (by decide)⟩ : Wa E (this + 4)) eJ22
  refine ok_b eM22 ?_
  exact o_rv hM22 h

set_option maxHeartbeats 4000000 in
set_option maxRecDepth 100000 in
theorem h_X1_send {E : Em} {M : Mm} {J : Jm} (hM : Mre E M J) {this : Nat} (wthis : W1 E this) {p1 : Int32} {zp1 : Int} (tp1 : p1.toInt = zp1) {p2 : Int32} {zp2 : Int} (tp2 : p2.toInt = zp2) {p3 : Int32} {zp3 : Int} (tp3 : p3.toInt = zp3) {z : Int} {J1 : Jm} (h : H_X1_send this zp1 zp2 zp3 J = some (z, J1)) : Ok (F_X1_send this p1 p2 p3 M) (fun q => q.1.toInt = z ∧ Mre E q.2 J1) := by
  unfold H_X1_send at h
  unfold F_X1_send
  refine ok_b (o_rdS hM wthis.1 (wthis.2.1.1)) ?_
  obtain ⟨v2, ev2, tv2⟩ := o_rdI (k := 0) hM wthis.1
  refine ok_b ev2 ?_
  refine ok_s ?_
  replace h := ob h; obtain ⟨J3, eJ3, h⟩ := h
  obtain ⟨M3, eM3, hM3⟩ := o_stI hM wthis.2.1.2 rfl tv2 tp1 eJ3
  refine ok_b eM3 ?_
  refine ok_b (o_rdS hM3 wthis.1 (wthis.2.2.1.1)) ?_
  obtain ⟨v6, ev6, tv6⟩ := o_rdI (k := 0) hM3 wthis.1
  refine ok_b ev6 ?_
  refine ok_s ?_
  replace h := ob h; obtain ⟨J7, eJ7, h⟩ := h
  obtain ⟨M7, eM7, hM7⟩ := o_stI hM3 wthis.2.2.1.2 rfl tv6 tp2 eJ7
  refine ok_b eM7 ?_
  refine ok_b (o_rdS hM7 wthis.1 (wthis.2.2.2.1.1)) ?_
  obtain ⟨v10, ev10, tv10⟩ := o_rdI (k := 0) hM7 wthis.1
  refine ok_b ev10 ?_
  refine ok_s ?_
  replace h := ob h; obtain ⟨J11, eJ11, h⟩ := h
  obtain ⟨M11, eM11, hM11⟩ := o_stI hM7 wthis.2.2.2.1.2 rfl tv10 tp3 eJ11
  refine ok_b eM11 ?_
  refine ok_b (o_rdS hM11 wthis.1 (wthis.2.2.2.2.1)) ?_
  obtain ⟨v14, ev14, tv14⟩ := o_rdI (k := 0) hM11 wthis.1
  refine ok_b ev14 ?_
  refine ok_s ?_
  replace h := ob h; obtain ⟨J15, eJ15, h⟩ := h
  obtain ⟨M15, eM15, hM15⟩ := o_stI hM11 wthis.2.2.2.2.2 rfl tv14 (show (0 : Int32).toInt = 0 from rfl) eJ15
  refine ok_b eM15 ?_
  obtain ⟨v17, ev17, tv17⟩ := o_rdI (k := 0) hM15 wthis.1
  refine ok_b ev17 ?_
  replace h := nv_e h; obtain ⟨J18, eJ18, h⟩ := h
  obtain ⟨M18, eM18, hM18⟩ := o_wrI (k := 0) hM15 wthis.1 (t_add tv17 (show (1 : Int32).toInt = 1 from rfl)) eJ18
  refine ok_b eM18 ?_
  obtain ⟨v19, ev19, tv19⟩ := o_rdI (k := 0) hM18 wthis.1
  refine ok_b ev19 ?_
  exact o_ri tv19 hM18 h

set_option maxHeartbeats 4000000 in
set_option maxRecDepth 100000 in
theorem h_X1_unheardBy_L4 {E : Em} {z : Int} (J : Jm)  (x0 : Nat) (wx0 : W1 E x0) (x1 : Int32) (zx1 : Int) (tx1 : x1.toInt = zx1) : ∀ (fu : Nat), ∀ (x2 : Int32) (zx2 : Int), x2.toInt = zx2 → ∀ (x3 : Int32) (zx3 : Int), x3.toInt = zx3 → ∀ (M0 : Mm), Mre E M0 J → H_X1_unheardBy_L4 x0 zx1 J fu zx2 zx3 = some z → Ok (F_X1_unheardBy_L4 x0 x1 fu x2 x3 M0) (fun q => q.1.toInt = z ∧ Mre E q.2 J) := by
  intro fu
  induction fu with
  | zero =>
    intro x2 zx2 tx2 x3 zx3 tx3 M0 hM0 h
    rw [H_X1_unheardBy_L4] at h
    cases h
  | succ n1 ih =>
    intro x2 zx2 tx2 x3 zx3 tx3 M0 hM0 h
    rw [H_X1_unheardBy_L4] at h
    rw [F_X1_unheardBy_L4]
    obtain ⟨v2, ev2, tv2⟩ := o_rdI (k := 0) hM0 wx0.1
    refine ok_b ev2 ?_
    by_cases c1 : (J x0 0) ≤ zx3
    · replace h := it_t c1 h
      refine ok_t ((c_le tv2 tx3).mpr c1) ?_
      exact o_ri0 tx2 hM0 h
    · replace h := it_f c1 h
      refine ok_f (mt (c_le tv2 tx3).mp c1) ?_
      refine ok_b (o_rdS hM0 wx0.1 (wx0.2.1.1)) ?_
      refine ok_s ?_
      replace h := ob h; obtain ⟨zv5, ezv5, h⟩ := h
      obtain ⟨v5, ev5, tv5⟩ := o_ldI hM0 wx0.2.1.2 rfl tx3 ezv5
      refine ok_b ev5 ?_
      by_cases c2 : zv5 = zx1
      · replace h := it_t c2 h
        refine ok_t ((c_eq tv5 tx1).mpr c2) ?_
        refine ok_b (o_rdS hM0 wx0.1 (wx0.2.2.2.2.1)) ?_
        refine ok_s ?_
        replace h := ob h; obtain ⟨zv9, ezv9, h⟩ := h
        obtain ⟨v9, ev9, tv9⟩ := o_ldI hM0 wx0.2.2.2.2.2 rfl tx3 ezv9
        refine ok_b ev9 ?_
        by_cases c3 : zv9 = 0
        · replace h := it_t c3 h
          refine ok_t ((c_eq tv9 (show (0 : Int32).toInt = 0 from rfl)).mpr c3) ?_
          exact ih _ _ (t_add tx2 (show (1 : Int32).toInt = 1 from rfl)) _ _ (t_add tx3 (show (1 : Int32).toInt = 1 from rfl)) _ hM0 h
        · replace h := it_f c3 h
          refine ok_f (mt (c_eq tv9 (show (0 : Int32).toInt = 0 from rfl)).mp c3) ?_
          exact ih _ _ tx2 _ _ (t_add tx3 (show (1 : Int32).toInt = 1 from rfl)) _ hM0 h
      · replace h := it_f c2 h
        refine ok_f (mt (c_eq tv5 tx1).mp c2) ?_
        exact ih _ _ tx2 _ _ (t_add tx3 (show (1 : Int32).toInt = 1 from rfl)) _ hM0 h
set_option maxHeartbeats 4000000 in
set_option maxRecDepth 100000 in
theorem h_X1_unheardBy {E : Em} {M : Mm} {J : Jm} (hM : Mre E M J) {this : Nat} (wthis : W1 E this) {p1 : Int32} {zp1 : Int} (tp1 : p1.toInt = zp1) {z : Int} (h : H_X1_unheardBy this zp1 J = some z) : Ok (F_X1_unheardBy this p1 M) (fun q => q.1.toInt = z ∧ Mre E q.2 J) := by
  unfold H_X1_unheardBy at h
  unfold F_X1_unheardBy
  refine h_X1_unheardBy_L4 _  _ wthis _ _ tp1 _ _ _ (show (0 : Int32).toInt = 0 from rfl) _ _ (show (0 : Int32).toInt = 0 from rfl) _ hM h

set_option maxHeartbeats 4000000 in
set_option maxRecDepth 100000 in
theorem h_X1_hearBy_L6 {E : Em} {z : Int} {J1 : Jm}   (x0 : Nat) (wx0 : W1 E x0) (x1 : Int32) (zx1 : Int) (tx1 : x1.toInt = zx1) (x2 : Int32) (zx2 : Int) (tx2 : x2.toInt = zx2) : ∀ (fu : Nat), ∀ (x4 : Int32) (zx4 : Int), x4.toInt = zx4 → ∀ (x5 : Int32) (zx5 : Int), x5.toInt = zx5 → ∀ (M0 : Mm) (J0 : Jm), Mre E M0 J0 → H_X1_hearBy_L6 x0 zx1 zx2 fu zx4 zx5 J0 = some (z, J1) → Ok (F_X1_hearBy_L6 x0 x1 x2 fu x4 x5 M0) (fun q => q.1.toInt = z ∧ Mre E q.2 J1) := by
  intro fu
  induction fu with
  | zero =>
    intro x4 zx4 tx4 x5 zx5 tx5 M0 J0 hM0 h
    rw [H_X1_hearBy_L6] at h
    cases h
  | succ n1 ih =>
    intro x4 zx4 tx4 x5 zx5 tx5 M0 J0 hM0 h
    rw [H_X1_hearBy_L6] at h
    rw [F_X1_hearBy_L6]
    obtain ⟨v2, ev2, tv2⟩ := o_rdI (k := 0) hM0 wx0.1
    refine ok_b ev2 ?_
    by_cases c1 : (J0 x0 0) ≤ zx5
    · replace h := it_t c1 h
      refine ok_t ((c_le tv2 tx5).mpr c1) ?_
      exact o_ri tx4 hM0 h
    · replace h := it_f c1 h
      refine ok_f (mt (c_le tv2 tx5).mp c1) ?_
      refine ok_b (o_rdS hM0 wx0.1 (wx0.2.1.1)) ?_
      refine ok_s ?_
      replace h := ob h; obtain ⟨zv5, ezv5, h⟩ := h
      obtain ⟨v5, ev5, tv5⟩ := o_ldI hM0 wx0.2.1.2 rfl tx5 ezv5
      refine ok_b ev5 ?_
      by_cases c2 : zv5 = zx1
      · replace h := it_t c2 h
        refine ok_t ((c_eq tv5 tx1).mpr c2) ?_
        refine ok_b (o_rdS hM0 wx0.1 (wx0.2.2.2.2.1)) ?_
        refine ok_s ?_
        replace h := ob h; obtain ⟨zv9, ezv9, h⟩ := h
        obtain ⟨v9, ev9, tv9⟩ := o_ldI hM0 wx0.2.2.2.2.2 rfl tx5 ezv9
        refine ok_b ev9 ?_
        by_cases c3 : zv9 = 0
        · replace h := it_t c3 h
          refine ok_t ((c_eq tv9 (show (0 : Int32).toInt = 0 from rfl)).mpr c3) ?_
          refine ok_b (o_rdS hM0 wx0.1 (wx0.2.2.2.1.1)) ?_
          refine ok_s ?_
          replace h := ob h; obtain ⟨zv13, ezv13, h⟩ := h
          obtain ⟨v13, ev13, tv13⟩ := o_ldI hM0 wx0.2.2.2.1.2 rfl tx5 ezv13
          refine ok_b ev13 ?_
          by_cases c4 : zx2 ≤ zv13
          · replace h := it_t c4 h
            refine ok_t ((c_le tx2 tv13).mpr c4) ?_
            exact ih _ _ tx4 _ _ (t_add tx5 (show (1 : Int32).toInt = 1 from rfl)) _ _ hM0 h
          · replace h := it_f c4 h
            refine ok_f (mt (c_le tx2 tv13).mp c4) ?_
            refine ok_b (o_rdS hM0 wx0.1 (wx0.2.2.2.2.1)) ?_
            refine ok_s ?_
            replace h := ob h; obtain ⟨J17, eJ17, h⟩ := h
            obtain ⟨M17, eM17, hM17⟩ := o_stI hM0 wx0.2.2.2.2.2 rfl tx5 (show (1 : Int32).toInt = 1 from rfl) eJ17
            refine ok_b eM17 ?_
            refine ok_b (o_rdS hM17 wx0.1 (wx0.2.2.1.1)) ?_
            refine ok_s ?_
            replace h := ob h; obtain ⟨zv20, ezv20, h⟩ := h
            obtain ⟨v20, ev20, tv20⟩ := o_ldI hM17 wx0.2.2.1.2 rfl tx5 ezv20
            refine ok_b ev20 ?_
            exact ih _ _ tv20 _ _ (t_add tx5 (show (1 : Int32).toInt = 1 from rfl)) _ _ hM17 h
        · replace h := it_f c3 h
          refine ok_f (mt (c_eq tv9 (show (0 : Int32).toInt = 0 from rfl)).mp c3) ?_
          exact ih _ _ tx4 _ _ (t_add tx5 (show (1 : Int32).toInt = 1 from rfl)) _ _ hM0 h
      · replace h := it_f c2 h
        refine ok_f (mt (c_eq tv5 tx1).mp c2) ?_
        exact ih _ _ tx4 _ _ (t_add tx5 (show (1 : Int32).toInt = 1 from rfl)) _ _ hM0 h
set_option maxHeartbeats 4000000 in
set_option maxRecDepth 100000 in
theorem h_X1_hearBy {E : Em} {M : Mm} {J : Jm} (hM : Mre E M J) {this : Nat} (wthis : W1 E this) {p1 : Int32} {zp1 : Int} (tp1 : p1.toInt = zp1) {p2 : Int32} {zp2 : Int} (tp2 : p2.toInt = zp2) {p3 : Int32} {zp3 : Int} (tp3 : p3.toInt = zp3) {z : Int} {J1 : Jm} (h : H_X1_hearBy this zp1 zp2 zp3 J = some (z, J1)) : Ok (F_X1_hearBy this p1 p2 p3 M) (fun q => q.1.toInt = z ∧ Mre E q.2 J1) := by
  unfold H_X1_hearBy at h
  unfold F_X1_hearBy
  refine h_X1_hearBy_L6   _ wthis _ _ tp1 _ _ tp2 _ _ _ tp3 _ _ (show (0 : Int32).toInt = 0 from rfl) _ _ hM h

set_option maxHeartbeats 4000000 in
set_option maxRecDepth 100000 in
theorem h_X2_addCheck {E : Em} {M : Mm} {J : Jm} (hM : Mre E M J) {this : Nat} (wthis : W2 E this) {p1 : Int32} {zp1 : Int} (tp1 : p1.toInt = zp1) {p2 : Int32} {zp2 : Int} (tp2 : p2.toInt = zp2) {p3 : Int32} {zp3 : Int} (tp3 : p3.toInt = zp3) {p4 : Int32} {zp4 : Int} (tp4 : p4.toInt = zp4) {J1 : Jm} (h : H_X2_addCheck this zp1 zp2 zp3 zp4 J = some J1) : Ok (F_X2_addCheck this p1 p2 p3 p4 M) (fun q => Mre E q J1) := by
  unfold H_X2_addCheck at h
  unfold F_X2_addCheck
  obtain ⟨v1, ev1, tv1⟩ := o_rdI (k := 1) hM wthis.1
  refine ok_b ev1 ?_
  by_cases c1 : 20 ≤ (J this 1)
  · replace h := it_t c1 h
    refine ok_t ((c_le (show (20 : Int32).toInt = 20 from rfl) tv1).mpr c1) ?_
    exact o_rv hM h
  · replace h := it_f c1 h
    refine ok_f (mt (c_le (show (20 : Int32).toInt = 20 from rfl) tv1).mp c1) ?_
    refine ok_b (o_rdS hM wthis.1 (wthis.2.2.2.2.2.1.1)) ?_
    obtain ⟨v4, ev4, tv4⟩ := o_rdI (k := 1) hM wthis.1
    refine ok_b ev4 ?_
    refine ok_s ?_
    replace h := ob h; obtain ⟨J5, eJ5, h⟩ := h
    obtain ⟨M5, eM5, hM5⟩ := o_stI hM wthis.2.2.2.2.2.1.2 rfl tv4 tp1 eJ5
    refine ok_b eM5 ?_
    refine ok_b (o_rdS hM5 wthis.1 (wthis.2.2.2.2.2.2.1.1)) ?_
    obtain ⟨v8, ev8, tv8⟩ := o_rdI (k := 1) hM5 wthis.1
    refine ok_b ev8 ?_
    refine ok_s ?_
    replace h := ob h; obtain ⟨J9, eJ9, h⟩ := h
    obtain ⟨M9, eM9, hM9⟩ := o_stI hM5 wthis.2.2.2.2.2.2.1.2 rfl tv8 tp2 eJ9
    refine ok_b eM9 ?_
    refine ok_b (o_rdS hM9 wthis.1 (wthis.2.2.2.2.2.2.2.1.1)) ?_
    obtain ⟨v12, ev12, tv12⟩ := o_rdI (k := 1) hM9 wthis.1
    refine ok_b ev12 ?_
    refine ok_s ?_
    replace h := ob h; obtain ⟨J13, eJ13, h⟩ := h
    obtain ⟨M13, eM13, hM13⟩ := o_stI hM9 wthis.2.2.2.2.2.2.2.1.2 rfl tv12 tp3 eJ13
    refine ok_b eM13 ?_
    refine ok_b (o_rdS hM13 wthis.1 (wthis.2.2.2.2.2.2.2.2.1)) ?_
    obtain ⟨v16, ev16, tv16⟩ := o_rdI (k := 1) hM13 wthis.1
    refine ok_b ev16 ?_
    refine ok_s ?_
    replace h := ob h; obtain ⟨_, hzM17, h⟩ := h
    replace h := ob h; obtain ⟨J17, eJ17, h⟩ := h
    obtain ⟨M17, eM17, hM17⟩ := o_stZ hM13 wthis.2.2.2.2.2.2.2.2.2 rfl tv16 tp4 (jZ_e hzM17) eJ17
    refine ok_b eM17 ?_
    obtain ⟨v19, ev19, tv19⟩ := o_rdI (k := 1) hM17 wthis.1
    refine ok_b ev19 ?_
    replace h := nv_e h; obtain ⟨J20, eJ20, h⟩ := h
    obtain ⟨M20, eM20, hM20⟩ := o_wrI (k := 1) hM17 wthis.1 (t_add tv19 (show (1 : Int32).toInt = 1 from rfl)) eJ20
    refine ok_b eM20 ?_
    exact o_rv hM20 h

set_option maxHeartbeats 4000000 in
set_option maxRecDepth 100000 in
theorem h_X2_addRule {E : Em} {M : Mm} {J : Jm} (hM : Mre E M J) {this : Nat} (wthis : W2 E this) {p1 : Int32} {zp1 : Int} (tp1 : p1.toInt = zp1) {p2 : Int32} {zp2 : Int} (tp2 : p2.toInt = zp2) {p3 : Int32} {zp3 : Int} (tp3 : p3.toInt = zp3) {J1 : Jm} (h : H_X2_addRule this zp1 zp2 zp3 J = some J1) : Ok (F_X2_addRule this p1 p2 p3 M) (fun q => Mre E q J1) := by
  unfold H_X2_addRule at h
  unfold F_X2_addRule
  obtain ⟨v1, ev1, tv1⟩ := o_rdI (k := 0) hM wthis.1
  refine ok_b ev1 ?_
  by_cases c1 : 6 ≤ (J this 0)
  · replace h := it_t c1 h
    refine ok_t ((c_le (show (6 : Int32).toInt = 6 from rfl) tv1).mpr c1) ?_
    exact o_rv hM h
  · replace h := it_f c1 h
    refine ok_f (mt (c_le (show (6 : Int32).toInt = 6 from rfl) tv1).mp c1) ?_
    refine ok_b (o_rdS hM wthis.1 (wthis.2.2.1.1)) ?_
    obtain ⟨v4, ev4, tv4⟩ := o_rdI (k := 0) hM wthis.1
    refine ok_b ev4 ?_
    refine ok_s ?_
    replace h := ob h; obtain ⟨J5, eJ5, h⟩ := h
    obtain ⟨M5, eM5, hM5⟩ := o_stI hM wthis.2.2.1.2 rfl tv4 tp1 eJ5
    refine ok_b eM5 ?_
    refine ok_b (o_rdS hM5 wthis.1 (wthis.2.2.2.1.1)) ?_
    obtain ⟨v8, ev8, tv8⟩ := o_rdI (k := 0) hM5 wthis.1
    refine ok_b ev8 ?_
    refine ok_s ?_
    replace h := ob h; obtain ⟨J9, eJ9, h⟩ := h
    obtain ⟨M9, eM9, hM9⟩ := o_stI hM5 wthis.2.2.2.1.2 rfl tv8 tp2 eJ9
    refine ok_b eM9 ?_
    refine ok_b (o_rdS hM9 wthis.1 (wthis.2.2.2.2.1.1)) ?_
    obtain ⟨v12, ev12, tv12⟩ := o_rdI (k := 0) hM9 wthis.1
    refine ok_b ev12 ?_
    refine ok_s ?_
    replace h := ob h; obtain ⟨J13, eJ13, h⟩ := h
    obtain ⟨M13, eM13, hM13⟩ := o_stI hM9 wthis.2.2.2.2.1.2 rfl tv12 tp3 eJ13
    refine ok_b eM13 ?_
    refine ok_b (o_rdS hM13 wthis.1 (wthis.2.1.1)) ?_
    obtain ⟨v16, ev16, tv16⟩ := o_rdI (k := 0) hM13 wthis.1
    refine ok_b ev16 ?_
    obtain ⟨v17, ev17, tv17⟩ := o_rdI (k := 1) hM13 wthis.1
    refine ok_b ev17 ?_
    refine ok_s ?_
    replace h := ob h; obtain ⟨J18, eJ18, h⟩ := h
    obtain ⟨M18, eM18, hM18⟩ := o_stI hM13 wthis.2.1.2 rfl tv16 tv17 eJ18
    refine ok_b eM18 ?_
    obtain ⟨v20, ev20, tv20⟩ := o_rdI (k := 0) hM18 wthis.1
    refine ok_b ev20 ?_
    replace h := nv_e h; obtain ⟨J21, eJ21, h⟩ := h
    obtain ⟨M21, eM21, hM21⟩ := o_wrI (k := 0) hM18 wthis.1 (t_add tv20 (show (1 : Int32).toInt = 1 from rfl)) eJ21
    refine ok_b eM21 ?_
    exact o_rv hM21 h

set_option maxHeartbeats 4000000 in
set_option maxRecDepth 100000 in
theorem h_X2_holds {E : Em} {M : Mm} {J : Jm} (hM : Mre E M J) {this : Nat} (wthis : W2 E this) {p1 : Int32} {zp1 : Int} (tp1 : p1.toInt = zp1) {p2 : Int32} {zp2 : Int} (tp2 : p2.toInt = zp2) {z : Int} (h : H_X2_holds this zp1 zp2 J = some z) : Ok (F_X2_holds this p1 p2 M) (fun q => q.1.toInt = z ∧ Mre E q.2 J) := by
  unfold H_X2_holds at h
  unfold F_X2_holds
  refine ok_b (o_rdS hM wthis.1 (wthis.2.2.2.2.2.2.1.1)) ?_
  refine ok_s ?_
  replace h := ob h; obtain ⟨zv2, ezv2, h⟩ := h
  obtain ⟨v2, ev2, tv2⟩ := o_ldI hM wthis.2.2.2.2.2.2.1.2 rfl tp1 ezv2
  refine ok_b ev2 ?_
  replace h := jp_e h; obtain ⟨k4h, ek4h, h⟩ := h
  refine ok_jp (fun k4 ek4 => ?_)
  have Jk4 : ∀ (x5 : Int32) (zx5 : Int), x5.toInt = zx5 → ∀ (M6 : Mm), Mre E M6 J → k4h zx5 = some z → Ok (k4 x5 M6) (fun q => q.1.toInt = z ∧ Mre E q.2 J) := by
    intro x5 zx5 tx5 M6 hM6 h
    rw [ek4]
    rw [ek4h] at h
    refine ok_b (o_rdS hM6 wthis.1 (wthis.2.2.2.2.2.2.2.2.1)) ?_
    refine ok_s ?_
    replace h := ob h; obtain ⟨zv8, ezv8, h⟩ := h
    obtain ⟨v8, ev8, tv8⟩ := o_ldZ hM6 wthis.2.2.2.2.2.2.2.2.2 rfl tp1 ezv8
    refine ok_b ev8 ?_
    by_cases c1 : zx5 = zv8
    · replace h := it_t c1 h
      refine ok_t ((c_eq tx5 tv8).mpr c1) ?_
      exact o_ri0 (show (0 : Int32).toInt = 0 from rfl) hM6 h
    · replace h := it_f c1 h
      refine ok_f (mt (c_eq tx5 tv8).mp c1) ?_
      exact o_ri0 (show (1 : Int32).toInt = 1 from rfl) hM6 h
  by_cases c2 : zv2 = 60
  · replace h := it_t c2 h
    refine ok_t ((c_eq tv2 (show (60 : Int32).toInt = 60 from rfl)).mpr c2) ?_
    refine ok_b (o_rdS hM wthis.1 (wthis.2.2.2.2.2.2.2.1.1)) ?_
    refine ok_s ?_
    replace h := ob h; obtain ⟨zv14, ezv14, h⟩ := h
    obtain ⟨v14, ev14, tv14⟩ := o_ldI hM wthis.2.2.2.2.2.2.2.1.2 rfl tp1 ezv14
    refine ok_b ev14 ?_
    replace h := nv_e h; obtain ⟨zv16, ezv16, h⟩ := h
    obtain ⟨v16, evv16⟩ : ∃ v : Int32, v = (if v14 ≤ p2 then 0 else 1) := ⟨_, rfl⟩
    have tv16 : v16.toInt = zv16 := by rw [evv16, ezv16]; exact (t_ite (c_le tv14 tp2) (show (0 : Int32).toInt = 0 from rfl) (show (1 : Int32).toInt = 1 from rfl))
    refine ok_nv evv16 ?_
    exact Jk4 _ _ tv16 _ hM h
  · replace h := it_f c2 h
    refine ok_f (mt (c_eq tv2 (show (60 : Int32).toInt = 60 from rfl)).mp c2) ?_
    by_cases c3 : zv2 = 62
    · replace h := it_t c3 h
      refine ok_t ((c_eq tv2 (show (62 : Int32).toInt = 62 from rfl)).mpr c3) ?_
      refine ok_b (o_rdS hM wthis.1 (wthis.2.2.2.2.2.2.2.1.1)) ?_
      refine ok_s ?_
      replace h := ob h; obtain ⟨zv21, ezv21, h⟩ := h
      obtain ⟨v21, ev21, tv21⟩ := o_ldI hM wthis.2.2.2.2.2.2.2.1.2 rfl tp1 ezv21
      refine ok_b ev21 ?_
      replace h := nv_e h; obtain ⟨zv23, ezv23, h⟩ := h
      obtain ⟨v23, evv23⟩ : ∃ v : Int32, v = (if p2 ≤ v21 then 0 else 1) := ⟨_, rfl⟩
      have tv23 : v23.toInt = zv23 := by rw [evv23, ezv23]; exact (t_ite (c_le tp2 tv21) (show (0 : Int32).toInt = 0 from rfl) (show (1 : Int32).toInt = 1 from rfl))
      refine ok_nv evv23 ?_
      exact Jk4 _ _ tv23 _ hM h
    · replace h := it_f c3 h
      refine ok_f (mt (c_eq tv2 (show (62 : Int32).toInt = 62 from rfl)).mp c3) ?_
      refine ok_b (o_rdS hM wthis.1 (wthis.2.2.2.2.2.2.2.1.1)) ?_
      refine ok_s ?_
      replace h := ob h; obtain ⟨zv27, ezv27, h⟩ := h
      obtain ⟨v27, ev27, tv27⟩ := o_ldI hM wthis.2.2.2.2.2.2.2.1.2 rfl tp1 ezv27
      refine ok_b ev27 ?_
      replace h := nv_e h; obtain ⟨zv29, ezv29, h⟩ := h
      obtain ⟨v29, evv29⟩ : ∃ v : Int32, v = (if p2 = v27 then 1 else 0) := ⟨_, rfl⟩
      have tv29 : v29.toInt = zv29 := by rw [evv29, ezv29]; exact (t_ite (c_eq tp2 tv27) (show (1 : Int32).toInt = 1 from rfl) (show (0 : Int32).toInt = 0 from rfl))
      refine ok_nv evv29 ?_
      exact Jk4 _ _ tv29 _ hM h

set_option maxHeartbeats 4000000 in
set_option maxRecDepth 100000 in
theorem h_X3_take {E : Em} {M : Mm} {J : Jm} (hM : Mre E M J) {this : Nat} (wthis : W3 E this) {p1 : Int32} {zp1 : Int} (tp1 : p1.toInt = zp1) {z : Int} {J1 : Jm} (h : H_X3_take E this zp1 J = some (z, J1)) : Ok (F_X3_take this p1 M) (fun q => q.1.toInt = z ∧ Mre E q.2 J1) := by
  unfold H_X3_take at h
  unfold F_X3_take
  obtain ⟨v1, ev1, tv1⟩ := o_rdI (k := 3) hM wthis.1
  refine ok_b ev1 ?_
  obtain ⟨v2, ev2, tv2⟩ := o_rdI (k := 2) hM wthis.1
  refine ok_b ev2 ?_
  by_cases c1 : (J this 2) ≤ (J this 3)
  · replace h := it_t c1 h
    refine ok_t ((c_le tv2 tv1).mpr c1) ?_
    exact o_ri (show (0 : Int32).toInt = 0 from rfl) hM h
  · replace h := it_f c1 h
    refine ok_f (mt (c_le tv2 tv1).mp c1) ?_
    refine ok_b (o_rdR hM wthis.1) ?_
    obtain ⟨v5, ev5, tv5⟩ := o_rdI (k := 3) hM wthis.1
    refine ok_b ev5 ?_
    replace h := ob h; obtain ⟨a7, ea7, h⟩ := h
    refine ok_b ea7 ?_
    replace h := ob h; obtain ⟨zv6, ezv6, h⟩ := h
    obtain ⟨v6, ev6, tv6⟩ := o_ldI hM (Wa.k (wthis.2.2 _ ea7)) rfl tv5 ezv6
    refine ok_b ev6 ?_
    by_cases c2 : zv6 = zp1
    · replace h := it_t c2 h
      refine ok_t ((c_eq tv6 tp1).mpr c2) ?_
      obtain ⟨v9, ev9, tv9⟩ := o_rdI (k := 3) hM wthis.1
      refine ok_b ev9 ?_
      replace h := nv_e h; obtain ⟨J10, eJ10, h⟩ := h
      obtain ⟨M10, eM10, hM10⟩ := o_wrI (k := 3) hM wthis.1 (t_add tv9 (show (1 : Int32).toInt = 1 from rfl)) eJ10
      refine ok_b eM10 ?_
      exact o_ri (show (1 : Int32).toInt = 1 from rfl) hM10 h
    · replace h := it_f c2 h
      refine ok_f (mt (c_eq tv6 tp1).mp c2) ?_
      exact o_ri (show (0 : Int32).toInt = 0 from rfl) hM h

set_option maxHeartbeats 4000000 in
set_option maxRecDepth 100000 in
theorem h_X3_takeOneOf_L2 {E : Em} {z : Int} {J1 : Jm}   (x0 : Nat) (wx0 : W3 E x0) (x1 : Nat) : ∀ (fu : Nat), ∀ (x2 : Int32) (zx2 : Int), x2.toInt = zx2 → ∀ (M0 : Mm) (J0 : Jm), Mre E M0 J0 → H_X3_takeOneOf_L2 E x0 x1 fu zx2 J0 = some (z, J1) → Ok (F_X3_takeOneOf_L2 x0 x1 fu x2 M0) (fun q => q.1.toInt = z ∧ Mre E q.2 J1) := by
  intro fu
  induction fu with
  | zero =>
    intro x2 zx2 tx2 M0 J0 hM0 h
    rw [H_X3_takeOneOf_L2] at h
    cases h
  | succ n1 ih =>
    intro x2 zx2 tx2 M0 J0 hM0 h
    rw [H_X3_takeOneOf_L2] at h
    rw [F_X3_takeOneOf_L2]
    replace h := ob h; obtain ⟨zv2, ezv2, h⟩ := h
    obtain ⟨v2, ev2, tv2⟩ := o_txL ezv2
    refine ok_b ev2 ?_
    by_cases c1 : zv2 ≤ zx2
    · replace h := it_t c1 h
      refine ok_t ((c_le tv2 tx2).mpr c1) ?_
      exact o_ri (show ((-1) : Int32).toInt = (-1) from rfl) hM0 h
    · replace h := it_f c1 h
      refine ok_f (mt (c_le tv2 tx2).mp c1) ?_
      replace h := ob h; obtain ⟨zv4, ezv4, h⟩ := h
      obtain ⟨v4, ev4, tv4⟩ := o_txC tx2 ezv4
      refine ok_b ev4 ?_
      refine ok_b (o_isO hM0 wx0.1) ?_
      replace h := ob h; obtain ⟨⟨zv7, J5⟩, ezv7, h⟩ := h
      obtain ⟨⟨v7, M5⟩, eM5, tv7, hM5⟩ := h_X3_take hM0 wx0 tv4 ezv7
      refine ok_b eM5 ?_
      by_cases c2 : zv7 = 0
      · replace h := it_t c2 h
        refine ok_t ((c_eq tv7 (show (0 : Int32).toInt = 0 from rfl)).mpr c2) ?_
        exact ih _ _ (t_add tx2 (show (1 : Int32).toInt = 1 from rfl)) _ _ hM5 h
      · replace h := it_f c2 h
        refine ok_f (mt (c_eq tv7 (show (0 : Int32).toInt = 0 from rfl)).mp c2) ?_
        replace h := ob h; obtain ⟨zv9, ezv9, h⟩ := h
        obtain ⟨v9, ev9, tv9⟩ := o_txC tx2 ezv9
        refine ok_b ev9 ?_
        exact o_ri tv9 hM5 h
set_option maxHeartbeats 4000000 in
set_option maxRecDepth 100000 in
theorem h_X3_takeOneOf {E : Em} {M : Mm} {J : Jm} (hM : Mre E M J) {this : Nat} (wthis : W3 E this) {p1 : Nat} {z : Int} {J1 : Jm} (h : H_X3_takeOneOf E this p1 J = some (z, J1)) : Ok (F_X3_takeOneOf this p1 M) (fun q => q.1.toInt = z ∧ Mre E q.2 J1) := by
  unfold H_X3_takeOneOf at h
  unfold F_X3_takeOneOf
  refine h_X3_takeOneOf_L2   _ wthis _ _ _ _ (show (0 : Int32).toInt = 0 from rfl) _ _ hM h

set_option maxHeartbeats 4000000 in
set_option maxRecDepth 100000 in
theorem h_X3_takeDigit {E : Em} {M : Mm} {J : Jm} (hM : Mre E M J) {this : Nat} (wthis : W3 E this) {p1 : Int32} {zp1 : Int} (tp1 : p1.toInt = zp1) {z : Int} {J1 : Jm} (h : H_X3_takeDigit E this zp1 J = some (z, J1)) : Ok (F_X3_takeDigit this p1 M) (fun q => q.1.toInt = z ∧ Mre E q.2 J1) := by
  unfold H_X3_takeDigit at h
  unfold F_X3_takeDigit
  obtain ⟨v1, ev1, tv1⟩ := o_rdI (k := 3) hM wthis.1
  refine ok_b ev1 ?_
  obtain ⟨v2, ev2, tv2⟩ := o_rdI (k := 2) hM wthis.1
  refine ok_b ev2 ?_
  by_cases c1 : (J this 2) ≤ (J this 3)
  · replace h := it_t c1 h
    refine ok_t ((c_le tv2 tv1).mpr c1) ?_
    exact o_ri (show ((-1) : Int32).toInt = (-1) from rfl) hM h
  · replace h := it_f c1 h
    refine ok_f (mt (c_le tv2 tv1).mp c1) ?_
    refine ok_b (o_rdR hM wthis.1) ?_
    obtain ⟨v5, ev5, tv5⟩ := o_rdI (k := 3) hM wthis.1
    refine ok_b ev5 ?_
    replace h := ob h; obtain ⟨a7, ea7, h⟩ := h
    refine ok_b ea7 ?_
    replace h := ob h; obtain ⟨zv6, ezv6, h⟩ := h
    obtain ⟨v6, ev6, tv6⟩ := o_ldI hM (Wa.k (wthis.2.2 _ ea7)) rfl tv5 ezv6
    refine ok_b ev6 ?_
    by_cases c2 : zv6 < 48
    · replace h := it_t c2 h
      refine ok_t ((c_lt tv6 (show (48 : Int32).toInt = 48 from rfl)).mpr c2) ?_
      exact o_ri (show ((-1) : Int32).toInt = (-1) from rfl) hM h
    · replace h := it_f c2 h
      refine ok_f (mt (c_lt tv6 (show (48 : Int32).toInt = 48 from rfl)).mp c2) ?_
      refine ok_b (o_rdR hM wthis.1) ?_
      obtain ⟨v10, ev10, tv10⟩ := o_rdI (k := 3) hM wthis.1
      refine ok_b ev10 ?_
      replace h := ob h; obtain ⟨a12, ea12, h⟩ := h
      refine ok_b ea12 ?_
      replace h := ob h; obtain ⟨zv11, ezv11, h⟩ := h
      obtain ⟨v11, ev11, tv11⟩ := o_ldI hM (Wa.k (wthis.2.2 _ ea12)) rfl tv10 ezv11
      refine ok_b ev11 ?_
      by_cases c3 : zv11 ≤ (wr (48 + zp1))
      · replace h := it_t c3 h
        refine ok_t ((c_le tv11 (t_add (show (48 : Int32).toInt = 48 from rfl) tp1)).mpr c3) ?_
        obtain ⟨v14, ev14, tv14⟩ := o_rdI (k := 3) hM wthis.1
        refine ok_b ev14 ?_
        replace h := nv_e h; obtain ⟨J15, eJ15, h⟩ := h
        obtain ⟨M15, eM15, hM15⟩ := o_wrI (k := 3) hM wthis.1 (t_add tv14 (show (1 : Int32).toInt = 1 from rfl)) eJ15
        refine ok_b eM15 ?_
        refine ok_b (o_rdR hM15 wthis.1) ?_
        obtain ⟨v17, ev17, tv17⟩ := o_rdI (k := 3) hM15 wthis.1
        refine ok_b ev17 ?_
        replace h := ob h; obtain ⟨a19, ea19, h⟩ := h
        refine ok_b ea19 ?_
        replace h := ob h; obtain ⟨zv18, ezv18, h⟩ := h
        obtain ⟨v18, ev18, tv18⟩ := o_ldI hM15 (Wa.k (wthis.2.2 _ ea19)) rfl (t_sub tv17 (show (1 : Int32).toInt = 1 from rfl)) ezv18
        refine ok_b ev18 ?_
        exact o_ri (t_sub tv18 (show (48 : Int32).toInt = 48 from rfl)) hM15 h
      · replace h := it_f c3 h
        refine ok_f (mt (c_le tv11 (t_add (show (48 : Int32).toInt = 48 from rfl) tp1)).mp c3) ?_
        exact o_ri (show ((-1) : Int32).toInt = (-1) from rfl) hM h

set_option maxHeartbeats 4000000 in
set_option maxRecDepth 100000 in
theorem h_X3_takeNumber_L9 {E : Em} {z : Int} {J1 : Jm}   (x0 : Nat) (wx0 : W3 E x0) : ∀ (fu : Nat), ∀ (x1 : Int32) (zx1 : Int), x1.toInt = zx1 → ∀ (x2 : Int32) (zx2 : Int), x2.toInt = zx2 → ∀ (M0 : Mm) (J0 : Jm), Mre E M0 J0 → H_X3_takeNumber_L9 E x0 fu zx1 zx2 J0 = some (z, J1) → Ok (F_X3_takeNumber_L9 x0 fu x1 x2 M0) (fun q => q.1.toInt = z ∧ Mre E q.2 J1) := by
  intro fu
  induction fu with
  | zero =>
    intro x1 zx1 tx1 x2 zx2 tx2 M0 J0 hM0 h
    rw [H_X3_takeNumber_L9] at h
    cases h
  | succ n4 ih =>
    intro x1 zx1 tx1 x2 zx2 tx2 M0 J0 hM0 h
    rw [H_X3_takeNumber_L9] at h
    rw [F_X3_takeNumber_L9]
    by_cases c1 : 3 ≤ zx2
    · replace h := it_t c1 h
      refine ok_t ((c_le (show (3 : Int32).toInt = 3 from rfl) tx2).mpr c1) ?_
      exact o_ri tx1 hM0 h
    · replace h := it_f c1 h
      refine ok_f (mt (c_le (show (3 : Int32).toInt = 3 from rfl) tx2).mp c1) ?_
      by_cases c2 : zx1 ≤ 0
      · replace h := it_t c2 h
        refine ok_t ((c_le tx1 (show (0 : Int32).toInt = 0 from rfl)).mpr c2) ?_
        exact o_ri tx1 hM0 h
      · replace h := it_f c2 h
        refine ok_f (mt (c_le tx1 (show (0 : Int32).toInt = 0 from rfl)).mp c2) ?_
        refine ok_b (o_isO hM0 wx0.1) ?_
        replace h := ob h; obtain ⟨⟨zv9, J7⟩, ezv9, h⟩ := h
        obtain ⟨⟨v9, M7⟩, eM7, tv9, hM7⟩ := h_X3_takeDigit hM0 wx0 (show (9 : Int32).toInt = 9 from rfl) ezv9
        refine ok_b eM7 ?_
        by_cases c3 : 0 ≤ zv9
        · replace h := it_t c3 h
          refine ok_t ((c_le (show (0 : Int32).toInt = 0 from rfl) tv9).mpr c3) ?_
          exact ih _ _ (t_add (t_mul (show (10 : Int32).toInt = 10 from rfl) tx1) tv9) _ _ (t_add tx2 (show (1 : Int32).toInt = 1 from rfl)) _ _ hM7 h
        · replace h := it_f c3 h
          refine ok_f (mt (c_le (show (0 : Int32).toInt = 0 from rfl) tv9).mp c3) ?_
          exact o_ri tx1 hM7 h
set_option maxHeartbeats 4000000 in
set_option maxRecDepth 100000 in
theorem h_X3_takeNumber {E : Em} {M : Mm} {J : Jm} (hM : Mre E M J) {this : Nat} (wthis : W3 E this) {z : Int} {J1 : Jm} (h : H_X3_takeNumber E this J = some (z, J1)) : Ok (F_X3_takeNumber this M) (fun q => q.1.toInt = z ∧ Mre E q.2 J1) := by
  unfold H_X3_takeNumber at h
  unfold F_X3_takeNumber
  refine ok_b (o_isO hM wthis.1) ?_
  replace h := ob h; obtain ⟨⟨zv3, J1⟩, ezv3, h⟩ := h
  obtain ⟨⟨v3, M1⟩, eM1, tv3, hM1⟩ := h_X3_takeDigit hM wthis (show (9 : Int32).toInt = 9 from rfl) ezv3
  refine ok_b eM1 ?_
  refine h_X3_takeNumber_L9   _ wthis _ _ _ tv3 _ _ (show (1 : Int32).toInt = 1 from rfl) _ _ hM1 h

set_option maxHeartbeats 4000000 in
set_option maxRecDepth 100000 in
theorem h_X3_takeCheck_L4 {E : Em} {z : Int} {J1 : Jm}  (k37 : Int32 → Mm → Option (Int32 × Mm)) (k37h : Int → Jm → Option (Int × Jm)) (hk37 : ∀ (y0 : Int32) (zy0 : Int), y0.toInt = zy0 → ∀ (M9 : Mm) (J9 : Jm), Mre E M9 J9 → k37h zy0 J9 = some (z, J1) → Ok (k37 y0 M9) (fun q => q.1.toInt = z ∧ Mre E q.2 J1)) (x0 : Nat) (wx0 : W3 E x0) : ∀ (fu : Nat), ∀ (x1 : Int32) (zx1 : Int), x1.toInt = zx1 → ∀ (x2 : Int32) (zx2 : Int), x2.toInt = zx2 → ∀ (M0 : Mm) (J0 : Jm), Mre E M0 J0 → H_X3_takeCheck_L4 k37h E x0 fu zx1 zx2 J0 = some (z, J1) → Ok (F_X3_takeCheck_L4 k37 x0 fu x1 x2 M0) (fun q => q.1.toInt = z ∧ Mre E q.2 J1) := by
  intro fu
  induction fu with
  | zero =>
    intro x1 zx1 tx1 x2 zx2 tx2 M0 J0 hM0 h
    rw [H_X3_takeCheck_L4] at h
    cases h
  | succ n1 ih =>
    intro x1 zx1 tx1 x2 zx2 tx2 M0 J0 hM0 h
    rw [H_X3_takeCheck_L4] at h
    rw [F_X3_takeCheck_L4]
    obtain ⟨v2, ev2, tv2⟩ := o_rdI (k := 2) hM0 wx0.1
    refine ok_b ev2 ?_
    by_cases c1 : (J0 x0 2) ≤ zx2
    · replace h := it_t c1 h
      refine ok_t ((c_le tv2 tx2).mpr c1) ?_
      exact hk37 _ _ tx1 _ _ hM0 h
    · replace h := it_f c1 h
      refine ok_f (mt (c_le tv2 tx2).mp c1) ?_
      refine ok_b (o_isO hM0 wx0.1) ?_
      replace h := ob h; obtain ⟨⟨zv6, J4⟩, ezv6, h⟩ := h
      obtain ⟨⟨v6, M4⟩, eM4, tv6, hM4⟩ := h_X3_take hM0 wx0 (show (33 : Int32).toInt = 33 from rfl) ezv6
      refine ok_b eM4 ?_
      by_cases c2 : zv6 = 0
      · replace h := it_t c2 h
        refine ok_t ((c_eq tv6 (show (0 : Int32).toInt = 0 from rfl)).mpr c2) ?_
        exact hk37 _ _ tx1 _ _ hM4 h
      · replace h := it_f c2 h
        refine ok_f (mt (c_eq tv6 (show (0 : Int32).toInt = 0 from rfl)).mp c2) ?_
        replace h := nv_e h; obtain ⟨zv8, ezv8, h⟩ := h
        obtain ⟨v8, evv8⟩ : ∃ v : Int32, v = (if x1 = 0 then 1 else 0) := ⟨_, rfl⟩
        have tv8 : v8.toInt = zv8 := by rw [evv8, ezv8]; exact (t_ite (c_eq tx1 (show (0 : Int32).toInt = 0 from rfl)) (show (1 : Int32).toInt = 1 from rfl) (show (0 : Int32).toInt = 0 from rfl))
        refine ok_nv evv8 ?_
        exact ih _ _ tv8 _ _ (t_add tx2 (show (1 : Int32).toInt = 1 from rfl)) _ _ hM4 h
set_option maxHeartbeats 4000000 in
set_option maxRecDepth 100000 in
theorem h_X3_takeCheck {E : Em} {M : Mm} {J : Jm} (hM : Mre E M J) {this : Nat} (wthis : W3 E this) {z : Int} {J1 : Jm} (h : H_X3_takeCheck E this J = some (z, J1)) : Ok (F_X3_takeCheck this M) (fun q => q.1.toInt = z ∧ Mre E q.2 J1) := by
  unfold H_X3_takeCheck at h
  unfold F_X3_takeCheck
  refine h_X3_takeCheck_L4  _ _ ?_ _ wthis _ _ _ (show (0 : Int32).toInt = 0 from rfl) _ _ (show (0 : Int32).toInt = 0 from rfl) _ _ hM h
  intro y11 zy11 ty11 M12 J12 hM12 h
  refine ok_b (o_isO hM12 wthis.1) ?_
  replace h := ob h; obtain ⟨⟨zv15, J13⟩, ezv15, h⟩ := h
  obtain ⟨⟨v15, M13⟩, eM13, tv15, hM13⟩ := h_X3_takeOneOf hM12 wthis ezv15
  refine ok_b eM13 ?_
  by_cases c3 : 0 ≤ zv15
  · replace h := it_t c3 h
    refine ok_t ((c_le (show (0 : Int32).toInt = 0 from rfl) tv15).mpr c3) ?_
    refine ok_b (o_isO hM13 wthis.1) ?_
    replace h := ob h; obtain ⟨⟨zv19, J17⟩, ezv19, h⟩ := h
    obtain ⟨⟨v19, M17⟩, eM17, tv19, hM17⟩ := h_X3_takeOneOf hM13 wthis ezv19
    refine ok_b eM17 ?_
    by_cases c4 : 0 ≤ zv19
    · replace h := it_t c4 h
      refine ok_t ((c_le (show (0 : Int32).toInt = 0 from rfl) tv19).mpr c4) ?_
      refine ok_b (o_isO hM17 wthis.1) ?_
      replace h := ob h; obtain ⟨⟨zv23, J21⟩, ezv23, h⟩ := h
      obtain ⟨⟨v23, M21⟩, eM21, tv23, hM21⟩ := h_X3_takeNumber hM17 wthis ezv23
      refine ok_b eM21 ?_
      by_cases c5 : 0 ≤ zv23
      · replace h := it_t c5 h
        refine ok_t ((c_le (show (0 : Int32).toInt = 0 from rfl) tv23).mpr c5) ?_
        refine ok_b (o_rdR hM21 wthis.1) ?_
        replace h := ob h; obtain ⟨a26, ea26, h⟩ := h
        refine ok_b ea26 ?_
        refine ok_b (o_isO hM21 (wthis.2.1 _ ea26).1) ?_
        replace h := ob h; obtain ⟨J27, eJ27, h⟩ := h
        obtain ⟨M27, eM27, hM27⟩ := h_X2_addCheck hM21 (wthis.2.1 _ ea26) tv15 tv19 tv23 ty11 eJ27
        refine ok_b eM27 ?_
        exact o_ri (show (1 : Int32).toInt = 1 from rfl) hM27 h
      · replace h := it_f c5 h
        refine ok_f (mt (c_le (show (0 : Int32).toInt = 0 from rfl) tv23).mp c5) ?_
        exact o_ri (show (0 : Int32).toInt = 0 from rfl) hM21 h
    · replace h := it_f c4 h
      refine ok_f (mt (c_le (show (0 : Int32).toInt = 0 from rfl) tv19).mp c4) ?_
      exact o_ri (show (0 : Int32).toInt = 0 from rfl) hM17 h
  · replace h := it_f c3 h
    refine ok_f (mt (c_le (show (0 : Int32).toInt = 0 from rfl) tv15).mp c3) ?_
    exact o_ri (show (0 : Int32).toInt = 0 from rfl) hM13 h

set_option maxHeartbeats 4000000 in
set_option maxRecDepth 100000 in
theorem h_X3_takeLayer {E : Em} {M : Mm} {J : Jm} (hM : Mre E M J) {this : Nat} (wthis : W3 E this) {p1 : Int32} {zp1 : Int} (tp1 : p1.toInt = zp1) {p2 : Int32} {zp2 : Int} (tp2 : p2.toInt = zp2) {z : Int} {J1 : Jm} (h : H_X3_takeLayer E this zp1 zp2 J = some (z, J1)) : Ok (F_X3_takeLayer this p1 p2 M) (fun q => q.1.toInt = z ∧ Mre E q.2 J1) := by
  unfold H_X3_takeLayer at h
  unfold F_X3_takeLayer
  refine ok_b (o_isO hM wthis.1) ?_
  replace h := ob h; obtain ⟨⟨zv3, J1⟩, ezv3, h⟩ := h
  obtain ⟨⟨v3, M1⟩, eM1, tv3, hM1⟩ := h_X3_takeDigit hM wthis (show (3 : Int32).toInt = 3 from rfl) ezv3
  refine ok_b eM1 ?_
  by_cases c1 : 0 ≤ zv3
  · replace h := it_t c1 h
    refine ok_t ((c_le (show (0 : Int32).toInt = 0 from rfl) tv3).mpr c1) ?_
    refine ok_b (o_rdR hM1 wthis.1) ?_
    replace h := ob h; obtain ⟨a6, ea6, h⟩ := h
    refine ok_b ea6 ?_
    refine ok_b (o_isO hM1 (wthis.2.1 _ ea6).1) ?_
    replace h := ob h; obtain ⟨J7, eJ7, h⟩ := h
    obtain ⟨M7, eM7, hM7⟩ := h_X2_addRule hM1 (wthis.2.1 _ ea6) tp1 tp2 tv3 eJ7
    refine ok_b eM7 ?_
    exact o_ri (show (1 : Int32).toInt = 1 from rfl) hM7 h
  · replace h := it_f c1 h
    refine ok_f (mt (c_le (show (0 : Int32).toInt = 0 from rfl) tv3).mp c1) ?_
    exact o_ri (show (0 : Int32).toInt = 0 from rfl) hM1 h

set_option maxHeartbeats 4000000 in
set_option maxRecDepth 100000 in
theorem h_X11_cellOf {E : Em} {M : Mm} {J : Jm} (hM : Mre E M J) {p1 : Int32} {zp1 : Int} (tp1 : p1.toInt = zp1) {p2 : Int32} {zp2 : Int} (tp2 : p2.toInt = zp2) {z : Int} (h : H_X11_cellOf zp1 zp2 = some z) : Ok (F_X11_cellOf p1 p2 M) (fun q => q.1.toInt = z ∧ Mre E q.2 J) := by
  unfold H_X11_cellOf at h
  unfold F_X11_cellOf
  exact o_ri0 (t_add (t_mul (show (8 : Int32).toInt = 8 from rfl) tp1) tp2) hM h

set_option maxHeartbeats 4000000 in
set_option maxRecDepth 100000 in
theorem h_X3_takeAct {E : Em} {M : Mm} {J : Jm} (hM : Mre E M J) {this : Nat} (wthis : W3 E this) {z : Int} {J1 : Jm} (h : H_X3_takeAct E this J = some (z, J1)) : Ok (F_X3_takeAct this M) (fun q => q.1.toInt = z ∧ Mre E q.2 J1) := by
  unfold H_X3_takeAct at h
  unfold F_X3_takeAct
  refine ok_b (o_isO hM wthis.1) ?_
  replace h := ob h; obtain ⟨⟨zv3, J1⟩, ezv3, h⟩ := h
  obtain ⟨⟨v3, M1⟩, eM1, tv3, hM1⟩ := h_X3_take hM wthis (show (117 : Int32).toInt = 117 from rfl) ezv3
  refine ok_b eM1 ?_
  by_cases c1 : zv3 = 0
  · replace h := it_t c1 h
    refine ok_t ((c_eq tv3 (show (0 : Int32).toInt = 0 from rfl)).mpr c1) ?_
    refine ok_b (o_isO hM1 wthis.1) ?_
    replace h := ob h; obtain ⟨⟨zv7, J5⟩, ezv7, h⟩ := h
    obtain ⟨⟨v7, M5⟩, eM5, tv7, hM5⟩ := h_X3_take hM1 wthis (show (115 : Int32).toInt = 115 from rfl) ezv7
    refine ok_b eM5 ?_
    by_cases c2 : zv7 = 0
    · replace h := it_t c2 h
      refine ok_t ((c_eq tv7 (show (0 : Int32).toInt = 0 from rfl)).mpr c2) ?_
      refine ok_b (o_isO hM5 wthis.1) ?_
      replace h := ob h; obtain ⟨⟨zv11, J9⟩, ezv11, h⟩ := h
      obtain ⟨⟨v11, M9⟩, eM9, tv11, hM9⟩ := h_X3_take hM5 wthis (show (103 : Int32).toInt = 103 from rfl) ezv11
      refine ok_b eM9 ?_
      by_cases c3 : zv11 = 0
      · replace h := it_t c3 h
        refine ok_t ((c_eq tv11 (show (0 : Int32).toInt = 0 from rfl)).mpr c3) ?_
        exact o_ri (show (0 : Int32).toInt = 0 from rfl) hM9 h
      · replace h := it_f c3 h
        refine ok_f (mt (c_eq tv11 (show (0 : Int32).toInt = 0 from rfl)).mp c3) ?_
        refine ok_b (o_isO hM9 wthis.1) ?_
        replace h := ob h; obtain ⟨⟨zv15, J13⟩, ezv15, h⟩ := h
        obtain ⟨⟨v15, M13⟩, eM13, tv15, hM13⟩ := h_X3_takeDigit hM9 wthis (show (9 : Int32).toInt = 9 from rfl) ezv15
        refine ok_b eM13 ?_
        by_cases c4 : 0 ≤ zv15
        · replace h := it_t c4 h
          refine ok_t ((c_le (show (0 : Int32).toInt = 0 from rfl) tv15).mpr c4) ?_
          refine ok_b (o_isO hM13 wthis.1) ?_
          replace h := ob h; obtain ⟨⟨zv19, J17⟩, ezv19, h⟩ := h
          obtain ⟨⟨v19, M17⟩, eM17, tv19, hM17⟩ := h_X3_takeDigit hM13 wthis (show (7 : Int32).toInt = 7 from rfl) ezv19
          refine ok_b eM17 ?_
          by_cases c5 : zv19 < 0
          · replace h := it_t c5 h
            refine ok_t ((c_lt tv19 (show (0 : Int32).toInt = 0 from rfl)).mpr c5) ?_
            exact o_ri (show (0 : Int32).toInt = 0 from rfl) hM17 h
          · replace h := it_f c5 h
            refine ok_f (mt (c_lt tv19 (show (0 : Int32).toInt = 0 from rfl)).mp c5) ?_
            replace h := ob h; obtain ⟨zv22, ezv22, h⟩ := h
            obtain ⟨⟨v22, M21⟩, eM21, tv22, hM21⟩ := h_X11_cellOf hM17 tv15 tv19 ezv22
            refine ok_b eM21 ?_
            refine ok_b (o_isO hM21 wthis.1) ?_
            replace h := ob h; obtain ⟨⟨zv25, J23⟩, ezv25, h⟩ := h
            obtain ⟨⟨v25, M23⟩, eM23, tv25, hM23⟩ := h_X3_takeLayer hM21 wthis (show (2 : Int32).toInt = 2 from rfl) tv22 ezv25
            refine ok_b eM23 ?_
            by_cases c6 : zv25 = 0
            · replace h := it_t c6 h
              refine ok_t ((c_eq tv25 (show (0 : Int32).toInt = 0 from rfl)).mpr c6) ?_
              exact o_ri (show (0 : Int32).toInt = 0 from rfl) hM23 h
            · replace h := it_f c6 h
              refine ok_f (mt (c_eq tv25 (show (0 : Int32).toInt = 0 from rfl)).mp c6) ?_
              exact o_ri (show (1 : Int32).toInt = 1 from rfl) hM23 h
        · replace h := it_f c4 h
          refine ok_f (mt (c_le (show (0 : Int32).toInt = 0 from rfl) tv15).mp c4) ?_
          exact o_ri (show (0 : Int32).toInt = 0 from rfl) hM13 h
    · replace h := it_f c2 h
      refine ok_f (mt (c_eq tv7 (show (0 : Int32).toInt = 0 from rfl)).mp c2) ?_
      refine ok_b (o_isO hM5 wthis.1) ?_
      replace h := ob h; obtain ⟨⟨zv29, J27⟩, ezv29, h⟩ := h
      obtain ⟨⟨v29, M27⟩, eM27, tv29, hM27⟩ := h_X3_takeLayer hM5 wthis (show (1 : Int32).toInt = 1 from rfl) (show (0 : Int32).toInt = 0 from rfl) ezv29
      refine ok_b eM27 ?_
      replace h := ob h; obtain ⟨_, hz7, h⟩ := h
      refine ok_b (o_ckZ tv29 (jZ_e hz7)) ?_
      exact o_ri tv29 hM27 h
  · replace h := it_f c1 h
    refine ok_f (mt (c_eq tv3 (show (0 : Int32).toInt = 0 from rfl)).mp c1) ?_
    refine ok_b (o_rdR hM1 wthis.1) ?_
    replace h := ob h; obtain ⟨a31, ea31, h⟩ := h
    refine ok_b ea31 ?_
    refine ok_b (o_isO hM1 (wthis.2.1 _ ea31).1) ?_
    replace h := ob h; obtain ⟨J32, eJ32, h⟩ := h
    obtain ⟨M32, eM32, hM32⟩ := h_X2_addRule hM1 (wthis.2.1 _ ea31) (show (0 : Int32).toInt = 0 from rfl) (show (0 : Int32).toInt = 0 from rfl) (show (0 : Int32).toInt = 0 from rfl) eJ32
    refine ok_b eM32 ?_
    exact o_ri (show (1 : Int32).toInt = 1 from rfl) hM32 h

set_option maxHeartbeats 4000000 in
set_option maxRecDepth 100000 in
theorem h_X3_takeRule_L4 {E : Em} {z : Int} {J1 : Jm}  (k38 : Mm → Option (Int32 × Mm)) (k38h : Jm → Option (Int × Jm)) (hk38 : ∀ (M9 : Mm) (J9 : Jm), Mre E M9 J9 → k38h J9 = some (z, J1) → Ok (k38 M9) (fun q => q.1.toInt = z ∧ Mre E q.2 J1)) (x0 : Nat) (wx0 : W3 E x0) : ∀ (fu : Nat), ∀ (x1 : Int32) (zx1 : Int), x1.toInt = zx1 → ∀ (x2 : Int32) (zx2 : Int), x2.toInt = zx2 → ∀ (M0 : Mm) (J0 : Jm), Mre E M0 J0 → H_X3_takeRule_L4 k38h E x0 fu zx1 zx2 J0 = some (z, J1) → Ok (F_X3_takeRule_L4 k38 x0 fu x1 x2 M0) (fun q => q.1.toInt = z ∧ Mre E q.2 J1) := by
  intro fu
  induction fu with
  | zero =>
    intro x1 zx1 tx1 x2 zx2 tx2 M0 J0 hM0 h
    rw [H_X3_takeRule_L4] at h
    cases h
  | succ n1 ih =>
    intro x1 zx1 tx1 x2 zx2 tx2 M0 J0 hM0 h
    rw [H_X3_takeRule_L4] at h
    rw [F_X3_takeRule_L4]
    by_cases c1 : zx1 = 0
    · replace h := it_t c1 h
      refine ok_t ((c_eq tx1 (show (0 : Int32).toInt = 0 from rfl)).mpr c1) ?_
      exact hk38 _ _ hM0 h
    · replace h := it_f c1 h
      refine ok_f (mt (c_eq tx1 (show (0 : Int32).toInt = 0 from rfl)).mp c1) ?_
      obtain ⟨v3, ev3, tv3⟩ := o_rdI (k := 2) hM0 wx0.1
      refine ok_b ev3 ?_
      by_cases c2 : (J0 x0 2) ≤ zx2
      · replace h := it_t c2 h
        refine ok_t ((c_le tv3 tx2).mpr c2) ?_
        exact hk38 _ _ hM0 h
      · replace h := it_f c2 h
        refine ok_f (mt (c_le tv3 tx2).mp c2) ?_
        refine ok_b (o_isO hM0 wx0.1) ?_
        replace h := ob h; obtain ⟨⟨zv7, J5⟩, ezv7, h⟩ := h
        obtain ⟨⟨v7, M5⟩, eM5, tv7, hM5⟩ := h_X3_takeCheck hM0 wx0 ezv7
        refine ok_b eM5 ?_
        by_cases c3 : zv7 = 0
        · replace h := it_t c3 h
          refine ok_t ((c_eq tv7 (show (0 : Int32).toInt = 0 from rfl)).mpr c3) ?_
          exact o_ri (show (0 : Int32).toInt = 0 from rfl) hM5 h
        · replace h := it_f c3 h
          refine ok_f (mt (c_eq tv7 (show (0 : Int32).toInt = 0 from rfl)).mp c3) ?_
          refine ok_b (o_isO hM5 wx0.1) ?_
          replace h := ob h; obtain ⟨⟨zv11, J9⟩, ezv11, h⟩ := h
          obtain ⟨⟨v11, M9⟩, eM9, tv11, hM9⟩ := h_X3_take hM5 wx0 (show (38 : Int32).toInt = 38 from rfl) ezv11
          refine ok_b eM9 ?_
          exact ih _ _ tv11 _ _ (t_add tx2 (show (1 : Int32).toInt = 1 from rfl)) _ _ hM9 h
set_option maxHeartbeats 4000000 in
set_option maxRecDepth 100000 in
theorem h_X3_takeRule {E : Em} {M : Mm} {J : Jm} (hM : Mre E M J) {this : Nat} (wthis : W3 E this) {z : Int} {J1 : Jm} (h : H_X3_takeRule E this J = some (z, J1)) : Ok (F_X3_takeRule this M) (fun q => q.1.toInt = z ∧ Mre E q.2 J1) := by
  unfold H_X3_takeRule at h
  unfold F_X3_takeRule
  refine h_X3_takeRule_L4  _ _ ?_ _ wthis _ _ _ (show (1 : Int32).toInt = 1 from rfl) _ _ (show (0 : Int32).toInt = 0 from rfl) _ _ hM h
  intro M12 J12 hM12 h
  refine ok_b (o_isO hM12 wthis.1) ?_
  replace h := ob h; obtain ⟨⟨zv15, J13⟩, ezv15, h⟩ := h
  obtain ⟨⟨v15, M13⟩, eM13, tv15, hM13⟩ := h_X3_take hM12 wthis (show (63 : Int32).toInt = 63 from rfl) ezv15
  refine ok_b eM13 ?_
  by_cases c4 : zv15 = 0
  · replace h := it_t c4 h
    refine ok_t ((c_eq tv15 (show (0 : Int32).toInt = 0 from rfl)).mpr c4) ?_
    exact o_ri (show (0 : Int32).toInt = 0 from rfl) hM13 h
  · replace h := it_f c4 h
    refine ok_f (mt (c_eq tv15 (show (0 : Int32).toInt = 0 from rfl)).mp c4) ?_
    refine ok_b (o_isO hM13 wthis.1) ?_
    replace h := ob h; obtain ⟨⟨zv19, J17⟩, ezv19, h⟩ := h
    obtain ⟨⟨v19, M17⟩, eM17, tv19, hM17⟩ := h_X3_takeAct hM13 wthis ezv19
    refine ok_b eM17 ?_
    by_cases c5 : zv19 = 0
    · replace h := it_t c5 h
      refine ok_t ((c_eq tv19 (show (0 : Int32).toInt = 0 from rfl)).mpr c5) ?_
      exact o_ri (show (0 : Int32).toInt = 0 from rfl) hM17 h
    · replace h := it_f c5 h
      refine ok_f (mt (c_eq tv19 (show (0 : Int32).toInt = 0 from rfl)).mp c5) ?_
      refine ok_b (o_isO hM17 wthis.1) ?_
      replace h := ob h; obtain ⟨⟨zv23, J21⟩, ezv23, h⟩ := h
      obtain ⟨⟨v23, M21⟩, eM21, tv23, hM21⟩ := h_X3_take hM17 wthis (show (59 : Int32).toInt = 59 from rfl) ezv23
      refine ok_b eM21 ?_
      by_cases c6 : zv23 = 0
      · replace h := it_t c6 h
        refine ok_t ((c_eq tv23 (show (0 : Int32).toInt = 0 from rfl)).mpr c6) ?_
        exact o_ri (show (0 : Int32).toInt = 0 from rfl) hM21 h
      · replace h := it_f c6 h
        refine ok_f (mt (c_eq tv23 (show (0 : Int32).toInt = 0 from rfl)).mp c6) ?_
        exact o_ri (show (1 : Int32).toInt = 1 from rfl) hM21 h

set_option maxHeartbeats 4000000 in
set_option maxRecDepth 100000 in
theorem h_X4_init {E : Em} {M : Mm} {J : Jm} (hM : Mre E M J) {this : Nat} (wthis : W4 E this) {u : Unit} (h : H_X4_init this = some u) : Ok (F_X4_init this M) (fun q => Mre E q J) := by
  unfold H_X4_init at h
  unfold F_X4_init
  exact o_rv0 hM

set_option maxHeartbeats 4000000 in
set_option maxRecDepth 100000 in
theorem h_X7_has {E : Em} {M : Mm} {J : Jm} (hM : Mre E M J) {this : Nat} (wthis : W7 E this) {p1 : Int32} {zp1 : Int} (tp1 : p1.toInt = zp1) {p2 : Int32} {zp2 : Int} (tp2 : p2.toInt = zp2) {z : Int} (h : H_X7_has this zp1 zp2 J = some z) : Ok (F_X7_has this p1 p2 M) (fun q => q.1.toInt = z ∧ Mre E q.2 J) := by
  unfold H_X7_has at h
  unfold F_X7_has
  refine ok_b (o_rdS hM wthis.1 (wthis.2.1.1)) ?_
  refine ok_s ?_
  replace h := ob h; obtain ⟨zv2, ezv2, h⟩ := h
  obtain ⟨v2, ev2, tv2⟩ := o_ldI hM wthis.2.1.2 rfl tp1 ezv2
  refine ok_b ev2 ?_
  by_cases c1 : zv2 ≤ zp2
  · replace h := it_t c1 h
    refine ok_t ((c_le tv2 tp2).mpr c1) ?_
    exact o_ri0 (show (0 : Int32).toInt = 0 from rfl) hM h
  · replace h := it_f c1 h
    refine ok_f (mt (c_le tv2 tp2).mp c1) ?_
    exact o_ri0 (show (1 : Int32).toInt = 1 from rfl) hM h

set_option maxHeartbeats 4000000 in
set_option maxRecDepth 100000 in
theorem h_X11_placeOf {E : Em} {M : Mm} {J : Jm} (hM : Mre E M J) {p1 : Int32} {zp1 : Int} (tp1 : p1.toInt = zp1) {p2 : Int32} {zp2 : Int} (tp2 : p2.toInt = zp2) {z : Int} (h : H_X11_placeOf zp1 zp2 = some z) : Ok (F_X11_placeOf p1 p2 M) (fun q => q.1.toInt = z ∧ Mre E q.2 J) := by
  unfold H_X11_placeOf at h
  unfold F_X11_placeOf
  exact o_ri0 (t_add (t_mul (show (4 : Int32).toInt = 4 from rfl) tp1) tp2) hM h

set_option maxHeartbeats 4000000 in
set_option maxRecDepth 100000 in
theorem h_X11_xOf {E : Em} {M : Mm} {J : Jm} (hM : Mre E M J) {p1 : Int32} {zp1 : Int} (tp1 : p1.toInt = zp1) {z : Int} (h : H_X11_xOf zp1 = some z) : Ok (F_X11_xOf p1 M) (fun q => q.1.toInt = z ∧ Mre E q.2 J) := by
  unfold H_X11_xOf at h
  unfold F_X11_xOf
  replace h := ob h; obtain ⟨zv1, ezv1, h⟩ := h
  obtain ⟨v1, ev1, tv1⟩ := o_dvI tp1 (show (8 : Int32).toInt = 8 from rfl) ezv1
  refine ok_b ev1 ?_
  exact o_ri0 tv1 hM h

set_option maxHeartbeats 4000000 in
set_option maxRecDepth 100000 in
theorem h_X11_yOf {E : Em} {M : Mm} {J : Jm} (hM : Mre E M J) {p1 : Int32} {zp1 : Int} (tp1 : p1.toInt = zp1) {z : Int} (h : H_X11_yOf zp1 = some z) : Ok (F_X11_yOf p1 M) (fun q => q.1.toInt = z ∧ Mre E q.2 J) := by
  unfold H_X11_yOf at h
  unfold F_X11_yOf
  replace h := ob h; obtain ⟨zv1, ezv1, h⟩ := h
  obtain ⟨v1, ev1, tv1⟩ := o_rmI tp1 (show (8 : Int32).toInt = 8 from rfl) ezv1
  refine ok_b ev1 ?_
  exact o_ri0 tv1 hM h

set_option maxHeartbeats 4000000 in
set_option maxRecDepth 100000 in
theorem h_X11_isCell {E : Em} {M : Mm} {J : Jm} (hM : Mre E M J) {p1 : Int32} {zp1 : Int} (tp1 : p1.toInt = zp1) {p2 : Int32} {zp2 : Int} (tp2 : p2.toInt = zp2) {z : Int} (h : H_X11_isCell zp1 zp2 = some z) : Ok (F_X11_isCell p1 p2 M) (fun q => q.1.toInt = z ∧ Mre E q.2 J) := by
  unfold H_X11_isCell at h
  unfold F_X11_isCell
  by_cases c1 : zp1 < 0
  · replace h := it_t c1 h
    refine ok_t ((c_lt tp1 (show (0 : Int32).toInt = 0 from rfl)).mpr c1) ?_
    exact o_ri0 (show (0 : Int32).toInt = 0 from rfl) hM h
  · replace h := it_f c1 h
    refine ok_f (mt (c_lt tp1 (show (0 : Int32).toInt = 0 from rfl)).mp c1) ?_
    by_cases c2 : 10 ≤ zp1
    · replace h := it_t c2 h
      refine ok_t ((c_le (show (10 : Int32).toInt = 10 from rfl) tp1).mpr c2) ?_
      exact o_ri0 (show (0 : Int32).toInt = 0 from rfl) hM h
    · replace h := it_f c2 h
      refine ok_f (mt (c_le (show (10 : Int32).toInt = 10 from rfl) tp1).mp c2) ?_
      by_cases c3 : zp2 < 0
      · replace h := it_t c3 h
        refine ok_t ((c_lt tp2 (show (0 : Int32).toInt = 0 from rfl)).mpr c3) ?_
        exact o_ri0 (show (0 : Int32).toInt = 0 from rfl) hM h
      · replace h := it_f c3 h
        refine ok_f (mt (c_lt tp2 (show (0 : Int32).toInt = 0 from rfl)).mp c3) ?_
        by_cases c4 : 8 ≤ zp2
        · replace h := it_t c4 h
          refine ok_t ((c_le (show (8 : Int32).toInt = 8 from rfl) tp2).mpr c4) ?_
          exact o_ri0 (show (0 : Int32).toInt = 0 from rfl) hM h
        · replace h := it_f c4 h
          refine ok_f (mt (c_le (show (8 : Int32).toInt = 8 from rfl) tp2).mp c4) ?_
          exact o_ri0 (show (1 : Int32).toInt = 1 from rfl) hM h

set_option maxHeartbeats 4000000 in
set_option maxRecDepth 100000 in
theorem h_X7_stepped {E : Em} {M : Mm} {J : Jm} (hM : Mre E M J) {this : Nat} (wthis : W7 E this) {p1 : Int32} {zp1 : Int} (tp1 : p1.toInt = zp1) {p2 : Int32} {zp2 : Int} (tp2 : p2.toInt = zp2) {p3 : Int32} {zp3 : Int} (tp3 : p3.toInt = zp3) {z : Int} (h : H_X7_stepped this zp1 zp2 zp3 J = some z) : Ok (F_X7_stepped this p1 p2 p3 M) (fun q => q.1.toInt = z ∧ Mre E q.2 J) := by
  unfold H_X7_stepped at h
  unfold F_X7_stepped
  replace h := ob h; obtain ⟨zv2, ezv2, h⟩ := h
  obtain ⟨⟨v2, M1⟩, eM1, tv2, hM1⟩ := h_X11_xOf hM tp1 ezv2
  refine ok_b eM1 ?_
  replace h := ob h; obtain ⟨zv4, ezv4, h⟩ := h
  obtain ⟨⟨v4, M3⟩, eM3, tv4, hM3⟩ := h_X11_yOf hM1 tp1 ezv4
  refine ok_b eM3 ?_
  replace h := ob h; obtain ⟨zv6, ezv6, h⟩ := h
  obtain ⟨⟨v6, M5⟩, eM5, tv6, hM5⟩ := h_X11_isCell hM3 (t_add tv2 tp2) (t_add tv4 tp3) ezv6
  refine ok_b eM5 ?_
  by_cases c1 : zv6 = 0
  · replace h := it_t c1 h
    refine ok_t ((c_eq tv6 (show (0 : Int32).toInt = 0 from rfl)).mpr c1) ?_
    exact o_ri0 tp1 hM5 h
  · replace h := it_f c1 h
    refine ok_f (mt (c_eq tv6 (show (0 : Int32).toInt = 0 from rfl)).mp c1) ?_
    refine ok_b (o_rdS hM5 wthis.1 (wthis.2.1.1)) ?_
    replace h := ob h; obtain ⟨zv10, ezv10, h⟩ := h
    obtain ⟨⟨v10, M9⟩, eM9, tv10, hM9⟩ := h_X11_cellOf hM5 (t_add tv2 tp2) (t_add tv4 tp3) ezv10
    refine ok_b eM9 ?_
    refine ok_s ?_
    replace h := ob h; obtain ⟨zv11, ezv11, h⟩ := h
    obtain ⟨v11, ev11, tv11⟩ := o_ldI hM9 wthis.2.1.2 rfl tv10 ezv11
    refine ok_b ev11 ?_
    by_cases c2 : zv11 ≤ 0
    · replace h := it_t c2 h
      refine ok_t ((c_le tv11 (show (0 : Int32).toInt = 0 from rfl)).mpr c2) ?_
      exact o_ri0 tp1 hM9 h
    · replace h := it_f c2 h
      refine ok_f (mt (c_le tv11 (show (0 : Int32).toInt = 0 from rfl)).mp c2) ?_
      replace h := ob h; obtain ⟨zv15, ezv15, h⟩ := h
      obtain ⟨⟨v15, M14⟩, eM14, tv15, hM14⟩ := h_X11_cellOf hM9 (t_add tv2 tp2) (t_add tv4 tp3) ezv15
      refine ok_b eM14 ?_
      exact o_ri0 tv15 hM14 h

set_option maxHeartbeats 4000000 in
set_option maxRecDepth 100000 in
theorem h_X7_walked_L6 {E : Em} {z : Int} (J : Jm) (k39 : Int32 → Mm → Option (Int32 × Mm)) (k39h : Int → Option Int) (hk39 : ∀ (y0 : Int32) (zy0 : Int), y0.toInt = zy0 → ∀ (M9 : Mm), Mre E M9 J → k39h zy0 = some z → Ok (k39 y0 M9) (fun q => q.1.toInt = z ∧ Mre E q.2 J)) (x0 : Nat) (wx0 : W7 E x0) (x2 : Int32) (zx2 : Int) (tx2 : x2.toInt = zx2) (x3 : Int32) (zx3 : Int) (tx3 : x3.toInt = zx3) : ∀ (fu : Nat), ∀ (x4 : Int32) (zx4 : Int), x4.toInt = zx4 → ∀ (x5 : Int32) (zx5 : Int), x5.toInt = zx5 → ∀ (M0 : Mm), Mre E M0 J → H_X7_walked_L6 k39h x0 zx2 zx3 J fu zx4 zx5 = some z → Ok (F_X7_walked_L6 k39 x0 x2 x3 fu x4 x5 M0) (fun q => q.1.toInt = z ∧ Mre E q.2 J) := by
  intro fu
  induction fu with
  | zero =>
    intro x4 zx4 tx4 x5 zx5 tx5 M0 hM0 h
    rw [H_X7_walked_L6] at h
    cases h
  | succ n1 ih =>
    intro x4 zx4 tx4 x5 zx5 tx5 M0 hM0 h
    rw [H_X7_walked_L6] at h
    rw [F_X7_walked_L6]
    by_cases c1 : (abZ zx2) ≤ zx5
    · replace h := it_t c1 h
      refine ok_t ((c_le (t_ab tx2) tx5).mpr c1) ?_
      exact hk39 _ _ tx4 _ hM0 h
    · replace h := it_f c1 h
      refine ok_f (mt (c_le (t_ab tx2) tx5).mp c1) ?_
      replace h := nv_e h; obtain ⟨zv3, ezv3, h⟩ := h
      obtain ⟨v3, evv3⟩ : ∃ v : Int32, v = (if 0 ≤ x2 then 1 else (-1)) := ⟨_, rfl⟩
      have tv3 : v3.toInt = zv3 := by rw [evv3, ezv3]; exact (t_ite (c_le (show (0 : Int32).toInt = 0 from rfl) tx2) (show (1 : Int32).toInt = 1 from rfl) (show ((-1) : Int32).toInt = (-1) from rfl))
      refine ok_nv evv3 ?_
      refine ok_b (o_isO hM0 wx0.1) ?_
      replace h := ob h; obtain ⟨zv7, ezv7, h⟩ := h
      obtain ⟨⟨v7, M5⟩, eM5, tv7, hM5⟩ := h_X7_stepped hM0 wx0 tx4 tv3 (show (0 : Int32).toInt = 0 from rfl) ezv7
      refine ok_b eM5 ?_
      exact ih _ _ tv7 _ _ (t_add tx5 (show (1 : Int32).toInt = 1 from rfl)) _ hM5 h
set_option maxHeartbeats 4000000 in
set_option maxRecDepth 100000 in
theorem h_X7_walked_L42 {E : Em} {z : Int} (J : Jm)  (x0 : Nat) (wx0 : W7 E x0) (x3 : Int32) (zx3 : Int) (tx3 : x3.toInt = zx3) : ∀ (fu : Nat), ∀ (x4 : Int32) (zx4 : Int), x4.toInt = zx4 → ∀ (x5 : Int32) (zx5 : Int), x5.toInt = zx5 → ∀ (M0 : Mm), Mre E M0 J → H_X7_walked_L42 x0 zx3 J fu zx4 zx5 = some z → Ok (F_X7_walked_L42 x0 x3 fu x4 x5 M0) (fun q => q.1.toInt = z ∧ Mre E q.2 J) := by
  intro fu
  induction fu with
  | zero =>
    intro x4 zx4 tx4 x5 zx5 tx5 M0 hM0 h
    rw [H_X7_walked_L42] at h
    cases h
  | succ n11 ih =>
    intro x4 zx4 tx4 x5 zx5 tx5 M0 hM0 h
    rw [H_X7_walked_L42] at h
    rw [F_X7_walked_L42]
    by_cases c2 : (abZ zx3) ≤ zx5
    · replace h := it_t c2 h
      refine ok_t ((c_le (t_ab tx3) tx5).mpr c2) ?_
      exact o_ri0 tx4 hM0 h
    · replace h := it_f c2 h
      refine ok_f (mt (c_le (t_ab tx3) tx5).mp c2) ?_
      replace h := nv_e h; obtain ⟨zv13, ezv13, h⟩ := h
      obtain ⟨v13, evv13⟩ : ∃ v : Int32, v = (if 0 ≤ x3 then 1 else (-1)) := ⟨_, rfl⟩
      have tv13 : v13.toInt = zv13 := by rw [evv13, ezv13]; exact (t_ite (c_le (show (0 : Int32).toInt = 0 from rfl) tx3) (show (1 : Int32).toInt = 1 from rfl) (show ((-1) : Int32).toInt = (-1) from rfl))
      refine ok_nv evv13 ?_
      refine ok_b (o_isO hM0 wx0.1) ?_
      replace h := ob h; obtain ⟨zv17, ezv17, h⟩ := h
      obtain ⟨⟨v17, M15⟩, eM15, tv17, hM15⟩ := h_X7_stepped hM0 wx0 tx4 (show (0 : Int32).toInt = 0 from rfl) tv13 ezv17
      refine ok_b eM15 ?_
      exact ih _ _ tv17 _ _ (t_add tx5 (show (1 : Int32).toInt = 1 from rfl)) _ hM15 h
set_option maxHeartbeats 4000000 in
set_option maxRecDepth 100000 in
theorem h_X7_walked {E : Em} {M : Mm} {J : Jm} (hM : Mre E M J) {this : Nat} (wthis : W7 E this) {p1 : Int32} {zp1 : Int} (tp1 : p1.toInt = zp1) {p2 : Int32} {zp2 : Int} (tp2 : p2.toInt = zp2) {p3 : Int32} {zp3 : Int} (tp3 : p3.toInt = zp3) {z : Int} (h : H_X7_walked this zp1 zp2 zp3 J = some z) : Ok (F_X7_walked this p1 p2 p3 M) (fun q => q.1.toInt = z ∧ Mre E q.2 J) := by
  unfold H_X7_walked at h
  unfold F_X7_walked
  refine h_X7_walked_L6 _ _ _ ?_ _ wthis _ _ tp2 _ _ tp3 _ _ _ tp1 _ _ (show (0 : Int32).toInt = 0 from rfl) _ hM h
  intro y9 zy9 ty9 M10 hM10 h
  refine h_X7_walked_L42 _  _ wthis _ _ tp3 _ _ _ ty9 _ _ (show (0 : Int32).toInt = 0 from rfl) _ hM10 h

set_option maxHeartbeats 4000000 in
set_option maxRecDepth 100000 in
theorem h_X4_sink_L18 {E : Em} {J1 : Jm}   (x0 : Nat) (wx0 : W4 E x0) (x1 : Nat) (wx1 : W7 E x1) (x2 : Nat) (wx2 : W9 E x2) (x4 : Int32) (zx4 : Int) (tx4 : x4.toInt = zx4) (x5 : Int32) (zx5 : Int) (tx5 : x5.toInt = zx5) : ∀ (fu : Nat), ∀ (x6 : Int32) (zx6 : Int), x6.toInt = zx6 → ∀ (M0 : Mm) (J0 : Jm), Mre E M0 J0 → H_X4_sink_L18 x0 x1 x2 zx4 zx5 fu zx6 J0 = some J1 → Ok (F_X4_sink_L18 x0 x1 x2 x4 x5 fu x6 M0) (fun q => Mre E q J1) := by
  intro fu
  induction fu with
  | zero =>
    intro x6 zx6 tx6 M0 J0 hM0 h
    rw [H_X4_sink_L18] at h
    cases h
  | succ n4 ih =>
    intro x6 zx6 tx6 M0 J0 hM0 h
    rw [H_X4_sink_L18] at h
    rw [F_X4_sink_L18]
    by_cases c1 : zx4 < zx6
    · replace h := it_t c1 h
      refine ok_t ((c_lt tx4 tx6).mpr c1) ?_
      exact o_rv hM0 h
    · replace h := it_f c1 h
      refine ok_f (mt (c_lt tx4 tx6).mp c1) ?_
      obtain ⟨v6, ev6, tv6⟩ := o_rdI (k := 2) hM0 wx0
      refine ok_b ev6 ?_
      by_cases c2 : (J0 x0 2) = 0
      · replace h := it_t c2 h
        refine ok_t ((c_eq tv6 (show (0 : Int32).toInt = 0 from rfl)).mpr c2) ?_
        obtain ⟨v8, ev8, tv8⟩ := o_rdI (k := 0) hM0 wx0
        refine ok_b ev8 ?_
        refine ok_b (o_isO hM0 wx1.1) ?_
        replace h := ob h; obtain ⟨zv11, ezv11, h⟩ := h
        obtain ⟨⟨v11, M9⟩, eM9, tv11, hM9⟩ := h_X7_has hM0 wx1 tv8 tx6 ezv11
        refine ok_b eM9 ?_
        by_cases c3 : zv11 = 0
        · replace h := it_t c3 h
          refine ok_t ((c_eq tv11 (show (0 : Int32).toInt = 0 from rfl)).mpr c3) ?_
          exact o_rv hM9 h
        · replace h := it_f c3 h
          refine ok_f (mt (c_eq tv11 (show (0 : Int32).toInt = 0 from rfl)).mp c3) ?_
          replace h := nv_e h; obtain ⟨J13, eJ13, h⟩ := h
          obtain ⟨M13, eM13, hM13⟩ := o_wrI (k := 1) hM9 wx0 tx6 eJ13
          refine ok_b eM13 ?_
          obtain ⟨v14, ev14, tv14⟩ := o_rdI (k := 0) hM13 wx0
          refine ok_b ev14 ?_
          replace h := ob h; obtain ⟨zv16, ezv16, h⟩ := h
          obtain ⟨⟨v16, M15⟩, eM15, tv16, hM15⟩ := h_X11_placeOf hM13 tv14 tx6 ezv16
          refine ok_b eM15 ?_
          obtain ⟨v17, ev17, tv17⟩ := o_rdI (k := 0) hM15 wx0
          refine ok_b ev17 ?_
          refine ok_b (o_rdS hM15 wx2.1 (wx2.2.1.1)) ?_
          refine ok_s ?_
          replace h := ob h; obtain ⟨zv19, ezv19, h⟩ := h
          obtain ⟨v19, ev19, tv19⟩ := o_ldI hM15 wx2.2.1.2 rfl tv16 ezv19
          refine ok_b ev19 ?_
          refine ok_b (o_rdS hM15 wx2.1 (wx2.2.2.1)) ?_
          refine ok_s ?_
          replace h := ob h; obtain ⟨zv22, ezv22, h⟩ := h
          obtain ⟨v22, ev22, tv22⟩ := o_ldI hM15 wx2.2.2.2 rfl tv16 ezv22
          refine ok_b ev22 ?_
          refine ok_b (o_isO hM15 wx1.1) ?_
          replace h := ob h; obtain ⟨zv26, ezv26, h⟩ := h
          obtain ⟨⟨v26, M24⟩, eM24, tv26, hM24⟩ := h_X7_walked hM15 wx1 tv17 tv19 tv22 ezv26
          refine ok_b eM24 ?_
          replace h := nv_e h; obtain ⟨J27, eJ27, h⟩ := h
          obtain ⟨M27, eM27, hM27⟩ := o_wrI (k := 0) hM24 wx0 tv26 eJ27
          refine ok_b eM27 ?_
          by_cases c4 : zx5 = 0
          · replace h := it_t c4 h
            refine ok_t ((c_eq tx5 (show (0 : Int32).toInt = 0 from rfl)).mpr c4) ?_
            replace h := nv_e h; obtain ⟨J29, eJ29, h⟩ := h
            obtain ⟨M29, eM29, hM29⟩ := o_wrZ (k := 2) hM27 wx0 (show (0 : Int32).toInt = 0 from rfl) (by decide) eJ29
            refine ok_b eM29 ?_
            exact ih _ _ (t_add tx6 (show (1 : Int32).toInt = 1 from rfl)) _ _ hM29 h
          · replace h := it_f c4 h
            refine ok_f (mt (c_eq tx5 (show (0 : Int32).toInt = 0 from rfl)).mp c4) ?_
            obtain ⟨v30, ev30, tv30⟩ := o_rdI (k := 0) hM27 wx0
            refine ok_b ev30 ?_
            refine ok_b (o_isO hM27 wx1.1) ?_
            replace h := ob h; obtain ⟨zv33, ezv33, h⟩ := h
            obtain ⟨⟨v33, M31⟩, eM31, tv33, hM31⟩ := h_X7_has hM27 wx1 tv30 tx6 ezv33
            refine ok_b eM31 ?_
            by_cases c5 : zv33 = 0
            · replace h := it_t c5 h
              refine ok_t ((c_eq tv33 (show (0 : Int32).toInt = 0 from rfl)).mpr c5) ?_
              replace h := nv_e h; obtain ⟨J35, eJ35, h⟩ := h
              obtain ⟨M35, eM35, hM35⟩ := o_wrZ (k := 2) hM31 wx0 (show (0 : Int32).toInt = 0 from rfl) (by decide) eJ35
              refine ok_b eM35 ?_
              exact ih _ _ (t_add tx6 (show (1 : Int32).toInt = 1 from rfl)) _ _ hM35 h
            · replace h := it_f c5 h
              refine ok_f (mt (c_eq tv33 (show (0 : Int32).toInt = 0 from rfl)).mp c5) ?_
              refine ok_b (o_rdS hM31 wx1.1 (wx1.2.2.2.2.2.1.1)) ?_
              obtain ⟨v37, ev37, tv37⟩ := o_rdI (k := 0) hM31 wx0
              refine ok_b ev37 ?_
              replace h := ob h; obtain ⟨zv39, ezv39, h⟩ := h
              obtain ⟨⟨v39, M38⟩, eM38, tv39, hM38⟩ := h_X11_placeOf hM31 tv37 tx6 ezv39
              refine ok_b eM38 ?_
              refine ok_s ?_
              replace h := ob h; obtain ⟨zv40, ezv40, h⟩ := h
              obtain ⟨v40, ev40, tv40⟩ := o_ldI hM38 wx1.2.2.2.2.2.1.2 rfl tv39 ezv40
              refine ok_b ev40 ?_
              replace h := nv_e h; obtain ⟨zv42, ezv42, h⟩ := h
              obtain ⟨v42, evv42⟩ : ∃ v : Int32, v = (if v40 = 1 then 1 else 0) := ⟨_, rfl⟩
              have tv42 : v42.toInt = zv42 := by rw [evv42, ezv42]; exact (t_ite (c_eq tv40 (show (1 : Int32).toInt = 1 from rfl)) (show (1 : Int32).toInt = 1 from rfl) (show (0 : Int32).toInt = 0 from rfl))
              refine ok_nv evv42 ?_
              replace h := ob h; obtain ⟨_, hzM44, h⟩ := h
              replace h := nv_e h; obtain ⟨J44, eJ44, h⟩ := h
              obtain ⟨M44, eM44, hM44⟩ := o_wrZ (k := 2) hM38 wx0 tv42 (jZ_e hzM44) eJ44
              refine ok_b eM44 ?_
              exact ih _ _ (t_add tx6 (show (1 : Int32).toInt = 1 from rfl)) _ _ hM44 h
      · replace h := it_f c2 h
        refine ok_f (mt (c_eq tv6 (show (0 : Int32).toInt = 0 from rfl)).mp c2) ?_
        exact o_rv hM0 h
set_option maxHeartbeats 4000000 in
set_option maxRecDepth 100000 in
theorem h_X4_sink {E : Em} {M : Mm} {J : Jm} (hM : Mre E M J) {this : Nat} (wthis : W4 E this) {p1 : Nat} (wp1 : W7 E p1) {p2 : Nat} (wp2 : W9 E p2) {p3 : Int32} {zp3 : Int} (tp3 : p3.toInt = zp3) {p4 : Int32} {zp4 : Int} (tp4 : p4.toInt = zp4) {p5 : Int32} {zp5 : Int} (tp5 : p5.toInt = zp5) {J1 : Jm} (h : H_X4_sink this p1 p2 zp3 zp4 zp5 J = some J1) : Ok (F_X4_sink this p1 p2 p3 p4 p5 M) (fun q => Mre E q J1) := by
  unfold H_X4_sink at h
  unfold F_X4_sink
  replace h := nv_e h; obtain ⟨J1, eJ1, h⟩ := h
  obtain ⟨M1, eM1, hM1⟩ := o_wrI (k := 0) hM wthis tp3 eJ1
  refine ok_b eM1 ?_
  replace h := nv_e h; obtain ⟨J2, eJ2, h⟩ := h
  obtain ⟨M2, eM2, hM2⟩ := o_wrI (k := 1) hM1 wthis (show (0 : Int32).toInt = 0 from rfl) eJ2
  refine ok_b eM2 ?_
  replace h := nv_e h; obtain ⟨J3, eJ3, h⟩ := h
  obtain ⟨M3, eM3, hM3⟩ := o_wrZ (k := 2) hM2 wthis (show (0 : Int32).toInt = 0 from rfl) (by decide) eJ3
  refine ok_b eM3 ?_
  refine h_X4_sink_L18   _ wthis _ wp1 _ wp2 _ _ tp4 _ _ tp5 _ _ _ (show (0 : Int32).toInt = 0 from rfl) _ _ hM3 h

set_option maxHeartbeats 4000000 in
set_option maxRecDepth 100000 in
theorem h_X7_beside {E : Em} {M : Mm} {J : Jm} (hM : Mre E M J) {this : Nat} (wthis : W7 E this) {p1 : Int32} {zp1 : Int} (tp1 : p1.toInt = zp1) {p2 : Int32} {zp2 : Int} (tp2 : p2.toInt = zp2) {z : Int} (h : H_X7_beside this zp1 zp2 = some z) : Ok (F_X7_beside this p1 p2 M) (fun q => q.1.toInt = z ∧ Mre E q.2 J) := by
  unfold H_X7_beside at h
  unfold F_X7_beside
  replace h := ob h; obtain ⟨zv2, ezv2, h⟩ := h
  obtain ⟨⟨v2, M1⟩, eM1, tv2, hM1⟩ := h_X11_xOf hM tp1 ezv2
  refine ok_b eM1 ?_
  replace h := ob h; obtain ⟨zv3, ezv3, h⟩ := h
  obtain ⟨v3, ev3, tv3⟩ := o_ldS tp2 ezv3
  refine ok_b ev3 ?_
  replace h := ob h; obtain ⟨zv5, ezv5, h⟩ := h
  obtain ⟨⟨v5, M4⟩, eM4, tv5, hM4⟩ := h_X11_yOf hM1 tp1 ezv5
  refine ok_b eM4 ?_
  replace h := ob h; obtain ⟨zv6, ezv6, h⟩ := h
  obtain ⟨v6, ev6, tv6⟩ := o_ldS tp2 ezv6
  refine ok_b ev6 ?_
  replace h := ob h; obtain ⟨zv8, ezv8, h⟩ := h
  obtain ⟨⟨v8, M7⟩, eM7, tv8, hM7⟩ := h_X11_isCell hM4 (t_add tv2 tv3) (t_add tv5 tv6) ezv8
  refine ok_b eM7 ?_
  by_cases c1 : zv8 = 0
  · replace h := it_t c1 h
    refine ok_t ((c_eq tv8 (show (0 : Int32).toInt = 0 from rfl)).mpr c1) ?_
    exact o_ri0 (show ((-1) : Int32).toInt = (-1) from rfl) hM7 h
  · replace h := it_f c1 h
    refine ok_f (mt (c_eq tv8 (show (0 : Int32).toInt = 0 from rfl)).mp c1) ?_
    replace h := ob h; obtain ⟨zv11, ezv11, h⟩ := h
    obtain ⟨⟨v11, M10⟩, eM10, tv11, hM10⟩ := h_X11_cellOf hM7 (t_add tv2 tv3) (t_add tv5 tv6) ezv11
    refine ok_b eM10 ?_
    exact o_ri0 tv11 hM10 h

set_option maxHeartbeats 4000000 in
set_option maxRecDepth 100000 in
theorem h_X5_worth {E : Em} {M : Mm} {J : Jm} (hM : Mre E M J) {this : Nat} (wthis : W5 E this) {p1 : Int32} {zp1 : Int} (tp1 : p1.toInt = zp1) {p2 : Int32} {zp2 : Int} (tp2 : p2.toInt = zp2) {z : Int} (h : H_X5_worth E this zp1 zp2 J = some z) : Ok (F_X5_worth this p1 p2 M) (fun q => q.1.toInt = z ∧ Mre E q.2 J) := by
  unfold H_X5_worth at h
  unfold F_X5_worth
  by_cases c1 : zp2 = 0
  · replace h := it_t c1 h
    refine ok_t ((c_eq tp2 (show (0 : Int32).toInt = 0 from rfl)).mpr c1) ?_
    refine ok_b (o_rdR hM wthis.1) ?_
    replace h := ob h; obtain ⟨a9, ea9, h⟩ := h
    refine ok_b ea9 ?_
    refine ok_b (o_rdS hM (wthis.2.2.1 _ ea9).1 ((wthis.2.2.1 _ ea9).2.2.2.1.1)) ?_
    refine ok_s ?_
    replace h := ob h; obtain ⟨zv11, ezv11, h⟩ := h
    obtain ⟨v11, ev11, tv11⟩ := o_ldI hM ((wthis.2.2.1 _ ea9).2.2.2.1.2) rfl tp1 ezv11
    refine ok_b ev11 ?_
    exact o_ri0 tv11 hM h
  · replace h := it_f c1 h
    refine ok_f (mt (c_eq tp2 (show (0 : Int32).toInt = 0 from rfl)).mp c1) ?_
    refine ok_b (o_rdR hM wthis.1) ?_
    replace h := ob h; obtain ⟨a3, ea3, h⟩ := h
    refine ok_b ea3 ?_
    refine ok_b (o_rdS hM (wthis.2.2.1 _ ea3).1 ((wthis.2.2.1 _ ea3).2.2.2.1.1)) ?_
    refine ok_s ?_
    replace h := ob h; obtain ⟨zv5, ezv5, h⟩ := h
    obtain ⟨v5, ev5, tv5⟩ := o_ldI hM ((wthis.2.2.1 _ ea3).2.2.2.1.2) rfl tp1 ezv5
    refine ok_b ev5 ?_
    replace h := ob h; obtain ⟨zv7, ezv7, h⟩ := h
    obtain ⟨v7, ev7, tv7⟩ := o_dvI (t_add tv5 (show (1 : Int32).toInt = 1 from rfl)) (show (2 : Int32).toInt = 2 from rfl) ezv7
    refine ok_b ev7 ?_
    exact o_ri0 tv7 hM h

set_option maxHeartbeats 4000000 in
set_option maxRecDepth 100000 in
theorem h_X5_gainBy_L4 {E : Em} {z : Int} (J : Jm)  (x0 : Nat) (wx0 : W5 E x0) (x1 : Int32) (zx1 : Int) (tx1 : x1.toInt = zx1) : ∀ (fu : Nat), ∀ (x2 : Int32) (zx2 : Int), x2.toInt = zx2 → ∀ (x3 : Int32) (zx3 : Int), x3.toInt = zx3 → ∀ (M0 : Mm), Mre E M0 J → H_X5_gainBy_L4 E x0 zx1 J fu zx2 zx3 = some z → Ok (F_X5_gainBy_L4 x0 x1 fu x2 x3 M0) (fun q => q.1.toInt = z ∧ Mre E q.2 J) := by
  intro fu
  induction fu with
  | zero =>
    intro x2 zx2 tx2 x3 zx3 tx3 M0 hM0 h
    rw [H_X5_gainBy_L4] at h
    cases h
  | succ n1 ih =>
    intro x2 zx2 tx2 x3 zx3 tx3 M0 hM0 h
    rw [H_X5_gainBy_L4] at h
    rw [F_X5_gainBy_L4]
    by_cases c1 : 5 ≤ zx3
    · replace h := it_t c1 h
      refine ok_t ((c_le (show (5 : Int32).toInt = 5 from rfl) tx3).mpr c1) ?_
      exact o_ri0 tx2 hM0 h
    · replace h := it_f c1 h
      refine ok_f (mt (c_le (show (5 : Int32).toInt = 5 from rfl) tx3).mp c1) ?_
      refine ok_b (o_rdR hM0 wx0.1) ?_
      replace h := ob h; obtain ⟨a4, ea4, h⟩ := h
      refine ok_b ea4 ?_
      refine ok_b (o_isO hM0 (wx0.2.2.1 _ ea4).1) ?_
      replace h := ob h; obtain ⟨zv7, ezv7, h⟩ := h
      obtain ⟨⟨v7, M5⟩, eM5, tv7, hM5⟩ := h_X7_beside hM0 (wx0.2.2.1 _ ea4) tx1 tx3 ezv7
      refine ok_b eM5 ?_
      by_cases c2 : zv7 < 0
      · replace h := it_t c2 h
        refine ok_t ((c_lt tv7 (show (0 : Int32).toInt = 0 from rfl)).mpr c2) ?_
        exact ih _ _ tx2 _ _ (t_add tx3 (show (1 : Int32).toInt = 1 from rfl)) _ hM5 h
      · replace h := it_f c2 h
        refine ok_f (mt (c_lt tv7 (show (0 : Int32).toInt = 0 from rfl)).mp c2) ?_
        refine ok_b (o_isO hM5 wx0.1) ?_
        replace h := ob h; obtain ⟨zv11, ezv11, h⟩ := h
        obtain ⟨⟨v11, M9⟩, eM9, tv11, hM9⟩ := h_X5_worth hM5 wx0 tv7 tx3 ezv11
        refine ok_b eM9 ?_
        refine ok_b (o_rdS hM9 wx0.1 (wx0.2.2.2.2.2.2.2.2.2.1.1)) ?_
        refine ok_s ?_
        replace h := ob h; obtain ⟨zv13, ezv13, h⟩ := h
        obtain ⟨v13, ev13, tv13⟩ := o_ldI hM9 wx0.2.2.2.2.2.2.2.2.2.1.2 rfl tv7 ezv13
        refine ok_b ev13 ?_
        exact ih _ _ (t_add tx2 (t_mx (show (0 : Int32).toInt = 0 from rfl) (t_sub tv11 tv13))) _ _ (t_add tx3 (show (1 : Int32).toInt = 1 from rfl)) _ hM9 h
set_option maxHeartbeats 4000000 in
set_option maxRecDepth 100000 in
theorem h_X5_gainBy {E : Em} {M : Mm} {J : Jm} (hM : Mre E M J) {this : Nat} (wthis : W5 E this) {p1 : Int32} {zp1 : Int} (tp1 : p1.toInt = zp1) {z : Int} (h : H_X5_gainBy E this zp1 J = some z) : Ok (F_X5_gainBy this p1 M) (fun q => q.1.toInt = z ∧ Mre E q.2 J) := by
  unfold H_X5_gainBy at h
  unfold F_X5_gainBy
  refine h_X5_gainBy_L4 _  _ wthis _ _ tp1 _ _ _ (show (0 : Int32).toInt = 0 from rfl) _ _ (show (0 : Int32).toInt = 0 from rfl) _ hM h

set_option maxHeartbeats 4000000 in
set_option maxRecDepth 100000 in
theorem h_X5_addEnd_L21 {E : Em} {J1 : Jm}  (k46 : Mm → Option Mm) (k46h : Jm → Option Jm) (hk46 : ∀ (M9 : Mm) (J9 : Jm), Mre E M9 J9 → k46h J9 = some J1 → Ok (k46 M9) (fun q => Mre E q J1)) (x0 : Nat) (wx0 : W5 E x0) (x1 : Int32) (zx1 : Int) (tx1 : x1.toInt = zx1) (x2 : Int32) (zx2 : Int) (tx2 : x2.toInt = zx2) (x3 : Int32) (zx3 : Int) (tx3 : x3.toInt = zx3) (x5 : Int32) (zx5 : Int) (tx5 : x5.toInt = zx5) : ∀ (fu : Nat), ∀ (x6 : Int32) (zx6 : Int), x6.toInt = zx6 → ∀ (M0 : Mm) (J0 : Jm), Mre E M0 J0 → H_X5_addEnd_L21 k46h E x0 zx1 zx2 zx3 zx5 fu zx6 J0 = some J1 → Ok (F_X5_addEnd_L21 k46 x0 x1 x2 x3 x5 fu x6 M0) (fun q => Mre E q J1) := by
  intro fu
  induction fu with
  | zero =>
    intro x6 zx6 tx6 M0 J0 hM0 h
    rw [H_X5_addEnd_L21] at h
    cases h
  | succ n4 ih =>
    intro x6 zx6 tx6 M0 J0 hM0 h
    rw [H_X5_addEnd_L21] at h
    rw [F_X5_addEnd_L21]
    by_cases c1 : zx5 ≤ zx6
    · replace h := it_t c1 h
      refine ok_t ((c_le tx5 tx6).mpr c1) ?_
      exact hk46 _ _ hM0 h
    · replace h := it_f c1 h
      refine ok_f (mt (c_le tx5 tx6).mp c1) ?_
      refine ok_b (o_rdS hM0 wx0.1 (wx0.2.2.2.2.2.1.1)) ?_
      refine ok_s ?_
      replace h := ob h; obtain ⟨zv7, ezv7, h⟩ := h
      obtain ⟨v7, ev7, tv7⟩ := o_ldI hM0 wx0.2.2.2.2.2.1.2 rfl tx6 ezv7
      refine ok_b ev7 ?_
      by_cases c2 : zv7 = zx2
      · replace h := it_t c2 h
        refine ok_t ((c_eq tv7 tx2).mpr c2) ?_
        exact o_rv hM0 h
      · replace h := it_f c2 h
        refine ok_f (mt (c_eq tv7 tx2).mp c2) ?_
        exact ih _ _ (t_add tx6 (show (1 : Int32).toInt = 1 from rfl)) _ _ hM0 h
set_option maxHeartbeats 4000000 in
set_option maxRecDepth 100000 in
theorem h_X5_addEnd {E : Em} {M : Mm} {J : Jm} (hM : Mre E M J) {this : Nat} (wthis : W5 E this) {p1 : Int32} {zp1 : Int} (tp1 : p1.toInt = zp1) {p2 : Int32} {zp2 : Int} (tp2 : p2.toInt = zp2) {p3 : Int32} {zp3 : Int} (tp3 : p3.toInt = zp3) {J1 : Jm} (h : H_X5_addEnd E this zp1 zp2 zp3 J = some J1) : Ok (F_X5_addEnd this p1 p2 p3 M) (fun q => Mre E q J1) := by
  unfold H_X5_addEnd at h
  unfold F_X5_addEnd
  refine ok_b (o_rdS hM wthis.1 (wthis.2.2.2.2.1.1)) ?_
  refine ok_s ?_
  replace h := ob h; obtain ⟨zv2, ezv2, h⟩ := h
  obtain ⟨v2, ev2, tv2⟩ := o_ldI hM wthis.2.2.2.2.1.2 rfl tp1 ezv2
  refine ok_b ev2 ?_
  refine h_X5_addEnd_L21  _ _ ?_ _ wthis _ _ tp1 _ _ tp2 _ _ tp3 _ _ (t_add (t_mul tp1 (show (41 : Int32).toInt = 41 from rfl)) tv2) _ _ _ (t_mul tp1 (show (41 : Int32).toInt = 41 from rfl)) _ _ hM h
  intro M10 J10 hM10 h
  refine ok_b (o_rdS hM10 wthis.1 (wthis.2.2.2.2.1.1)) ?_
  refine ok_s ?_
  replace h := ob h; obtain ⟨zv12, ezv12, h⟩ := h
  obtain ⟨v12, ev12, tv12⟩ := o_ldI hM10 wthis.2.2.2.2.1.2 rfl tp1 ezv12
  refine ok_b ev12 ?_
  by_cases c3 : 41 ≤ zv12
  · replace h := it_t c3 h
    refine ok_t ((c_le (show (41 : Int32).toInt = 41 from rfl) tv12).mpr c3) ?_
    exact o_rv hM10 h
  · replace h := it_f c3 h
    refine ok_f (mt (c_le (show (41 : Int32).toInt = 41 from rfl) tv12).mp c3) ?_
    refine ok_b (o_rdS hM10 wthis.1 (wthis.2.2.2.2.2.1.1)) ?_
    refine ok_s ?_
    replace h := ob h; obtain ⟨J16, eJ16, h⟩ := h
    obtain ⟨M16, eM16, hM16⟩ := o_stI hM10 wthis.2.2.2.2.2.1.2 rfl (t_add (t_mul tp1 (show (41 : Int32).toInt = 41 from rfl)) tv2) tp2 eJ16
    refine ok_b eM16 ?_
    refine ok_b (o_rdS hM16 wthis.1 (wthis.2.2.2.2.2.2.1.1)) ?_
    refine ok_s ?_
    replace h := ob h; obtain ⟨J19, eJ19, h⟩ := h
    obtain ⟨M19, eM19, hM19⟩ := o_stI hM16 wthis.2.2.2.2.2.2.1.2 rfl (t_add (t_mul tp1 (show (41 : Int32).toInt = 41 from rfl)) tv2) tp3 eJ19
    refine ok_b eM19 ?_
    refine ok_b (o_rdS hM19 wthis.1 (wthis.2.2.2.2.2.2.2.1.1)) ?_
    refine ok_b (o_isO hM19 wthis.1) ?_
    replace h := ob h; obtain ⟨zv24, ezv24, h⟩ := h
    obtain ⟨⟨v24, M22⟩, eM22, tv24, hM22⟩ := h_X5_gainBy hM19 wthis tp2 ezv24
    refine ok_b eM22 ?_
    refine ok_s ?_
    replace h := ob h; obtain ⟨J25, eJ25, h⟩ := h
    obtain ⟨M25, eM25, hM25⟩ := o_stI hM22 wthis.2.2.2.2.2.2.2.1.2 rfl (t_add (t_mul tp1 (show (41 : Int32).toInt = 41 from rfl)) tv2) tv24 eJ25
    refine ok_b eM25 ?_
    refine ok_b (o_rdS hM25 wthis.1 (wthis.2.2.2.2.1.1)) ?_
    refine ok_s ?_
    replace h := ob h; obtain ⟨zv28, ezv28, h⟩ := h
    obtain ⟨v28, ev28, tv28⟩ := o_ldI hM25 wthis.2.2.2.2.1.2 rfl tp1 ezv28
    refine ok_b ev28 ?_
    replace h := ob h; obtain ⟨J30, eJ30, h⟩ := h
    obtain ⟨M30, eM30, hM30⟩ := o_stI hM25 wthis.2.2.2.2.1.2 rfl tp1 (t_add tv28 (show (1 : Int32).toInt = 1 from rfl)) eJ30
    refine ok_b eM30 ?_
    exact o_rv hM30 h

set_option maxHeartbeats 4000000 in
set_option maxRecDepth 100000 in
theorem h_X5_listEnds_L31 {E : Em} {J1 : Jm}  (k75 : Mm → Option Mm) (k75h : Jm → Option Jm) (hk75 : ∀ (M9 : Mm) (J9 : Jm), Mre E M9 J9 → k75h J9 = some J1 → Ok (k75 M9) (fun q => Mre E q J1)) (x0 : Nat) (wx0 : W5 E x0) (x1 : Int32) (zx1 : Int) (tx1 : x1.toInt = zx1) (x2 : Int32) (zx2 : Int) (tx2 : x2.toInt = zx2) (x3 : Int32) (zx3 : Int) (tx3 : x3.toInt = zx3) (x4 : Int32) (zx4 : Int) (tx4 : x4.toInt = zx4) (x5 : Int32) (zx5 : Int) (tx5 : x5.toInt = zx5) : ∀ (fu : Nat), ∀ (x6 : Int32) (zx6 : Int), x6.toInt = zx6 → ∀ (M0 : Mm) (J0 : Jm), Mre E M0 J0 → H_X5_listEnds_L31 k75h E x0 zx1 zx2 zx3 zx4 zx5 fu zx6 J0 = some J1 → Ok (F_X5_listEnds_L31 k75 x0 x1 x2 x3 x4 x5 fu x6 M0) (fun q => Mre E q J1) := by
  intro fu
  induction fu with
  | zero =>
    intro x6 zx6 tx6 M0 J0 hM0 h
    rw [H_X5_listEnds_L31] at h
    cases h
  | succ n6 ih =>
    intro x6 zx6 tx6 M0 J0 hM0 h
    rw [H_X5_listEnds_L31] at h
    rw [F_X5_listEnds_L31]
    by_cases c2 : zx5 < zx6
    · replace h := it_t c2 h
      refine ok_t ((c_lt tx5 tx6).mpr c2) ?_
      exact hk75 _ _ hM0 h
    · replace h := it_f c2 h
      refine ok_f (mt (c_lt tx5 tx6).mp c2) ?_
      refine ok_b (o_rdR hM0 wx0.1) ?_
      replace h := ob h; obtain ⟨a9, ea9, h⟩ := h
      refine ok_b ea9 ?_
      refine ok_b (o_isO hM0 (wx0.2.2.1 _ ea9).1) ?_
      replace h := ob h; obtain ⟨zv12, ezv12, h⟩ := h
      obtain ⟨⟨v12, M10⟩, eM10, tv12, hM10⟩ := h_X7_walked hM0 (wx0.2.2.1 _ ea9) tx2 tx4 tx6 ezv12
      refine ok_b eM10 ?_
      refine ok_b (o_isO hM10 wx0.1) ?_
      replace h := ob h; obtain ⟨J13, eJ13, h⟩ := h
      obtain ⟨M13, eM13, hM13⟩ := h_X5_addEnd hM10 wx0 tx1 tv12 (t_add (t_add (t_mul (show (20 : Int32).toInt = 20 from rfl) (t_add tx4 (show (10 : Int32).toInt = 10 from rfl))) tx6) (show (10 : Int32).toInt = 10 from rfl)) eJ13
      refine ok_b eM13 ?_
      exact ih _ _ (t_add tx6 (show (1 : Int32).toInt = 1 from rfl)) _ _ hM13 h
set_option maxHeartbeats 4000000 in
set_option maxRecDepth 100000 in
theorem h_X5_listEnds_L11 {E : Em} {J1 : Jm}   (x0 : Nat) (wx0 : W5 E x0) (x1 : Int32) (zx1 : Int) (tx1 : x1.toInt = zx1) (x2 : Int32) (zx2 : Int) (tx2 : x2.toInt = zx2) (x3 : Int32) (zx3 : Int) (tx3 : x3.toInt = zx3) : ∀ (fu : Nat), ∀ (x4 : Int32) (zx4 : Int), x4.toInt = zx4 → ∀ (M0 : Mm) (J0 : Jm), Mre E M0 J0 → H_X5_listEnds_L11 E x0 zx1 zx2 zx3 fu zx4 J0 = some J1 → Ok (F_X5_listEnds_L11 x0 x1 x2 x3 fu x4 M0) (fun q => Mre E q J1) := by
  intro fu
  induction fu with
  | zero =>
    intro x4 zx4 tx4 M0 J0 hM0 h
    rw [H_X5_listEnds_L11] at h
    cases h
  | succ n4 ih =>
    intro x4 zx4 tx4 M0 J0 hM0 h
    rw [H_X5_listEnds_L11] at h
    rw [F_X5_listEnds_L11]
    by_cases c1 : zx3 < zx4
    · replace h := it_t c1 h
      refine ok_t ((c_lt tx3 tx4).mpr c1) ?_
      exact o_rv hM0 h
    · replace h := it_f c1 h
      refine ok_f (mt (c_lt tx3 tx4).mp c1) ?_
      refine h_X5_listEnds_L31  _ _ ?_ _ wx0 _ _ tx1 _ _ tx2 _ _ tx3 _ _ tx4 _ _ (t_sub tx3 (t_ab tx4)) _ _ _ (t_neg (t_sub tx3 (t_ab tx4))) _ _ hM0 h
      intro M15 J15 hM15 h
      exact ih _ _ (t_add tx4 (show (1 : Int32).toInt = 1 from rfl)) _ _ hM15 h
set_option maxHeartbeats 4000000 in
set_option maxRecDepth 100000 in
theorem h_X5_listEnds {E : Em} {M : Mm} {J : Jm} (hM : Mre E M J) {this : Nat} (wthis : W5 E this) {p1 : Int32} {zp1 : Int} (tp1 : p1.toInt = zp1) {p2 : Int32} {zp2 : Int} (tp2 : p2.toInt = zp2) {p3 : Int32} {zp3 : Int} (tp3 : p3.toInt = zp3) {J1 : Jm} (h : H_X5_listEnds E this zp1 zp2 zp3 J = some J1) : Ok (F_X5_listEnds this p1 p2 p3 M) (fun q => Mre E q J1) := by
  unfold H_X5_listEnds at h
  unfold F_X5_listEnds
  refine ok_b (o_rdS hM wthis.1 (wthis.2.2.2.2.1.1)) ?_
  refine ok_s ?_
  replace h := ob h; obtain ⟨J2, eJ2, h⟩ := h
  obtain ⟨M2, eM2, hM2⟩ := o_stI hM wthis.2.2.2.2.1.2 rfl tp1 (show (0 : Int32).toInt = 0 from rfl) eJ2
  refine ok_b eM2 ?_
  refine h_X5_listEnds_L11   _ wthis _ _ tp1 _ _ tp2 _ _ tp3 _ _ _ (t_neg tp3) _ _ hM2 h

set_option maxHeartbeats 4000000 in
set_option maxRecDepth 100000 in
theorem h_X5_sumMostFrom_L25 {E : Em} {J1 : Jm}  (k57 : Int32 → Mm → Option Mm) (k57h : Int → Jm → Option Jm) (hk57 : ∀ (y0 : Int32) (zy0 : Int), y0.toInt = zy0 → ∀ (M9 : Mm) (J9 : Jm), Mre E M9 J9 → k57h zy0 J9 = some J1 → Ok (k57 y0 M9) (fun q => Mre E q J1)) (x0 : Nat) (wx0 : W5 E x0) (x1 : Int32) (zx1 : Int) (tx1 : x1.toInt = zx1) : ∀ (fu : Nat), ∀ (x2 : Int32) (zx2 : Int), x2.toInt = zx2 → ∀ (x3 : Int32) (zx3 : Int), x3.toInt = zx3 → ∀ (M0 : Mm) (J0 : Jm), Mre E M0 J0 → H_X5_sumMostFrom_L25 k57h x0 zx1 fu zx2 zx3 J0 = some J1 → Ok (F_X5_sumMostFrom_L25 k57 x0 x1 fu x2 x3 M0) (fun q => Mre E q J1) := by
  intro fu
  induction fu with
  | zero =>
    intro x2 zx2 tx2 x3 zx3 tx3 M0 J0 hM0 h
    rw [H_X5_sumMostFrom_L25] at h
    cases h
  | succ n8 ih =>
    intro x2 zx2 tx2 x3 zx3 tx3 M0 J0 hM0 h
    rw [H_X5_sumMostFrom_L25] at h
    rw [F_X5_sumMostFrom_L25]
    refine ok_b (o_rdS hM0 wx0.1 (wx0.2.2.2.2.1.1)) ?_
    refine ok_s ?_
    replace h := ob h; obtain ⟨zv10, ezv10, h⟩ := h
    obtain ⟨v10, ev10, tv10⟩ := o_ldI hM0 wx0.2.2.2.2.1.2 rfl tx1 ezv10
    refine ok_b ev10 ?_
    by_cases c2 : zv10 ≤ zx3
    · replace h := it_t c2 h
      refine ok_t ((c_le tv10 tx3).mpr c2) ?_
      exact hk57 _ _ tx2 _ _ hM0 h
    · replace h := it_f c2 h
      refine ok_f (mt (c_le tv10 tx3).mp c2) ?_
      refine ok_b (o_rdS hM0 wx0.1 (wx0.2.2.2.2.2.2.2.1.1)) ?_
      refine ok_s ?_
      replace h := ob h; obtain ⟨zv14, ezv14, h⟩ := h
      obtain ⟨v14, ev14, tv14⟩ := o_ldI hM0 wx0.2.2.2.2.2.2.2.1.2 rfl (t_add (t_mul tx1 (show (41 : Int32).toInt = 41 from rfl)) tx3) ezv14
      refine ok_b ev14 ?_
      exact ih _ _ (t_mx tx2 tv14) _ _ (t_add tx3 (show (1 : Int32).toInt = 1 from rfl)) _ _ hM0 h
set_option maxHeartbeats 4000000 in
set_option maxRecDepth 100000 in
theorem h_X5_sumMostFrom_L17 {E : Em} {J1 : Jm}   (x0 : Nat) (wx0 : W5 E x0) : ∀ (fu : Nat), ∀ (x1 : Int32) (zx1 : Int), x1.toInt = zx1 → ∀ (M0 : Mm) (J0 : Jm), Mre E M0 J0 → H_X5_sumMostFrom_L17 x0 fu zx1 J0 = some J1 → Ok (F_X5_sumMostFrom_L17 x0 fu x1 M0) (fun q => Mre E q J1) := by
  intro fu
  induction fu with
  | zero =>
    intro x1 zx1 tx1 M0 J0 hM0 h
    rw [H_X5_sumMostFrom_L17] at h
    cases h
  | succ n6 ih =>
    intro x1 zx1 tx1 M0 J0 hM0 h
    rw [H_X5_sumMostFrom_L17] at h
    rw [F_X5_sumMostFrom_L17]
    by_cases c1 : zx1 < 0
    · replace h := it_t c1 h
      refine ok_t ((c_lt tx1 (show (0 : Int32).toInt = 0 from rfl)).mpr c1) ?_
      exact o_rv hM0 h
    · replace h := it_f c1 h
      refine ok_f (mt (c_lt tx1 (show (0 : Int32).toInt = 0 from rfl)).mp c1) ?_
      refine h_X5_sumMostFrom_L25  _ _ ?_ _ wx0 _ _ tx1 _ _ _ (show (0 : Int32).toInt = 0 from rfl) _ _ (show (0 : Int32).toInt = 0 from rfl) _ _ hM0 h
      intro y16 zy16 ty16 M17 J17 hM17 h
      refine ok_b (o_rdS hM17 wx0.1 (wx0.2.2.2.2.2.2.2.2.1.1)) ?_
      refine ok_b (o_rdS hM17 wx0.1 (wx0.2.2.2.2.2.2.2.2.1.1)) ?_
      refine ok_s ?_
      replace h := ob h; obtain ⟨zv20, ezv20, h⟩ := h
      obtain ⟨v20, ev20, tv20⟩ := o_ldI hM17 wx0.2.2.2.2.2.2.2.2.1.2 rfl (t_add tx1 (show (1 : Int32).toInt = 1 from rfl)) ezv20
      refine ok_b ev20 ?_
      refine ok_s ?_
      replace h := ob h; obtain ⟨J22, eJ22, h⟩ := h
      obtain ⟨M22, eM22, hM22⟩ := o_stI hM17 wx0.2.2.2.2.2.2.2.2.1.2 rfl tx1 (t_add tv20 ty16) eJ22
      refine ok_b eM22 ?_
      exact ih _ _ (t_add tx1 (show ((-1) : Int32).toInt = (-1) from rfl)) _ _ hM22 h
set_option maxHeartbeats 4000000 in
set_option maxRecDepth 100000 in
theorem h_X5_sumMostFrom {E : Em} {M : Mm} {J : Jm} (hM : Mre E M J) {this : Nat} (wthis : W5 E this) {J1 : Jm} (h : H_X5_sumMostFrom this J = some J1) : Ok (F_X5_sumMostFrom this M) (fun q => Mre E q J1) := by
  unfold H_X5_sumMostFrom at h
  unfold F_X5_sumMostFrom
  refine ok_b (o_rdS hM wthis.1 (wthis.2.2.2.2.2.2.2.2.1.1)) ?_
  obtain ⟨v2, ev2, tv2⟩ := o_rdI (k := 3) hM wthis.1
  refine ok_b ev2 ?_
  refine ok_s ?_
  replace h := ob h; obtain ⟨J3, eJ3, h⟩ := h
  obtain ⟨M3, eM3, hM3⟩ := o_stI hM wthis.2.2.2.2.2.2.2.2.1.2 rfl tv2 (show (0 : Int32).toInt = 0 from rfl) eJ3
  refine ok_b eM3 ?_
  obtain ⟨v5, ev5, tv5⟩ := o_rdI (k := 3) hM3 wthis.1
  refine ok_b ev5 ?_
  refine h_X5_sumMostFrom_L17   _ wthis _ _ _ (t_sub tv5 (show (1 : Int32).toInt = 1 from rfl)) _ _ hM3 h

set_option maxHeartbeats 4000000 in
set_option maxRecDepth 100000 in
theorem h_X5_isTaken_L2 {E : Em} {z : Int} (J : Jm)  (x0 : Nat) (wx0 : W5 E x0) (x1 : Int32) (zx1 : Int) (tx1 : x1.toInt = zx1) (x2 : Int32) (zx2 : Int) (tx2 : x2.toInt = zx2) : ∀ (fu : Nat), ∀ (x3 : Int32) (zx3 : Int), x3.toInt = zx3 → ∀ (M0 : Mm), Mre E M0 J → H_X5_isTaken_L2 x0 zx1 zx2 J fu zx3 = some z → Ok (F_X5_isTaken_L2 x0 x1 x2 fu x3 M0) (fun q => q.1.toInt = z ∧ Mre E q.2 J) := by
  intro fu
  induction fu with
  | zero =>
    intro x3 zx3 tx3 M0 hM0 h
    rw [H_X5_isTaken_L2] at h
    cases h
  | succ n1 ih =>
    intro x3 zx3 tx3 M0 hM0 h
    rw [H_X5_isTaken_L2] at h
    rw [F_X5_isTaken_L2]
    by_cases c1 : zx1 ≤ zx3
    · replace h := it_t c1 h
      refine ok_t ((c_le tx1 tx3).mpr c1) ?_
      exact o_ri0 (show (0 : Int32).toInt = 0 from rfl) hM0 h
    · replace h := it_f c1 h
      refine ok_f (mt (c_le tx1 tx3).mp c1) ?_
      refine ok_b (o_rdS hM0 wx0.1 (wx0.2.2.2.2.2.1.1)) ?_
      refine ok_b (o_rdS hM0 wx0.1 (wx0.2.2.2.2.2.2.2.2.2.2.2.1.1)) ?_
      refine ok_s ?_
      replace h := ob h; obtain ⟨zv5, ezv5, h⟩ := h
      obtain ⟨v5, ev5, tv5⟩ := o_ldI hM0 wx0.2.2.2.2.2.2.2.2.2.2.2.1.2 rfl tx3 ezv5
      refine ok_b ev5 ?_
      refine ok_s ?_
      replace h := ob h; obtain ⟨zv7, ezv7, h⟩ := h
      obtain ⟨v7, ev7, tv7⟩ := o_ldI hM0 wx0.2.2.2.2.2.1.2 rfl tv5 ezv7
      refine ok_b ev7 ?_
      by_cases c2 : zv7 = zx2
      · replace h := it_t c2 h
        refine ok_t ((c_eq tv7 tx2).mpr c2) ?_
        exact o_ri0 (show (1 : Int32).toInt = 1 from rfl) hM0 h
      · replace h := it_f c2 h
        refine ok_f (mt (c_eq tv7 tx2).mp c2) ?_
        exact ih _ _ (t_add tx3 (show (1 : Int32).toInt = 1 from rfl)) _ hM0 h
set_option maxHeartbeats 4000000 in
set_option maxRecDepth 100000 in
theorem h_X5_isTaken {E : Em} {M : Mm} {J : Jm} (hM : Mre E M J) {this : Nat} (wthis : W5 E this) {p1 : Int32} {zp1 : Int} (tp1 : p1.toInt = zp1) {p2 : Int32} {zp2 : Int} (tp2 : p2.toInt = zp2) {z : Int} (h : H_X5_isTaken this zp1 zp2 J = some z) : Ok (F_X5_isTaken this p1 p2 M) (fun q => q.1.toInt = z ∧ Mre E q.2 J) := by
  unfold H_X5_isTaken at h
  unfold F_X5_isTaken
  refine h_X5_isTaken_L2 _  _ wthis _ _ tp1 _ _ tp2 _ _ _ (show (0 : Int32).toInt = 0 from rfl) _ hM h

set_option maxHeartbeats 4000000 in
set_option maxRecDepth 100000 in
theorem h_X5_cover_L2 {E : Em} {J1 : Jm}   (x0 : Nat) (wx0 : W5 E x0) (x1 : Int32) (zx1 : Int) (tx1 : x1.toInt = zx1) (x2 : Int32) (zx2 : Int) (tx2 : x2.toInt = zx2) : ∀ (fu : Nat), ∀ (x3 : Int32) (zx3 : Int), x3.toInt = zx3 → ∀ (M0 : Mm) (J0 : Jm), Mre E M0 J0 → H_X5_cover_L2 E x0 zx1 zx2 fu zx3 J0 = some J1 → Ok (F_X5_cover_L2 x0 x1 x2 fu x3 M0) (fun q => Mre E q J1) := by
  intro fu
  induction fu with
  | zero =>
    intro x3 zx3 tx3 M0 J0 hM0 h
    rw [H_X5_cover_L2] at h
    cases h
  | succ n1 ih =>
    intro x3 zx3 tx3 M0 J0 hM0 h
    rw [H_X5_cover_L2] at h
    rw [F_X5_cover_L2]
    by_cases c1 : 5 ≤ zx3
    · replace h := it_t c1 h
      refine ok_t ((c_le (show (5 : Int32).toInt = 5 from rfl) tx3).mpr c1) ?_
      exact o_rv hM0 h
    · replace h := it_f c1 h
      refine ok_f (mt (c_le (show (5 : Int32).toInt = 5 from rfl) tx3).mp c1) ?_
      refine ok_b (o_rdR hM0 wx0.1) ?_
      replace h := ob h; obtain ⟨a4, ea4, h⟩ := h
      refine ok_b ea4 ?_
      refine ok_b (o_isO hM0 (wx0.2.2.1 _ ea4).1) ?_
      replace h := ob h; obtain ⟨zv7, ezv7, h⟩ := h
      obtain ⟨⟨v7, M5⟩, eM5, tv7, hM5⟩ := h_X7_beside hM0 (wx0.2.2.1 _ ea4) tx2 tx3 ezv7
      refine ok_b eM5 ?_
      by_cases c2 : zv7 < 0
      · replace h := it_t c2 h
        refine ok_t ((c_lt tv7 (show (0 : Int32).toInt = 0 from rfl)).mpr c2) ?_
        exact ih _ _ (t_add tx3 (show (1 : Int32).toInt = 1 from rfl)) _ _ hM5 h
      · replace h := it_f c2 h
        refine ok_f (mt (c_lt tv7 (show (0 : Int32).toInt = 0 from rfl)).mp c2) ?_
        refine ok_b (o_rdS hM5 wx0.1 (wx0.2.2.2.2.2.2.2.2.2.2.1.1)) ?_
        refine ok_b (o_rdS hM5 wx0.1 (wx0.2.2.2.2.2.2.2.2.2.1.1)) ?_
        refine ok_s ?_
        replace h := ob h; obtain ⟨zv11, ezv11, h⟩ := h
        obtain ⟨v11, ev11, tv11⟩ := o_ldI hM5 wx0.2.2.2.2.2.2.2.2.2.1.2 rfl tv7 ezv11
        refine ok_b ev11 ?_
        refine ok_s ?_
        replace h := ob h; obtain ⟨J13, eJ13, h⟩ := h
        obtain ⟨M13, eM13, hM13⟩ := o_stI hM5 wx0.2.2.2.2.2.2.2.2.2.2.1.2 rfl (t_add (t_mul tx1 (show (5 : Int32).toInt = 5 from rfl)) tx3) tv11 eJ13
        refine ok_b eM13 ?_
        refine ok_b (o_rdS hM13 wx0.1 (wx0.2.2.2.2.2.2.2.2.2.1.1)) ?_
        refine ok_b (o_rdS hM13 wx0.1 (wx0.2.2.2.2.2.2.2.2.2.1.1)) ?_
        refine ok_s ?_
        replace h := ob h; obtain ⟨zv17, ezv17, h⟩ := h
        obtain ⟨v17, ev17, tv17⟩ := o_ldI hM13 wx0.2.2.2.2.2.2.2.2.2.1.2 rfl tv7 ezv17
        refine ok_b ev17 ?_
        refine ok_b (o_isO hM13 wx0.1) ?_
        replace h := ob h; obtain ⟨zv21, ezv21, h⟩ := h
        obtain ⟨⟨v21, M19⟩, eM19, tv21, hM19⟩ := h_X5_worth hM13 wx0 tv7 tx3 ezv21
        refine ok_b eM19 ?_
        refine ok_s ?_
        replace h := ob h; obtain ⟨J22, eJ22, h⟩ := h
        obtain ⟨M22, eM22, hM22⟩ := o_stI hM19 wx0.2.2.2.2.2.2.2.2.2.1.2 rfl tv7 (t_mx tv17 tv21) eJ22
        refine ok_b eM22 ?_
        exact ih _ _ (t_add tx3 (show (1 : Int32).toInt = 1 from rfl)) _ _ hM22 h
set_option maxHeartbeats 4000000 in
set_option maxRecDepth 100000 in
theorem h_X5_cover {E : Em} {M : Mm} {J : Jm} (hM : Mre E M J) {this : Nat} (wthis : W5 E this) {p1 : Int32} {zp1 : Int} (tp1 : p1.toInt = zp1) {p2 : Int32} {zp2 : Int} (tp2 : p2.toInt = zp2) {J1 : Jm} (h : H_X5_cover E this zp1 zp2 J = some J1) : Ok (F_X5_cover this p1 p2 M) (fun q => Mre E q J1) := by
  unfold H_X5_cover at h
  unfold F_X5_cover
  refine h_X5_cover_L2   _ wthis _ _ tp1 _ _ tp2 _ _ _ (show (0 : Int32).toInt = 0 from rfl) _ _ hM h

set_option maxHeartbeats 4000000 in
set_option maxRecDepth 100000 in
theorem h_X5_uncover_L2 {E : Em} {J1 : Jm}   (x0 : Nat) (wx0 : W5 E x0) (x1 : Int32) (zx1 : Int) (tx1 : x1.toInt = zx1) (x2 : Int32) (zx2 : Int) (tx2 : x2.toInt = zx2) : ∀ (fu : Nat), ∀ (x3 : Int32) (zx3 : Int), x3.toInt = zx3 → ∀ (M0 : Mm) (J0 : Jm), Mre E M0 J0 → H_X5_uncover_L2 E x0 zx1 zx2 fu zx3 J0 = some J1 → Ok (F_X5_uncover_L2 x0 x1 x2 fu x3 M0) (fun q => Mre E q J1) := by
  intro fu
  induction fu with
  | zero =>
    intro x3 zx3 tx3 M0 J0 hM0 h
    rw [H_X5_uncover_L2] at h
    cases h
  | succ n1 ih =>
    intro x3 zx3 tx3 M0 J0 hM0 h
    rw [H_X5_uncover_L2] at h
    rw [F_X5_uncover_L2]
    by_cases c1 : 5 ≤ zx3
    · replace h := it_t c1 h
      refine ok_t ((c_le (show (5 : Int32).toInt = 5 from rfl) tx3).mpr c1) ?_
      exact o_rv hM0 h
    · replace h := it_f c1 h
      refine ok_f (mt (c_le (show (5 : Int32).toInt = 5 from rfl) tx3).mp c1) ?_
      refine ok_b (o_rdR hM0 wx0.1) ?_
      replace h := ob h; obtain ⟨a4, ea4, h⟩ := h
      refine ok_b ea4 ?_
      refine ok_b (o_isO hM0 (wx0.2.2.1 _ ea4).1) ?_
      replace h := ob h; obtain ⟨zv7, ezv7, h⟩ := h
      obtain ⟨⟨v7, M5⟩, eM5, tv7, hM5⟩ := h_X7_beside hM0 (wx0.2.2.1 _ ea4) tx2 tx3 ezv7
      refine ok_b eM5 ?_
      by_cases c2 : zv7 < 0
      · replace h := it_t c2 h
        refine ok_t ((c_lt tv7 (show (0 : Int32).toInt = 0 from rfl)).mpr c2) ?_
        exact ih _ _ (t_add tx3 (show (1 : Int32).toInt = 1 from rfl)) _ _ hM5 h
      · replace h := it_f c2 h
        refine ok_f (mt (c_lt tv7 (show (0 : Int32).toInt = 0 from rfl)).mp c2) ?_
        refine ok_b (o_rdS hM5 wx0.1 (wx0.2.2.2.2.2.2.2.2.2.1.1)) ?_
        refine ok_b (o_rdS hM5 wx0.1 (wx0.2.2.2.2.2.2.2.2.2.2.1.1)) ?_
        refine ok_s ?_
        replace h := ob h; obtain ⟨zv11, ezv11, h⟩ := h
        obtain ⟨v11, ev11, tv11⟩ := o_ldI hM5 wx0.2.2.2.2.2.2.2.2.2.2.1.2 rfl (t_add (t_mul tx1 (show (5 : Int32).toInt = 5 from rfl)) tx3) ezv11
        refine ok_b ev11 ?_
        refine ok_s ?_
        replace h := ob h; obtain ⟨J13, eJ13, h⟩ := h
        obtain ⟨M13, eM13, hM13⟩ := o_stI hM5 wx0.2.2.2.2.2.2.2.2.2.1.2 rfl tv7 tv11 eJ13
        refine ok_b eM13 ?_
        exact ih _ _ (t_add tx3 (show (1 : Int32).toInt = 1 from rfl)) _ _ hM13 h
set_option maxHeartbeats 4000000 in
set_option maxRecDepth 100000 in
theorem h_X5_uncover {E : Em} {M : Mm} {J : Jm} (hM : Mre E M J) {this : Nat} (wthis : W5 E this) {p1 : Int32} {zp1 : Int} (tp1 : p1.toInt = zp1) {p2 : Int32} {zp2 : Int} (tp2 : p2.toInt = zp2) {J1 : Jm} (h : H_X5_uncover E this zp1 zp2 J = some J1) : Ok (F_X5_uncover this p1 p2 M) (fun q => Mre E q J1) := by
  unfold H_X5_uncover at h
  unfold F_X5_uncover
  refine h_X5_uncover_L2   _ wthis _ _ tp1 _ _ tp2 _ _ _ (show (0 : Int32).toInt = 0 from rfl) _ _ hM h

set_option maxHeartbeats 4000000 in
set_option maxRecDepth 100000 in
theorem h_X5_search_L33 {E : Em} {J1 : Jm}  (rec : Nat → Int32 → Int32 → Mm → Option Mm) (rech : Nat → Int → Int → Jm → Option Jm) (hrec : ∀ {M : Mm} {J : Jm} {this : Nat} {p1 p2 : Int32} {zp1 zp2 : Int} {J1 : Jm}, Mre E M J → W5 E this → p1.toInt = zp1 → p2.toInt = zp2 → rech this zp1 zp2 J = some J1 → ∃ M1, rec this p1 p2 M = some M1 ∧ Mre E M1 J1)  (x0 : Nat) (wx0 : W5 E x0) (x1 : Int32) (zx1 : Int) (tx1 : x1.toInt = zx1) (x2 : Int32) (zx2 : Int) (tx2 : x2.toInt = zx2) (x3 : Int32) (zx3 : Int) (tx3 : x3.toInt = zx3) : ∀ (fu : Nat), ∀ (x4 : Int32) (zx4 : Int), x4.toInt = zx4 → ∀ (M0 : Mm) (J0 : Jm), Mre E M0 J0 → H_X5_search_L33 rech E x0 zx1 zx2 zx3 fu zx4 J0 = some J1 → Ok (F_X5_search_L33 rec x0 x1 x2 x3 fu x4 M0) (fun q => Mre E q J1) := by
  intro fu
  induction fu with
  | zero =>
    intro x4 zx4 tx4 M0 J0 hM0 h
    rw [H_X5_search_L33] at h
    cases h
  | succ n3 ih =>
    intro x4 zx4 tx4 M0 J0 hM0 h
    rw [H_X5_search_L33] at h
    rw [F_X5_search_L33]
    refine ok_b (o_rdS hM0 wx0.1 (wx0.2.2.2.2.1.1)) ?_
    refine ok_s ?_
    replace h := ob h; obtain ⟨zv5, ezv5, h⟩ := h
    obtain ⟨v5, ev5, tv5⟩ := o_ldI hM0 wx0.2.2.2.2.1.2 rfl tx1 ezv5
    refine ok_b ev5 ?_
    by_cases c2 : (wr (zx3 + zv5)) ≤ zx4
    · replace h := it_t c2 h
      refine ok_t ((c_le (t_add tx3 tv5) tx4).mpr c2) ?_
      exact o_rv hM0 h
    · replace h := it_f c2 h
      refine ok_f (mt (c_le (t_add tx3 tv5) tx4).mp c2) ?_
      refine ok_b (o_rdS hM0 wx0.1 (wx0.2.2.2.2.2.2.2.1.1)) ?_
      refine ok_s ?_
      replace h := ob h; obtain ⟨zv9, ezv9, h⟩ := h
      obtain ⟨v9, ev9, tv9⟩ := o_ldI hM0 wx0.2.2.2.2.2.2.2.1.2 rfl tx4 ezv9
      refine ok_b ev9 ?_
      refine ok_b (o_rdS hM0 wx0.1 (wx0.2.2.2.2.2.2.2.2.1.1)) ?_
      refine ok_s ?_
      replace h := ob h; obtain ⟨zv12, ezv12, h⟩ := h
      obtain ⟨v12, ev12, tv12⟩ := o_ldI hM0 wx0.2.2.2.2.2.2.2.2.1.2 rfl (t_add tx1 (show (1 : Int32).toInt = 1 from rfl)) ezv12
      refine ok_b ev12 ?_
      obtain ⟨v14, ev14, tv14⟩ := o_rdI (k := 13) hM0 wx0.1
      refine ok_b ev14 ?_
      replace h := nv_e h; obtain ⟨zv15, ezv15, h⟩ := h
      obtain ⟨v15, evv15⟩ : ∃ v : Int32, v = (if ((x2 + v9) + v12) ≤ v14 then 0 else 1) := ⟨_, rfl⟩
      have tv15 : v15.toInt = zv15 := by rw [evv15, ezv15]; exact (t_ite (c_le (t_add (t_add tx2 tv9) tv12) tv14) (show (0 : Int32).toInt = 0 from rfl) (show (1 : Int32).toInt = 1 from rfl))
      refine ok_nv evv15 ?_
      by_cases c3 : zv15 = 0
      · replace h := it_t c3 h
        refine ok_t ((c_eq tv15 (show (0 : Int32).toInt = 0 from rfl)).mpr c3) ?_
        exact ih _ _ (t_add tx4 (show (1 : Int32).toInt = 1 from rfl)) _ _ hM0 h
      · replace h := it_f c3 h
        refine ok_f (mt (c_eq tv15 (show (0 : Int32).toInt = 0 from rfl)).mp c3) ?_
        refine ok_b (o_rdS hM0 wx0.1 (wx0.2.2.2.2.2.1.1)) ?_
        refine ok_s ?_
        replace h := ob h; obtain ⟨zv19, ezv19, h⟩ := h
        obtain ⟨v19, ev19, tv19⟩ := o_ldI hM0 wx0.2.2.2.2.2.1.2 rfl tx4 ezv19
        refine ok_b ev19 ?_
        refine ok_b (o_isO hM0 wx0.1) ?_
        replace h := ob h; obtain ⟨zv23, ezv23, h⟩ := h
        obtain ⟨⟨v23, M21⟩, eM21, tv23, hM21⟩ := h_X5_isTaken hM0 wx0 tx1 tv19 ezv23
        refine ok_b eM21 ?_
        by_cases c4 : zv23 = 0
        · replace h := it_t c4 h
          refine ok_t ((c_eq tv23 (show (0 : Int32).toInt = 0 from rfl)).mpr c4) ?_
          refine ok_b (o_rdS hM21 wx0.1 (wx0.2.2.2.2.2.1.1)) ?_
          refine ok_s ?_
          replace h := ob h; obtain ⟨zv26, ezv26, h⟩ := h
          obtain ⟨v26, ev26, tv26⟩ := o_ldI hM21 wx0.2.2.2.2.2.1.2 rfl tx4 ezv26
          refine ok_b ev26 ?_
          refine ok_b (o_isO hM21 wx0.1) ?_
          replace h := ob h; obtain ⟨zv30, ezv30, h⟩ := h
          obtain ⟨⟨v30, M28⟩, eM28, tv30, hM28⟩ := h_X5_gainBy hM21 wx0 tv26 ezv30
          refine ok_b eM28 ?_
          refine ok_b (o_rdS hM28 wx0.1 (wx0.2.2.2.2.2.2.2.2.1.1)) ?_
          refine ok_s ?_
          replace h := ob h; obtain ⟨zv32, ezv32, h⟩ := h
          obtain ⟨v32, ev32, tv32⟩ := o_ldI hM28 wx0.2.2.2.2.2.2.2.2.1.2 rfl (t_add tx1 (show (1 : Int32).toInt = 1 from rfl)) ezv32
          refine ok_b ev32 ?_
          obtain ⟨v34, ev34, tv34⟩ := o_rdI (k := 13) hM28 wx0.1
          refine ok_b ev34 ?_
          by_cases c5 : (wr ((wr (zx2 + zv30)) + zv32)) ≤ (J0 x0 13)
          · replace h := it_t c5 h
            refine ok_t ((c_le (t_add (t_add tx2 tv30) tv32) tv34).mpr c5) ?_
            exact ih _ _ (t_add tx4 (show (1 : Int32).toInt = 1 from rfl)) _ _ hM28 h
          · replace h := it_f c5 h
            refine ok_f (mt (c_le (t_add (t_add tx2 tv30) tv32) tv34).mp c5) ?_
            refine ok_b (o_rdS hM28 wx0.1 (wx0.2.2.2.2.2.2.2.2.2.2.2.1.1)) ?_
            refine ok_s ?_
            replace h := ob h; obtain ⟨J37, eJ37, h⟩ := h
            obtain ⟨M37, eM37, hM37⟩ := o_stI hM28 wx0.2.2.2.2.2.2.2.2.2.2.2.1.2 rfl tx1 tx4 eJ37
            refine ok_b eM37 ?_
            refine ok_b (o_rdS hM37 wx0.1 (wx0.2.2.2.2.2.1.1)) ?_
            refine ok_s ?_
            replace h := ob h; obtain ⟨zv40, ezv40, h⟩ := h
            obtain ⟨v40, ev40, tv40⟩ := o_ldI hM37 wx0.2.2.2.2.2.1.2 rfl tx4 ezv40
            refine ok_b ev40 ?_
            refine ok_b (o_isO hM37 wx0.1) ?_
            replace h := ob h; obtain ⟨J42, eJ42, h⟩ := h
            obtain ⟨M42, eM42, hM42⟩ := h_X5_cover hM37 wx0 tx1 tv40 eJ42
            refine ok_b eM42 ?_
            refine ok_b (o_isO hM42 wx0.1) ?_
            replace h := ob h; obtain ⟨J44, eJ44, h⟩ := h
            obtain ⟨M44, eM44, hM44⟩ := hrec hM42 wx0 (t_add tx1 (show (1 : Int32).toInt = 1 from rfl)) (t_add tx2 tv30) eJ44
            refine ok_b eM44 ?_
            refine ok_b (o_rdS hM44 wx0.1 (wx0.2.2.2.2.2.1.1)) ?_
            refine ok_s ?_
            replace h := ob h; obtain ⟨zv47, ezv47, h⟩ := h
            obtain ⟨v47, ev47, tv47⟩ := o_ldI hM44 wx0.2.2.2.2.2.1.2 rfl tx4 ezv47
            refine ok_b ev47 ?_
            refine ok_b (o_isO hM44 wx0.1) ?_
            replace h := ob h; obtain ⟨J49, eJ49, h⟩ := h
            obtain ⟨M49, eM49, hM49⟩ := h_X5_uncover hM44 wx0 tx1 tv47 eJ49
            refine ok_b eM49 ?_
            exact ih _ _ (t_add tx4 (show (1 : Int32).toInt = 1 from rfl)) _ _ hM49 h
        · replace h := it_f c4 h
          refine ok_f (mt (c_eq tv23 (show (0 : Int32).toInt = 0 from rfl)).mp c4) ?_
          exact ih _ _ (t_add tx4 (show (1 : Int32).toInt = 1 from rfl)) _ _ hM21 h
set_option maxHeartbeats 4000000 in
set_option maxRecDepth 100000 in
theorem h_X5_search {E : Em} : ∀ (fu : Nat) {M : Mm} {J : Jm} {this : Nat} {p1 p2 : Int32} {zp1 zp2 : Int} {J1 : Jm}, Mre E M J → W5 E this → p1.toInt = zp1 → p2.toInt = zp2 → H_X5_search E fu this zp1 zp2 J = some J1 → ∃ M1, F_X5_search fu this p1 p2 M = some M1 ∧ Mre E M1 J1 := by
  intro fu
  induction fu with
  | zero =>
    intro M J this p1 p2 zp1 zp2 J1 hM wthis tp1 tp2 h
    rw [H_X5_search] at h
    cases h
  | succ nr ih =>
    intro M J this p1 p2 zp1 zp2 J1 hM wthis tp1 tp2 h
    rw [H_X5_search] at h
    rw [F_X5_search]
    have hrec := @ih
    show Ok _ (fun q => Mre E q J1)
    obtain ⟨v1, ev1, tv1⟩ := o_rdI (k := 3) hM wthis.1
    refine ok_b ev1 ?_
    by_cases c1 : zp1 < (J this 3)
    · replace h := it_t c1 h
      refine ok_t ((c_lt tp1 tv1).mpr c1) ?_
      refine h_X5_search_L33  _ _ hrec  _ wthis _ _ tp1 _ _ tp2 _ _ (t_mul tp1 (show (41 : Int32).toInt = 41 from rfl)) _ _ _ (t_mul tp1 (show (41 : Int32).toInt = 41 from rfl)) _ _ hM h
    · replace h := it_f c1 h
      refine ok_f (mt (c_lt tp1 tv1).mp c1) ?_
      replace h := nv_e h; obtain ⟨J52, eJ52, h⟩ := h
      obtain ⟨M52, eM52, hM52⟩ := o_wrI (k := 13) hM wthis.1 tp2 eJ52
      refine ok_b eM52 ?_
      refine ok_b (o_rdS hM52 wthis.1 (wthis.2.2.2.2.2.2.2.2.2.2.2.1.1)) ?_
      refine ok_b (o_rdS hM52 wthis.1 (wthis.2.2.2.2.2.2.2.2.2.2.2.2.1)) ?_
      refine ok_s ?_
      refine ok_s ?_
      replace h := ob h; obtain ⟨J57, eJ57, h⟩ := h
      obtain ⟨M57, eM57, hM57⟩ := h_X11_copyAll hM52 (⟨by rw [wthis.2.2.2.2.2.2.2.2.2.2.2.1.2], by rw [wthis.2.2.2.2.2.2.2.2.2.2.2.1.2]; exact (by decide)⟩ : Wa E (this + 9)) (⟨by rw [wthis.2.2.2.2.2.2.2.2.2.2.2.2.2], by rw [wthis.2.2.2.2.2.2.2.2.2.2.2.2.2]; exact (by decide)⟩ : Wa E (this + 10)) eJ57
      refine ok_b eM57 ?_
      exact o_rv hM57 h

set_option maxHeartbeats 4000000 in
set_option maxRecDepth 100000 in
theorem h_X5_work_L21 {E : Em} {z : Int} {J1 : Jm}   (x0 : Nat) (wx0 : W5 E x0) (x1 : Int32) (zx1 : Int) (tx1 : x1.toInt = zx1) : ∀ (fu : Nat), ∀ (x2 : Int32) (zx2 : Int), x2.toInt = zx2 → ∀ (M0 : Mm) (J0 : Jm), Mre E M0 J0 → H_X5_work_L21 E x0 zx1 fu zx2 J0 = some (z, J1) → Ok (F_X5_work_L21 x0 x1 fu x2 M0) (fun q => q.1.toInt = z ∧ Mre E q.2 J1) := by
  intro fu
  induction fu with
  | zero =>
    intro x2 zx2 tx2 M0 J0 hM0 h
    rw [H_X5_work_L21] at h
    cases h
  | succ n6 ih =>
    intro x2 zx2 tx2 M0 J0 hM0 h
    rw [H_X5_work_L21] at h
    rw [F_X5_work_L21]
    refine ok_b (o_rdR hM0 wx0.1) ?_
    replace h := ob h; obtain ⟨a8, ea8, h⟩ := h
    refine ok_b ea8 ?_
    obtain ⟨v9, ev9, tv9⟩ := o_rdI (k := 2) hM0 (wx0.2.1 _ ea8).1
    refine ok_b ev9 ?_
    replace h := jp_e h; obtain ⟨k10h, ek10h, h⟩ := h
    refine ok_jp (fun k10 ek10 => ?_)
    have Jk10 : ∀ (M11 : Mm) (J11 : Jm), Mre E M11 J11 → k10h J11 = some (z, J1) → Ok (k10 M11) (fun q => q.1.toInt = z ∧ Mre E q.2 J1) := by
      intro M11 J11 hM11 h
      rw [ek10]
      rw [ek10h] at h
      refine ok_b (o_isO hM11 wx0.1) ?_
      replace h := ob h; obtain ⟨J12, eJ12, h⟩ := h
      obtain ⟨M12, eM12, hM12⟩ := h_X5_sumMostFrom hM11 wx0 eJ12
      refine ok_b eM12 ?_
      refine ok_b (o_isO hM12 wx0.1) ?_
      replace h := ob h; obtain ⟨J14, eJ14, h⟩ := h
      obtain ⟨M14, eM14, hM14⟩ := h_X5_search 5 hM12 wx0 (show (0 : Int32).toInt = 0 from rfl) (show (0 : Int32).toInt = 0 from rfl) eJ14
      refine ok_b eM14 ?_
      obtain ⟨v16, ev16, tv16⟩ := o_rdI (k := 13) hM14 wx0.1
      refine ok_b ev16 ?_
      exact o_ri tv16 hM14 h
    by_cases c1 : (J0 a8 2) ≤ zx2
    · replace h := it_t c1 h
      refine ok_t ((c_le tv9 tx2).mpr c1) ?_
      exact Jk10 _ _ hM0 h
    · replace h := it_f c1 h
      refine ok_f (mt (c_le tv9 tx2).mp c1) ?_
      obtain ⟨v19, ev19, tv19⟩ := o_rdI (k := 3) hM0 wx0.1
      refine ok_b ev19 ?_
      by_cases c2 : 3 ≤ (J0 x0 3)
      · replace h := it_t c2 h
        refine ok_t ((c_le (show (3 : Int32).toInt = 3 from rfl) tv19).mpr c2) ?_
        exact Jk10 _ _ hM0 h
      · replace h := it_f c2 h
        refine ok_f (mt (c_le (show (3 : Int32).toInt = 3 from rfl) tv19).mp c2) ?_
        refine ok_b (o_rdR hM0 wx0.1) ?_
        replace h := ob h; obtain ⟨a22, ea22, h⟩ := h
        refine ok_b ea22 ?_
        refine ok_b (o_rdS hM0 (wx0.2.1 _ ea22).1 ((wx0.2.1 _ ea22).2.2.1.1)) ?_
        refine ok_s ?_
        replace h := ob h; obtain ⟨v24, ev24, h⟩ := h
        obtain ⟨fv24, wv24⟩ := o_ldR hM0 ((wx0.2.1 _ ea22).2.2.1.2.1) rfl tx2 ev24
        refine ok_b fv24 ?_
        replace h := ob h; obtain ⟨a26, ea26, h⟩ := h
        refine ok_b ea26 ?_
        refine ok_b (o_isO hM0 ((fun y hy => (wx0.2.1 _ ea22).2.2.1.2.2 _ y (wv24.trans hy)) _ ea26).1) ?_
        replace h := ob h; obtain ⟨zv29, ezv29, h⟩ := h
        obtain ⟨⟨v29, M27⟩, eM27, tv29, hM27⟩ := h_X0_deepest hM0 ((fun y hy => (wx0.2.1 _ ea22).2.2.1.2.2 _ y (wv24.trans hy)) _ ea26) ezv29
        refine ok_b eM27 ?_
        obtain ⟨v30, ev30, tv30⟩ := o_rdI (k := 3) hM27 ((fun y hy => (wx0.2.1 _ ea22).2.2.1.2.2 _ y (wv24.trans hy)) _ ea26).1
        refine ok_b ev30 ?_
        by_cases c3 : (J0 a26 3) = 0
        · replace h := it_t c3 h
          refine ok_t ((c_eq tv30 (show (0 : Int32).toInt = 0 from rfl)).mpr c3) ?_
          obtain ⟨v32, ev32, tv32⟩ := o_rdI (k := 2) hM27 ((fun y hy => (wx0.2.1 _ ea22).2.2.1.2.2 _ y (wv24.trans hy)) _ ea26).1
          refine ok_b ev32 ?_
          refine ok_b (o_isO hM27 ((fun y hy => (wx0.2.1 _ ea22).2.2.1.2.2 _ y (wv24.trans hy)) _ ea26).1) ?_
          replace h := ob h; obtain ⟨zv35, ezv35, h⟩ := h
          obtain ⟨⟨v35, M33⟩, eM33, tv35, hM33⟩ := h_X0_costTo hM27 ((fun y hy => (wx0.2.1 _ ea22).2.2.1.2.2 _ y (wv24.trans hy)) _ ea26) (t_mn tx1 tv29) ezv35
          refine ok_b eM33 ?_
          by_cases c4 : (J0 a26 2) < zv35
          · replace h := it_t c4 h
            refine ok_t ((c_lt tv32 tv35).mpr c4) ?_
            exact ih _ _ (t_add tx2 (show (1 : Int32).toInt = 1 from rfl)) _ _ hM33 h
          · replace h := it_f c4 h
            refine ok_f (mt (c_lt tv32 tv35).mp c4) ?_
            refine ok_b (o_rdS hM33 wx0.1 (wx0.2.2.2.1.1)) ?_
            obtain ⟨v38, ev38, tv38⟩ := o_rdI (k := 3) hM33 wx0.1
            refine ok_b ev38 ?_
            refine ok_s ?_
            replace h := ob h; obtain ⟨J39, eJ39, h⟩ := h
            obtain ⟨M39, eM39, hM39⟩ := o_stI hM33 wx0.2.2.2.1.2 rfl tv38 tx2 eJ39
            refine ok_b eM39 ?_
            refine ok_b (o_rdR hM39 wx0.1) ?_
            replace h := ob h; obtain ⟨a42, ea42, h⟩ := h
            refine ok_b ea42 ?_
            refine ok_b (o_rdS hM39 (wx0.2.1 _ ea42).1 ((wx0.2.1 _ ea42).2.2.2.2.2.2.2.1)) ?_
            refine ok_b (o_rdR hM39 wx0.1) ?_
            refine ok_b (o_rdR hM39 wx0.1) ?_
            replace h := ob h; obtain ⟨a46, ea46, h⟩ := h
            refine ok_b ea46 ?_
            refine ok_b (o_rdS hM39 (wx0.2.2.1 _ ea46).1 ((wx0.2.2.1 _ ea46).2.2.2.2.2.2.2.1)) ?_
            obtain ⟨v48, ev48, tv48⟩ := o_rdI (k := 1) hM39 ((fun y hy => (wx0.2.1 _ ea22).2.2.1.2.2 _ y (wv24.trans hy)) _ ea26).1
            refine ok_b ev48 ?_
            refine ok_s ?_
            replace h := ob h; obtain ⟨a50, ea50, h⟩ := h
            refine ok_b ea50 ?_
            refine ok_s ?_
            refine ok_b (o_isO hM39 ((wx0.2.1 _ ea42).2.2.2.2.2.2.2.2)) ?_
            replace h := ob h; obtain ⟨J52, eJ52, h⟩ := h
            obtain ⟨M52, eM52, hM52⟩ := h_X4_sink hM39 (wx0.2.1 _ ea42).2.2.2.2.2.2.2.2 (wx0.2.2.1 _ ea50) (wx0.2.2.1 _ ea46).2.2.2.2.2.2.2.2 tv48 (t_mn tx1 tv29) (show (0 : Int32).toInt = 0 from rfl) eJ52
            refine ok_b eM52 ?_
            obtain ⟨v54, ev54, tv54⟩ := o_rdI (k := 3) hM52 wx0.1
            refine ok_b ev54 ?_
            refine ok_b (o_rdR hM52 wx0.1) ?_
            replace h := ob h; obtain ⟨a56, ea56, h⟩ := h
            refine ok_b ea56 ?_
            refine ok_b (o_rdS hM52 (wx0.2.1 _ ea56).1 ((wx0.2.1 _ ea56).2.2.2.2.2.2.2.1)) ?_
            refine ok_s ?_
            obtain ⟨v59, ev59, tv59⟩ := o_rdI (k := 0) hM52 ((wx0.2.1 _ ea56).2.2.2.2.2.2.2.2)
            refine ok_b ev59 ?_
            refine ok_b (o_isO hM52 ((fun y hy => (wx0.2.1 _ ea22).2.2.1.2.2 _ y (wv24.trans hy)) _ ea26).1) ?_
            replace h := ob h; obtain ⟨zv62, ezv62, h⟩ := h
            obtain ⟨⟨v62, M60⟩, eM60, tv62, hM60⟩ := h_X0_reach hM52 ((fun y hy => (wx0.2.1 _ ea22).2.2.1.2.2 _ y (wv24.trans hy)) _ ea26) ezv62
            refine ok_b eM60 ?_
            refine ok_b (o_isO hM60 wx0.1) ?_
            replace h := ob h; obtain ⟨J63, eJ63, h⟩ := h
            obtain ⟨M63, eM63, hM63⟩ := h_X5_listEnds hM60 wx0 tv54 tv59 tv62 eJ63
            refine ok_b eM63 ?_
            obtain ⟨v65, ev65, tv65⟩ := o_rdI (k := 3) hM63 wx0.1
            refine ok_b ev65 ?_
            replace h := nv_e h; obtain ⟨J66, eJ66, h⟩ := h
            obtain ⟨M66, eM66, hM66⟩ := o_wrI (k := 3) hM63 wx0.1 (t_add tv65 (show (1 : Int32).toInt = 1 from rfl)) eJ66
            refine ok_b eM66 ?_
            exact ih _ _ (t_add tx2 (show (1 : Int32).toInt = 1 from rfl)) _ _ hM66 h
        · replace h := it_f c3 h
          refine ok_f (mt (c_eq tv30 (show (0 : Int32).toInt = 0 from rfl)).mp c3) ?_
          exact ih _ _ (t_add tx2 (show (1 : Int32).toInt = 1 from rfl)) _ _ hM27 h
set_option maxHeartbeats 4000000 in
set_option maxRecDepth 100000 in
theorem h_X5_work {E : Em} {M : Mm} {J : Jm} (hM : Mre E M J) {this : Nat} (wthis : W5 E this) {p1 : Int32} {zp1 : Int} (tp1 : p1.toInt = zp1) {z : Int} {J1 : Jm} (h : H_X5_work E this zp1 J = some (z, J1)) : Ok (F_X5_work this p1 M) (fun q => q.1.toInt = z ∧ Mre E q.2 J1) := by
  unfold H_X5_work at h
  unfold F_X5_work
  replace h := nv_e h; obtain ⟨J1, eJ1, h⟩ := h
  obtain ⟨M1, eM1, hM1⟩ := o_wrI (k := 3) hM wthis.1 (show (0 : Int32).toInt = 0 from rfl) eJ1
  refine ok_b eM1 ?_
  replace h := nv_e h; obtain ⟨J2, eJ2, h⟩ := h
  obtain ⟨M2, eM2, hM2⟩ := o_wrI (k := 13) hM1 wthis.1 (show ((-4) : Int32).toInt = (-4) from rfl) eJ2
  refine ok_b eM2 ?_
  refine ok_b (o_rdS hM2 wthis.1 (wthis.2.2.2.2.2.2.2.2.2.1.1)) ?_
  refine ok_s ?_
  replace h := ob h; obtain ⟨J5, eJ5, h⟩ := h
  obtain ⟨M5, eM5, hM5⟩ := h_J7_fill_53178 hM2 (⟨by rw [wthis.2.2.2.2.2.2.2.2.2.1.2], by rw [wthis.2.2.2.2.2.2.2.2.2.1.2]; exact (by decide)⟩ : Wa E (this + 7)) (show (0 : Int32).toInt = 0 from rfl) eJ5
  refine ok_b eM5 ?_
  refine h_X5_work_L21   _ wthis _ _ tp1 _ _ _ (show (0 : Int32).toInt = 0 from rfl) _ _ hM5 h
