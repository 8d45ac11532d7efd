set_option maxHeartbeats 4000000 in
set_option maxRecDepth 100000 in
theorem h_X5_headingOf_L2 {E : Em} {z : Int} (J : Jm)  (x0 : Nat) (wx0 : W5 E x0) (x1 : Int32) (zx1 : Int) (tx1 : x1.toInt = zx1) : ∀ (fu : Nat), ∀ (x2 : Int32) (zx2 : Int), x2.toInt = zx2 → ∀ (M0 : Mm), Mre E M0 J → H_X5_headingOf_L2 x0 zx1 J fu zx2 = some z → Ok (F_X5_headingOf_L2 x0 x1 fu x2 M0) (fun q => q.1.toInt = z ∧ Mre E q.2 J) := by
  intro fu
  induction fu with
  | zero =>
    intro x2 zx2 tx2 M0 hM0 h
    rw [H_X5_headingOf_L2] at h
    cases h
  | succ n1 ih =>
    intro x2 zx2 tx2 M0 hM0 h
    rw [H_X5_headingOf_L2] at h
    rw [F_X5_headingOf_L2]
    obtain ⟨v2, ev2, tv2⟩ := o_rdI (k := 3) hM0 wx0.1
    refine ok_b ev2 ?_
    by_cases c1 : (J x0 3) ≤ zx2
    · replace h := it_t c1 h
      refine ok_t ((c_le tv2 tx2).mpr c1) ?_
      exact o_ri0 (show ((-4) : Int32).toInt = (-4) from rfl) hM0 h
    · replace h := it_f c1 h
      refine ok_f (mt (c_le tv2 tx2).mp c1) ?_
      obtain ⟨v4, ev4, tv4⟩ := o_rdI (k := 13) hM0 wx0.1
      refine ok_b ev4 ?_
      by_cases c2 : (J x0 13) = (-4)
      · replace h := it_t c2 h
        refine ok_t ((c_eq tv4 (show ((-4) : Int32).toInt = (-4) from rfl)).mpr c2) ?_
        exact o_ri0 (show ((-4) : Int32).toInt = (-4) from rfl) hM0 h
      · replace h := it_f c2 h
        refine ok_f (mt (c_eq tv4 (show ((-4) : Int32).toInt = (-4) from rfl)).mp c2) ?_
        refine ok_b (o_rdS hM0 wx0.1 (wx0.2.2.2.1.1)) ?_
        refine ok_s ?_
        replace h := ob h; obtain ⟨zv7, ezv7, h⟩ := h
        obtain ⟨v7, ev7, tv7⟩ := o_ldI hM0 wx0.2.2.2.1.2 rfl tx2 ezv7
        refine ok_b ev7 ?_
        by_cases c3 : zv7 = zx1
        · replace h := it_t c3 h
          refine ok_t ((c_eq tv7 tx1).mpr c3) ?_
          refine ok_b (o_rdS hM0 wx0.1 (wx0.2.2.2.2.2.2.1.1)) ?_
          refine ok_b (o_rdS hM0 wx0.1 (wx0.2.2.2.2.2.2.2.2.2.2.2.2.1)) ?_
          refine ok_s ?_
          replace h := ob h; obtain ⟨zv12, ezv12, h⟩ := h
          obtain ⟨v12, ev12, tv12⟩ := o_ldI hM0 wx0.2.2.2.2.2.2.2.2.2.2.2.2.2 rfl tx2 ezv12
          refine ok_b ev12 ?_
          refine ok_s ?_
          replace h := ob h; obtain ⟨zv14, ezv14, h⟩ := h
          obtain ⟨v14, ev14, tv14⟩ := o_ldI hM0 wx0.2.2.2.2.2.2.1.2 rfl tv12 ezv14
          refine ok_b ev14 ?_
          exact o_ri0 tv14 hM0 h
        · replace h := it_f c3 h
          refine ok_f (mt (c_eq tv7 tx1).mp c3) ?_
          exact ih _ _ (t_add tx2 (show (1 : Int32).toInt = 1 from rfl)) _ hM0 h
set_option maxHeartbeats 4000000 in
set_option maxRecDepth 100000 in
theorem h_X5_headingOf {E : Em} {M : Mm} {J : Jm} (hM : Mre E M J) {this : Nat} (wthis : W5 E this) {p1 : Int32} {zp1 : Int} (tp1 : p1.toInt = zp1) {z : Int} (h : H_X5_headingOf this zp1 J = some z) : Ok (F_X5_headingOf this p1 M) (fun q => q.1.toInt = z ∧ Mre E q.2 J) := by
  unfold H_X5_headingOf at h
  unfold F_X5_headingOf
  refine h_X5_headingOf_L2 _  _ wthis _ _ tp1 _ _ _ (show (0 : Int32).toInt = 0 from rfl) _ hM h

set_option maxHeartbeats 4000000 in
set_option maxRecDepth 100000 in
theorem h_X6_become {E : Em} {M : Mm} {J : Jm} (hM : Mre E M J) {this : Nat} (wthis : W6 E this) {p1 : Nat} (wp1 : W6 E p1) {J1 : Jm} (h : H_X6_become E this p1 J = some J1) : Ok (F_X6_become this p1 M) (fun q => Mre E q J1) := by
  unfold H_X6_become at h
  unfold F_X6_become
  obtain ⟨v1, ev1, tv1⟩ := o_rdI (k := 0) hM wp1.1
  refine ok_b ev1 ?_
  replace h := nv_e h; obtain ⟨J2, eJ2, h⟩ := h
  obtain ⟨M2, eM2, hM2⟩ := o_wrI (k := 0) hM wthis.1 tv1 eJ2
  refine ok_b eM2 ?_
  refine ok_b (o_rdS hM2 wp1.1 (wp1.2.1.1)) ?_
  refine ok_b (o_rdS hM2 wthis.1 (wthis.2.1.1)) ?_
  refine ok_s ?_
  refine ok_s ?_
  replace h := ob h; obtain ⟨J7, eJ7, h⟩ := h
  obtain ⟨M7, eM7, hM7⟩ := h_X11_copyAll hM2 (⟨by rw [wp1.2.1.2], by rw [wp1.2.1.2]; exact (by decide)⟩ : Wa E (p1 + 1)) (⟨by rw [wthis.2.1.2], by rw [wthis.2.1.2]; exact (by decide)⟩ : Wa E (this + 1)) eJ7
  refine ok_b eM7 ?_
  refine ok_b (o_rdS hM7 wp1.1 (wp1.2.2.1.1)) ?_
  refine ok_b (o_rdS hM7 wthis.1 (wthis.2.2.1.1)) ?_
  refine ok_s ?_
  refine ok_s ?_
  replace h := ob h; obtain ⟨J12, eJ12, h⟩ := h
  obtain ⟨M12, eM12, hM12⟩ := h_X11_copyAll hM7 (⟨by rw [wp1.2.2.1.2], by rw [wp1.2.2.1.2]; exact (by decide)⟩ : Wa E (p1 + 2)) (⟨by rw [wthis.2.2.1.2], by rw [wthis.2.2.1.2]; exact (by decide)⟩ : Wa E (this + 2)) eJ12
  refine ok_b eM12 ?_
  refine ok_b (o_rdS hM12 wp1.1 (wp1.2.2.2.1.1)) ?_
  refine ok_b (o_rdS hM12 wthis.1 (wthis.2.2.2.1.1)) ?_
  refine ok_s ?_
  refine ok_s ?_
  replace h := ob h; obtain ⟨J17, eJ17, h⟩ := h
  obtain ⟨M17, eM17, hM17⟩ := h_X11_copyAll hM12 (⟨by rw [wp1.2.2.2.1.2], by rw [wp1.2.2.2.1.2]; exact (by decide)⟩ : Wa E (p1 + 3)) (⟨by rw [wthis.2.2.2.1.2], by rw [wthis.2.2.2.1.2]; exact (by decide)⟩ : Wa E (this + 3)) eJ17
  refine ok_b eM17 ?_
  refine ok_b (o_rdS hM17 wp1.1 (wp1.2.2.2.2.1.1)) ?_
  refine ok_b (o_rdS hM17 wthis.1 (wthis.2.2.2.2.1.1)) ?_
  refine ok_s ?_
  refine ok_s ?_
  replace h := ob h; obtain ⟨J22, eJ22, h⟩ := h
  obtain ⟨M22, eM22, hM22⟩ := h_X11_copyAll hM17 (⟨by rw [wp1.2.2.2.2.1.2], by rw [wp1.2.2.2.2.1.2]; exact (by decide)⟩ : Wa E (p1 + 4)) (⟨by rw [wthis.2.2.2.2.1.2], by rw [wthis.2.2.2.2.1.2]; exact (by decide)⟩ : Wa E (this + 4)) eJ22
  refine ok_b eM22 ?_
  refine ok_b (o_rdS hM22 wp1.1 (wp1.2.2.2.2.2.1.1)) ?_
  refine ok_b (o_rdS hM22 wthis.1 (wthis.2.2.2.2.2.1.1)) ?_
  refine ok_s ?_
  refine ok_s ?_
  replace h := ob h; obtain ⟨J27, eJ27, h⟩ := h
  obtain ⟨M27, eM27, hM27⟩ := h_X11_copyAll hM22 (⟨by rw [wp1.2.2.2.2.2.1.2], by rw [wp1.2.2.2.2.2.1.2]; exact (by decide)⟩ : Wa E (p1 + 5)) (⟨by rw [wthis.2.2.2.2.2.1.2], by rw [wthis.2.2.2.2.2.1.2]; exact (by decide)⟩ : Wa E (this + 5)) eJ27
  refine ok_b eM27 ?_
  refine ok_b (o_rdS hM27 wp1.1 (wp1.2.2.2.2.2.2.1.1)) ?_
  refine ok_b (o_rdS hM27 wthis.1 (wthis.2.2.2.2.2.2.1.1)) ?_
  refine ok_s ?_
  refine ok_s ?_
  replace h := ob h; obtain ⟨J32, eJ32, h⟩ := h
  obtain ⟨M32, eM32, hM32⟩ := h_X11_copyAll hM27 (⟨by rw [wp1.2.2.2.2.2.2.1.2], by rw [wp1.2.2.2.2.2.2.1.2]; exact (by decide)⟩ : Wa E (p1 + 6)) (⟨by rw [wthis.2.2.2.2.2.2.1.2], by rw [wthis.2.2.2.2.2.2.1.2]; exact (by decide)⟩ : Wa E (this + 6)) eJ32
  refine ok_b eM32 ?_
  obtain ⟨v33, ev33, tv33⟩ := o_rdI (k := 7) hM32 wp1.1
  refine ok_b ev33 ?_
  replace h := nv_e h; obtain ⟨J34, eJ34, h⟩ := h
  obtain ⟨M34, eM34, hM34⟩ := o_wrI (k := 7) hM32 wthis.1 tv33 eJ34
  refine ok_b eM34 ?_
  refine ok_b (o_rdS hM34 wp1.1 (wp1.2.2.2.2.2.2.2.1.1)) ?_
  refine ok_b (o_rdS hM34 wthis.1 (wthis.2.2.2.2.2.2.2.1.1)) ?_
  refine ok_s ?_
  refine ok_s ?_
  replace h := ob h; obtain ⟨J39, eJ39, h⟩ := h
  obtain ⟨M39, eM39, hM39⟩ := h_X11_copyAll hM34 (⟨by rw [wp1.2.2.2.2.2.2.2.1.2], by rw [wp1.2.2.2.2.2.2.2.1.2]; exact (by decide)⟩ : Wa E (p1 + 7)) (⟨by rw [wthis.2.2.2.2.2.2.2.1.2], by rw [wthis.2.2.2.2.2.2.2.1.2]; exact (by decide)⟩ : Wa E (this + 7)) eJ39
  refine ok_b eM39 ?_
  refine ok_b (o_rdS hM39 wp1.1 (wp1.2.2.2.2.2.2.2.2.1.1)) ?_
  refine ok_b (o_rdS hM39 wthis.1 (wthis.2.2.2.2.2.2.2.2.1.1)) ?_
  refine ok_s ?_
  refine ok_s ?_
  replace h := ob h; obtain ⟨J44, eJ44, h⟩ := h
  obtain ⟨M44, eM44, hM44⟩ := h_X11_copyAll hM39 (⟨by rw [wp1.2.2.2.2.2.2.2.2.1.2], by rw [wp1.2.2.2.2.2.2.2.2.1.2]; exact (by decide)⟩ : Wa E (p1 + 8)) (⟨by rw [wthis.2.2.2.2.2.2.2.2.1.2], by rw [wthis.2.2.2.2.2.2.2.2.1.2]; exact (by decide)⟩ : Wa E (this + 8)) eJ44
  refine ok_b eM44 ?_
  refine ok_b (o_rdS hM44 wp1.1 (wp1.2.2.2.2.2.2.2.2.2.1.1)) ?_
  refine ok_b (o_rdS hM44 wthis.1 (wthis.2.2.2.2.2.2.2.2.2.1.1)) ?_
  refine ok_s ?_
  refine ok_s ?_
  replace h := ob h; obtain ⟨J49, eJ49, h⟩ := h
  obtain ⟨M49, eM49, hM49⟩ := h_X11_copyAll hM44 (⟨by rw [wp1.2.2.2.2.2.2.2.2.2.1.2], by rw [wp1.2.2.2.2.2.2.2.2.2.1.2]; exact (by decide)⟩ : Wa E (p1 + 9)) (⟨by rw [wthis.2.2.2.2.2.2.2.2.2.1.2], by rw [wthis.2.2.2.2.2.2.2.2.2.1.2]; exact (by decide)⟩ : Wa E (this + 9)) eJ49
  refine ok_b eM49 ?_
  refine ok_b (o_rdS hM49 wp1.1 (wp1.2.2.2.2.2.2.2.2.2.2.1)) ?_
  refine ok_b (o_rdS hM49 wthis.1 (wthis.2.2.2.2.2.2.2.2.2.2.1)) ?_
  refine ok_s ?_
  refine ok_s ?_
  replace h := ob h; obtain ⟨J54, eJ54, h⟩ := h
  obtain ⟨M54, eM54, hM54⟩ := h_X11_copyAll hM49 (⟨by rw [wp1.2.2.2.2.2.2.2.2.2.2.2], by rw [wp1.2.2.2.2.2.2.2.2.2.2.2]; exact (by decide)⟩ : Wa E (p1 + 10)) (⟨by rw [wthis.2.2.2.2.2.2.2.2.2.2.2], by rw [wthis.2.2.2.2.2.2.2.2.2.2.2]; exact (by decide)⟩ : Wa E (this + 10)) eJ54
  refine ok_b eM54 ?_
  exact o_rv hM54 h

set_option maxHeartbeats 4000000 in
set_option maxRecDepth 100000 in
theorem h_X6_addReading {E : Em} {M : Mm} {J : Jm} (hM : Mre E M J) {this : Nat} (wthis : W6 E this) {p1 : Int32} {zp1 : Int} (tp1 : p1.toInt = zp1) {p2 : Nat} (wp2 : W0 E p2) {p3 : Int32} {zp3 : Int} (tp3 : p3.toInt = zp3) {p4 : Int32} {zp4 : Int} (tp4 : p4.toInt = zp4) {J1 : Jm} (h : H_X6_addReading this zp1 p2 zp3 zp4 J = some J1) : Ok (F_X6_addReading this p1 p2 p3 p4 M) (fun q => Mre E q J1) := by
  unfold H_X6_addReading at h
  unfold F_X6_addReading
  obtain ⟨v1, ev1, tv1⟩ := o_rdI (k := 0) hM wthis.1
  refine ok_b ev1 ?_
  by_cases c1 : (J this 0) < 200
  · replace h := it_t c1 h
    refine ok_t ((c_lt tv1 (show (200 : Int32).toInt = 200 from rfl)).mpr c1) ?_
    refine ok_b (o_rdS hM wthis.1 (wthis.2.1.1)) ?_
    obtain ⟨v4, ev4, tv4⟩ := o_rdI (k := 0) hM wthis.1
    refine ok_b ev4 ?_
    refine ok_s ?_
    replace h := ob h; obtain ⟨J5, eJ5, h⟩ := h
    obtain ⟨M5, eM5, hM5⟩ := o_stI hM wthis.2.1.2 rfl tv4 tp1 eJ5
    refine ok_b eM5 ?_
    refine ok_b (o_rdS hM5 wthis.1 (wthis.2.2.1.1)) ?_
    obtain ⟨v8, ev8, tv8⟩ := o_rdI (k := 0) hM5 wthis.1
    refine ok_b ev8 ?_
    refine ok_s ?_
    replace h := ob h; obtain ⟨J9, eJ9, h⟩ := h
    obtain ⟨M9, eM9, hM9⟩ := o_stI hM5 wthis.2.2.1.2 rfl tv8 tp3 eJ9
    refine ok_b eM9 ?_
    refine ok_b (o_rdS hM9 wthis.1 (wthis.2.2.2.1.1)) ?_
    obtain ⟨v12, ev12, tv12⟩ := o_rdI (k := 0) hM9 wthis.1
    refine ok_b ev12 ?_
    obtain ⟨v13, ev13, tv13⟩ := o_rdI (k := 1) hM9 wp2.1
    refine ok_b ev13 ?_
    refine ok_s ?_
    replace h := ob h; obtain ⟨J14, eJ14, h⟩ := h
    obtain ⟨M14, eM14, hM14⟩ := o_stI hM9 wthis.2.2.2.1.2 rfl tv12 tv13 eJ14
    refine ok_b eM14 ?_
    refine ok_b (o_rdS hM14 wthis.1 (wthis.2.2.2.2.1.1)) ?_
    obtain ⟨v17, ev17, tv17⟩ := o_rdI (k := 0) hM14 wthis.1
    refine ok_b ev17 ?_
    refine ok_s ?_
    replace h := ob h; obtain ⟨J18, eJ18, h⟩ := h
    obtain ⟨M18, eM18, hM18⟩ := o_stI hM14 wthis.2.2.2.2.1.2 rfl tv17 tp4 eJ18
    refine ok_b eM18 ?_
    refine ok_b (o_rdS hM18 wthis.1 (wthis.2.2.2.2.2.1.1)) ?_
    obtain ⟨v21, ev21, tv21⟩ := o_rdI (k := 0) hM18 wthis.1
    refine ok_b ev21 ?_
    obtain ⟨v22, ev22, tv22⟩ := o_rdI (k := 5) hM18 wp2.1
    refine ok_b ev22 ?_
    refine ok_s ?_
    replace h := ob h; obtain ⟨J23, eJ23, h⟩ := h
    obtain ⟨M23, eM23, hM23⟩ := o_stI hM18 wthis.2.2.2.2.2.1.2 rfl tv21 tv22 eJ23
    refine ok_b eM23 ?_
    refine ok_b (o_rdS hM23 wthis.1 (wthis.2.2.2.2.2.2.1.1)) ?_
    obtain ⟨v26, ev26, tv26⟩ := o_rdI (k := 0) hM23 wthis.1
    refine ok_b ev26 ?_
    obtain ⟨v27, ev27, tv27⟩ := o_rdI (k := 9) hM23 wp2.1
    refine ok_b ev27 ?_
    refine ok_s ?_
    replace h := ob h; obtain ⟨J28, eJ28, h⟩ := h
    obtain ⟨M28, eM28, hM28⟩ := o_stI hM23 wthis.2.2.2.2.2.2.1.2 rfl tv26 tv27 eJ28
    refine ok_b eM28 ?_
    obtain ⟨v30, ev30, tv30⟩ := o_rdI (k := 0) hM28 wthis.1
    refine ok_b ev30 ?_
    replace h := nv_e h; obtain ⟨J31, eJ31, h⟩ := h
    obtain ⟨M31, eM31, hM31⟩ := o_wrI (k := 0) hM28 wthis.1 (t_add tv30 (show (1 : Int32).toInt = 1 from rfl)) eJ31
    refine ok_b eM31 ?_
    exact o_rv hM31 h
  · replace h := it_f c1 h
    refine ok_f (mt (c_lt tv1 (show (200 : Int32).toInt = 200 from rfl)).mp c1) ?_
    exact o_rv hM h

set_option maxHeartbeats 4000000 in
set_option maxRecDepth 100000 in
theorem h_X6_addCleaning {E : Em} {M : Mm} {J : Jm} (hM : Mre E M J) {this : Nat} (wthis : W6 E this) {p1 : Int32} {zp1 : Int} (tp1 : p1.toInt = zp1) {p2 : Int32} {zp2 : Int} (tp2 : p2.toInt = zp2) {p3 : Int32} {zp3 : Int} (tp3 : p3.toInt = zp3) {z : Int} {J1 : Jm} (h : H_X6_addCleaning this zp1 zp2 zp3 J = some (z, J1)) : Ok (F_X6_addCleaning this p1 p2 p3 M) (fun q => q.1.toInt = z ∧ Mre E q.2 J1) := by
  unfold H_X6_addCleaning at h
  unfold F_X6_addCleaning
  refine ok_b (o_rdS hM wthis.1 (wthis.2.2.2.2.2.2.2.1.1)) ?_
  obtain ⟨v2, ev2, tv2⟩ := o_rdI (k := 7) hM wthis.1
  refine ok_b ev2 ?_
  refine ok_s ?_
  replace h := ob h; obtain ⟨J3, eJ3, h⟩ := h
  obtain ⟨M3, eM3, hM3⟩ := o_stI hM wthis.2.2.2.2.2.2.2.1.2 rfl tv2 tp1 eJ3
  refine ok_b eM3 ?_
  refine ok_b (o_rdS hM3 wthis.1 (wthis.2.2.2.2.2.2.2.2.1.1)) ?_
  obtain ⟨v6, ev6, tv6⟩ := o_rdI (k := 7) hM3 wthis.1
  refine ok_b ev6 ?_
  refine ok_s ?_
  replace h := ob h; obtain ⟨J7, eJ7, h⟩ := h
  obtain ⟨M7, eM7, hM7⟩ := o_stI hM3 wthis.2.2.2.2.2.2.2.2.1.2 rfl tv6 tp2 eJ7
  refine ok_b eM7 ?_
  refine ok_b (o_rdS hM7 wthis.1 (wthis.2.2.2.2.2.2.2.2.2.1.1)) ?_
  obtain ⟨v10, ev10, tv10⟩ := o_rdI (k := 7) hM7 wthis.1
  refine ok_b ev10 ?_
  refine ok_s ?_
  replace h := ob h; obtain ⟨J11, eJ11, h⟩ := h
  obtain ⟨M11, eM11, hM11⟩ := o_stI hM7 wthis.2.2.2.2.2.2.2.2.2.1.2 rfl tv10 tp3 eJ11
  refine ok_b eM11 ?_
  refine ok_b (o_rdS hM11 wthis.1 (wthis.2.2.2.2.2.2.2.2.2.2.1)) ?_
  obtain ⟨v14, ev14, tv14⟩ := o_rdI (k := 7) hM11 wthis.1
  refine ok_b ev14 ?_
  obtain ⟨v15, ev15, tv15⟩ := o_rdI (k := 0) hM11 wthis.1
  refine ok_b ev15 ?_
  refine ok_s ?_
  replace h := ob h; obtain ⟨J16, eJ16, h⟩ := h
  obtain ⟨M16, eM16, hM16⟩ := o_stI hM11 wthis.2.2.2.2.2.2.2.2.2.2.2 rfl tv14 tv15 eJ16
  refine ok_b eM16 ?_
  obtain ⟨v18, ev18, tv18⟩ := o_rdI (k := 7) hM16 wthis.1
  refine ok_b ev18 ?_
  replace h := nv_e h; obtain ⟨J19, eJ19, h⟩ := h
  obtain ⟨M19, eM19, hM19⟩ := o_wrI (k := 7) hM16 wthis.1 (t_add tv18 (show (1 : Int32).toInt = 1 from rfl)) eJ19
  refine ok_b eM19 ?_
  obtain ⟨v20, ev20, tv20⟩ := o_rdI (k := 7) hM19 wthis.1
  refine ok_b ev20 ?_
  exact o_ri tv20 hM19 h

set_option maxHeartbeats 4000000 in
set_option maxRecDepth 100000 in
theorem h_X6_putRight_L2 {E : Em} {z : Int} (J : Jm) (k54 : Int32 → Mm → Option (Int32 × Mm)) (k54h : Int → Option Int) (hk54 : ∀ (y0 : Int32) (zy0 : Int), y0.toInt = zy0 → ∀ (M9 : Mm), Mre E M9 J → k54h zy0 = some z → Ok (k54 y0 M9) (fun q => q.1.toInt = z ∧ Mre E q.2 J)) (x0 : Nat) (wx0 : W6 E x0) (x1 : Int32) (zx1 : Int) (tx1 : x1.toInt = zx1) : ∀ (fu : Nat), ∀ (x2 : Int32) (zx2 : Int), x2.toInt = zx2 → ∀ (M0 : Mm), Mre E M0 J → H_X6_putRight_L2 k54h x0 zx1 J fu zx2 = some z → Ok (F_X6_putRight_L2 k54 x0 x1 fu x2 M0) (fun q => q.1.toInt = z ∧ Mre E q.2 J) := by
  intro fu
  induction fu with
  | zero =>
    intro x2 zx2 tx2 M0 hM0 h
    rw [H_X6_putRight_L2] at h
    cases h
  | succ n1 ih =>
    intro x2 zx2 tx2 M0 hM0 h
    rw [H_X6_putRight_L2] at h
    rw [F_X6_putRight_L2]
    obtain ⟨v2, ev2, tv2⟩ := o_rdI (k := 7) hM0 wx0.1
    refine ok_b ev2 ?_
    by_cases c1 : (J x0 7) ≤ zx2
    · replace h := it_t c1 h
      refine ok_t ((c_le tv2 tx2).mpr c1) ?_
      refine ok_b (o_rdS hM0 wx0.1 (wx0.2.2.2.2.2.2.1.1)) ?_
      refine ok_s ?_
      replace h := ob h; obtain ⟨zv5, ezv5, h⟩ := h
      obtain ⟨v5, ev5, tv5⟩ := o_ldI hM0 wx0.2.2.2.2.2.2.1.2 rfl tx1 ezv5
      refine ok_b ev5 ?_
      refine ok_b (o_rdS hM0 wx0.1 (wx0.2.2.2.2.2.1.1)) ?_
      refine ok_s ?_
      replace h := ob h; obtain ⟨zv8, ezv8, h⟩ := h
      obtain ⟨v8, ev8, tv8⟩ := o_ldI hM0 wx0.2.2.2.2.2.1.2 rfl tx1 ezv8
      refine ok_b ev8 ?_
      exact o_ri0 (t_sub tv5 (t_mul (show (3 : Int32).toInt = 3 from rfl) tv8)) hM0 h
    · replace h := it_f c1 h
      refine ok_f (mt (c_le tv2 tx2).mp c1) ?_
      refine ok_b (o_rdS hM0 wx0.1 (wx0.2.2.2.2.2.2.2.1.1)) ?_
      refine ok_s ?_
      replace h := ob h; obtain ⟨zv11, ezv11, h⟩ := h
      obtain ⟨v11, ev11, tv11⟩ := o_ldI hM0 wx0.2.2.2.2.2.2.2.1.2 rfl tx2 ezv11
      refine ok_b ev11 ?_
      refine ok_b (o_rdS hM0 wx0.1 (wx0.2.1.1)) ?_
      refine ok_s ?_
      replace h := ob h; obtain ⟨zv14, ezv14, h⟩ := h
      obtain ⟨v14, ev14, tv14⟩ := o_ldI hM0 wx0.2.1.2 rfl tx1 ezv14
      refine ok_b ev14 ?_
      replace h := jp_e h; obtain ⟨k16h, ek16h, h⟩ := h
      refine ok_jp (fun k16 ek16 => ?_)
      have Jk16 : ∀ (s17 : Int32) (zs17 : Int), s17.toInt = zs17 → ∀ (M18 : Mm), Mre E M18 J → k16h zs17 = some z → Ok (k16 s17 M18) (fun q => q.1.toInt = z ∧ Mre E q.2 J) := by
        intro s17 zs17 ts17 M18 hM18 h
        rw [ek16]
        rw [ek16h] at h
        by_cases c2 : zs17 = 0
        · replace h := it_t c2 h
          refine ok_t ((c_eq ts17 (show (0 : Int32).toInt = 0 from rfl)).mpr c2) ?_
          exact ih _ _ (t_add tx2 (show (1 : Int32).toInt = 1 from rfl)) _ hM18 h
        · replace h := it_f c2 h
          refine ok_f (mt (c_eq ts17 (show (0 : Int32).toInt = 0 from rfl)).mp c2) ?_
          refine ok_b (o_rdS hM18 wx0.1 (wx0.2.2.2.2.2.2.2.2.2.1.1)) ?_
          refine ok_s ?_
          replace h := ob h; obtain ⟨zv21, ezv21, h⟩ := h
          obtain ⟨v21, ev21, tv21⟩ := o_ldI hM18 wx0.2.2.2.2.2.2.2.2.2.1.2 rfl tx2 ezv21
          refine ok_b ev21 ?_
          by_cases c3 : zv21 ≤ 0
          · replace h := it_t c3 h
            refine ok_t ((c_le tv21 (show (0 : Int32).toInt = 0 from rfl)).mpr c3) ?_
            exact ih _ _ (t_add tx2 (show (1 : Int32).toInt = 1 from rfl)) _ hM18 h
          · replace h := it_f c3 h
            refine ok_f (mt (c_le tv21 (show (0 : Int32).toInt = 0 from rfl)).mp c3) ?_
            exact hk54 _ _ tx2 _ hM18 h
      by_cases c4 : zv11 = zv14
      · replace h := it_t c4 h
        refine ok_t ((c_eq tv11 tv14).mpr c4) ?_
        refine ok_b (o_rdS hM0 wx0.1 (wx0.2.2.2.2.2.2.2.2.2.2.1)) ?_
        refine ok_s ?_
        replace h := ob h; obtain ⟨zv27, ezv27, h⟩ := h
        obtain ⟨v27, ev27, tv27⟩ := o_ldI hM0 wx0.2.2.2.2.2.2.2.2.2.2.2 rfl tx2 ezv27
        refine ok_b ev27 ?_
        by_cases c5 : zv27 ≤ zx1
        · replace h := it_t c5 h
          refine ok_t ((c_le tv27 tx1).mpr c5) ?_
          exact Jk16 _ _ (show (0 : Int32).toInt = 0 from rfl) _ hM0 h
        · replace h := it_f c5 h
          refine ok_f (mt (c_le tv27 tx1).mp c5) ?_
          exact Jk16 _ _ (show (1 : Int32).toInt = 1 from rfl) _ hM0 h
      · replace h := it_f c4 h
        refine ok_f (mt (c_eq tv11 tv14).mp c4) ?_
        exact Jk16 _ _ (show (0 : Int32).toInt = 0 from rfl) _ hM0 h
set_option maxHeartbeats 4000000 in
set_option maxRecDepth 100000 in
theorem h_X6_putRight {E : Em} {M : Mm} {J : Jm} (hM : Mre E M J) {this : Nat} (wthis : W6 E this) {p1 : Int32} {zp1 : Int} (tp1 : p1.toInt = zp1) {z : Int} (h : H_X6_putRight this zp1 J = some z) : Ok (F_X6_putRight this p1 M) (fun q => q.1.toInt = z ∧ Mre E q.2 J) := by
  unfold H_X6_putRight at h
  unfold F_X6_putRight
  refine h_X6_putRight_L2 _ _ _ ?_ _ wthis _ _ tp1 _ _ _ (show (0 : Int32).toInt = 0 from rfl) _ hM h
  intro y30 zy30 ty30 M31 hM31 h
  refine ok_b (o_rdS hM31 wthis.1 (wthis.2.2.2.2.2.2.1.1)) ?_
  refine ok_s ?_
  replace h := ob h; obtain ⟨zv33, ezv33, h⟩ := h
  obtain ⟨v33, ev33, tv33⟩ := o_ldI hM31 wthis.2.2.2.2.2.2.1.2 rfl tp1 ezv33
  refine ok_b ev33 ?_
  refine ok_b (o_rdS hM31 wthis.1 (wthis.2.2.2.2.2.2.2.2.1.1)) ?_
  refine ok_s ?_
  replace h := ob h; obtain ⟨zv36, ezv36, h⟩ := h
  obtain ⟨v36, ev36, tv36⟩ := o_ldI hM31 wthis.2.2.2.2.2.2.2.2.1.2 rfl ty30 ezv36
  refine ok_b ev36 ?_
  refine ok_b (o_rdS hM31 wthis.1 (wthis.2.2.2.2.2.1.1)) ?_
  refine ok_s ?_
  replace h := ob h; obtain ⟨zv39, ezv39, h⟩ := h
  obtain ⟨v39, ev39, tv39⟩ := o_ldI hM31 wthis.2.2.2.2.2.1.2 rfl tp1 ezv39
  refine ok_b ev39 ?_
  refine ok_b (o_rdS hM31 wthis.1 (wthis.2.2.2.2.2.2.2.2.2.1.1)) ?_
  refine ok_s ?_
  replace h := ob h; obtain ⟨zv42, ezv42, h⟩ := h
  obtain ⟨v42, ev42, tv42⟩ := o_ldI hM31 wthis.2.2.2.2.2.2.2.2.2.1.2 rfl ty30 ezv42
  refine ok_b ev42 ?_
  replace h := ob h; obtain ⟨zv44, ezv44, h⟩ := h
  obtain ⟨v44, ev44, tv44⟩ := o_dvI (t_mul tv36 (t_add tv39 (show (1 : Int32).toInt = 1 from rfl))) tv42 ezv44
  refine ok_b ev44 ?_
  exact o_ri0 (t_sub tv33 tv44) hM31 h

set_option maxHeartbeats 4000000 in
set_option maxRecDepth 100000 in
theorem h_X9_become {E : Em} {M : Mm} {J : Jm} (hM : Mre E M J) {this : Nat} (wthis : W9 E this) {p1 : Nat} (wp1 : W9 E p1) {J1 : Jm} (h : H_X9_become E this p1 J = some J1) : Ok (F_X9_become this p1 M) (fun q => Mre E q J1) := by
  unfold H_X9_become at h
  unfold F_X9_become
  refine ok_b (o_rdS hM wp1.1 (wp1.2.1.1)) ?_
  refine ok_b (o_rdS hM wthis.1 (wthis.2.1.1)) ?_
  refine ok_s ?_
  refine ok_s ?_
  replace h := ob h; obtain ⟨J5, eJ5, h⟩ := h
  obtain ⟨M5, eM5, hM5⟩ := h_X11_copyAll hM (⟨by rw [wp1.2.1.2], by rw [wp1.2.1.2]; exact (by decide)⟩ : Wa E (p1 + 1)) (⟨by rw [wthis.2.1.2], by rw [wthis.2.1.2]; exact (by decide)⟩ : Wa E (this + 1)) eJ5
  refine ok_b eM5 ?_
  refine ok_b (o_rdS hM5 wp1.1 (wp1.2.2.1)) ?_
  refine ok_b (o_rdS hM5 wthis.1 (wthis.2.2.1)) ?_
  refine ok_s ?_
  refine ok_s ?_
  replace h := ob h; obtain ⟨J10, eJ10, h⟩ := h
  obtain ⟨M10, eM10, hM10⟩ := h_X11_copyAll hM5 (⟨by rw [wp1.2.2.2], by rw [wp1.2.2.2]; exact (by decide)⟩ : Wa E (p1 + 2)) (⟨by rw [wthis.2.2.2], by rw [wthis.2.2.2]; exact (by decide)⟩ : Wa E (this + 2)) eJ10
  refine ok_b eM10 ?_
  exact o_rv hM10 h

set_option maxHeartbeats 4000000 in
set_option maxRecDepth 100000 in
theorem h_X7_become {E : Em} {M : Mm} {J : Jm} (hM : Mre E M J) {this : Nat} (wthis : W7 E this) {p1 : Nat} (wp1 : W7 E p1) {J1 : Jm} (h : H_X7_become E this p1 J = some J1) : Ok (F_X7_become this p1 M) (fun q => Mre E q J1) := by
  unfold H_X7_become at h
  unfold F_X7_become
  refine ok_b (o_rdS hM wp1.1 (wp1.2.1.1)) ?_
  refine ok_b (o_rdS hM wthis.1 (wthis.2.1.1)) ?_
  refine ok_s ?_
  refine ok_s ?_
  replace h := ob h; obtain ⟨J5, eJ5, h⟩ := h
  obtain ⟨M5, eM5, hM5⟩ := h_X11_copyAll hM (⟨by rw [wp1.2.1.2], by rw [wp1.2.1.2]; exact (by decide)⟩ : Wa E (p1 + 1)) (⟨by rw [wthis.2.1.2], by rw [wthis.2.1.2]; exact (by decide)⟩ : Wa E (this + 1)) eJ5
  refine ok_b eM5 ?_
  refine ok_b (o_rdS hM5 wp1.1 (wp1.2.2.1.1)) ?_
  refine ok_b (o_rdS hM5 wthis.1 (wthis.2.2.1.1)) ?_
  refine ok_s ?_
  refine ok_s ?_
  replace h := ob h; obtain ⟨J10, eJ10, h⟩ := h
  obtain ⟨M10, eM10, hM10⟩ := h_X11_copyAll hM5 (⟨by rw [wp1.2.2.1.2], by rw [wp1.2.2.1.2]; exact (by decide)⟩ : Wa E (p1 + 2)) (⟨by rw [wthis.2.2.1.2], by rw [wthis.2.2.1.2]; exact (by decide)⟩ : Wa E (this + 2)) eJ10
  refine ok_b eM10 ?_
  refine ok_b (o_rdS hM10 wp1.1 (wp1.2.2.2.1.1)) ?_
  refine ok_b (o_rdS hM10 wthis.1 (wthis.2.2.2.1.1)) ?_
  refine ok_s ?_
  refine ok_s ?_
  replace h := ob h; obtain ⟨J15, eJ15, h⟩ := h
  obtain ⟨M15, eM15, hM15⟩ := h_X11_copyAll hM10 (⟨by rw [wp1.2.2.2.1.2], by rw [wp1.2.2.2.1.2]; exact (by decide)⟩ : Wa E (p1 + 3)) (⟨by rw [wthis.2.2.2.1.2], by rw [wthis.2.2.2.1.2]; exact (by decide)⟩ : Wa E (this + 3)) eJ15
  refine ok_b eM15 ?_
  refine ok_b (o_rdS hM15 wp1.1 (wp1.2.2.2.2.1.1)) ?_
  refine ok_b (o_rdS hM15 wthis.1 (wthis.2.2.2.2.1.1)) ?_
  refine ok_s ?_
  refine ok_s ?_
  replace h := ob h; obtain ⟨J20, eJ20, h⟩ := h
  obtain ⟨M20, eM20, hM20⟩ := h_X11_copyAll hM15 (⟨by rw [wp1.2.2.2.2.1.2], by rw [wp1.2.2.2.2.1.2]; exact (by decide)⟩ : Wa E (p1 + 4)) (⟨by rw [wthis.2.2.2.2.1.2], by rw [wthis.2.2.2.2.1.2]; exact (by decide)⟩ : Wa E (this + 4)) eJ20
  refine ok_b eM20 ?_
  refine ok_b (o_rdS hM20 wp1.1 (wp1.2.2.2.2.2.1.1)) ?_
  refine ok_b (o_rdS hM20 wthis.1 (wthis.2.2.2.2.2.1.1)) ?_
  refine ok_s ?_
  refine ok_s ?_
  replace h := ob h; obtain ⟨J25, eJ25, h⟩ := h
  obtain ⟨M25, eM25, hM25⟩ := h_X11_copyAll hM20 (⟨by rw [wp1.2.2.2.2.2.1.2], by rw [wp1.2.2.2.2.2.1.2]; exact (by decide)⟩ : Wa E (p1 + 5)) (⟨by rw [wthis.2.2.2.2.2.1.2], by rw [wthis.2.2.2.2.2.1.2]; exact (by decide)⟩ : Wa E (this + 5)) eJ25
  refine ok_b eM25 ?_
  refine ok_b (o_rdS hM25 wthis.1 (wthis.2.2.2.2.2.2.1.1)) ?_
  refine ok_b (o_rdS hM25 wp1.1 (wp1.2.2.2.2.2.2.1.1)) ?_
  refine ok_s ?_
  refine ok_s ?_
  refine ok_b (o_isO hM25 wthis.2.2.2.2.2.2.1.2.1) ?_
  replace h := ob h; obtain ⟨J30, eJ30, h⟩ := h
  obtain ⟨M30, eM30, hM30⟩ := h_X9_become hM25 wthis.2.2.2.2.2.2.1.2 wp1.2.2.2.2.2.2.1.2 eJ30
  refine ok_b eM30 ?_
  refine ok_b (o_rdS hM30 wthis.1 (wthis.2.2.2.2.2.2.2.1)) ?_
  refine ok_b (o_rdS hM30 wp1.1 (wp1.2.2.2.2.2.2.2.1)) ?_
  refine ok_s ?_
  refine ok_s ?_
  refine ok_b (o_isO hM30 wthis.2.2.2.2.2.2.2.2.1) ?_
  replace h := ob h; obtain ⟨J36, eJ36, h⟩ := h
  obtain ⟨M36, eM36, hM36⟩ := h_X9_become hM30 wthis.2.2.2.2.2.2.2.2 wp1.2.2.2.2.2.2.2.2 eJ36
  refine ok_b eM36 ?_
  exact o_rv hM36 h

set_option maxHeartbeats 4000000 in
set_option maxRecDepth 100000 in
theorem h_X7_cellRow {E : Em} {M : Mm} {J : Jm} (hM : Mre E M J) {this : Nat} (wthis : W7 E this) {p1 : Int32} {zp1 : Int} (tp1 : p1.toInt = zp1) {z : Option Nat} (h : H_X7_cellRow this zp1 = some z) : Ok (F_X7_cellRow this p1 M) (fun q => q.1 = z ∧ Mre E q.2 J ∧ ∀ y, q.1 = some y → Wa E y) := by
  unfold H_X7_cellRow at h
  unfold F_X7_cellRow
  by_cases c1 : zp1 = 0
  · replace h := it_t c1 h
    refine ok_t ((c_eq tp1 (show (0 : Int32).toInt = 0 from rfl)).mpr c1) ?_
    refine ok_b (o_rdS hM wthis.1 (wthis.2.1.1)) ?_
    exact o_rr0 hM h (fun _ hq => by cases hq; exact (⟨by rw [wthis.2.1.2], by rw [wthis.2.1.2]; exact (by decide)⟩ : Wa E (this + 1)))
  · replace h := it_f c1 h
    refine ok_f (mt (c_eq tp1 (show (0 : Int32).toInt = 0 from rfl)).mp c1) ?_
    by_cases c2 : zp1 = 1
    · replace h := it_t c2 h
      refine ok_t ((c_eq tp1 (show (1 : Int32).toInt = 1 from rfl)).mpr c2) ?_
      refine ok_b (o_rdS hM wthis.1 (wthis.2.2.1.1)) ?_
      exact o_rr0 hM h (fun _ hq => by cases hq; exact (⟨by rw [wthis.2.2.1.2], by rw [wthis.2.2.1.2]; exact (by decide)⟩ : Wa E (this + 2)))
    · replace h := it_f c2 h
      refine ok_f (mt (c_eq tp1 (show (1 : Int32).toInt = 1 from rfl)).mp c2) ?_
      refine ok_b (o_rdS hM wthis.1 (wthis.2.2.2.1.1)) ?_
      exact o_rr0 hM h (fun _ hq => by cases hq; exact (⟨by rw [wthis.2.2.2.1.2], by rw [wthis.2.2.2.1.2]; exact (by decide)⟩ : Wa E (this + 3)))

set_option maxHeartbeats 4000000 in
set_option maxRecDepth 100000 in
theorem h_X7_placeRow {E : Em} {M : Mm} {J : Jm} (hM : Mre E M J) {this : Nat} (wthis : W7 E this) {p1 : Int32} {zp1 : Int} (tp1 : p1.toInt = zp1) {z : Option Nat} (h : H_X7_placeRow this zp1 = some z) : Ok (F_X7_placeRow this p1 M) (fun q => q.1 = z ∧ Mre E q.2 J ∧ ∀ y, q.1 = some y → Wa E y) := by
  unfold H_X7_placeRow at h
  unfold F_X7_placeRow
  by_cases c1 : zp1 = 3
  · replace h := it_t c1 h
    refine ok_t ((c_eq tp1 (show (3 : Int32).toInt = 3 from rfl)).mpr c1) ?_
    refine ok_b (o_rdS hM wthis.1 (wthis.2.2.2.2.2.2.1.1)) ?_
    refine ok_s ?_
    refine ok_b (o_rdS hM wthis.2.2.2.2.2.2.1.2.1 (wthis.2.2.2.2.2.2.1.2.2.1.1)) ?_
    exact o_rr0 hM h (fun _ hq => by cases hq; exact (⟨by rw [wthis.2.2.2.2.2.2.1.2.2.1.2], by rw [wthis.2.2.2.2.2.2.1.2.2.1.2]; exact (by decide)⟩ : Wa E (this + 6 + 1)))
  · replace h := it_f c1 h
    refine ok_f (mt (c_eq tp1 (show (3 : Int32).toInt = 3 from rfl)).mp c1) ?_
    by_cases c2 : zp1 = 4
    · replace h := it_t c2 h
      refine ok_t ((c_eq tp1 (show (4 : Int32).toInt = 4 from rfl)).mpr c2) ?_
      refine ok_b (o_rdS hM wthis.1 (wthis.2.2.2.2.2.2.1.1)) ?_
      refine ok_s ?_
      refine ok_b (o_rdS hM wthis.2.2.2.2.2.2.1.2.1 (wthis.2.2.2.2.2.2.1.2.2.2.1)) ?_
      exact o_rr0 hM h (fun _ hq => by cases hq; exact (⟨by rw [wthis.2.2.2.2.2.2.1.2.2.2.2], by rw [wthis.2.2.2.2.2.2.1.2.2.2.2]; exact (by decide)⟩ : Wa E (this + 6 + 2)))
    · replace h := it_f c2 h
      refine ok_f (mt (c_eq tp1 (show (4 : Int32).toInt = 4 from rfl)).mp c2) ?_
      by_cases c3 : zp1 = 5
      · replace h := it_t c3 h
        refine ok_t ((c_eq tp1 (show (5 : Int32).toInt = 5 from rfl)).mpr c3) ?_
        refine ok_b (o_rdS hM wthis.1 (wthis.2.2.2.2.2.2.2.1)) ?_
        refine ok_s ?_
        refine ok_b (o_rdS hM wthis.2.2.2.2.2.2.2.2.1 (wthis.2.2.2.2.2.2.2.2.2.1.1)) ?_
        exact o_rr0 hM h (fun _ hq => by cases hq; exact (⟨by rw [wthis.2.2.2.2.2.2.2.2.2.1.2], by rw [wthis.2.2.2.2.2.2.2.2.2.1.2]; exact (by decide)⟩ : Wa E (this + 9 + 1)))
      · replace h := it_f c3 h
        refine ok_f (mt (c_eq tp1 (show (5 : Int32).toInt = 5 from rfl)).mp c3) ?_
        by_cases c4 : zp1 = 6
        · replace h := it_t c4 h
          refine ok_t ((c_eq tp1 (show (6 : Int32).toInt = 6 from rfl)).mpr c4) ?_
          refine ok_b (o_rdS hM wthis.1 (wthis.2.2.2.2.2.2.2.1)) ?_
          refine ok_s ?_
          refine ok_b (o_rdS hM wthis.2.2.2.2.2.2.2.2.1 (wthis.2.2.2.2.2.2.2.2.2.2.1)) ?_
          exact o_rr0 hM h (fun _ hq => by cases hq; exact (⟨by rw [wthis.2.2.2.2.2.2.2.2.2.2.2], by rw [wthis.2.2.2.2.2.2.2.2.2.2.2]; exact (by decide)⟩ : Wa E (this + 9 + 2)))
        · replace h := it_f c4 h
          refine ok_f (mt (c_eq tp1 (show (6 : Int32).toInt = 6 from rfl)).mp c4) ?_
          by_cases c5 : zp1 = 7
          · replace h := it_t c5 h
            refine ok_t ((c_eq tp1 (show (7 : Int32).toInt = 7 from rfl)).mpr c5) ?_
            refine ok_b (o_rdS hM wthis.1 (wthis.2.2.2.2.1.1)) ?_
            exact o_rr0 hM h (fun _ hq => by cases hq; exact (⟨by rw [wthis.2.2.2.2.1.2], by rw [wthis.2.2.2.2.1.2]; exact (by decide)⟩ : Wa E (this + 4)))
          · replace h := it_f c5 h
            refine ok_f (mt (c_eq tp1 (show (7 : Int32).toInt = 7 from rfl)).mp c5) ?_
            refine ok_b (o_rdS hM wthis.1 (wthis.2.2.2.2.2.1.1)) ?_
            exact o_rr0 hM h (fun _ hq => by cases hq; exact (⟨by rw [wthis.2.2.2.2.2.1.2], by rw [wthis.2.2.2.2.2.1.2]; exact (by decide)⟩ : Wa E (this + 5)))

set_option maxHeartbeats 4000000 in
set_option maxRecDepth 100000 in
theorem h_X11_changeAt {E : Em} {M : Mm} {J : Jm} (hM : Mre E M J) {p1 : Nat} (wp1 : Wa E p1) {p2 : Int32} {zp2 : Int} (tp2 : p2.toInt = zp2) {p3 : Int32} {zp3 : Int} (tp3 : p3.toInt = zp3) {z : Int} {J1 : Jm} (h : H_X11_changeAt E p1 zp2 zp3 J = some (z, J1)) : Ok (F_X11_changeAt p1 p2 p3 M) (fun q => q.1.toInt = z ∧ Mre E q.2 J1) := by
  unfold H_X11_changeAt at h
  unfold F_X11_changeAt
  replace h := ob h; obtain ⟨zv1, ezv1, h⟩ := h
  obtain ⟨v1, ev1, tv1⟩ := o_ldI hM (Wa.k wp1) rfl tp2 ezv1
  refine ok_b ev1 ?_
  replace h := ob h; obtain ⟨J2, eJ2, h⟩ := h
  obtain ⟨M2, eM2, hM2⟩ := o_stI hM (Wa.k wp1) rfl tp2 tp3 eJ2
  refine ok_b eM2 ?_
  by_cases c1 : zv1 = zp3
  · replace h := it_t c1 h
    refine ok_t ((c_eq tv1 tp3).mpr c1) ?_
    exact o_ri (show (0 : Int32).toInt = 0 from rfl) hM2 h
  · replace h := it_f c1 h
    refine ok_f (mt (c_eq tv1 tp3).mp c1) ?_
    exact o_ri (show (1 : Int32).toInt = 1 from rfl) hM2 h

set_option maxHeartbeats 4000000 in
set_option maxRecDepth 100000 in
theorem h_X7_change_L31 {E : Em} {z : Int} {J1 : Jm}  (k105 : Int32 → Mm → Option (Int32 × Mm)) (k105h : Int → Jm → Option (Int × Jm)) (hk105 : ∀ (y0 : Int32) (zy0 : Int), y0.toInt = zy0 → ∀ (M9 : Mm) (J9 : Jm), Mre E M9 J9 → k105h zy0 J9 = some (z, J1) → Ok (k105 y0 M9) (fun q => q.1.toInt = z ∧ Mre E q.2 J1)) (x0 : Nat) (wx0 : W7 E x0) (x1 : Int32) (zx1 : Int) (tx1 : x1.toInt = zx1) (x2 : Int32) (zx2 : Int) (tx2 : x2.toInt = zx2) (x3 : Int32) (zx3 : Int) (tx3 : x3.toInt = zx3) (x4 : Int32) (zx4 : Int) (tx4 : x4.toInt = zx4) (x5 : Option Nat) (wx5 : ∀ y, x5 = some y → Wa E y) (x7 : Int32) (zx7 : Int) (tx7 : x7.toInt = zx7) : ∀ (fu : Nat), ∀ (x6 : Int32) (zx6 : Int), x6.toInt = zx6 → ∀ (x8 : Int32) (zx8 : Int), x8.toInt = zx8 → ∀ (M0 : Mm) (J0 : Jm), Mre E M0 J0 → H_X7_change_L31 k105h E x0 zx1 zx2 zx3 zx4 x5 zx7 fu zx6 zx8 J0 = some (z, J1) → Ok (F_X7_change_L31 k105 x0 x1 x2 x3 x4 x5 x7 fu x6 x8 M0) (fun q => q.1.toInt = z ∧ Mre E q.2 J1) := by
  intro fu
  induction fu with
  | zero =>
    intro x6 zx6 tx6 x8 zx8 tx8 M0 J0 hM0 h
    rw [H_X7_change_L31] at h
    cases h
  | succ n9 ih =>
    intro x6 zx6 tx6 x8 zx8 tx8 M0 J0 hM0 h
    rw [H_X7_change_L31] at h
    rw [F_X7_change_L31]
    replace h := ob h; obtain ⟨zv10, ezv10, h⟩ := h
    obtain ⟨v10, ev10, tv10⟩ := o_rmI tx2 (show (10 : Int32).toInt = 10 from rfl) ezv10
    refine ok_b ev10 ?_
    by_cases c2 : zv10 < zx8
    · replace h := it_t c2 h
      refine ok_t ((c_lt tv10 tx8).mpr c2) ?_
      exact hk105 _ _ tx6 _ _ hM0 h
    · replace h := it_f c2 h
      refine ok_f (mt (c_lt tv10 tx8).mp c2) ?_
      replace h := ob h; obtain ⟨zv13, ezv13, h⟩ := h
      obtain ⟨⟨v13, M12⟩, eM12, tv13, hM12⟩ := h_X11_cellOf hM0 tx7 tx8 ezv13
      refine ok_b eM12 ?_
      by_cases c3 : zx3 = 2
      · replace h := it_t c3 h
        refine ok_t ((c_eq tx3 (show (2 : Int32).toInt = 2 from rfl)).mpr c3) ?_
        refine ok_b (o_rdS hM12 wx0.1 (wx0.2.1.1)) ?_
        refine ok_s ?_
        replace h := ob h; obtain ⟨zv26, ezv26, h⟩ := h
        obtain ⟨v26, ev26, tv26⟩ := o_ldI hM12 wx0.2.1.2 rfl tv13 ezv26
        refine ok_b ev26 ?_
        by_cases c4 : zv26 = 0
        · replace h := it_t c4 h
          refine ok_t ((c_eq tv26 (show (0 : Int32).toInt = 0 from rfl)).mpr c4) ?_
          exact ih _ _ tx6 _ _ (t_add tx8 (show (1 : Int32).toInt = 1 from rfl)) _ _ hM12 h
        · replace h := it_f c4 h
          refine ok_f (mt (c_eq tv26 (show (0 : Int32).toInt = 0 from rfl)).mp c4) ?_
          replace h := ob h; obtain ⟨a29, ea29, h⟩ := h
          refine ok_b ea29 ?_
          replace h := ob h; obtain ⟨⟨zv31, J30⟩, ezv31, h⟩ := h
          obtain ⟨⟨v31, M30⟩, eM30, tv31, hM30⟩ := h_X11_changeAt hM12 (wx5 _ ea29) tv13 tx4 ezv31
          refine ok_b eM30 ?_
          refine ok_b (o_rdS hM30 wx0.1 (wx0.2.1.1)) ?_
          refine ok_s ?_
          replace h := ob h; obtain ⟨zv33, ezv33, h⟩ := h
          obtain ⟨v33, ev33, tv33⟩ := o_ldI hM30 wx0.2.1.2 rfl tv13 ezv33
          refine ok_b ev33 ?_
          by_cases c5 : zv33 = 0
          · replace h := it_t c5 h
            refine ok_t ((c_eq tv33 (show (0 : Int32).toInt = 0 from rfl)).mpr c5) ?_
            refine ok_b (o_rdS hM30 wx0.1 (wx0.2.2.2.1.1)) ?_
            refine ok_s ?_
            replace h := ob h; obtain ⟨J37, eJ37, h⟩ := h
            obtain ⟨M37, eM37, hM37⟩ := o_stI hM30 wx0.2.2.2.1.2 rfl tv13 (show (0 : Int32).toInt = 0 from rfl) eJ37
            refine ok_b eM37 ?_
            exact ih _ _ (t_add tx6 tv31) _ _ (t_add tx8 (show (1 : Int32).toInt = 1 from rfl)) _ _ hM37 h
          · replace h := it_f c5 h
            refine ok_f (mt (c_eq tv33 (show (0 : Int32).toInt = 0 from rfl)).mp c5) ?_
            exact ih _ _ (t_add tx6 tv31) _ _ (t_add tx8 (show (1 : Int32).toInt = 1 from rfl)) _ _ hM30 h
      · replace h := it_f c3 h
        refine ok_f (mt (c_eq tx3 (show (2 : Int32).toInt = 2 from rfl)).mp c3) ?_
        replace h := ob h; obtain ⟨a15, ea15, h⟩ := h
        refine ok_b ea15 ?_
        replace h := ob h; obtain ⟨⟨zv17, J16⟩, ezv17, h⟩ := h
        obtain ⟨⟨v17, M16⟩, eM16, tv17, hM16⟩ := h_X11_changeAt hM12 (wx5 _ ea15) tv13 tx4 ezv17
        refine ok_b eM16 ?_
        refine ok_b (o_rdS hM16 wx0.1 (wx0.2.1.1)) ?_
        refine ok_s ?_
        replace h := ob h; obtain ⟨zv19, ezv19, h⟩ := h
        obtain ⟨v19, ev19, tv19⟩ := o_ldI hM16 wx0.2.1.2 rfl tv13 ezv19
        refine ok_b ev19 ?_
        by_cases c6 : zv19 = 0
        · replace h := it_t c6 h
          refine ok_t ((c_eq tv19 (show (0 : Int32).toInt = 0 from rfl)).mpr c6) ?_
          refine ok_b (o_rdS hM16 wx0.1 (wx0.2.2.2.1.1)) ?_
          refine ok_s ?_
          replace h := ob h; obtain ⟨J23, eJ23, h⟩ := h
          obtain ⟨M23, eM23, hM23⟩ := o_stI hM16 wx0.2.2.2.1.2 rfl tv13 (show (0 : Int32).toInt = 0 from rfl) eJ23
          refine ok_b eM23 ?_
          exact ih _ _ (t_add tx6 tv17) _ _ (t_add tx8 (show (1 : Int32).toInt = 1 from rfl)) _ _ hM23 h
        · replace h := it_f c6 h
          refine ok_f (mt (c_eq tv19 (show (0 : Int32).toInt = 0 from rfl)).mp c6) ?_
          exact ih _ _ (t_add tx6 tv17) _ _ (t_add tx8 (show (1 : Int32).toInt = 1 from rfl)) _ _ hM16 h
set_option maxHeartbeats 4000000 in
set_option maxRecDepth 100000 in
theorem h_X7_change_L16 {E : Em} {z : Int} {J1 : Jm}   (x0 : Nat) (wx0 : W7 E x0) (x1 : Int32) (zx1 : Int) (tx1 : x1.toInt = zx1) (x2 : Int32) (zx2 : Int) (tx2 : x2.toInt = zx2) (x3 : Int32) (zx3 : Int) (tx3 : x3.toInt = zx3) (x4 : Int32) (zx4 : Int) (tx4 : x4.toInt = zx4) (x5 : Option Nat) (wx5 : ∀ y, x5 = some y → Wa E y) : ∀ (fu : Nat), ∀ (x6 : Int32) (zx6 : Int), x6.toInt = zx6 → ∀ (x7 : Int32) (zx7 : Int), x7.toInt = zx7 → ∀ (M0 : Mm) (J0 : Jm), Mre E M0 J0 → H_X7_change_L16 E x0 zx1 zx2 zx3 zx4 x5 fu zx6 zx7 J0 = some (z, J1) → Ok (F_X7_change_L16 x0 x1 x2 x3 x4 x5 fu x6 x7 M0) (fun q => q.1.toInt = z ∧ Mre E q.2 J1) := by
  intro fu
  induction fu with
  | zero =>
    intro x6 zx6 tx6 x7 zx7 tx7 M0 J0 hM0 h
    rw [H_X7_change_L16] at h
    cases h
  | succ n5 ih =>
    intro x6 zx6 tx6 x7 zx7 tx7 M0 J0 hM0 h
    rw [H_X7_change_L16] at h
    rw [F_X7_change_L16]
    replace h := ob h; obtain ⟨zv6, ezv6, h⟩ := h
    obtain ⟨v6, ev6, tv6⟩ := o_rmI tx1 (show (10 : Int32).toInt = 10 from rfl) ezv6
    refine ok_b ev6 ?_
    by_cases c1 : zv6 < zx7
    · replace h := it_t c1 h
      refine ok_t ((c_lt tv6 tx7).mpr c1) ?_
      exact o_ri tx6 hM0 h
    · replace h := it_f c1 h
      refine ok_f (mt (c_lt tv6 tx7).mp c1) ?_
      replace h := ob h; obtain ⟨zv8, ezv8, h⟩ := h
      obtain ⟨v8, ev8, tv8⟩ := o_dvI tx2 (show (10 : Int32).toInt = 10 from rfl) ezv8
      refine ok_b ev8 ?_
      refine h_X7_change_L31  _ _ ?_ _ wx0 _ _ tx1 _ _ tx2 _ _ tx3 _ _ tx4 _ wx5 _ _ tx7 _ _ _ tx6 _ _ tv8 _ _ hM0 h
      intro y39 zy39 ty39 M40 J40 hM40 h
      exact ih _ _ ty39 _ _ (t_add tx7 (show (1 : Int32).toInt = 1 from rfl)) _ _ hM40 h
set_option maxHeartbeats 4000000 in
set_option maxRecDepth 100000 in
theorem h_X7_change {E : Em} {M : Mm} {J : Jm} (hM : Mre E M J) {this : Nat} (wthis : W7 E this) {p1 : Int32} {zp1 : Int} (tp1 : p1.toInt = zp1) {p2 : Int32} {zp2 : Int} (tp2 : p2.toInt = zp2) {p3 : Int32} {zp3 : Int} (tp3 : p3.toInt = zp3) {p4 : Int32} {zp4 : Int} (tp4 : p4.toInt = zp4) {z : Int} {J1 : Jm} (h : H_X7_change E this zp1 zp2 zp3 zp4 J = some (z, J1)) : Ok (F_X7_change this p1 p2 p3 p4 M) (fun q => q.1.toInt = z ∧ Mre E q.2 J1) := by
  unfold H_X7_change at h
  unfold F_X7_change
  refine ok_b (o_isO hM wthis.1) ?_
  replace h := ob h; obtain ⟨v3q, ev3q, h⟩ := h
  obtain ⟨⟨v3, M1⟩, eM1, tv3, hM1, wv3⟩ := h_X7_cellRow hM wthis tp3 ev3q
  dsimp only at tv3 wv3
  subst tv3
  refine ok_b eM1 ?_
  replace h := ob h; obtain ⟨zv4, ezv4, h⟩ := h
  obtain ⟨v4, ev4, tv4⟩ := o_dvI tp1 (show (10 : Int32).toInt = 10 from rfl) ezv4
  refine ok_b ev4 ?_
  refine h_X7_change_L16   _ wthis _ _ tp1 _ _ tp2 _ _ tp3 _ _ tp4 _ wv3 _ _ _ (show (0 : Int32).toInt = 0 from rfl) _ _ tv4 _ _ hM1 h

set_option maxHeartbeats 4000000 in
set_option maxRecDepth 100000 in
theorem h_X7_lessenDoubt_L9 {E : Em} {J1 : Jm}   (x0 : Nat) (wx0 : W7 E x0) (x1 : Int32) (zx1 : Int) (tx1 : x1.toInt = zx1) : ∀ (fu : Nat), ∀ (x2 : Int32) (zx2 : Int), x2.toInt = zx2 → ∀ (M0 : Mm) (J0 : Jm), Mre E M0 J0 → H_X7_lessenDoubt_L9 x0 zx1 fu zx2 J0 = some J1 → Ok (F_X7_lessenDoubt_L9 x0 x1 fu x2 M0) (fun q => Mre E q J1) := by
  intro fu
  induction fu with
  | zero =>
    intro x2 zx2 tx2 M0 J0 hM0 h
    rw [H_X7_lessenDoubt_L9] at h
    cases h
  | succ n4 ih =>
    intro x2 zx2 tx2 M0 J0 hM0 h
    rw [H_X7_lessenDoubt_L9] at h
    rw [F_X7_lessenDoubt_L9]
    by_cases c1 : 5 ≤ zx2
    · replace h := it_t c1 h
      refine ok_t ((c_le (show (5 : Int32).toInt = 5 from rfl) tx2).mpr c1) ?_
      exact o_rv hM0 h
    · replace h := it_f c1 h
      refine ok_f (mt (c_le (show (5 : Int32).toInt = 5 from rfl) tx2).mp c1) ?_
      refine ok_b (o_isO hM0 wx0.1) ?_
      replace h := ob h; obtain ⟨zv8, ezv8, h⟩ := h
      obtain ⟨⟨v8, M6⟩, eM6, tv8, hM6⟩ := h_X7_beside hM0 wx0 tx1 tx2 ezv8
      refine ok_b eM6 ?_
      by_cases c2 : zv8 < 0
      · replace h := it_t c2 h
        refine ok_t ((c_lt tv8 (show (0 : Int32).toInt = 0 from rfl)).mpr c2) ?_
        exact ih _ _ (t_add tx2 (show (1 : Int32).toInt = 1 from rfl)) _ _ hM6 h
      · replace h := it_f c2 h
        refine ok_f (mt (c_lt tv8 (show (0 : Int32).toInt = 0 from rfl)).mp c2) ?_
        refine ok_b (o_rdS hM6 wx0.1 (wx0.2.2.2.1.1)) ?_
        refine ok_s ?_
        replace h := ob h; obtain ⟨zv11, ezv11, h⟩ := h
        obtain ⟨v11, ev11, tv11⟩ := o_ldI hM6 wx0.2.2.2.1.2 rfl tv8 ezv11
        refine ok_b ev11 ?_
        replace h := ob h; obtain ⟨zv13, ezv13, h⟩ := h
        obtain ⟨v13, ev13, tv13⟩ := o_dvI tv11 (show (2 : Int32).toInt = 2 from rfl) ezv13
        refine ok_b ev13 ?_
        replace h := ob h; obtain ⟨J14, eJ14, h⟩ := h
        obtain ⟨M14, eM14, hM14⟩ := o_stI hM6 wx0.2.2.2.1.2 rfl tv8 tv13 eJ14
        refine ok_b eM14 ?_
        exact ih _ _ (t_add tx2 (show (1 : Int32).toInt = 1 from rfl)) _ _ hM14 h
set_option maxHeartbeats 4000000 in
set_option maxRecDepth 100000 in
theorem h_X7_lessenDoubt {E : Em} {M : Mm} {J : Jm} (hM : Mre E M J) {this : Nat} (wthis : W7 E this) {p1 : Int32} {zp1 : Int} (tp1 : p1.toInt = zp1) {J1 : Jm} (h : H_X7_lessenDoubt this zp1 J = some J1) : Ok (F_X7_lessenDoubt this p1 M) (fun q => Mre E q J1) := by
  unfold H_X7_lessenDoubt at h
  unfold F_X7_lessenDoubt
  refine ok_b (o_rdS hM wthis.1 (wthis.2.2.2.1.1)) ?_
  refine ok_s ?_
  replace h := ob h; obtain ⟨J2, eJ2, h⟩ := h
  obtain ⟨M2, eM2, hM2⟩ := o_stI hM wthis.2.2.2.1.2 rfl tp1 (show (0 : Int32).toInt = 0 from rfl) eJ2
  refine ok_b eM2 ?_
  refine h_X7_lessenDoubt_L9   _ wthis _ _ tp1 _ _ _ (show (1 : Int32).toInt = 1 from rfl) _ _ hM2 h

set_option maxHeartbeats 4000000 in
set_option maxRecDepth 100000 in
theorem h_X7_growDoubt_L2 {E : Em} {J1 : Jm}   (x0 : Nat) (wx0 : W7 E x0) : ∀ (fu : Nat), ∀ (x1 : Int32) (zx1 : Int), x1.toInt = zx1 → ∀ (M0 : Mm) (J0 : Jm), Mre E M0 J0 → H_X7_growDoubt_L2 x0 fu zx1 J0 = some J1 → Ok (F_X7_growDoubt_L2 x0 fu x1 M0) (fun q => Mre E q J1) := by
  intro fu
  induction fu with
  | zero =>
    intro x1 zx1 tx1 M0 J0 hM0 h
    rw [H_X7_growDoubt_L2] at h
    cases h
  | succ n1 ih =>
    intro x1 zx1 tx1 M0 J0 hM0 h
    rw [H_X7_growDoubt_L2] at h
    rw [F_X7_growDoubt_L2]
    by_cases c1 : 80 ≤ zx1
    · replace h := it_t c1 h
      refine ok_t ((c_le (show (80 : Int32).toInt = 80 from rfl) tx1).mpr c1) ?_
      exact o_rv hM0 h
    · replace h := it_f c1 h
      refine ok_f (mt (c_le (show (80 : Int32).toInt = 80 from rfl) tx1).mp c1) ?_
      refine ok_b (o_rdS hM0 wx0.1 (wx0.2.1.1)) ?_
      refine ok_s ?_
      replace h := ob h; obtain ⟨zv4, ezv4, h⟩ := h
      obtain ⟨v4, ev4, tv4⟩ := o_ldI hM0 wx0.2.1.2 rfl tx1 ezv4
      refine ok_b ev4 ?_
      by_cases c2 : zv4 ≤ 0
      · replace h := it_t c2 h
        refine ok_t ((c_le tv4 (show (0 : Int32).toInt = 0 from rfl)).mpr c2) ?_
        exact ih _ _ (t_add tx1 (show (1 : Int32).toInt = 1 from rfl)) _ _ hM0 h
      · replace h := it_f c2 h
        refine ok_f (mt (c_le tv4 (show (0 : Int32).toInt = 0 from rfl)).mp c2) ?_
        refine ok_b (o_rdS hM0 wx0.1 (wx0.2.2.2.1.1)) ?_
        refine ok_s ?_
        replace h := ob h; obtain ⟨zv8, ezv8, h⟩ := h
        obtain ⟨v8, ev8, tv8⟩ := o_ldI hM0 wx0.2.2.2.1.2 rfl tx1 ezv8
        refine ok_b ev8 ?_
        by_cases c3 : 99 ≤ zv8
        · replace h := it_t c3 h
          refine ok_t ((c_le (show (99 : Int32).toInt = 99 from rfl) tv8).mpr c3) ?_
          exact ih _ _ (t_add tx1 (show (1 : Int32).toInt = 1 from rfl)) _ _ hM0 h
        · replace h := it_f c3 h
          refine ok_f (mt (c_le (show (99 : Int32).toInt = 99 from rfl) tv8).mp c3) ?_
          refine ok_b (o_rdS hM0 wx0.1 (wx0.2.2.2.1.1)) ?_
          refine ok_s ?_
          replace h := ob h; obtain ⟨zv12, ezv12, h⟩ := h
          obtain ⟨v12, ev12, tv12⟩ := o_ldI hM0 wx0.2.2.2.1.2 rfl tx1 ezv12
          refine ok_b ev12 ?_
          replace h := ob h; obtain ⟨J14, eJ14, h⟩ := h
          obtain ⟨M14, eM14, hM14⟩ := o_stI hM0 wx0.2.2.2.1.2 rfl tx1 (t_add tv12 (show (1 : Int32).toInt = 1 from rfl)) eJ14
          refine ok_b eM14 ?_
          exact ih _ _ (t_add tx1 (show (1 : Int32).toInt = 1 from rfl)) _ _ hM14 h
set_option maxHeartbeats 4000000 in
set_option maxRecDepth 100000 in
theorem h_X7_growDoubt {E : Em} {M : Mm} {J : Jm} (hM : Mre E M J) {this : Nat} (wthis : W7 E this) {J1 : Jm} (h : H_X7_growDoubt this J = some J1) : Ok (F_X7_growDoubt this M) (fun q => Mre E q J1) := by
  unfold H_X7_growDoubt at h
  unfold F_X7_growDoubt
  refine h_X7_growDoubt_L2   _ wthis _ _ _ (show (0 : Int32).toInt = 0 from rfl) _ _ hM h

set_option maxHeartbeats 4000000 in
set_option maxRecDepth 100000 in
theorem h_X7_allDoubt_L4 {E : Em} {z : Int} (J : Jm)  (x0 : Nat) (wx0 : W7 E x0) : ∀ (fu : Nat), ∀ (x1 : Int32) (zx1 : Int), x1.toInt = zx1 → ∀ (x2 : Int32) (zx2 : Int), x2.toInt = zx2 → ∀ (M0 : Mm), Mre E M0 J → H_X7_allDoubt_L4 x0 J fu zx1 zx2 = some z → Ok (F_X7_allDoubt_L4 x0 fu x1 x2 M0) (fun q => q.1.toInt = z ∧ Mre E q.2 J) := by
  intro fu
  induction fu with
  | zero =>
    intro x1 zx1 tx1 x2 zx2 tx2 M0 hM0 h
    rw [H_X7_allDoubt_L4] at h
    cases h
  | succ n1 ih =>
    intro x1 zx1 tx1 x2 zx2 tx2 M0 hM0 h
    rw [H_X7_allDoubt_L4] at h
    rw [F_X7_allDoubt_L4]
    by_cases c1 : 80 ≤ zx2
    · replace h := it_t c1 h
      refine ok_t ((c_le (show (80 : Int32).toInt = 80 from rfl) tx2).mpr c1) ?_
      exact o_ri0 tx1 hM0 h
    · replace h := it_f c1 h
      refine ok_f (mt (c_le (show (80 : Int32).toInt = 80 from rfl) tx2).mp c1) ?_
      refine ok_b (o_rdS hM0 wx0.1 (wx0.2.2.2.1.1)) ?_
      refine ok_s ?_
      replace h := ob h; obtain ⟨zv4, ezv4, h⟩ := h
      obtain ⟨v4, ev4, tv4⟩ := o_ldI hM0 wx0.2.2.2.1.2 rfl tx2 ezv4
      refine ok_b ev4 ?_
      exact ih _ _ (t_add tx1 tv4) _ _ (t_add tx2 (show (1 : Int32).toInt = 1 from rfl)) _ hM0 h
set_option maxHeartbeats 4000000 in
set_option maxRecDepth 100000 in
theorem h_X7_allDoubt {E : Em} {M : Mm} {J : Jm} (hM : Mre E M J) {this : Nat} (wthis : W7 E this) {z : Int} (h : H_X7_allDoubt this J = some z) : Ok (F_X7_allDoubt this M) (fun q => q.1.toInt = z ∧ Mre E q.2 J) := by
  unfold H_X7_allDoubt at h
  unfold F_X7_allDoubt
  refine h_X7_allDoubt_L4 _  _ wthis _ _ _ (show (0 : Int32).toInt = 0 from rfl) _ _ (show (0 : Int32).toInt = 0 from rfl) _ hM h

set_option maxHeartbeats 4000000 in
set_option maxRecDepth 100000 in
theorem h_X7_nudged {E : Em} {M : Mm} {J : Jm} (hM : Mre E M J) {p1 : Int32} {zp1 : Int} (tp1 : p1.toInt = zp1) {p2 : Int32} {zp2 : Int} (tp2 : p2.toInt = zp2) {z : Int} (h : H_X7_nudged zp1 zp2 = some z) : Ok (F_X7_nudged p1 p2 M) (fun q => q.1.toInt = z ∧ Mre E q.2 J) := by
  unfold H_X7_nudged at h
  unfold F_X7_nudged
  by_cases c1 : zp2 ≤ 0
  · replace h := it_t c1 h
    refine ok_t ((c_le tp2 (show (0 : Int32).toInt = 0 from rfl)).mpr c1) ?_
    by_cases c2 : 0 ≤ zp2
    · replace h := it_t c2 h
      refine ok_t ((c_le (show (0 : Int32).toInt = 0 from rfl) tp2).mpr c2) ?_
      exact o_ri0 tp1 hM h
    · replace h := it_f c2 h
      refine ok_f (mt (c_le (show (0 : Int32).toInt = 0 from rfl) tp2).mp c2) ?_
      exact o_ri0 (t_mx (show ((-2) : Int32).toInt = (-2) from rfl) (t_sub tp1 (show (1 : Int32).toInt = 1 from rfl))) hM h
  · replace h := it_f c1 h
    refine ok_f (mt (c_le tp2 (show (0 : Int32).toInt = 0 from rfl)).mp c1) ?_
    exact o_ri0 (t_mn (show (2 : Int32).toInt = 2 from rfl) (t_add tp1 (show (1 : Int32).toInt = 1 from rfl))) hM h

set_option maxHeartbeats 4000000 in
set_option maxRecDepth 100000 in
theorem h_X7_learn_L24 {E : Em} {J1 : Jm}  (k75 : Int32 → Int32 → Mm → Option Mm) (k75h : Int → Int → Jm → Option Jm) (hk75 : ∀ (y0 : Int32) (zy0 : Int), y0.toInt = zy0 → ∀ (y1 : Int32) (zy1 : Int), y1.toInt = zy1 → ∀ (M9 : Mm) (J9 : Jm), Mre E M9 J9 → k75h zy0 zy1 J9 = some J1 → Ok (k75 y0 y1 M9) (fun q => Mre E q J1)) (x0 : Nat) (wx0 : W7 E x0) (x1 : Int32) (zx1 : Int) (tx1 : x1.toInt = zx1) (x5 : Int32) (zx5 : Int) (tx5 : x5.toInt = zx5) : ∀ (fu : Nat), ∀ (x6 : Int32) (zx6 : Int), x6.toInt = zx6 → ∀ (x7 : Int32) (zx7 : Int), x7.toInt = zx7 → ∀ (x8 : Int32) (zx8 : Int), x8.toInt = zx8 → ∀ (M0 : Mm) (J0 : Jm), Mre E M0 J0 → H_X7_learn_L24 k75h x0 zx1 zx5 fu zx6 zx7 zx8 J0 = some J1 → Ok (F_X7_learn_L24 k75 x0 x1 x5 fu x6 x7 x8 M0) (fun q => Mre E q J1) := by
  intro fu
  induction fu with
  | zero =>
    intro x6 zx6 tx6 x7 zx7 tx7 x8 zx8 tx8 M0 J0 hM0 h
    rw [H_X7_learn_L24] at h
    cases h
  | succ n4 ih =>
    intro x6 zx6 tx6 x7 zx7 tx7 x8 zx8 tx8 M0 J0 hM0 h
    rw [H_X7_learn_L24] at h
    rw [F_X7_learn_L24]
    by_cases c1 : zx5 ≤ zx8
    · replace h := it_t c1 h
      refine ok_t ((c_le tx5 tx8).mpr c1) ?_
      exact hk75 _ _ tx6 _ _ tx7 _ _ hM0 h
    · replace h := it_f c1 h
      refine ok_f (mt (c_le tx5 tx8).mp c1) ?_
      refine ok_b (o_rdS hM0 wx0.1 (wx0.2.2.2.2.2.2.2.1)) ?_
      refine ok_s ?_
      refine ok_b (o_rdS hM0 wx0.2.2.2.2.2.2.2.2.1 (wx0.2.2.2.2.2.2.2.2.2.1.1)) ?_
      replace h := ob h; obtain ⟨zv10, ezv10, h⟩ := h
      obtain ⟨⟨v10, M9⟩, eM9, tv10, hM9⟩ := h_X11_placeOf hM0 tx1 tx8 ezv10
      refine ok_b eM9 ?_
      refine ok_s ?_
      replace h := ob h; obtain ⟨zv11, ezv11, h⟩ := h
      obtain ⟨v11, ev11, tv11⟩ := o_ldI hM9 wx0.2.2.2.2.2.2.2.2.2.1.2 rfl tv10 ezv11
      refine ok_b ev11 ?_
      refine ok_b (o_rdS hM9 wx0.1 (wx0.2.2.2.2.2.2.2.1)) ?_
      refine ok_s ?_
      refine ok_b (o_rdS hM9 wx0.2.2.2.2.2.2.2.2.1 (wx0.2.2.2.2.2.2.2.2.2.2.1)) ?_
      replace h := ob h; obtain ⟨zv17, ezv17, h⟩ := h
      obtain ⟨⟨v17, M16⟩, eM16, tv17, hM16⟩ := h_X11_placeOf hM9 tx1 tx8 ezv17
      refine ok_b eM16 ?_
      refine ok_s ?_
      replace h := ob h; obtain ⟨zv18, ezv18, h⟩ := h
      obtain ⟨v18, ev18, tv18⟩ := o_ldI hM16 wx0.2.2.2.2.2.2.2.2.2.2.2 rfl tv17 ezv18
      refine ok_b ev18 ?_
      exact ih _ _ (t_sub tx6 tv11) _ _ (t_sub tx7 tv18) _ _ (t_add tx8 (show (1 : Int32).toInt = 1 from rfl)) _ _ hM16 h
set_option maxHeartbeats 4000000 in
set_option maxRecDepth 100000 in
theorem h_X7_learn_L78 {E : Em} {J1 : Jm}   (x0 : Nat) (wx0 : W7 E x0) (x1 : Int32) (zx1 : Int) (tx1 : x1.toInt = zx1) (x5 : Int32) (zx5 : Int) (tx5 : x5.toInt = zx5) (x6 : Int32) (zx6 : Int) (tx6 : x6.toInt = zx6) (x7 : Int32) (zx7 : Int) (tx7 : x7.toInt = zx7) : ∀ (fu : Nat), ∀ (x8 : Int32) (zx8 : Int), x8.toInt = zx8 → ∀ (M0 : Mm) (J0 : Jm), Mre E M0 J0 → H_X7_learn_L78 x0 zx1 zx5 zx6 zx7 fu zx8 J0 = some J1 → Ok (F_X7_learn_L78 x0 x1 x5 x6 x7 fu x8 M0) (fun q => Mre E q J1) := by
  intro fu
  induction fu with
  | zero =>
    intro x8 zx8 tx8 M0 J0 hM0 h
    rw [H_X7_learn_L78] at h
    cases h
  | succ n23 ih =>
    intro x8 zx8 tx8 M0 J0 hM0 h
    rw [H_X7_learn_L78] at h
    rw [F_X7_learn_L78]
    by_cases c2 : zx5 ≤ zx8
    · replace h := it_t c2 h
      refine ok_t ((c_le tx5 tx8).mpr c2) ?_
      exact o_rv hM0 h
    · replace h := it_f c2 h
      refine ok_f (mt (c_le tx5 tx8).mp c2) ?_
      replace h := ob h; obtain ⟨zv26, ezv26, h⟩ := h
      obtain ⟨⟨v26, M25⟩, eM25, tv26, hM25⟩ := h_X11_placeOf hM0 tx1 tx8 ezv26
      refine ok_b eM25 ?_
      refine ok_b (o_rdS hM25 wx0.1 (wx0.2.2.2.2.2.2.2.1)) ?_
      refine ok_s ?_
      refine ok_b (o_rdS hM25 wx0.2.2.2.2.2.2.2.2.1 (wx0.2.2.2.2.2.2.2.2.2.1.1)) ?_
      refine ok_b (o_rdS hM25 wx0.1 (wx0.2.2.2.2.2.2.2.1)) ?_
      refine ok_s ?_
      refine ok_b (o_rdS hM25 wx0.2.2.2.2.2.2.2.2.1 (wx0.2.2.2.2.2.2.2.2.2.1.1)) ?_
      refine ok_s ?_
      replace h := ob h; obtain ⟨zv33, ezv33, h⟩ := h
      obtain ⟨v33, ev33, tv33⟩ := o_ldI hM25 wx0.2.2.2.2.2.2.2.2.2.1.2 rfl tv26 ezv33
      refine ok_b ev33 ?_
      replace h := ob h; obtain ⟨zv36, ezv36, h⟩ := h
      obtain ⟨⟨v36, M35⟩, eM35, tv36, hM35⟩ := h_X7_nudged hM25 tv33 tx6 ezv36
      refine ok_b eM35 ?_
      refine ok_s ?_
      replace h := ob h; obtain ⟨J37, eJ37, h⟩ := h
      obtain ⟨M37, eM37, hM37⟩ := o_stI hM35 wx0.2.2.2.2.2.2.2.2.2.1.2 rfl tv26 tv36 eJ37
      refine ok_b eM37 ?_
      refine ok_b (o_rdS hM37 wx0.1 (wx0.2.2.2.2.2.2.2.1)) ?_
      refine ok_s ?_
      refine ok_b (o_rdS hM37 wx0.2.2.2.2.2.2.2.2.1 (wx0.2.2.2.2.2.2.2.2.2.2.1)) ?_
      refine ok_b (o_rdS hM37 wx0.1 (wx0.2.2.2.2.2.2.2.1)) ?_
      refine ok_s ?_
      refine ok_b (o_rdS hM37 wx0.2.2.2.2.2.2.2.2.1 (wx0.2.2.2.2.2.2.2.2.2.2.1)) ?_
      refine ok_s ?_
      replace h := ob h; obtain ⟨zv45, ezv45, h⟩ := h
      obtain ⟨v45, ev45, tv45⟩ := o_ldI hM37 wx0.2.2.2.2.2.2.2.2.2.2.2 rfl tv26 ezv45
      refine ok_b ev45 ?_
      replace h := ob h; obtain ⟨zv48, ezv48, h⟩ := h
      obtain ⟨⟨v48, M47⟩, eM47, tv48, hM47⟩ := h_X7_nudged hM37 tv45 tx7 ezv48
      refine ok_b eM47 ?_
      refine ok_s ?_
      replace h := ob h; obtain ⟨J49, eJ49, h⟩ := h
      obtain ⟨M49, eM49, hM49⟩ := o_stI hM47 wx0.2.2.2.2.2.2.2.2.2.2.2 rfl tv26 tv48 eJ49
      refine ok_b eM49 ?_
      exact ih _ _ (t_add tx8 (show (1 : Int32).toInt = 1 from rfl)) _ _ hM49 h
set_option maxHeartbeats 4000000 in
set_option maxRecDepth 100000 in
theorem h_X7_learn {E : Em} {M : Mm} {J : Jm} (hM : Mre E M J) {this : Nat} (wthis : W7 E this) {p1 : Int32} {zp1 : Int} (tp1 : p1.toInt = zp1) {p2 : Int32} {zp2 : Int} (tp2 : p2.toInt = zp2) {p3 : Int32} {zp3 : Int} (tp3 : p3.toInt = zp3) {p4 : Int32} {zp4 : Int} (tp4 : p4.toInt = zp4) {J1 : Jm} (h : H_X7_learn this zp1 zp2 zp3 zp4 J = some J1) : Ok (F_X7_learn this p1 p2 p3 p4 M) (fun q => Mre E q J1) := by
  unfold H_X7_learn at h
  unfold F_X7_learn
  refine ok_b (o_rdS hM wthis.1 (wthis.2.1.1)) ?_
  refine ok_s ?_
  replace h := ob h; obtain ⟨zv2, ezv2, h⟩ := h
  obtain ⟨v2, ev2, tv2⟩ := o_ldI hM wthis.2.1.2 rfl tp1 ezv2
  refine ok_b ev2 ?_
  refine h_X7_learn_L24  _ _ ?_ _ wthis _ _ tp1 _ _ (t_mn (t_add tp2 (show (1 : Int32).toInt = 1 from rfl)) tv2) _ _ _ tp3 _ _ tp4 _ _ (show (0 : Int32).toInt = 0 from rfl) _ _ hM h
  intro y20 zy20 ty20 y21 zy21 ty21 M22 J22 hM22 h
  refine h_X7_learn_L78   _ wthis _ _ tp1 _ _ (t_mn (t_add tp2 (show (1 : Int32).toInt = 1 from rfl)) tv2) _ _ ty20 _ _ ty21 _ _ _ (show (0 : Int32).toInt = 0 from rfl) _ _ hM22 h

set_option maxHeartbeats 4000000 in
set_option maxRecDepth 100000 in
theorem h_X7_isWhole_L39 {E : Em} {z : Int} (J : Jm) (k132 : Int32 → Mm → Option (Int32 × Mm)) (k132h : Int → Option Int) (hk132 : ∀ (y0 : Int32) (zy0 : Int), y0.toInt = zy0 → ∀ (M9 : Mm), Mre E M9 J → k132h zy0 = some z → Ok (k132 y0 M9) (fun q => q.1.toInt = z ∧ Mre E q.2 J)) (x0 : Nat) (wx0 : W7 E x0) (x1 : Int32) (zx1 : Int) (tx1 : x1.toInt = zx1) (x2 : Int32) (zx2 : Int) (tx2 : x2.toInt = zx2) (x4 : Int32) (zx4 : Int) (tx4 : x4.toInt = zx4) : ∀ (fu : Nat), ∀ (x5 : Int32) (zx5 : Int), x5.toInt = zx5 → ∀ (x6 : Int32) (zx6 : Int), x6.toInt = zx6 → ∀ (M0 : Mm), Mre E M0 J → H_X7_isWhole_L39 k132h x0 zx1 zx2 zx4 J fu zx5 zx6 = some z → Ok (F_X7_isWhole_L39 k132 x0 x1 x2 x4 fu x5 x6 M0) (fun q => q.1.toInt = z ∧ Mre E q.2 J) := by
  intro fu
  induction fu with
  | zero =>
    intro x5 zx5 tx5 x6 zx6 tx6 M0 hM0 h
    rw [H_X7_isWhole_L39] at h
    cases h
  | succ n13 ih =>
    intro x5 zx5 tx5 x6 zx6 tx6 M0 hM0 h
    rw [H_X7_isWhole_L39] at h
    rw [F_X7_isWhole_L39]
    by_cases c1 : 5 ≤ zx6
    · replace h := it_t c1 h
      refine ok_t ((c_le (show (5 : Int32).toInt = 5 from rfl) tx6).mpr c1) ?_
      exact hk132 _ _ tx5 _ hM0 h
    · replace h := it_f c1 h
      refine ok_f (mt (c_le (show (5 : Int32).toInt = 5 from rfl) tx6).mp c1) ?_
      refine ok_b (o_isO hM0 wx0.1) ?_
      replace h := ob h; obtain ⟨zv17, ezv17, h⟩ := h
      obtain ⟨⟨v17, M15⟩, eM15, tv17, hM15⟩ := h_X7_beside hM0 wx0 tx1 tx6 ezv17
      refine ok_b eM15 ?_
      by_cases c2 : zv17 < 0
      · replace h := it_t c2 h
        refine ok_t ((c_lt tv17 (show (0 : Int32).toInt = 0 from rfl)).mpr c2) ?_
        exact ih _ _ tx5 _ _ (t_add tx6 (show (1 : Int32).toInt = 1 from rfl)) _ hM15 h
      · replace h := it_f c2 h
        refine ok_f (mt (c_lt tv17 (show (0 : Int32).toInt = 0 from rfl)).mp c2) ?_
        refine ok_b (o_isO hM15 wx0.1) ?_
        replace h := ob h; obtain ⟨zv21, ezv21, h⟩ := h
        obtain ⟨⟨v21, M19⟩, eM19, tv21, hM19⟩ := h_X7_has hM15 wx0 tv17 tx2 ezv21
        refine ok_b eM19 ?_
        by_cases c3 : zv21 = 0
        · replace h := it_t c3 h
          refine ok_t ((c_eq tv21 (show (0 : Int32).toInt = 0 from rfl)).mpr c3) ?_
          exact ih _ _ tx5 _ _ (t_add tx6 (show (1 : Int32).toInt = 1 from rfl)) _ hM19 h
        · replace h := it_f c3 h
          refine ok_f (mt (c_eq tv21 (show (0 : Int32).toInt = 0 from rfl)).mp c3) ?_
          replace h := ob h; obtain ⟨zv24, ezv24, h⟩ := h
          obtain ⟨⟨v24, M23⟩, eM23, tv24, hM23⟩ := h_X11_placeOf hM19 tv17 tx2 ezv24
          refine ok_b eM23 ?_
          refine ok_b (o_rdS hM23 wx0.1 (wx0.2.2.2.2.2.2.2.1)) ?_
          refine ok_s ?_
          refine ok_b (o_rdS hM23 wx0.2.2.2.2.2.2.2.2.1 (wx0.2.2.2.2.2.2.2.2.2.1.1)) ?_
          refine ok_s ?_
          replace h := ob h; obtain ⟨zv28, ezv28, h⟩ := h
          obtain ⟨v28, ev28, tv28⟩ := o_ldI hM23 wx0.2.2.2.2.2.2.2.2.2.1.2 rfl tv24 ezv28
          refine ok_b ev28 ?_
          replace h := ob h; obtain ⟨zv30, ezv30, h⟩ := h
          obtain ⟨v30, ev30, tv30⟩ := o_ldS tx6 ezv30
          refine ok_b ev30 ?_
          refine ok_b (o_rdS hM23 wx0.1 (wx0.2.2.2.2.2.2.2.1)) ?_
          refine ok_s ?_
          refine ok_b (o_rdS hM23 wx0.2.2.2.2.2.2.2.2.1 (wx0.2.2.2.2.2.2.2.2.2.2.1)) ?_
          refine ok_s ?_
          replace h := ob h; obtain ⟨zv34, ezv34, h⟩ := h
          obtain ⟨v34, ev34, tv34⟩ := o_ldI hM23 wx0.2.2.2.2.2.2.2.2.2.2.2 rfl tv24 ezv34
          refine ok_b ev34 ?_
          replace h := ob h; obtain ⟨zv36, ezv36, h⟩ := h
          obtain ⟨v36, ev36, tv36⟩ := o_ldS tx6 ezv36
          refine ok_b ev36 ?_
          exact ih _ _ (t_add tx5 (t_mx (show (0 : Int32).toInt = 0 from rfl) (t_neg (t_add (t_mul tv28 tv30) (t_mul tv34 tv36))))) _ _ (t_add tx6 (show (1 : Int32).toInt = 1 from rfl)) _ hM23 h
set_option maxHeartbeats 4000000 in
set_option maxRecDepth 100000 in
theorem h_X7_isWhole {E : Em} {M : Mm} {J : Jm} (hM : Mre E M J) {this : Nat} (wthis : W7 E this) {p1 : Int32} {zp1 : Int} (tp1 : p1.toInt = zp1) {p2 : Int32} {zp2 : Int} (tp2 : p2.toInt = zp2) {z : Int} (h : H_X7_isWhole this zp1 zp2 J = some z) : Ok (F_X7_isWhole this p1 p2 M) (fun q => q.1.toInt = z ∧ Mre E q.2 J) := by
  unfold H_X7_isWhole at h
  unfold F_X7_isWhole
  replace h := ob h; obtain ⟨zv2, ezv2, h⟩ := h
  obtain ⟨⟨v2, M1⟩, eM1, tv2, hM1⟩ := h_X11_placeOf hM tp1 tp2 ezv2
  refine ok_b eM1 ?_
  refine ok_b (o_rdS hM1 wthis.1 (wthis.2.2.2.2.2.2.2.1)) ?_
  refine ok_s ?_
  refine ok_b (o_rdS hM1 wthis.2.2.2.2.2.2.2.2.1 (wthis.2.2.2.2.2.2.2.2.2.1.1)) ?_
  refine ok_s ?_
  replace h := ob h; obtain ⟨zv6, ezv6, h⟩ := h
  obtain ⟨v6, ev6, tv6⟩ := o_ldI hM1 wthis.2.2.2.2.2.2.2.2.2.1.2 rfl tv2 ezv6
  refine ok_b ev6 ?_
  refine ok_b (o_rdS hM1 wthis.1 (wthis.2.2.2.2.2.2.2.1)) ?_
  refine ok_s ?_
  refine ok_b (o_rdS hM1 wthis.2.2.2.2.2.2.2.2.1 (wthis.2.2.2.2.2.2.2.2.2.2.1)) ?_
  refine ok_s ?_
  replace h := ob h; obtain ⟨zv11, ezv11, h⟩ := h
  obtain ⟨v11, ev11, tv11⟩ := o_ldI hM1 wthis.2.2.2.2.2.2.2.2.2.2.2 rfl tv2 ezv11
  refine ok_b ev11 ?_
  refine h_X7_isWhole_L39 _ _ _ ?_ _ wthis _ _ tp1 _ _ tp2 _ _ (t_add (t_ab tv6) (t_ab tv11)) _ _ _ (show (0 : Int32).toInt = 0 from rfl) _ _ (show (1 : Int32).toInt = 1 from rfl) _ hM1 h
  intro y37 zy37 ty37 M38 hM38 h
  by_cases c4 : zy37 = (wr ((abZ zv6) + (abZ zv11)))
  · replace h := it_t c4 h
    refine ok_t ((c_eq ty37 (t_add (t_ab tv6) (t_ab tv11))).mpr c4) ?_
    exact o_ri0 (show (1 : Int32).toInt = 1 from rfl) hM38 h
  · replace h := it_f c4 h
    refine ok_f (mt (c_eq ty37 (t_add (t_ab tv6) (t_ab tv11))).mp c4) ?_
    exact o_ri0 (show (0 : Int32).toInt = 0 from rfl) hM38 h

set_option maxHeartbeats 4000000 in
set_option maxRecDepth 100000 in
theorem h_X8_holdGlider {E : Em} {M : Mm} {J : Jm} (hM : Mre E M J) {this : Nat} (wthis : W8 E this) {p1 : Nat} (wp1 : W0 E p1) {J1 : Jm} (h : H_X8_holdGlider this p1 J = some J1) : Ok (F_X8_holdGlider this p1 M) (fun q => Mre E q J1) := by
  unfold H_X8_holdGlider at h
  unfold F_X8_holdGlider
  replace h := nv_e h; obtain ⟨J1, eJ1, h⟩ := h
  obtain ⟨M1, eM1, hM1⟩ := o_wrI (k := 0) hM wthis.1 (show (1 : Int32).toInt = 1 from rfl) eJ1
  refine ok_b eM1 ?_
  obtain ⟨v2, ev2, tv2⟩ := o_rdI (k := 0) hM1 wp1.1
  refine ok_b ev2 ?_
  replace h := nv_e h; obtain ⟨J3, eJ3, h⟩ := h
  obtain ⟨M3, eM3, hM3⟩ := o_wrI (k := 4) hM1 wthis.1 tv2 eJ3
  refine ok_b eM3 ?_
  obtain ⟨v4, ev4, tv4⟩ := o_rdI (k := 1) hM3 wp1.1
  refine ok_b ev4 ?_
  replace h := nv_e h; obtain ⟨J5, eJ5, h⟩ := h
  obtain ⟨M5, eM5, hM5⟩ := o_wrI (k := 5) hM3 wthis.1 tv4 eJ5
  refine ok_b eM5 ?_
  obtain ⟨v6, ev6, tv6⟩ := o_rdI (k := 2) hM5 wp1.1
  refine ok_b ev6 ?_
  replace h := nv_e h; obtain ⟨J7, eJ7, h⟩ := h
  obtain ⟨M7, eM7, hM7⟩ := o_wrI (k := 6) hM5 wthis.1 tv6 eJ7
  refine ok_b eM7 ?_
  obtain ⟨v8, ev8, tv8⟩ := o_rdI (k := 3) hM7 wp1.1
  refine ok_b ev8 ?_
  replace h := nv_e h; obtain ⟨J9, eJ9, h⟩ := h
  obtain ⟨M9, eM9, hM9⟩ := o_wrI (k := 7) hM7 wthis.1 tv8 eJ9
  refine ok_b eM9 ?_
  exact o_rv hM9 h

set_option maxHeartbeats 4000000 in
set_option maxRecDepth 100000 in
theorem h_X8_holdRow {E : Em} {M : Mm} {J : Jm} (hM : Mre E M J) {this : Nat} (wthis : W8 E this) {p1 : Int32} {zp1 : Int} (tp1 : p1.toInt = zp1) {p2 : Int32} {zp2 : Int} (tp2 : p2.toInt = zp2) {J1 : Jm} (h : H_X8_holdRow E this zp1 zp2 J = some J1) : Ok (F_X8_holdRow this p1 p2 M) (fun q => Mre E q J1) := by
  unfold H_X8_holdRow at h
  unfold F_X8_holdRow
  replace h := nv_e h; obtain ⟨J1, eJ1, h⟩ := h
  obtain ⟨M1, eM1, hM1⟩ := o_wrI (k := 0) hM wthis.1 (show (2 : Int32).toInt = 2 from rfl) eJ1
  refine ok_b eM1 ?_
  replace h := nv_e h; obtain ⟨J2, eJ2, h⟩ := h
  obtain ⟨M2, eM2, hM2⟩ := o_wrI (k := 1) hM1 wthis.1 tp1 eJ2
  refine ok_b eM2 ?_
  replace h := nv_e h; obtain ⟨J3, eJ3, h⟩ := h
  obtain ⟨M3, eM3, hM3⟩ := o_wrI (k := 2) hM2 wthis.1 tp2 eJ3
  refine ok_b eM3 ?_
  refine ok_b (o_rdS hM3 wthis.1 (wthis.2.1)) ?_
  refine ok_s ?_
  replace h := ob h; obtain ⟨J6, eJ6, h⟩ := h
  obtain ⟨M6, eM6, hM6⟩ := h_J7_fill_53178 hM3 (⟨by rw [wthis.2.2], by rw [wthis.2.2]; exact (by decide)⟩ : Wa E (this + 1)) (show (0 : Int32).toInt = 0 from rfl) eJ6
  refine ok_b eM6 ?_
  exact o_rv hM6 h

set_option maxHeartbeats 4000000 in
set_option maxRecDepth 100000 in
theorem h_X8_refusesAsText {E : Em} {M : Mm} {J : Jm} (hM : Mre E M J) {this : Nat} (wthis : W8 E this) {z : Int} (h : H_X8_refusesAsText this J = some z) : Ok (F_X8_refusesAsText this M) (fun q => q.1.toInt = z ∧ Mre E q.2 J) := by
  unfold H_X8_refusesAsText at h
  unfold F_X8_refusesAsText
  obtain ⟨v1, ev1, tv1⟩ := o_rdI (k := 0) hM wthis.1
  refine ok_b ev1 ?_
  by_cases c1 : (J this 0) = 0
  · replace h := it_t c1 h
    refine ok_t ((c_eq tv1 (show (0 : Int32).toInt = 0 from rfl)).mpr c1) ?_
    exact o_ri0 (show ((-11) : Int32).toInt = (-11) from rfl) hM h
  · replace h := it_f c1 h
    refine ok_f (mt (c_eq tv1 (show (0 : Int32).toInt = 0 from rfl)).mp c1) ?_
    obtain ⟨v3, ev3, tv3⟩ := o_rdI (k := 0) hM wthis.1
    refine ok_b ev3 ?_
    by_cases c2 : (J this 0) = 2
    · replace h := it_t c2 h
      refine ok_t ((c_eq tv3 (show (2 : Int32).toInt = 2 from rfl)).mpr c2) ?_
      obtain ⟨v5, ev5, tv5⟩ := o_rdI (k := 1) hM wthis.1
      refine ok_b ev5 ?_
      by_cases c3 : (J this 1) = 0
      · replace h := it_t c3 h
        refine ok_t ((c_eq tv5 (show (0 : Int32).toInt = 0 from rfl)).mpr c3) ?_
        exact o_ri0 (show (0 : Int32).toInt = 0 from rfl) hM h
      · replace h := it_f c3 h
        refine ok_f (mt (c_eq tv5 (show (0 : Int32).toInt = 0 from rfl)).mp c3) ?_
        exact o_ri0 (show ((-12) : Int32).toInt = (-12) from rfl) hM h
    · replace h := it_f c2 h
      refine ok_f (mt (c_eq tv3 (show (2 : Int32).toInt = 2 from rfl)).mp c2) ?_
      exact o_ri0 (show ((-12) : Int32).toInt = (-12) from rfl) hM h

set_option maxHeartbeats 4000000 in
set_option maxRecDepth 100000 in
theorem h_X10_gliderAt {E : Em} {M : Mm} {J : Jm} (hM : Mre E M J) {this : Nat} (wthis : W10 E this) {p1 : Int32} {zp1 : Int} (tp1 : p1.toInt = zp1) {z : Option Nat} (h : H_X10_gliderAt E this zp1 J = some z) : Ok (F_X10_gliderAt this p1 M) (fun q => q.1 = z ∧ Mre E q.2 J ∧ ∀ y, q.1 = some y → W0 E y) := by
  unfold H_X10_gliderAt at h
  unfold F_X10_gliderAt
  by_cases c1 : zp1 < 0
  · replace h := it_t c1 h
    refine ok_t ((c_lt tp1 (show (0 : Int32).toInt = 0 from rfl)).mpr c1) ?_
    exact o_rr0 hM h (fun _ hq => by cases hq)
  · replace h := it_f c1 h
    refine ok_f (mt (c_lt tp1 (show (0 : Int32).toInt = 0 from rfl)).mp c1) ?_
    obtain ⟨v2, ev2, tv2⟩ := o_rdI (k := 2) hM wthis.1
    refine ok_b ev2 ?_
    by_cases c2 : (J this 2) ≤ zp1
    · replace h := it_t c2 h
      refine ok_t ((c_le tv2 tp1).mpr c2) ?_
      exact o_rr0 hM h (fun _ hq => by cases hq)
    · replace h := it_f c2 h
      refine ok_f (mt (c_le tv2 tp1).mp c2) ?_
      refine ok_b (o_rdS hM wthis.1 (wthis.2.2.1.1)) ?_
      refine ok_s ?_
      replace h := ob h; obtain ⟨v5, ev5, h⟩ := h
      obtain ⟨fv5, wv5⟩ := o_ldR hM wthis.2.2.1.2.1 rfl tp1 ev5
      refine ok_b fv5 ?_
      exact o_rr0 hM h (fun y hy => wthis.2.2.1.2.2 _ y (wv5.trans hy))

set_option maxHeartbeats 4000000 in
set_option maxRecDepth 100000 in
theorem h_X10_orderOf {E : Em} {M : Mm} {J : Jm} (hM : Mre E M J) {this : Nat} (wthis : W10 E this) {p1 : Nat} (wp1 : W0 E p1) {z : Option Nat} (h : H_X10_orderOf E this p1 J = some z) : Ok (F_X10_orderOf this p1 M) (fun q => q.1 = z ∧ Mre E q.2 J ∧ ∀ y, q.1 = some y → W2 E y) := by
  unfold H_X10_orderOf at h
  unfold F_X10_orderOf
  obtain ⟨v1, ev1, tv1⟩ := o_rdI (k := 6) hM wp1.1
  refine ok_b ev1 ?_
  by_cases c1 : (J p1 6) < 0
  · replace h := it_t c1 h
    refine ok_t ((c_lt tv1 (show (0 : Int32).toInt = 0 from rfl)).mpr c1) ?_
    exact o_rr0 hM h (fun _ hq => by cases hq)
  · replace h := it_f c1 h
    refine ok_f (mt (c_lt tv1 (show (0 : Int32).toInt = 0 from rfl)).mp c1) ?_
    obtain ⟨v3, ev3, tv3⟩ := o_rdI (k := 6) hM wp1.1
    refine ok_b ev3 ?_
    obtain ⟨v4, ev4, tv4⟩ := o_rdI (k := 7) hM wthis.1
    refine ok_b ev4 ?_
    by_cases c2 : (J this 7) ≤ (J p1 6)
    · replace h := it_t c2 h
      refine ok_t ((c_le tv4 tv3).mpr c2) ?_
      exact o_rr0 hM h (fun _ hq => by cases hq)
    · replace h := it_f c2 h
      refine ok_f (mt (c_le tv4 tv3).mp c2) ?_
      refine ok_b (o_rdS hM wthis.1 (wthis.2.2.2.2.1.1)) ?_
      obtain ⟨v7, ev7, tv7⟩ := o_rdI (k := 6) hM wp1.1
      refine ok_b ev7 ?_
      refine ok_s ?_
      replace h := ob h; obtain ⟨v8, ev8, h⟩ := h
      obtain ⟨fv8, wv8⟩ := o_ldR hM wthis.2.2.2.2.1.2.1 rfl tv7 ev8
      refine ok_b fv8 ?_
      exact o_rr0 hM h (fun y hy => wthis.2.2.2.2.1.2.2 _ y (wv8.trans hy))

set_option maxHeartbeats 4000000 in
set_option maxRecDepth 100000 in
theorem h_X10_isAnyUpWithin_L2 {E : Em} {z : Int} (J : Jm)  (x0 : Nat) (wx0 : W10 E x0) (x1 : Int32) (zx1 : Int) (tx1 : x1.toInt = zx1) (x2 : Int32) (zx2 : Int) (tx2 : x2.toInt = zx2) : ∀ (fu : Nat), ∀ (x3 : Int32) (zx3 : Int), x3.toInt = zx3 → ∀ (M0 : Mm), Mre E M0 J → H_X10_isAnyUpWithin_L2 E x0 zx1 zx2 J fu zx3 = some z → Ok (F_X10_isAnyUpWithin_L2 x0 x1 x2 fu x3 M0) (fun q => q.1.toInt = z ∧ Mre E q.2 J) := by
  intro fu
  induction fu with
  | zero =>
    intro x3 zx3 tx3 M0 hM0 h
    rw [H_X10_isAnyUpWithin_L2] at h
    cases h
  | succ n1 ih =>
    intro x3 zx3 tx3 M0 hM0 h
    rw [H_X10_isAnyUpWithin_L2] at h
    rw [F_X10_isAnyUpWithin_L2]
    obtain ⟨v2, ev2, tv2⟩ := o_rdI (k := 2) hM0 wx0.1
    refine ok_b ev2 ?_
    by_cases c1 : (J x0 2) ≤ zx3
    · replace h := it_t c1 h
      refine ok_t ((c_le tv2 tx3).mpr c1) ?_
      exact o_ri0 (show (0 : Int32).toInt = 0 from rfl) hM0 h
    · replace h := it_f c1 h
      refine ok_f (mt (c_le tv2 tx3).mp c1) ?_
      refine ok_b (o_rdS hM0 wx0.1 (wx0.2.2.1.1)) ?_
      refine ok_s ?_
      replace h := ob h; obtain ⟨v5, ev5, h⟩ := h
      obtain ⟨fv5, wv5⟩ := o_ldR hM0 wx0.2.2.1.2.1 rfl tx3 ev5
      refine ok_b fv5 ?_
      replace h := ob h; obtain ⟨a7, ea7, h⟩ := h
      refine ok_b ea7 ?_
      obtain ⟨v8, ev8, tv8⟩ := o_rdI (k := 1) hM0 ((fun y hy => wx0.2.2.1.2.2 _ y (wv5.trans hy)) _ ea7).1
      refine ok_b ev8 ?_
      replace h := ob h; obtain ⟨zv10, ezv10, h⟩ := h
      obtain ⟨⟨v10, M9⟩, eM9, tv10, hM9⟩ := h_X11_xOf hM0 tv8 ezv10
      refine ok_b eM9 ?_
      refine ok_b (o_rdS hM9 wx0.1 (wx0.2.2.1.1)) ?_
      refine ok_s ?_
      replace h := ob h; obtain ⟨v12, ev12, h⟩ := h
      obtain ⟨fv12, wv12⟩ := o_ldR hM9 wx0.2.2.1.2.1 rfl tx3 ev12
      refine ok_b fv12 ?_
      replace h := ob h; obtain ⟨a14, ea14, h⟩ := h
      refine ok_b ea14 ?_
      obtain ⟨v15, ev15, tv15⟩ := o_rdI (k := 1) hM9 ((fun y hy => wx0.2.2.1.2.2 _ y (wv12.trans hy)) _ ea14).1
      refine ok_b ev15 ?_
      replace h := ob h; obtain ⟨zv17, ezv17, h⟩ := h
      obtain ⟨⟨v17, M16⟩, eM16, tv17, hM16⟩ := h_X11_yOf hM9 tv15 ezv17
      refine ok_b eM16 ?_
      refine ok_b (o_rdS hM16 wx0.1 (wx0.2.2.1.1)) ?_
      refine ok_s ?_
      replace h := ob h; obtain ⟨v19, ev19, h⟩ := h
      obtain ⟨fv19, wv19⟩ := o_ldR hM16 wx0.2.2.1.2.1 rfl tx3 ev19
      refine ok_b fv19 ?_
      replace h := ob h; obtain ⟨a21, ea21, h⟩ := h
      refine ok_b ea21 ?_
      obtain ⟨v22, ev22, tv22⟩ := o_rdI (k := 3) hM16 ((fun y hy => wx0.2.2.1.2.2 _ y (wv19.trans hy)) _ ea21).1
      refine ok_b ev22 ?_
      by_cases c2 : (J a21 3) = 0
      · replace h := it_t c2 h
        refine ok_t ((c_eq tv22 (show (0 : Int32).toInt = 0 from rfl)).mpr c2) ?_
        replace h := ob h; obtain ⟨zv24, ezv24, h⟩ := h
        obtain ⟨v24, ev24, tv24⟩ := o_dvI tx1 (show (10 : Int32).toInt = 10 from rfl) ezv24
        refine ok_b ev24 ?_
        by_cases c3 : zv10 < zv24
        · replace h := it_t c3 h
          refine ok_t ((c_lt tv10 tv24).mpr c3) ?_
          exact ih _ _ (t_add tx3 (show (1 : Int32).toInt = 1 from rfl)) _ hM16 h
        · replace h := it_f c3 h
          refine ok_f (mt (c_lt tv10 tv24).mp c3) ?_
          replace h := ob h; obtain ⟨zv26, ezv26, h⟩ := h
          obtain ⟨v26, ev26, tv26⟩ := o_rmI tx1 (show (10 : Int32).toInt = 10 from rfl) ezv26
          refine ok_b ev26 ?_
          by_cases c4 : zv26 < zv10
          · replace h := it_t c4 h
            refine ok_t ((c_lt tv26 tv10).mpr c4) ?_
            exact ih _ _ (t_add tx3 (show (1 : Int32).toInt = 1 from rfl)) _ hM16 h
          · replace h := it_f c4 h
            refine ok_f (mt (c_lt tv26 tv10).mp c4) ?_
            replace h := ob h; obtain ⟨zv28, ezv28, h⟩ := h
            obtain ⟨v28, ev28, tv28⟩ := o_dvI tx2 (show (10 : Int32).toInt = 10 from rfl) ezv28
            refine ok_b ev28 ?_
            by_cases c5 : zv17 < zv28
            · replace h := it_t c5 h
              refine ok_t ((c_lt tv17 tv28).mpr c5) ?_
              exact ih _ _ (t_add tx3 (show (1 : Int32).toInt = 1 from rfl)) _ hM16 h
            · replace h := it_f c5 h
              refine ok_f (mt (c_lt tv17 tv28).mp c5) ?_
              replace h := ob h; obtain ⟨zv30, ezv30, h⟩ := h
              obtain ⟨v30, ev30, tv30⟩ := o_rmI tx2 (show (10 : Int32).toInt = 10 from rfl) ezv30
              refine ok_b ev30 ?_
              by_cases c6 : zv30 < zv17
              · replace h := it_t c6 h
                refine ok_t ((c_lt tv30 tv17).mpr c6) ?_
                exact ih _ _ (t_add tx3 (show (1 : Int32).toInt = 1 from rfl)) _ hM16 h
              · replace h := it_f c6 h
                refine ok_f (mt (c_lt tv30 tv17).mp c6) ?_
                exact o_ri0 (show (1 : Int32).toInt = 1 from rfl) hM16 h
      · replace h := it_f c2 h
        refine ok_f (mt (c_eq tv22 (show (0 : Int32).toInt = 0 from rfl)).mp c2) ?_
        exact ih _ _ (t_add tx3 (show (1 : Int32).toInt = 1 from rfl)) _ hM16 h
set_option maxHeartbeats 4000000 in
set_option maxRecDepth 100000 in
theorem h_X10_isAnyUpWithin {E : Em} {M : Mm} {J : Jm} (hM : Mre E M J) {this : Nat} (wthis : W10 E this) {p1 : Int32} {zp1 : Int} (tp1 : p1.toInt = zp1) {p2 : Int32} {zp2 : Int} (tp2 : p2.toInt = zp2) {z : Int} (h : H_X10_isAnyUpWithin E this zp1 zp2 J = some z) : Ok (F_X10_isAnyUpWithin this p1 p2 M) (fun q => q.1.toInt = z ∧ Mre E q.2 J) := by
  unfold H_X10_isAnyUpWithin at h
  unfold F_X10_isAnyUpWithin
  refine h_X10_isAnyUpWithin_L2 _  _ wthis _ _ tp1 _ _ tp2 _ _ _ (show (0 : Int32).toInt = 0 from rfl) _ hM h

set_option maxHeartbeats 4000000 in
set_option maxRecDepth 100000 in
theorem h_X10_howMany_L4 {E : Em} {z : Int} (J : Jm)  (x0 : Nat) (wx0 : W10 E x0) (x1 : Int32) (zx1 : Int) (tx1 : x1.toInt = zx1) : ∀ (fu : Nat), ∀ (x2 : Int32) (zx2 : Int), x2.toInt = zx2 → ∀ (x3 : Int32) (zx3 : Int), x3.toInt = zx3 → ∀ (M0 : Mm), Mre E M0 J → H_X10_howMany_L4 E x0 zx1 J fu zx2 zx3 = some z → Ok (F_X10_howMany_L4 x0 x1 fu x2 x3 M0) (fun q => q.1.toInt = z ∧ Mre E q.2 J) := by
  intro fu
  induction fu with
  | zero =>
    intro x2 zx2 tx2 x3 zx3 tx3 M0 hM0 h
    rw [H_X10_howMany_L4] at h
    cases h
  | succ n1 ih =>
    intro x2 zx2 tx2 x3 zx3 tx3 M0 hM0 h
    rw [H_X10_howMany_L4] at h
    rw [F_X10_howMany_L4]
    obtain ⟨v2, ev2, tv2⟩ := o_rdI (k := 2) hM0 wx0.1
    refine ok_b ev2 ?_
    by_cases c1 : (J x0 2) ≤ zx3
    · replace h := it_t c1 h
      refine ok_t ((c_le tv2 tx3).mpr c1) ?_
      exact o_ri0 tx2 hM0 h
    · replace h := it_f c1 h
      refine ok_f (mt (c_le tv2 tx3).mp c1) ?_
      refine ok_b (o_rdS hM0 wx0.1 (wx0.2.2.1.1)) ?_
      refine ok_s ?_
      replace h := ob h; obtain ⟨v5, ev5, h⟩ := h
      obtain ⟨fv5, wv5⟩ := o_ldR hM0 wx0.2.2.1.2.1 rfl tx3 ev5
      refine ok_b fv5 ?_
      replace h := ob h; obtain ⟨a7, ea7, h⟩ := h
      refine ok_b ea7 ?_
      obtain ⟨v8, ev8, tv8⟩ := o_rdI (k := 3) hM0 ((fun y hy => wx0.2.2.1.2.2 _ y (wv5.trans hy)) _ ea7).1
      refine ok_b ev8 ?_
      by_cases c2 : (J a7 3) = zx1
      · replace h := it_t c2 h
        refine ok_t ((c_eq tv8 tx1).mpr c2) ?_
        exact ih _ _ (t_add tx2 (show (1 : Int32).toInt = 1 from rfl)) _ _ (t_add tx3 (show (1 : Int32).toInt = 1 from rfl)) _ hM0 h
      · replace h := it_f c2 h
        refine ok_f (mt (c_eq tv8 tx1).mp c2) ?_
        exact ih _ _ tx2 _ _ (t_add tx3 (show (1 : Int32).toInt = 1 from rfl)) _ hM0 h
set_option maxHeartbeats 4000000 in
set_option maxRecDepth 100000 in
theorem h_X10_howMany {E : Em} {M : Mm} {J : Jm} (hM : Mre E M J) {this : Nat} (wthis : W10 E this) {p1 : Int32} {zp1 : Int} (tp1 : p1.toInt = zp1) {z : Int} (h : H_X10_howMany E this zp1 J = some z) : Ok (F_X10_howMany this p1 M) (fun q => q.1.toInt = z ∧ Mre E q.2 J) := by
  unfold H_X10_howMany at h
  unfold F_X10_howMany
  refine h_X10_howMany_L4 _  _ wthis _ _ tp1 _ _ _ (show (0 : Int32).toInt = 0 from rfl) _ _ (show (0 : Int32).toInt = 0 from rfl) _ hM h

set_option maxHeartbeats 4000000 in
set_option maxRecDepth 100000 in
theorem h_X10_allPower_L4 {E : Em} {z : Int} (J : Jm)  (x0 : Nat) (wx0 : W10 E x0) : ∀ (fu : Nat), ∀ (x1 : Int32) (zx1 : Int), x1.toInt = zx1 → ∀ (x2 : Int32) (zx2 : Int), x2.toInt = zx2 → ∀ (M0 : Mm), Mre E M0 J → H_X10_allPower_L4 E x0 J fu zx1 zx2 = some z → Ok (F_X10_allPower_L4 x0 fu x1 x2 M0) (fun q => q.1.toInt = z ∧ Mre E q.2 J) := by
  intro fu
  induction fu with
  | zero =>
    intro x1 zx1 tx1 x2 zx2 tx2 M0 hM0 h
    rw [H_X10_allPower_L4] at h
    cases h
  | succ n1 ih =>
    intro x1 zx1 tx1 x2 zx2 tx2 M0 hM0 h
    rw [H_X10_allPower_L4] at h
    rw [F_X10_allPower_L4]
    obtain ⟨v2, ev2, tv2⟩ := o_rdI (k := 2) hM0 wx0.1
    refine ok_b ev2 ?_
    by_cases c1 : (J x0 2) ≤ zx2
    · replace h := it_t c1 h
      refine ok_t ((c_le tv2 tx2).mpr c1) ?_
      exact o_ri0 tx1 hM0 h
    · replace h := it_f c1 h
      refine ok_f (mt (c_le tv2 tx2).mp c1) ?_
      refine ok_b (o_rdS hM0 wx0.1 (wx0.2.2.1.1)) ?_
      refine ok_s ?_
      replace h := ob h; obtain ⟨v5, ev5, h⟩ := h
      obtain ⟨fv5, wv5⟩ := o_ldR hM0 wx0.2.2.1.2.1 rfl tx2 ev5
      refine ok_b fv5 ?_
      replace h := ob h; obtain ⟨a7, ea7, h⟩ := h
      refine ok_b ea7 ?_
      obtain ⟨v8, ev8, tv8⟩ := o_rdI (k := 2) hM0 ((fun y hy => wx0.2.2.1.2.2 _ y (wv5.trans hy)) _ ea7).1
      refine ok_b ev8 ?_
      exact ih _ _ (t_add tx1 tv8) _ _ (t_add tx2 (show (1 : Int32).toInt = 1 from rfl)) _ hM0 h
set_option maxHeartbeats 4000000 in
set_option maxRecDepth 100000 in
theorem h_X10_allPower {E : Em} {M : Mm} {J : Jm} (hM : Mre E M J) {this : Nat} (wthis : W10 E this) {z : Int} (h : H_X10_allPower E this J = some z) : Ok (F_X10_allPower this M) (fun q => q.1.toInt = z ∧ Mre E q.2 J) := by
  unfold H_X10_allPower at h
  unfold F_X10_allPower
  refine h_X10_allPower_L4 _  _ wthis _ _ _ (show (0 : Int32).toInt = 0 from rfl) _ _ (show (0 : Int32).toInt = 0 from rfl) _ hM h

set_option maxHeartbeats 4000000 in
set_option maxRecDepth 100000 in
theorem h_X10_hearAll_L16 {E : Em} {J1 : Jm}   (x0 : Nat) (wx0 : W10 E x0) : ∀ (fu : Nat), ∀ (x1 : Int32) (zx1 : Int), x1.toInt = zx1 → ∀ (M0 : Mm) (J0 : Jm), Mre E M0 J0 → H_X10_hearAll_L16 E x0 fu zx1 J0 = some J1 → Ok (F_X10_hearAll_L16 x0 fu x1 M0) (fun q => Mre E q J1) := by
  intro fu
  induction fu with
  | zero =>
    intro x1 zx1 tx1 M0 J0 hM0 h
    rw [H_X10_hearAll_L16] at h
    cases h
  | succ n6 ih =>
    intro x1 zx1 tx1 M0 J0 hM0 h
    rw [H_X10_hearAll_L16] at h
    rw [F_X10_hearAll_L16]
    obtain ⟨v7, ev7, tv7⟩ := o_rdI (k := 2) hM0 wx0.1
    refine ok_b ev7 ?_
    by_cases c2 : (J0 x0 2) ≤ zx1
    · replace h := it_t c2 h
      refine ok_t ((c_le tv7 tx1).mpr c2) ?_
      exact o_rv hM0 h
    · replace h := it_f c2 h
      refine ok_f (mt (c_le tv7 tx1).mp c2) ?_
      refine ok_b (o_rdS hM0 wx0.1 (wx0.2.2.1.1)) ?_
      refine ok_s ?_
      replace h := ob h; obtain ⟨v10, ev10, h⟩ := h
      obtain ⟨fv10, wv10⟩ := o_ldR hM0 wx0.2.2.1.2.1 rfl tx1 ev10
      refine ok_b fv10 ?_
      replace h := ob h; obtain ⟨a12, ea12, h⟩ := h
      refine ok_b ea12 ?_
      obtain ⟨v13, ev13, tv13⟩ := o_rdI (k := 3) hM0 ((fun y hy => wx0.2.2.1.2.2 _ y (wv10.trans hy)) _ ea12).1
      refine ok_b ev13 ?_
      by_cases c3 : (J0 a12 3) = 0
      · replace h := it_t c3 h
        refine ok_t ((c_eq tv13 (show (0 : Int32).toInt = 0 from rfl)).mpr c3) ?_
        refine ok_b (o_rdS hM0 wx0.1 (wx0.2.2.2.2.2.1.1)) ?_
        obtain ⟨v16, ev16, tv16⟩ := o_rdI (k := 3) hM0 wx0.1
        refine ok_b ev16 ?_
        obtain ⟨v17, ev17, tv17⟩ := o_rdI (k := 6) hM0 ((fun y hy => wx0.2.2.1.2.2 _ y (wv10.trans hy)) _ ea12).1
        refine ok_b ev17 ?_
        refine ok_s ?_
        refine ok_b (o_isO hM0 wx0.2.2.2.2.2.1.2.1) ?_
        replace h := ob h; obtain ⟨⟨zv21, J19⟩, ezv21, h⟩ := h
        obtain ⟨⟨v21, M19⟩, eM19, tv21, hM19⟩ := h_X1_hearBy hM0 wx0.2.2.2.2.2.1.2 tx1 tv16 tv17 ezv21
        refine ok_b eM19 ?_
        replace h := nv_e h; obtain ⟨J22, eJ22, h⟩ := h
        obtain ⟨M22, eM22, hM22⟩ := o_wrI (k := 6) hM19 ((fun y hy => wx0.2.2.1.2.2 _ y (wv10.trans hy)) _ ea12).1 tv21 eJ22
        refine ok_b eM22 ?_
        obtain ⟨v23, ev23, tv23⟩ := o_rdI (k := 3) hM22 wx0.1
        refine ok_b ev23 ?_
        replace h := nv_e h; obtain ⟨J24, eJ24, h⟩ := h
        obtain ⟨M24, eM24, hM24⟩ := o_wrI (k := 7) hM22 ((fun y hy => wx0.2.2.1.2.2 _ y (wv10.trans hy)) _ ea12).1 tv23 eJ24
        refine ok_b eM24 ?_
        refine ok_b (o_rdS hM24 ((fun y hy => wx0.2.2.1.2.2 _ y (wv10.trans hy)) _ ea12).1 (((fun y hy => wx0.2.2.1.2.2 _ y (wv10.trans hy)) _ ea12).2.1)) ?_
        obtain ⟨v26, ev26, tv26⟩ := o_rdI (k := 3) hM24 wx0.1
        refine ok_b ev26 ?_
        obtain ⟨v27, ev27, tv27⟩ := o_rdI (k := 1) hM24 ((fun y hy => wx0.2.2.1.2.2 _ y (wv10.trans hy)) _ ea12).1
        refine ok_b ev27 ?_
        refine ok_s ?_
        replace h := ob h; obtain ⟨J28, eJ28, h⟩ := h
        obtain ⟨M28, eM28, hM28⟩ := o_stI hM24 (((fun y hy => wx0.2.2.1.2.2 _ y (wv10.trans hy)) _ ea12).2.2) rfl tv26 tv27 eJ28
        refine ok_b eM28 ?_
        exact ih _ _ (t_add tx1 (show (1 : Int32).toInt = 1 from rfl)) _ _ hM28 h
      · replace h := it_f c3 h
        refine ok_f (mt (c_eq tv13 (show (0 : Int32).toInt = 0 from rfl)).mp c3) ?_
        exact ih _ _ (t_add tx1 (show (1 : Int32).toInt = 1 from rfl)) _ _ hM0 h
set_option maxHeartbeats 4000000 in
set_option maxRecDepth 100000 in
theorem h_X10_hearAll {E : Em} {M : Mm} {J : Jm} (hM : Mre E M J) {this : Nat} (wthis : W10 E this) {J1 : Jm} (h : H_X10_hearAll E this J = some J1) : Ok (F_X10_hearAll this M) (fun q => Mre E q J1) := by
  unfold H_X10_hearAll at h
  unfold F_X10_hearAll
  refine ok_b (o_rdS hM wthis.1 (wthis.2.2.2.1.1)) ?_
  obtain ⟨v2, ev2, tv2⟩ := o_rdI (k := 3) hM wthis.1
  refine ok_b ev2 ?_
  refine ok_s ?_
  replace h := ob h; obtain ⟨zv3, ezv3, h⟩ := h
  obtain ⟨v3, ev3, tv3⟩ := o_ldI hM wthis.2.2.2.1.2 rfl tv2 ezv3
  refine ok_b ev3 ?_
  by_cases c1 : zv3 = 1
  · replace h := it_t c1 h
    refine ok_t ((c_eq tv3 (show (1 : Int32).toInt = 1 from rfl)).mpr c1) ?_
    exact o_rv hM h
  · replace h := it_f c1 h
    refine ok_f (mt (c_eq tv3 (show (1 : Int32).toInt = 1 from rfl)).mp c1) ?_
    refine h_X10_hearAll_L16   _ wthis _ _ _ (show (0 : Int32).toInt = 0 from rfl) _ _ hM h

set_option maxHeartbeats 4000000 in
set_option maxRecDepth 100000 in
theorem h_X10_sensed {E : Em} {M : Mm} {J : Jm} (hM : Mre E M J) {this : Nat} (wthis : W10 E this) {p1 : Nat} (wp1 : W0 E p1) {p2 : Int32} {zp2 : Int} (tp2 : p2.toInt = zp2) {z : Int} (h : H_X10_sensed this p1 zp2 J = some z) : Ok (F_X10_sensed this p1 p2 M) (fun q => q.1.toInt = z ∧ Mre E q.2 J) := by
  unfold H_X10_sensed at h
  unfold F_X10_sensed
  by_cases c1 : zp2 = 102
  · replace h := it_t c1 h
    refine ok_t ((c_eq tp2 (show (102 : Int32).toInt = 102 from rfl)).mpr c1) ?_
    obtain ⟨v2, ev2, tv2⟩ := o_rdI (k := 5) hM wp1.1
    refine ok_b ev2 ?_
    exact o_ri0 tv2 hM h
  · replace h := it_f c1 h
    refine ok_f (mt (c_eq tp2 (show (102 : Int32).toInt = 102 from rfl)).mp c1) ?_
    by_cases c2 : zp2 = 104
    · replace h := it_t c2 h
      refine ok_t ((c_eq tp2 (show (104 : Int32).toInt = 104 from rfl)).mpr c2) ?_
      obtain ⟨v4, ev4, tv4⟩ := o_rdI (k := 7) hM wp1.1
      refine ok_b ev4 ?_
      by_cases c3 : (J p1 7) = (-4)
      · replace h := it_t c3 h
        refine ok_t ((c_eq tv4 (show ((-4) : Int32).toInt = (-4) from rfl)).mpr c3) ?_
        obtain ⟨v8, ev8, tv8⟩ := o_rdI (k := 3) hM wthis.1
        refine ok_b ev8 ?_
        exact o_ri0 tv8 hM h
      · replace h := it_f c3 h
        refine ok_f (mt (c_eq tv4 (show ((-4) : Int32).toInt = (-4) from rfl)).mp c3) ?_
        obtain ⟨v6, ev6, tv6⟩ := o_rdI (k := 3) hM wthis.1
        refine ok_b ev6 ?_
        obtain ⟨v7, ev7, tv7⟩ := o_rdI (k := 7) hM wp1.1
        refine ok_b ev7 ?_
        exact o_ri0 (t_sub tv6 tv7) hM h
    · replace h := it_f c2 h
      refine ok_f (mt (c_eq tp2 (show (104 : Int32).toInt = 104 from rfl)).mp c2) ?_
      by_cases c4 : zp2 = 108
      · replace h := it_t c4 h
        refine ok_t ((c_eq tp2 (show (108 : Int32).toInt = 108 from rfl)).mpr c4) ?_
        obtain ⟨v10, ev10, tv10⟩ := o_rdI (k := 4) hM wp1.1
        refine ok_b ev10 ?_
        by_cases c5 : (J p1 4) = 0
        · replace h := it_t c5 h
          refine ok_t ((c_eq tv10 (show (0 : Int32).toInt = 0 from rfl)).mpr c5) ?_
          exact o_ri0 (show (0 : Int32).toInt = 0 from rfl) hM h
        · replace h := it_f c5 h
          refine ok_f (mt (c_eq tv10 (show (0 : Int32).toInt = 0 from rfl)).mp c5) ?_
          exact o_ri0 (show (1 : Int32).toInt = 1 from rfl) hM h
      · replace h := it_f c4 h
        refine ok_f (mt (c_eq tp2 (show (108 : Int32).toInt = 108 from rfl)).mp c4) ?_
        by_cases c6 : zp2 = 112
        · replace h := it_t c6 h
          refine ok_t ((c_eq tp2 (show (112 : Int32).toInt = 112 from rfl)).mpr c6) ?_
          obtain ⟨v13, ev13, tv13⟩ := o_rdI (k := 2) hM wp1.1
          refine ok_b ev13 ?_
          exact o_ri0 tv13 hM h
        · replace h := it_f c6 h
          refine ok_f (mt (c_eq tp2 (show (112 : Int32).toInt = 112 from rfl)).mp c6) ?_
          by_cases c7 : zp2 = 115
          · replace h := it_t c7 h
            refine ok_t ((c_eq tp2 (show (115 : Int32).toInt = 115 from rfl)).mpr c7) ?_
            obtain ⟨v15, ev15, tv15⟩ := o_rdI (k := 9) hM wp1.1
            refine ok_b ev15 ?_
            exact o_ri0 tv15 hM h
          · replace h := it_f c7 h
            refine ok_f (mt (c_eq tp2 (show (115 : Int32).toInt = 115 from rfl)).mp c7) ?_
            by_cases c8 : zp2 = 116
            · replace h := it_t c8 h
              refine ok_t ((c_eq tp2 (show (116 : Int32).toInt = 116 from rfl)).mpr c8) ?_
              obtain ⟨v17, ev17, tv17⟩ := o_rdI (k := 3) hM wthis.1
              refine ok_b ev17 ?_
              replace h := ob h; obtain ⟨zv18, ezv18, h⟩ := h
              obtain ⟨v18, ev18, tv18⟩ := o_rmI tv17 (show (10 : Int32).toInt = 10 from rfl) ezv18
              refine ok_b ev18 ?_
              exact o_ri0 tv18 hM h
            · replace h := it_f c8 h
              refine ok_f (mt (c_eq tp2 (show (116 : Int32).toInt = 116 from rfl)).mp c8) ?_
              by_cases c9 : zp2 = 120
              · replace h := it_t c9 h
                refine ok_t ((c_eq tp2 (show (120 : Int32).toInt = 120 from rfl)).mpr c9) ?_
                obtain ⟨v20, ev20, tv20⟩ := o_rdI (k := 1) hM wp1.1
                refine ok_b ev20 ?_
                replace h := ob h; obtain ⟨zv22, ezv22, h⟩ := h
                obtain ⟨⟨v22, M21⟩, eM21, tv22, hM21⟩ := h_X11_xOf hM tv20 ezv22
                refine ok_b eM21 ?_
                exact o_ri0 tv22 hM21 h
              · replace h := it_f c9 h
                refine ok_f (mt (c_eq tp2 (show (120 : Int32).toInt = 120 from rfl)).mp c9) ?_
                by_cases c10 : zp2 = 121
                · replace h := it_t c10 h
                  refine ok_t ((c_eq tp2 (show (121 : Int32).toInt = 121 from rfl)).mpr c10) ?_
                  obtain ⟨v24, ev24, tv24⟩ := o_rdI (k := 1) hM wp1.1
                  refine ok_b ev24 ?_
                  replace h := ob h; obtain ⟨zv26, ezv26, h⟩ := h
                  obtain ⟨⟨v26, M25⟩, eM25, tv26, hM25⟩ := h_X11_yOf hM tv24 ezv26
                  refine ok_b eM25 ?_
                  exact o_ri0 tv26 hM25 h
                · replace h := it_f c10 h
                  refine ok_f (mt (c_eq tp2 (show (121 : Int32).toInt = 121 from rfl)).mp c10) ?_
                  refine ok_b (o_rdS hM wthis.1 (wthis.2.1.1)) ?_
                  refine ok_s ?_
                  refine ok_b (o_rdS hM wthis.2.1.2.1 (wthis.2.1.2.2.1.1)) ?_
                  obtain ⟨v30, ev30, tv30⟩ := o_rdI (k := 1) hM wp1.1
                  refine ok_b ev30 ?_
                  refine ok_s ?_
                  replace h := ob h; obtain ⟨zv31, ezv31, h⟩ := h
                  obtain ⟨v31, ev31, tv31⟩ := o_ldI hM wthis.2.1.2.2.1.2 rfl tv30 ezv31
                  refine ok_b ev31 ?_
                  exact o_ri0 tv31 hM h

set_option maxHeartbeats 4000000 in
set_option maxRecDepth 100000 in
theorem h_X10_ruleFor_L17 {E : Em} {z : Int} (J : Jm) (k65 : Int32 → Int32 → Mm → Option (Int32 × Mm)) (k65h : Int → Int → Option Int) (hk65 : ∀ (y0 : Int32) (zy0 : Int), y0.toInt = zy0 → ∀ (y1 : Int32) (zy1 : Int), y1.toInt = zy1 → ∀ (M9 : Mm), Mre E M9 J → k65h zy0 zy1 = some z → Ok (k65 y0 y1 M9) (fun q => q.1.toInt = z ∧ Mre E q.2 J)) (x0 : Nat) (wx0 : W10 E x0) (x1 : Nat) (wx1 : W0 E x1) (x2 : Nat) (wx2 : W2 E x2) (x4 : Int32) (zx4 : Int) (tx4 : x4.toInt = zx4) : ∀ (fu : Nat), ∀ (x3 : Int32) (zx3 : Int), x3.toInt = zx3 → ∀ (x5 : Int32) (zx5 : Int), x5.toInt = zx5 → ∀ (M0 : Mm), Mre E M0 J → H_X10_ruleFor_L17 k65h x0 x1 x2 zx4 J fu zx3 zx5 = some z → Ok (F_X10_ruleFor_L17 k65 x0 x1 x2 x4 fu x3 x5 M0) (fun q => q.1.toInt = z ∧ Mre E q.2 J) := by
  intro fu
  induction fu with
  | zero =>
    intro x3 zx3 tx3 x5 zx5 tx5 M0 hM0 h
    rw [H_X10_ruleFor_L17] at h
    cases h
  | succ n4 ih =>
    intro x3 zx3 tx3 x5 zx5 tx5 M0 hM0 h
    rw [H_X10_ruleFor_L17] at h
    rw [F_X10_ruleFor_L17]
    refine ok_b (o_rdS hM0 wx2.1 (wx2.2.1.1)) ?_
    refine ok_s ?_
    replace h := ob h; obtain ⟨zv6, ezv6, h⟩ := h
    obtain ⟨v6, ev6, tv6⟩ := o_ldI hM0 wx2.2.1.2 rfl tx4 ezv6
    refine ok_b ev6 ?_
    by_cases c2 : zv6 ≤ zx3
    · replace h := it_t c2 h
      refine ok_t ((c_le tv6 tx3).mpr c2) ?_
      exact hk65 _ _ tx3 _ _ tx5 _ hM0 h
    · replace h := it_f c2 h
      refine ok_f (mt (c_le tv6 tx3).mp c2) ?_
      by_cases c3 : zx5 = 0
      · replace h := it_t c3 h
        refine ok_t ((c_eq tx5 (show (0 : Int32).toInt = 0 from rfl)).mpr c3) ?_
        exact ih _ _ (t_add tx3 (show (1 : Int32).toInt = 1 from rfl)) _ _ (show (0 : Int32).toInt = 0 from rfl) _ hM0 h
      · replace h := it_f c3 h
        refine ok_f (mt (c_eq tx5 (show (0 : Int32).toInt = 0 from rfl)).mp c3) ?_
        refine ok_b (o_rdS hM0 wx2.1 (wx2.2.2.2.2.2.1.1)) ?_
        refine ok_s ?_
        replace h := ob h; obtain ⟨zv11, ezv11, h⟩ := h
        obtain ⟨v11, ev11, tv11⟩ := o_ldI hM0 wx2.2.2.2.2.2.1.2 rfl tx3 ezv11
        refine ok_b ev11 ?_
        refine ok_b (o_isO hM0 wx0.1) ?_
        replace h := ob h; obtain ⟨zv15, ezv15, h⟩ := h
        obtain ⟨⟨v15, M13⟩, eM13, tv15, hM13⟩ := h_X10_sensed hM0 wx0 wx1 tv11 ezv15
        refine ok_b eM13 ?_
        refine ok_b (o_isO hM13 wx2.1) ?_
        replace h := ob h; obtain ⟨zv18, ezv18, h⟩ := h
        obtain ⟨⟨v18, M16⟩, eM16, tv18, hM16⟩ := h_X2_holds hM13 wx2 tx3 tv15 ezv18
        refine ok_b eM16 ?_
        replace h := nv_e h; obtain ⟨zv19, ezv19, h⟩ := h
        obtain ⟨v19, evv19⟩ : ∃ v : Int32, v = (if v18 = 0 then 0 else 1) := ⟨_, rfl⟩
        have tv19 : v19.toInt = zv19 := by rw [evv19, ezv19]; exact (t_ite (c_eq tv18 (show (0 : Int32).toInt = 0 from rfl)) (show (0 : Int32).toInt = 0 from rfl) (show (1 : Int32).toInt = 1 from rfl))
        refine ok_nv evv19 ?_
        exact ih _ _ (t_add tx3 (show (1 : Int32).toInt = 1 from rfl)) _ _ tv19 _ hM16 h
set_option maxHeartbeats 4000000 in
set_option maxRecDepth 100000 in
theorem h_X10_ruleFor_L5 {E : Em} {z : Int} (J : Jm)  (x0 : Nat) (wx0 : W10 E x0) (x1 : Nat) (wx1 : W0 E x1) (x2 : Nat) (wx2 : W2 E x2) : ∀ (fu : Nat), ∀ (x3 : Int32) (zx3 : Int), x3.toInt = zx3 → ∀ (x4 : Int32) (zx4 : Int), x4.toInt = zx4 → ∀ (M0 : Mm), Mre E M0 J → H_X10_ruleFor_L5 x0 x1 x2 J fu zx3 zx4 = some z → Ok (F_X10_ruleFor_L5 x0 x1 x2 fu x3 x4 M0) (fun q => q.1.toInt = z ∧ Mre E q.2 J) := by
  intro fu
  induction fu with
  | zero =>
    intro x3 zx3 tx3 x4 zx4 tx4 M0 hM0 h
    rw [H_X10_ruleFor_L5] at h
    cases h
  | succ n1 ih =>
    intro x3 zx3 tx3 x4 zx4 tx4 M0 hM0 h
    rw [H_X10_ruleFor_L5] at h
    rw [F_X10_ruleFor_L5]
    obtain ⟨v2, ev2, tv2⟩ := o_rdI (k := 0) hM0 wx2.1
    refine ok_b ev2 ?_
    by_cases c1 : (J x2 0) ≤ zx4
    · replace h := it_t c1 h
      refine ok_t ((c_le tv2 tx4).mpr c1) ?_
      exact o_ri0 (show ((-4) : Int32).toInt = (-4) from rfl) hM0 h
    · replace h := it_f c1 h
      refine ok_f (mt (c_le tv2 tx4).mp c1) ?_
      refine h_X10_ruleFor_L17 _ _ _ ?_ _ wx0 _ wx1 _ wx2 _ _ tx4 _ _ _ tx3 _ _ (show (1 : Int32).toInt = 1 from rfl) _ hM0 h
      intro y22 zy22 ty22 y23 zy23 ty23 M24 hM24 h
      by_cases c4 : zy23 = 0
      · replace h := it_t c4 h
        refine ok_t ((c_eq ty23 (show (0 : Int32).toInt = 0 from rfl)).mpr c4) ?_
        exact ih _ _ ty22 _ _ (t_add tx4 (show (1 : Int32).toInt = 1 from rfl)) _ hM24 h
      · replace h := it_f c4 h
        refine ok_f (mt (c_eq ty23 (show (0 : Int32).toInt = 0 from rfl)).mp c4) ?_
        exact o_ri0 tx4 hM24 h
set_option maxHeartbeats 4000000 in
set_option maxRecDepth 100000 in
theorem h_X10_ruleFor {E : Em} {M : Mm} {J : Jm} (hM : Mre E M J) {this : Nat} (wthis : W10 E this) {p1 : Nat} (wp1 : W0 E p1) {p2 : Nat} (wp2 : W2 E p2) {z : Int} (h : H_X10_ruleFor this p1 p2 J = some z) : Ok (F_X10_ruleFor this p1 p2 M) (fun q => q.1.toInt = z ∧ Mre E q.2 J) := by
  unfold H_X10_ruleFor at h
  unfold F_X10_ruleFor
  refine h_X10_ruleFor_L5 _  _ wthis _ wp1 _ wp2 _ _ _ (show (0 : Int32).toInt = 0 from rfl) _ _ (show (0 : Int32).toInt = 0 from rfl) _ hM h

set_option maxHeartbeats 4000000 in
set_option maxRecDepth 100000 in
theorem h_X10_cut {E : Em} {M : Mm} {J : Jm} (hM : Mre E M J) {p1 : Int32} {zp1 : Int} (tp1 : p1.toInt = zp1) {p2 : Int32} {zp2 : Int} (tp2 : p2.toInt = zp2) {z : Int} (h : H_X10_cut zp1 zp2 = some z) : Ok (F_X10_cut p1 p2 M) (fun q => q.1.toInt = z ∧ Mre E q.2 J) := by
  unfold H_X10_cut at h
  unfold F_X10_cut
  exact o_ri0 (t_mx (t_neg tp2) (t_mn tp2 tp1)) hM h

set_option maxHeartbeats 4000000 in
set_option maxRecDepth 100000 in
theorem h_X10_numberOf_L2 {E : Em} {z : Int} (J : Jm)  (x0 : Nat) (wx0 : W10 E x0) (x1 : Nat) (wx1 : W0 E x1) : ∀ (fu : Nat), ∀ (x2 : Int32) (zx2 : Int), x2.toInt = zx2 → ∀ (M0 : Mm), Mre E M0 J → H_X10_numberOf_L2 E x0 x1 J fu zx2 = some z → Ok (F_X10_numberOf_L2 x0 x1 fu x2 M0) (fun q => q.1.toInt = z ∧ Mre E q.2 J) := by
  intro fu
  induction fu with
  | zero =>
    intro x2 zx2 tx2 M0 hM0 h
    rw [H_X10_numberOf_L2] at h
    cases h
  | succ n1 ih =>
    intro x2 zx2 tx2 M0 hM0 h
    rw [H_X10_numberOf_L2] at h
    rw [F_X10_numberOf_L2]
    obtain ⟨v2, ev2, tv2⟩ := o_rdI (k := 2) hM0 wx0.1
    refine ok_b ev2 ?_
    by_cases c1 : (J x0 2) ≤ zx2
    · replace h := it_t c1 h
      refine ok_t ((c_le tv2 tx2).mpr c1) ?_
      exact o_ri0 (show ((-4) : Int32).toInt = (-4) from rfl) hM0 h
    · replace h := it_f c1 h
      refine ok_f (mt (c_le tv2 tx2).mp c1) ?_
      refine ok_b (o_rdS hM0 wx0.1 (wx0.2.2.1.1)) ?_
      refine ok_s ?_
      replace h := ob h; obtain ⟨v5, ev5, h⟩ := h
      obtain ⟨fv5, wv5⟩ := o_ldR hM0 wx0.2.2.1.2.1 rfl tx2 ev5
      refine ok_b fv5 ?_
      by_cases c2 : v5 = (some x1)
      · replace h := it_t c2 h
        refine ok_t (Iff.rfl.mpr c2) ?_
        exact o_ri0 tx2 hM0 h
      · replace h := it_f c2 h
        refine ok_f (mt Iff.rfl.mp c2) ?_
        exact ih _ _ (t_add tx2 (show (1 : Int32).toInt = 1 from rfl)) _ hM0 h
set_option maxHeartbeats 4000000 in
set_option maxRecDepth 100000 in
theorem h_X10_numberOf {E : Em} {M : Mm} {J : Jm} (hM : Mre E M J) {this : Nat} (wthis : W10 E this) {p1 : Nat} (wp1 : W0 E p1) {z : Int} (h : H_X10_numberOf E this p1 J = some z) : Ok (F_X10_numberOf this p1 M) (fun q => q.1.toInt = z ∧ Mre E q.2 J) := by
  unfold H_X10_numberOf at h
  unfold F_X10_numberOf
  refine h_X10_numberOf_L2 _  _ wthis _ wp1 _ _ _ (show (0 : Int32).toInt = 0 from rfl) _ hM h

set_option maxHeartbeats 4000000 in
set_option maxRecDepth 100000 in
theorem h_X10_measure {E : Em} {M : Mm} {J : Jm} (hM : Mre E M J) {this : Nat} (wthis : W10 E this) {p1 : Nat} (wp1 : W0 E p1) {p2 : Int32} {zp2 : Int} (tp2 : p2.toInt = zp2) {J1 : Jm} (h : H_X10_measure E this p1 zp2 J = some J1) : Ok (F_X10_measure this p1 p2 M) (fun q => Mre E q J1) := by
  unfold H_X10_measure at h
  unfold F_X10_measure
  refine ok_b (o_rdS hM wthis.1 (wthis.2.1.1)) ?_
  refine ok_s ?_
  refine ok_b (o_rdS hM wthis.2.1.2.1 (wthis.2.1.2.2.1.1)) ?_
  obtain ⟨v4, ev4, tv4⟩ := o_rdI (k := 1) hM wp1.1
  refine ok_b ev4 ?_
  refine ok_s ?_
  replace h := ob h; obtain ⟨zv5, ezv5, h⟩ := h
  obtain ⟨v5, ev5, tv5⟩ := o_ldI hM wthis.2.1.2.2.1.2 rfl tv4 ezv5
  refine ok_b ev5 ?_
  refine ok_b (o_rdS hM wthis.1 (wthis.2.1.1)) ?_
  refine ok_s ?_
  refine ok_b (o_rdS hM wthis.2.1.2.1 (wthis.2.1.2.2.2.2.2.1.1)) ?_
  obtain ⟨v10, ev10, tv10⟩ := o_rdI (k := 1) hM wp1.1
  refine ok_b ev10 ?_
  replace h := ob h; obtain ⟨zv12, ezv12, h⟩ := h
  obtain ⟨⟨v12, M11⟩, eM11, tv12, hM11⟩ := h_X11_placeOf hM tv10 (t_mx (show (0 : Int32).toInt = 0 from rfl) (t_mn tp2 (t_sub tv5 (show (1 : Int32).toInt = 1 from rfl)))) ezv12
  refine ok_b eM11 ?_
  refine ok_s ?_
  replace h := ob h; obtain ⟨zv13, ezv13, h⟩ := h
  obtain ⟨v13, ev13, tv13⟩ := o_ldI hM11 wthis.2.1.2.2.2.2.2.1.2 rfl tv12 ezv13
  refine ok_b ev13 ?_
  obtain ⟨v15, ev15, tv15⟩ := o_rdI (k := 5) hM11 wp1.1
  refine ok_b ev15 ?_
  replace h := nv_e h; obtain ⟨J16, eJ16, h⟩ := h
  obtain ⟨M16, eM16, hM16⟩ := o_wrI (k := 9) hM11 wp1.1 (t_add tv13 (t_mul (show (3 : Int32).toInt = 3 from rfl) tv15)) eJ16
  refine ok_b eM16 ?_
  replace h := nv_e h; obtain ⟨J17, eJ17, h⟩ := h
  obtain ⟨M17, eM17, hM17⟩ := o_wrZ (k := 10) hM16 wp1.1 (show (1 : Int32).toInt = 1 from rfl) (by decide) eJ17
  refine ok_b eM17 ?_
  refine ok_b (o_rdS hM17 wthis.1 (wthis.2.2.2.2.2.2.1.1)) ?_
  refine ok_b (o_isO hM17 wthis.1) ?_
  replace h := ob h; obtain ⟨zv21, ezv21, h⟩ := h
  obtain ⟨⟨v21, M19⟩, eM19, tv21, hM19⟩ := h_X10_numberOf hM17 wthis wp1 ezv21
  refine ok_b eM19 ?_
  obtain ⟨v22, ev22, tv22⟩ := o_rdI (k := 3) hM19 wthis.1
  refine ok_b ev22 ?_
  refine ok_s ?_
  refine ok_b (o_isO hM19 wthis.2.2.2.2.2.2.1.2.1) ?_
  replace h := ob h; obtain ⟨J24, eJ24, h⟩ := h
  obtain ⟨M24, eM24, hM24⟩ := h_X6_addReading hM19 wthis.2.2.2.2.2.2.1.2 tv21 wp1 tv22 (t_mx (show (0 : Int32).toInt = 0 from rfl) (t_mn tp2 (t_sub tv5 (show (1 : Int32).toInt = 1 from rfl)))) eJ24
  refine ok_b eM24 ?_
  refine ok_b (o_rdS hM24 wthis.1 (wthis.2.1.1)) ?_
  obtain ⟨v27, ev27, tv27⟩ := o_rdI (k := 1) hM24 wp1.1
  refine ok_b ev27 ?_
  refine ok_s ?_
  refine ok_b (o_isO hM24 wthis.2.1.2.1) ?_
  replace h := ob h; obtain ⟨J29, eJ29, h⟩ := h
  obtain ⟨M29, eM29, hM29⟩ := h_X7_lessenDoubt hM24 wthis.2.1.2 tv27 eJ29
  refine ok_b eM29 ?_
  obtain ⟨v31, ev31, tv31⟩ := o_rdI (k := 5) hM29 wp1.1
  refine ok_b ev31 ?_
  replace h := nv_e h; obtain ⟨J32, eJ32, h⟩ := h
  obtain ⟨M32, eM32, hM32⟩ := o_wrI (k := 5) hM29 wp1.1 (t_add tv31 (show (1 : Int32).toInt = 1 from rfl)) eJ32
  refine ok_b eM32 ?_
  exact o_rv hM32 h

set_option maxHeartbeats 4000000 in
set_option maxRecDepth 100000 in
theorem h_X10_descend {E : Em} {M : Mm} {J : Jm} (hM : Mre E M J) {this : Nat} (wthis : W10 E this) {p1 : Nat} (wp1 : W0 E p1) {p2 : Int32} {zp2 : Int} (tp2 : p2.toInt = zp2) {p3 : Int32} {zp3 : Int} (tp3 : p3.toInt = zp3) {p4 : Int32} {zp4 : Int} (tp4 : p4.toInt = zp4) {z : Int} {J1 : Jm} (h : H_X10_descend E this p1 zp2 zp3 zp4 J = some (z, J1)) : Ok (F_X10_descend this p1 p2 p3 p4 M) (fun q => q.1.toInt = z ∧ Mre E q.2 J1) := by
  unfold H_X10_descend at h
  unfold F_X10_descend
  obtain ⟨v1, ev1, tv1⟩ := o_rdI (k := 1) hM wp1.1
  refine ok_b ev1 ?_
  obtain ⟨v2, ev2, tv2⟩ := o_rdI (k := 2) hM wp1.1
  refine ok_b ev2 ?_
  refine ok_b (o_isO hM wp1.1) ?_
  replace h := ob h; obtain ⟨zv5, ezv5, h⟩ := h
  obtain ⟨⟨v5, M3⟩, eM3, tv5, hM3⟩ := h_X0_costTo hM wp1 tp2 ezv5
  refine ok_b eM3 ?_
  replace h := nv_e h; obtain ⟨J6, eJ6, h⟩ := h
  obtain ⟨M6, eM6, hM6⟩ := o_wrI (k := 2) hM3 wp1.1 (t_sub tv2 tv5) eJ6
  refine ok_b eM6 ?_
  obtain ⟨v7, ev7, tv7⟩ := o_rdI (k := 8) hM6 wp1.1
  refine ok_b ev7 ?_
  replace h := nv_e h; obtain ⟨J8, eJ8, h⟩ := h
  obtain ⟨M8, eM8, hM8⟩ := o_wrI (k := 8) hM6 wp1.1 (t_add tv7 (show (1 : Int32).toInt = 1 from rfl)) eJ8
  refine ok_b eM8 ?_
  refine ok_b (o_rdS hM8 wthis.1 (wthis.2.2.2.2.2.2.2.1)) ?_
  refine ok_b (o_rdS hM8 wthis.1 (wthis.2.1.1)) ?_
  refine ok_b (o_rdS hM8 wthis.1 (wthis.2.1.1)) ?_
  refine ok_s ?_
  refine ok_b (o_rdS hM8 wthis.2.1.2.1 (wthis.2.1.2.2.2.2.2.2.2.1.1)) ?_
  refine ok_s ?_
  refine ok_s ?_
  refine ok_s ?_
  refine ok_b (o_isO hM8 wthis.2.2.2.2.2.2.2.2) ?_
  replace h := ob h; obtain ⟨J17, eJ17, h⟩ := h
  obtain ⟨M17, eM17, hM17⟩ := h_X4_sink hM8 wthis.2.2.2.2.2.2.2.2 wthis.2.1.2 wthis.2.1.2.2.2.2.2.2.2.1.2 tv1 tp2 (show (1 : Int32).toInt = 1 from rfl) eJ17
  refine ok_b eM17 ?_
  refine ok_b (o_rdS hM17 wthis.1 (wthis.2.2.2.2.2.2.2.1)) ?_
  refine ok_s ?_
  obtain ⟨v21, ev21, tv21⟩ := o_rdI (k := 0) hM17 wthis.2.2.2.2.2.2.2.2
  refine ok_b ev21 ?_
  replace h := nv_e h; obtain ⟨J22, eJ22, h⟩ := h
  obtain ⟨M22, eM22, hM22⟩ := o_wrI (k := 1) hM17 wp1.1 tv21 eJ22
  refine ok_b eM22 ?_
  refine ok_b (o_rdS hM22 wthis.1 (wthis.2.2.2.2.2.2.2.1)) ?_
  refine ok_s ?_
  obtain ⟨v25, ev25, tv25⟩ := o_rdI (k := 2) hM22 wthis.2.2.2.2.2.2.2.2
  refine ok_b ev25 ?_
  by_cases c1 : (J22 (this + 32) 2) = 0
  · replace h := it_t c1 h
    refine ok_t ((c_eq tv25 (show (0 : Int32).toInt = 0 from rfl)).mpr c1) ?_
    refine ok_b (o_rdS hM22 wthis.1 (wthis.2.1.1)) ?_
    refine ok_b (o_rdS hM22 wthis.1 (wthis.2.2.2.2.2.2.2.1)) ?_
    refine ok_s ?_
    obtain ⟨v30, ev30, tv30⟩ := o_rdI (k := 0) hM22 wthis.2.2.2.2.2.2.2.2
    refine ok_b ev30 ?_
    refine ok_s ?_
    refine ok_b (o_isO hM22 wthis.2.1.2.1) ?_
    replace h := ob h; obtain ⟨zv34, ezv34, h⟩ := h
    obtain ⟨⟨v34, M32⟩, eM32, tv34, hM32⟩ := h_X7_walked hM22 wthis.2.1.2 tv30 tp3 tp4 ezv34
    refine ok_b eM32 ?_
    replace h := nv_e h; obtain ⟨J35, eJ35, h⟩ := h
    obtain ⟨M35, eM35, hM35⟩ := o_wrI (k := 1) hM32 wp1.1 tv34 eJ35
    refine ok_b eM35 ?_
    refine ok_b (o_rdS hM35 wthis.1 (wthis.2.2.2.2.2.2.2.1)) ?_
    refine ok_s ?_
    obtain ⟨v38, ev38, tv38⟩ := o_rdI (k := 1) hM35 wthis.2.2.2.2.2.2.2.2
    refine ok_b ev38 ?_
    refine ok_b (o_isO hM35 wthis.1) ?_
    replace h := ob h; obtain ⟨J39, eJ39, h⟩ := h
    obtain ⟨M39, eM39, hM39⟩ := h_X10_measure hM35 wthis wp1 tv38 eJ39
    refine ok_b eM39 ?_
    refine ok_b (o_rdS hM39 wthis.1 (wthis.2.1.1)) ?_
    refine ok_s ?_
    refine ok_b (o_rdS hM39 wthis.2.1.2.1 (wthis.2.1.2.2.2.1.1)) ?_
    obtain ⟨v44, ev44, tv44⟩ := o_rdI (k := 1) hM39 wp1.1
    refine ok_b ev44 ?_
    refine ok_s ?_
    replace h := ob h; obtain ⟨zv45, ezv45, h⟩ := h
    obtain ⟨v45, ev45, tv45⟩ := o_ldI hM39 wthis.2.1.2.2.2.1.2 rfl tv44 ezv45
    refine ok_b ev45 ?_
    replace h := jp_e h; obtain ⟨k47h, ek47h, h⟩ := h
    refine ok_jp (fun k47 ek47 => ?_)
    have Jk47 : ∀ (M48 : Mm) (J48 : Jm), Mre E M48 J48 → k47h J48 = some (z, J1) → Ok (k47 M48) (fun q => q.1.toInt = z ∧ Mre E q.2 J1) := by
      intro M48 J48 hM48 h
      rw [ek47]
      rw [ek47h] at h
      refine ok_b (o_rdS hM48 wthis.1 (wthis.2.1.1)) ?_
      refine ok_s ?_
      refine ok_b (o_isO hM48 wthis.2.1.2.1) ?_
      replace h := ob h; obtain ⟨zv53, ezv53, h⟩ := h
      obtain ⟨⟨v53, M51⟩, eM51, tv53, hM51⟩ := h_X7_walked hM48 wthis.2.1.2 tv1 tp3 tp4 ezv53
      refine ok_b eM51 ?_
      refine ok_b (o_rdS hM51 wthis.1 (wthis.2.1.1)) ?_
      refine ok_b (o_rdS hM51 wthis.1 (wthis.2.2.2.2.2.2.2.1)) ?_
      refine ok_s ?_
      obtain ⟨v57, ev57, tv57⟩ := o_rdI (k := 1) hM51 wthis.2.2.2.2.2.2.2.2
      refine ok_b ev57 ?_
      obtain ⟨v58, ev58, tv58⟩ := o_rdI (k := 1) hM51 wp1.1
      refine ok_b ev58 ?_
      replace h := ob h; obtain ⟨zv60, ezv60, h⟩ := h
      obtain ⟨⟨v60, M59⟩, eM59, tv60, hM59⟩ := h_X11_xOf hM51 tv58 ezv60
      refine ok_b eM59 ?_
      replace h := ob h; obtain ⟨zv62, ezv62, h⟩ := h
      obtain ⟨⟨v62, M61⟩, eM61, tv62, hM61⟩ := h_X11_xOf hM59 tv53 ezv62
      refine ok_b eM61 ?_
      obtain ⟨v63, ev63, tv63⟩ := o_rdI (k := 1) hM61 wp1.1
      refine ok_b ev63 ?_
      replace h := ob h; obtain ⟨zv65, ezv65, h⟩ := h
      obtain ⟨⟨v65, M64⟩, eM64, tv65, hM64⟩ := h_X11_yOf hM61 tv63 ezv65
      refine ok_b eM64 ?_
      replace h := ob h; obtain ⟨zv67, ezv67, h⟩ := h
      obtain ⟨⟨v67, M66⟩, eM66, tv67, hM66⟩ := h_X11_yOf hM64 tv53 ezv67
      refine ok_b eM66 ?_
      refine ok_s ?_
      refine ok_b (o_isO hM66 wthis.2.1.2.1) ?_
      replace h := ob h; obtain ⟨J69, eJ69, h⟩ := h
      obtain ⟨M69, eM69, hM69⟩ := h_X7_learn hM66 wthis.2.1.2 tv1 tv57 (t_sub tv60 tv62) (t_sub tv65 tv67) eJ69
      refine ok_b eM69 ?_
      obtain ⟨v71, ev71, tv71⟩ := o_rdI (k := 1) hM69 wp1.1
      refine ok_b ev71 ?_
      exact o_ri tv71 hM69 h
    by_cases c2 : zv45 = 1
    · replace h := it_t c2 h
      refine ok_t ((c_eq tv45 (show (1 : Int32).toInt = 1 from rfl)).mpr c2) ?_
      obtain ⟨v74, ev74, tv74⟩ := o_rdI (k := 2) hM39 wp1.1
      refine ok_b ev74 ?_
      replace h := nv_e h; obtain ⟨J75, eJ75, h⟩ := h
      obtain ⟨M75, eM75, hM75⟩ := o_wrI (k := 2) hM39 wp1.1 (t_mx (show (0 : Int32).toInt = 0 from rfl) (t_sub tv74 (show (5 : Int32).toInt = 5 from rfl))) eJ75
      refine ok_b eM75 ?_
      exact Jk47 _ _ hM75 h
    · replace h := it_f c2 h
      refine ok_f (mt (c_eq tv45 (show (1 : Int32).toInt = 1 from rfl)).mp c2) ?_
      exact Jk47 _ _ hM39 h
  · replace h := it_f c1 h
    refine ok_f (mt (c_eq tv25 (show (0 : Int32).toInt = 0 from rfl)).mp c1) ?_
    replace h := nv_e h; obtain ⟨J76, eJ76, h⟩ := h
    obtain ⟨M76, eM76, hM76⟩ := o_wrI (k := 3) hM22 wp1.1 (show (2 : Int32).toInt = 2 from rfl) eJ76
    refine ok_b eM76 ?_
    exact o_ri (show ((-5) : Int32).toInt = (-5) from rfl) hM76 h

set_option maxHeartbeats 4000000 in
set_option maxRecDepth 100000 in
theorem h_X10_obey {E : Em} {M : Mm} {J : Jm} (hM : Mre E M J) {this : Nat} (wthis : W10 E this) {p1 : Nat} (wp1 : W0 E p1) {p2 : Nat} (wp2 : W2 E p2) {z : Int} {J1 : Jm} (h : H_X10_obey E this p1 p2 J = some (z, J1)) : Ok (F_X10_obey this p1 p2 M) (fun q => q.1.toInt = z ∧ Mre E q.2 J1) := by
  unfold H_X10_obey at h
  unfold F_X10_obey
  refine ok_b (o_isO hM wthis.1) ?_
  replace h := ob h; obtain ⟨zv3, ezv3, h⟩ := h
  obtain ⟨⟨v3, M1⟩, eM1, tv3, hM1⟩ := h_X10_ruleFor hM wthis wp1 wp2 ezv3
  refine ok_b eM1 ?_
  by_cases c1 : zv3 < 0
  · replace h := it_t c1 h
    refine ok_t ((c_lt tv3 (show (0 : Int32).toInt = 0 from rfl)).mpr c1) ?_
    exact o_ri (show (0 : Int32).toInt = 0 from rfl) hM1 h
  · replace h := it_f c1 h
    refine ok_f (mt (c_lt tv3 (show (0 : Int32).toInt = 0 from rfl)).mp c1) ?_
    refine ok_b (o_rdS hM1 wp2.1 (wp2.2.2.1.1)) ?_
    refine ok_s ?_
    replace h := ob h; obtain ⟨zv6, ezv6, h⟩ := h
    obtain ⟨v6, ev6, tv6⟩ := o_ldI hM1 wp2.2.2.1.2 rfl tv3 ezv6
    refine ok_b ev6 ?_
    by_cases c2 : zv6 = 0
    · replace h := it_t c2 h
      refine ok_t ((c_eq tv6 (show (0 : Int32).toInt = 0 from rfl)).mpr c2) ?_
      exact o_ri (show (0 : Int32).toInt = 0 from rfl) hM1 h
    · replace h := it_f c2 h
      refine ok_f (mt (c_eq tv6 (show (0 : Int32).toInt = 0 from rfl)).mp c2) ?_
      refine ok_b (o_rdS hM1 wp2.1 (wp2.2.2.2.2.1.1)) ?_
      refine ok_s ?_
      replace h := ob h; obtain ⟨zv10, ezv10, h⟩ := h
      obtain ⟨v10, ev10, tv10⟩ := o_ldI hM1 wp2.2.2.2.2.1.2 rfl tv3 ezv10
      refine ok_b ev10 ?_
      refine ok_b (o_isO hM1 wp1.1) ?_
      replace h := ob h; obtain ⟨zv14, ezv14, h⟩ := h
      obtain ⟨⟨v14, M12⟩, eM12, tv14, hM12⟩ := h_X0_deepest hM1 wp1 ezv14
      refine ok_b eM12 ?_
      obtain ⟨v15, ev15, tv15⟩ := o_rdI (k := 2) hM12 wp1.1
      refine ok_b ev15 ?_
      refine ok_b (o_isO hM12 wp1.1) ?_
      replace h := ob h; obtain ⟨zv18, ezv18, h⟩ := h
      obtain ⟨⟨v18, M16⟩, eM16, tv18, hM16⟩ := h_X0_costTo hM12 wp1 (t_mn tv10 tv14) ezv18
      refine ok_b eM16 ?_
      by_cases c3 : zv18 ≤ (J p1 2)
      · replace h := it_t c3 h
        refine ok_t ((c_le tv18 tv15).mpr c3) ?_
        refine ok_b (o_rdS hM16 wp2.1 (wp2.2.2.1.1)) ?_
        refine ok_s ?_
        replace h := ob h; obtain ⟨zv21, ezv21, h⟩ := h
        obtain ⟨v21, ev21, tv21⟩ := o_ldI hM16 wp2.2.2.1.2 rfl tv3 ezv21
        refine ok_b ev21 ?_
        replace h := jp_e h; obtain ⟨k23h, ek23h, h⟩ := h
        refine ok_jp (fun k23 ek23 => ?_)
        have Jk23 : ∀ (x24 : Int32) (zx24 : Int), x24.toInt = zx24 → ∀ (x25 : Int32) (zx25 : Int), x25.toInt = zx25 → ∀ (M26 : Mm) (J26 : Jm), Mre E M26 J26 → k23h zx24 zx25 J26 = some (z, J1) → Ok (k23 x24 x25 M26) (fun q => q.1.toInt = z ∧ Mre E q.2 J1) := by
          intro x24 zx24 tx24 x25 zx25 tx25 M26 J26 hM26 h
          rw [ek23]
          rw [ek23h] at h
          refine ok_b (o_isO hM26 wthis.1) ?_
          replace h := ob h; obtain ⟨⟨zv29, J27⟩, ezv29, h⟩ := h
          obtain ⟨⟨v29, M27⟩, eM27, tv29, hM27⟩ := h_X10_descend hM26 wthis wp1 (t_mn tv10 tv14) tx24 tx25 ezv29
          refine ok_b eM27 ?_
          exact o_ri (show (1 : Int32).toInt = 1 from rfl) hM27 h
        by_cases c4 : zv21 = 2
        · replace h := it_t c4 h
          refine ok_t ((c_eq tv21 (show (2 : Int32).toInt = 2 from rfl)).mpr c4) ?_
          refine ok_b (o_rdS hM16 wp2.1 (wp2.2.2.2.1.1)) ?_
          refine ok_s ?_
          replace h := ob h; obtain ⟨zv33, ezv33, h⟩ := h
          obtain ⟨v33, ev33, tv33⟩ := o_ldI hM16 wp2.2.2.2.1.2 rfl tv3 ezv33
          refine ok_b ev33 ?_
          replace h := ob h; obtain ⟨zv36, ezv36, h⟩ := h
          obtain ⟨⟨v36, M35⟩, eM35, tv36, hM35⟩ := h_X11_xOf hM16 tv33 ezv36
          refine ok_b eM35 ?_
          obtain ⟨v37, ev37, tv37⟩ := o_rdI (k := 1) hM35 wp1.1
          refine ok_b ev37 ?_
          replace h := ob h; obtain ⟨zv39, ezv39, h⟩ := h
          obtain ⟨⟨v39, M38⟩, eM38, tv39, hM38⟩ := h_X11_xOf hM35 tv37 ezv39
          refine ok_b eM38 ?_
          refine ok_b (o_isO hM38 wp1.1) ?_
          replace h := ob h; obtain ⟨zv42, ezv42, h⟩ := h
          obtain ⟨⟨v42, M40⟩, eM40, tv42, hM40⟩ := h_X0_reach hM38 wp1 ezv42
          refine ok_b eM40 ?_
          replace h := ob h; obtain ⟨zv44, ezv44, h⟩ := h
          obtain ⟨⟨v44, M43⟩, eM43, tv44, hM43⟩ := h_X10_cut hM40 (t_sub tv36 tv39) tv42 ezv44
          refine ok_b eM43 ?_
          refine ok_b (o_rdS hM43 wp2.1 (wp2.2.2.2.1.1)) ?_
          refine ok_s ?_
          replace h := ob h; obtain ⟨zv46, ezv46, h⟩ := h
          obtain ⟨v46, ev46, tv46⟩ := o_ldI hM43 wp2.2.2.2.1.2 rfl tv3 ezv46
          refine ok_b ev46 ?_
          replace h := ob h; obtain ⟨zv49, ezv49, h⟩ := h
          obtain ⟨⟨v49, M48⟩, eM48, tv49, hM48⟩ := h_X11_yOf hM43 tv46 ezv49
          refine ok_b eM48 ?_
          obtain ⟨v50, ev50, tv50⟩ := o_rdI (k := 1) hM48 wp1.1
          refine ok_b ev50 ?_
          replace h := ob h; obtain ⟨zv52, ezv52, h⟩ := h
          obtain ⟨⟨v52, M51⟩, eM51, tv52, hM51⟩ := h_X11_yOf hM48 tv50 ezv52
          refine ok_b eM51 ?_
          refine ok_b (o_isO hM51 wp1.1) ?_
          replace h := ob h; obtain ⟨zv55, ezv55, h⟩ := h
          obtain ⟨⟨v55, M53⟩, eM53, tv55, hM53⟩ := h_X0_reach hM51 wp1 ezv55
          refine ok_b eM53 ?_
          replace h := ob h; obtain ⟨zv57, ezv57, h⟩ := h
          obtain ⟨⟨v57, M56⟩, eM56, tv57, hM56⟩ := h_X10_cut hM53 (t_sub tv49 tv52) (t_sub tv55 (t_ab tv44)) ezv57
          refine ok_b eM56 ?_
          exact Jk23 _ _ tv44 _ _ tv57 _ _ hM56 h
        · replace h := it_f c4 h
          refine ok_f (mt (c_eq tv21 (show (2 : Int32).toInt = 2 from rfl)).mp c4) ?_
          exact Jk23 _ _ (show (0 : Int32).toInt = 0 from rfl) _ _ (show (0 : Int32).toInt = 0 from rfl) _ _ hM16 h
      · replace h := it_f c3 h
        refine ok_f (mt (c_le tv18 tv15).mp c3) ?_
        exact o_ri (show (0 : Int32).toInt = 0 from rfl) hM16 h

set_option maxHeartbeats 4000000 in
set_option maxRecDepth 100000 in
theorem h_X10_obeyAll_L4 {E : Em} {z : Int} {J1 : Jm}   (x0 : Nat) (wx0 : W10 E x0) : ∀ (fu : Nat), ∀ (x1 : Int32) (zx1 : Int), x1.toInt = zx1 → ∀ (x2 : Int32) (zx2 : Int), x2.toInt = zx2 → ∀ (M0 : Mm) (J0 : Jm), Mre E M0 J0 → H_X10_obeyAll_L4 E x0 fu zx1 zx2 J0 = some (z, J1) → Ok (F_X10_obeyAll_L4 x0 fu x1 x2 M0) (fun q => q.1.toInt = z ∧ Mre E q.2 J1) := by
  intro fu
  induction fu with
  | zero =>
    intro x1 zx1 tx1 x2 zx2 tx2 M0 J0 hM0 h
    rw [H_X10_obeyAll_L4] at h
    cases h
  | succ n1 ih =>
    intro x1 zx1 tx1 x2 zx2 tx2 M0 J0 hM0 h
    rw [H_X10_obeyAll_L4] at h
    rw [F_X10_obeyAll_L4]
    obtain ⟨v2, ev2, tv2⟩ := o_rdI (k := 2) hM0 wx0.1
    refine ok_b ev2 ?_
    by_cases c1 : (J0 x0 2) ≤ zx2
    · replace h := it_t c1 h
      refine ok_t ((c_le tv2 tx2).mpr c1) ?_
      exact o_ri tx1 hM0 h
    · replace h := it_f c1 h
      refine ok_f (mt (c_le tv2 tx2).mp c1) ?_
      refine ok_b (o_rdS hM0 wx0.1 (wx0.2.2.1.1)) ?_
      refine ok_s ?_
      replace h := ob h; obtain ⟨v5, ev5, h⟩ := h
      obtain ⟨fv5, wv5⟩ := o_ldR hM0 wx0.2.2.1.2.1 rfl tx2 ev5
      refine ok_b fv5 ?_
      replace h := ob h; obtain ⟨a7, ea7, h⟩ := h
      refine ok_b ea7 ?_
      refine ok_b (o_isO hM0 wx0.1) ?_
      replace h := ob h; obtain ⟨v10q, ev10q, h⟩ := h
      obtain ⟨⟨v10, M8⟩, eM8, tv10, hM8, wv10⟩ := h_X10_orderOf hM0 wx0 ((fun y hy => wx0.2.2.1.2.2 _ y (wv5.trans hy)) _ ea7) ev10q
      dsimp only at tv10 wv10
      subst tv10
      refine ok_b eM8 ?_
      refine ok_b (o_rdS hM8 wx0.1 (wx0.2.2.1.1)) ?_
      refine ok_s ?_
      replace h := ob h; obtain ⟨v12, ev12, h⟩ := h
      obtain ⟨fv12, wv12⟩ := o_ldR hM8 wx0.2.2.1.2.1 rfl tx2 ev12
      refine ok_b fv12 ?_
      replace h := ob h; obtain ⟨a14, ea14, h⟩ := h
      refine ok_b ea14 ?_
      obtain ⟨v15, ev15, tv15⟩ := o_rdI (k := 3) hM8 ((fun y hy => wx0.2.2.1.2.2 _ y (wv12.trans hy)) _ ea14).1
      refine ok_b ev15 ?_
      by_cases c2 : (J0 a14 3) = 0
      · replace h := it_t c2 h
        refine ok_t ((c_eq tv15 (show (0 : Int32).toInt = 0 from rfl)).mpr c2) ?_
        rcases oq_c v10 with q3 | ⟨a17, q3⟩
        · replace h := oe_nx q3 h
          refine ok_on q3 ?_
          exact ih _ _ tx1 _ _ (t_add tx2 (show (1 : Int32).toInt = 1 from rfl)) _ _ hM8 h
        · replace h := oe_sx q3 h
          refine ok_os q3 ?_
          refine ok_b (o_rdS hM8 wx0.1 (wx0.2.2.1.1)) ?_
          refine ok_s ?_
          replace h := ob h; obtain ⟨v19, ev19, h⟩ := h
          obtain ⟨fv19, wv19⟩ := o_ldR hM8 wx0.2.2.1.2.1 rfl tx2 ev19
          refine ok_b fv19 ?_
          replace h := ob h; obtain ⟨a21, ea21, h⟩ := h
          refine ok_b ea21 ?_
          refine ok_b (o_isO hM8 wx0.1) ?_
          replace h := ob h; obtain ⟨⟨zv24, J22⟩, ezv24, h⟩ := h
          obtain ⟨⟨v24, M22⟩, eM22, tv24, hM22⟩ := h_X10_obey hM8 wx0 ((fun y hy => wx0.2.2.1.2.2 _ y (wv19.trans hy)) _ ea21) (wv10 _ q3) ezv24
          refine ok_b eM22 ?_
          by_cases c4 : zv24 = 0
          · replace h := it_t c4 h
            refine ok_t ((c_eq tv24 (show (0 : Int32).toInt = 0 from rfl)).mpr c4) ?_
            exact ih _ _ tx1 _ _ (t_add tx2 (show (1 : Int32).toInt = 1 from rfl)) _ _ hM22 h
          · replace h := it_f c4 h
            refine ok_f (mt (c_eq tv24 (show (0 : Int32).toInt = 0 from rfl)).mp c4) ?_
            exact ih _ _ (t_add tx1 (show (1 : Int32).toInt = 1 from rfl)) _ _ (t_add tx2 (show (1 : Int32).toInt = 1 from rfl)) _ _ hM22 h
      · replace h := it_f c2 h
        refine ok_f (mt (c_eq tv15 (show (0 : Int32).toInt = 0 from rfl)).mp c2) ?_
        exact ih _ _ tx1 _ _ (t_add tx2 (show (1 : Int32).toInt = 1 from rfl)) _ _ hM8 h
set_option maxHeartbeats 4000000 in
set_option maxRecDepth 100000 in
theorem h_X10_obeyAll {E : Em} {M : Mm} {J : Jm} (hM : Mre E M J) {this : Nat} (wthis : W10 E this) {z : Int} {J1 : Jm} (h : H_X10_obeyAll E this J = some (z, J1)) : Ok (F_X10_obeyAll this M) (fun q => q.1.toInt = z ∧ Mre E q.2 J1) := by
  unfold H_X10_obeyAll at h
  unfold F_X10_obeyAll
  refine h_X10_obeyAll_L4   _ wthis _ _ _ (show (0 : Int32).toInt = 0 from rfl) _ _ (show (0 : Int32).toInt = 0 from rfl) _ _ hM h

set_option maxHeartbeats 4000000 in
set_option maxRecDepth 100000 in
theorem h_X11_isSpan {E : Em} {M : Mm} {J : Jm} (hM : Mre E M J) {p1 : Int32} {zp1 : Int} (tp1 : p1.toInt = zp1) {p2 : Int32} {zp2 : Int} (tp2 : p2.toInt = zp2) {z : Int} (h : H_X11_isSpan zp1 zp2 = some z) : Ok (F_X11_isSpan p1 p2 M) (fun q => q.1.toInt = z ∧ Mre E q.2 J) := by
  unfold H_X11_isSpan at h
  unfold F_X11_isSpan
  by_cases c1 : zp1 < 0
  · replace h := it_t c1 h
    refine ok_t ((c_lt tp1 (show (0 : Int32).toInt = 0 from rfl)).mpr c1) ?_
    exact o_ri0 (show (0 : Int32).toInt = 0 from rfl) hM h
  · replace h := it_f c1 h
    refine ok_f (mt (c_lt tp1 (show (0 : Int32).toInt = 0 from rfl)).mp c1) ?_
    by_cases c2 : 100 ≤ zp1
    · replace h := it_t c2 h
      refine ok_t ((c_le (show (100 : Int32).toInt = 100 from rfl) tp1).mpr c2) ?_
      exact o_ri0 (show (0 : Int32).toInt = 0 from rfl) hM h
    · replace h := it_f c2 h
      refine ok_f (mt (c_le (show (100 : Int32).toInt = 100 from rfl) tp1).mp c2) ?_
      replace h := ob h; obtain ⟨zv3, ezv3, h⟩ := h
      obtain ⟨v3, ev3, tv3⟩ := o_dvI tp1 (show (10 : Int32).toInt = 10 from rfl) ezv3
      refine ok_b ev3 ?_
      replace h := ob h; obtain ⟨zv4, ezv4, h⟩ := h
      obtain ⟨v4, ev4, tv4⟩ := o_rmI tp1 (show (10 : Int32).toInt = 10 from rfl) ezv4
      refine ok_b ev4 ?_
      by_cases c3 : zv4 < zv3
      · replace h := it_t c3 h
        refine ok_t ((c_lt tv4 tv3).mpr c3) ?_
        exact o_ri0 (show (0 : Int32).toInt = 0 from rfl) hM h
      · replace h := it_f c3 h
        refine ok_f (mt (c_lt tv4 tv3).mp c3) ?_
        replace h := ob h; obtain ⟨zv6, ezv6, h⟩ := h
        obtain ⟨v6, ev6, tv6⟩ := o_rmI tp1 (show (10 : Int32).toInt = 10 from rfl) ezv6
        refine ok_b ev6 ?_
        by_cases c4 : zp2 ≤ zv6
        · replace h := it_t c4 h
          refine ok_t ((c_le tp2 tv6).mpr c4) ?_
          exact o_ri0 (show (0 : Int32).toInt = 0 from rfl) hM h
        · replace h := it_f c4 h
          refine ok_f (mt (c_le tp2 tv6).mp c4) ?_
          exact o_ri0 (show (1 : Int32).toInt = 1 from rfl) hM h

set_option maxHeartbeats 4000000 in
set_option maxRecDepth 100000 in
theorem h_X11_isSeaValue {E : Em} {M : Mm} {J : Jm} (hM : Mre E M J) {p1 : Int32} {zp1 : Int} (tp1 : p1.toInt = zp1) {p2 : Int32} {zp2 : Int} (tp2 : p2.toInt = zp2) {z : Int} (h : H_X11_isSeaValue zp1 zp2 = some z) : Ok (F_X11_isSeaValue p1 p2 M) (fun q => q.1.toInt = z ∧ Mre E q.2 J) := by
  unfold H_X11_isSeaValue at h
  unfold F_X11_isSeaValue
  by_cases c1 : zp1 = 0
  · replace h := it_t c1 h
    refine ok_t ((c_eq tp1 (show (0 : Int32).toInt = 0 from rfl)).mpr c1) ?_
    by_cases c2 : zp2 < 0
    · replace h := it_t c2 h
      refine ok_t ((c_lt tp2 (show (0 : Int32).toInt = 0 from rfl)).mpr c2) ?_
      exact o_ri0 (show (0 : Int32).toInt = 0 from rfl) hM h
    · replace h := it_f c2 h
      refine ok_f (mt (c_lt tp2 (show (0 : Int32).toInt = 0 from rfl)).mp c2) ?_
      by_cases c3 : 4 < zp2
      · replace h := it_t c3 h
        refine ok_t ((c_lt (show (4 : Int32).toInt = 4 from rfl) tp2).mpr c3) ?_
        exact o_ri0 (show (0 : Int32).toInt = 0 from rfl) hM h
      · replace h := it_f c3 h
        refine ok_f (mt (c_lt (show (4 : Int32).toInt = 4 from rfl) tp2).mp c3) ?_
        exact o_ri0 (show (1 : Int32).toInt = 1 from rfl) hM h
  · replace h := it_f c1 h
    refine ok_f (mt (c_eq tp1 (show (0 : Int32).toInt = 0 from rfl)).mp c1) ?_
    by_cases c4 : zp1 = 1
    · replace h := it_t c4 h
      refine ok_t ((c_eq tp1 (show (1 : Int32).toInt = 1 from rfl)).mpr c4) ?_
      by_cases c5 : zp2 = 0
      · replace h := it_t c5 h
        refine ok_t ((c_eq tp2 (show (0 : Int32).toInt = 0 from rfl)).mpr c5) ?_
        exact o_ri0 (show (1 : Int32).toInt = 1 from rfl) hM h
      · replace h := it_f c5 h
        refine ok_f (mt (c_eq tp2 (show (0 : Int32).toInt = 0 from rfl)).mp c5) ?_
        by_cases c6 : zp2 = 1
        · replace h := it_t c6 h
          refine ok_t ((c_eq tp2 (show (1 : Int32).toInt = 1 from rfl)).mpr c6) ?_
          exact o_ri0 (show (1 : Int32).toInt = 1 from rfl) hM h
        · replace h := it_f c6 h
          refine ok_f (mt (c_eq tp2 (show (1 : Int32).toInt = 1 from rfl)).mp c6) ?_
          exact o_ri0 (show (0 : Int32).toInt = 0 from rfl) hM h
    · replace h := it_f c4 h
      refine ok_f (mt (c_eq tp1 (show (1 : Int32).toInt = 1 from rfl)).mp c4) ?_
      by_cases c7 : zp1 = 2
      · replace h := it_t c7 h
        refine ok_t ((c_eq tp1 (show (2 : Int32).toInt = 2 from rfl)).mpr c7) ?_
        by_cases c8 : zp2 < 0
        · replace h := it_t c8 h
          refine ok_t ((c_lt tp2 (show (0 : Int32).toInt = 0 from rfl)).mpr c8) ?_
          exact o_ri0 (show (0 : Int32).toInt = 0 from rfl) hM h
        · replace h := it_f c8 h
          refine ok_f (mt (c_lt tp2 (show (0 : Int32).toInt = 0 from rfl)).mp c8) ?_
          by_cases c9 : 99 < zp2
          · replace h := it_t c9 h
            refine ok_t ((c_lt (show (99 : Int32).toInt = 99 from rfl) tp2).mpr c9) ?_
            exact o_ri0 (show (0 : Int32).toInt = 0 from rfl) hM h
          · replace h := it_f c9 h
            refine ok_f (mt (c_lt (show (99 : Int32).toInt = 99 from rfl) tp2).mp c9) ?_
            exact o_ri0 (show (1 : Int32).toInt = 1 from rfl) hM h
      · replace h := it_f c7 h
        refine ok_f (mt (c_eq tp1 (show (2 : Int32).toInt = 2 from rfl)).mp c7) ?_
        exact o_ri0 (show (0 : Int32).toInt = 0 from rfl) hM h

set_option maxHeartbeats 4000000 in
set_option maxRecDepth 100000 in
theorem h_X11_sea {E : Em} {M : Mm} {J : Jm} (hM : Mre E M J) {this : Nat} (wthis : W11 E this) {p1 : Int32} {zp1 : Int} (tp1 : p1.toInt = zp1) {p2 : Int32} {zp2 : Int} (tp2 : p2.toInt = zp2) {p3 : Int32} {zp3 : Int} (tp3 : p3.toInt = zp3) {p4 : Int32} {zp4 : Int} (tp4 : p4.toInt = zp4) {z : Int} {J1 : Jm} (h : H_X11_sea E this zp1 zp2 zp3 zp4 J = some (z, J1)) : Ok (F_X11_sea this p1 p2 p3 p4 M) (fun q => q.1.toInt = z ∧ Mre E q.2 J1) := by
  unfold H_X11_sea at h
  unfold F_X11_sea
  replace h := ob h; obtain ⟨zv2, ezv2, h⟩ := h
  obtain ⟨⟨v2, M1⟩, eM1, tv2, hM1⟩ := h_X11_isSpan hM tp1 (show (10 : Int32).toInt = 10 from rfl) ezv2
  refine ok_b eM1 ?_
  by_cases c1 : zv2 = 0
  · replace h := it_t c1 h
    refine ok_t ((c_eq tv2 (show (0 : Int32).toInt = 0 from rfl)).mpr c1) ?_
    exact o_ri (show ((-1) : Int32).toInt = (-1) from rfl) hM1 h
  · replace h := it_f c1 h
    refine ok_f (mt (c_eq tv2 (show (0 : Int32).toInt = 0 from rfl)).mp c1) ?_
    replace h := ob h; obtain ⟨zv5, ezv5, h⟩ := h
    obtain ⟨⟨v5, M4⟩, eM4, tv5, hM4⟩ := h_X11_isSpan hM1 tp2 (show (8 : Int32).toInt = 8 from rfl) ezv5
    refine ok_b eM4 ?_
    by_cases c2 : zv5 = 0
    · replace h := it_t c2 h
      refine ok_t ((c_eq tv5 (show (0 : Int32).toInt = 0 from rfl)).mpr c2) ?_
      exact o_ri (show ((-1) : Int32).toInt = (-1) from rfl) hM4 h
    · replace h := it_f c2 h
      refine ok_f (mt (c_eq tv5 (show (0 : Int32).toInt = 0 from rfl)).mp c2) ?_
      replace h := ob h; obtain ⟨zv8, ezv8, h⟩ := h
      obtain ⟨⟨v8, M7⟩, eM7, tv8, hM7⟩ := h_X11_isSeaValue hM4 tp3 tp4 ezv8
      refine ok_b eM7 ?_
      by_cases c3 : zv8 = 0
      · replace h := it_t c3 h
        refine ok_t ((c_eq tv8 (show (0 : Int32).toInt = 0 from rfl)).mpr c3) ?_
        exact o_ri (show ((-1) : Int32).toInt = (-1) from rfl) hM7 h
      · replace h := it_f c3 h
        refine ok_f (mt (c_eq tv8 (show (0 : Int32).toInt = 0 from rfl)).mp c3) ?_
        replace h := jp_e h; obtain ⟨k10h, ek10h, h⟩ := h
        refine ok_jp (fun k10 ek10 => ?_)
        have Jk10 : ∀ (M11 : Mm) (J11 : Jm), Mre E M11 J11 → k10h J11 = some (z, J1) → Ok (k10 M11) (fun q => q.1.toInt = z ∧ Mre E q.2 J1) := by
          intro M11 J11 hM11 h
          rw [ek10]
          rw [ek10h] at h
          refine ok_b (o_rdS hM11 wthis.1 (wthis.2.1.1)) ?_
          refine ok_s ?_
          refine ok_b (o_rdS hM11 wthis.2.1.2.1 (wthis.2.1.2.2.1.1)) ?_
          refine ok_s ?_
          refine ok_b (o_isO hM11 wthis.2.1.2.2.1.2.1) ?_
          replace h := ob h; obtain ⟨⟨zv18, J16⟩, ezv18, h⟩ := h
          obtain ⟨⟨v18, M16⟩, eM16, tv18, hM16⟩ := h_X7_change hM11 wthis.2.1.2.2.1.2 tp1 tp2 tp3 tp4 ezv18
          refine ok_b eM16 ?_
          exact o_ri tv18 hM16 h
        by_cases c4 : zp3 = 0
        · replace h := it_t c4 h
          refine ok_t ((c_eq tp3 (show (0 : Int32).toInt = 0 from rfl)).mpr c4) ?_
          by_cases c5 : zp4 = 0
          · replace h := it_t c5 h
            refine ok_t ((c_eq tp4 (show (0 : Int32).toInt = 0 from rfl)).mpr c5) ?_
            refine ok_b (o_rdS hM7 wthis.1 (wthis.2.1.1)) ?_
            refine ok_s ?_
            refine ok_b (o_isO hM7 wthis.2.1.2.1) ?_
            replace h := ob h; obtain ⟨zv26, ezv26, h⟩ := h
            obtain ⟨⟨v26, M24⟩, eM24, tv26, hM24⟩ := h_X10_isAnyUpWithin hM7 wthis.2.1.2 tp1 tp2 ezv26
            refine ok_b eM24 ?_
            by_cases c6 : zv26 = 0
            · replace h := it_t c6 h
              refine ok_t ((c_eq tv26 (show (0 : Int32).toInt = 0 from rfl)).mpr c6) ?_
              exact Jk10 _ _ hM24 h
            · replace h := it_f c6 h
              refine ok_f (mt (c_eq tv26 (show (0 : Int32).toInt = 0 from rfl)).mp c6) ?_
              exact o_ri (show ((-3) : Int32).toInt = (-3) from rfl) hM24 h
          · replace h := it_f c5 h
            refine ok_f (mt (c_eq tp4 (show (0 : Int32).toInt = 0 from rfl)).mp c5) ?_
            exact Jk10 _ _ hM7 h
        · replace h := it_f c4 h
          refine ok_f (mt (c_eq tp3 (show (0 : Int32).toInt = 0 from rfl)).mp c4) ?_
          exact Jk10 _ _ hM7 h
