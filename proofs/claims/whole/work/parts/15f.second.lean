set_option maxHeartbeats 4000000 in
set_option maxRecDepth 100000 in
theorem h_X12_plan {E : Em} {M : Mm} {J : Jm} (hM : Mre E M J) {this : Nat} (wthis : W12 E this) {p1 : Int32} {zp1 : Int} (tp1 : p1.toInt = zp1) {z : Int} {J1 : Jm} (h : H_X12_plan this zp1 J = some (z, J1)) : Ok (F_X12_plan this p1 M) (fun q => q.1.toInt = z ∧ Mre E q.2 J1) := by
  unfold H_X12_plan at h
  unfold F_X12_plan
  refine ok_b (o_isO hM wthis.1) ?_
  replace h := ob h; obtain ⟨zv3, ezv3, h⟩ := h
  obtain ⟨⟨v3, M1⟩, eM1, tv3, hM1⟩ := h_X12_is hM wthis tp1 (show (0 : Int32).toInt = 0 from rfl) (show (3 : Int32).toInt = 3 from rfl) ezv3
  refine ok_b eM1 ?_
  by_cases c1 : zv3 = 0
  · replace h := it_t c1 h
    refine ok_t ((c_eq tv3 (show (0 : Int32).toInt = 0 from rfl)).mpr c1) ?_
    exact o_ri (show ((-1) : Int32).toInt = (-1) from rfl) hM1 h
  · replace h := it_f c1 h
    refine ok_f (mt (c_eq tv3 (show (0 : Int32).toInt = 0 from rfl)).mp c1) ?_
    refine ok_b (o_isO hM1 wthis.1) ?_
    replace h := ob h; obtain ⟨⟨zv7, J5⟩, ezv7, h⟩ := h
    obtain ⟨⟨v7, M5⟩, eM5, tv7, hM5⟩ := h_X12_findPlan hM1 wthis tp1 ezv7
    refine ok_b eM5 ?_
    by_cases c2 : zv7 = 0
    · replace h := it_t c2 h
      refine ok_t ((c_eq tv7 (show (0 : Int32).toInt = 0 from rfl)).mpr c2) ?_
      exact o_ri (show ((-4) : Int32).toInt = (-4) from rfl) hM5 h
    · replace h := it_f c2 h
      refine ok_f (mt (c_eq tv7 (show (0 : Int32).toInt = 0 from rfl)).mp c2) ?_
      obtain ⟨v9, ev9, tv9⟩ := o_rdI (k := 27) hM5 wthis.1
      refine ok_b ev9 ?_
      exact o_ri tv9 hM5 h

set_option maxHeartbeats 4000000 in
set_option maxRecDepth 100000 in
theorem h_X12_planned_L33 {E : Em} {z : Int} {J1 : Jm}  (k51 : Int32 → Mm → Option (Int32 × Mm)) (k51h : Int → Jm → Option (Int × Jm)) (hk51 : ∀ (y0 : Int32) (zy0 : Int), y0.toInt = zy0 → ∀ (M9 : Mm) (J9 : Jm), Mre E M9 J9 → k51h zy0 J9 = some (z, J1) → Ok (k51 y0 M9) (fun q => q.1.toInt = z ∧ Mre E q.2 J1)) (x0 : Nat) (wx0 : W12 E x0) (x2 : Int32) (zx2 : Int) (tx2 : x2.toInt = zx2) : ∀ (fu : Nat), ∀ (x3 : Int32) (zx3 : Int), x3.toInt = zx3 → ∀ (M0 : Mm) (J0 : Jm), Mre E M0 J0 → H_X12_planned_L33 k51h x0 zx2 fu zx3 J0 = some (z, J1) → Ok (F_X12_planned_L33 k51 x0 x2 fu x3 M0) (fun q => q.1.toInt = z ∧ Mre E q.2 J1) := by
  intro fu
  induction fu with
  | zero =>
    intro x3 zx3 tx3 M0 J0 hM0 h
    rw [H_X12_planned_L33] at h
    cases h
  | succ n13 ih =>
    intro x3 zx3 tx3 M0 J0 hM0 h
    rw [H_X12_planned_L33] at h
    rw [F_X12_planned_L33]
    obtain ⟨v14, ev14, tv14⟩ := o_rdI (k := 26) hM0 wx0.1
    refine ok_b ev14 ?_
    by_cases c4 : (J0 x0 26) ≤ zx3
    · replace h := it_t c4 h
      refine ok_t ((c_le tv14 tx3).mpr c4) ?_
      exact o_ri (show ((-4) : Int32).toInt = (-4) from rfl) hM0 h
    · replace h := it_f c4 h
      refine ok_f (mt (c_le tv14 tx3).mp c4) ?_
      refine ok_b (o_rdS hM0 wx0.1 (wx0.2.2.2.2.1.1)) ?_
      refine ok_s ?_
      replace h := ob h; obtain ⟨zv17, ezv17, h⟩ := h
      obtain ⟨v17, ev17, tv17⟩ := o_ldI hM0 wx0.2.2.2.2.1.2 rfl tx3 ezv17
      refine ok_b ev17 ?_
      by_cases c5 : zv17 = zx2
      · replace h := it_t c5 h
        refine ok_t ((c_eq tv17 tx2).mpr c5) ?_
        exact hk51 _ _ tx3 _ _ hM0 h
      · replace h := it_f c5 h
        refine ok_f (mt (c_eq tv17 tx2).mp c5) ?_
        exact ih _ _ (t_add tx3 (show (1 : Int32).toInt = 1 from rfl)) _ _ hM0 h
set_option maxHeartbeats 4000000 in
set_option maxRecDepth 100000 in
theorem h_X12_planned {E : Em} {M : Mm} {J : Jm} (hM : Mre E M J) {this : Nat} (wthis : W12 E this) {p1 : Int32} {zp1 : Int} (tp1 : p1.toInt = zp1) {p2 : Int32} {zp2 : Int} (tp2 : p2.toInt = zp2) {z : Int} {J1 : Jm} (h : H_X12_planned this zp1 zp2 J = some (z, J1)) : Ok (F_X12_planned this p1 p2 M) (fun q => q.1.toInt = z ∧ Mre E q.2 J1) := by
  unfold H_X12_planned at h
  unfold F_X12_planned
  refine ok_b (o_isO hM wthis.1) ?_
  replace h := ob h; obtain ⟨zv3, ezv3, h⟩ := h
  obtain ⟨⟨v3, M1⟩, eM1, tv3, hM1⟩ := h_X12_is hM wthis tp1 (show (0 : Int32).toInt = 0 from rfl) (show (3 : Int32).toInt = 3 from rfl) ezv3
  refine ok_b eM1 ?_
  by_cases c1 : zv3 = 0
  · replace h := it_t c1 h
    refine ok_t ((c_eq tv3 (show (0 : Int32).toInt = 0 from rfl)).mpr c1) ?_
    exact o_ri (show ((-1) : Int32).toInt = (-1) from rfl) hM1 h
  · replace h := it_f c1 h
    refine ok_f (mt (c_eq tv3 (show (0 : Int32).toInt = 0 from rfl)).mp c1) ?_
    refine ok_b (o_isO hM1 wthis.1) ?_
    replace h := ob h; obtain ⟨zv7, ezv7, h⟩ := h
    obtain ⟨⟨v7, M5⟩, eM5, tv7, hM5⟩ := h_X12_isGlider hM1 wthis tp2 ezv7
    refine ok_b eM5 ?_
    by_cases c2 : zv7 = 0
    · replace h := it_t c2 h
      refine ok_t ((c_eq tv7 (show (0 : Int32).toInt = 0 from rfl)).mpr c2) ?_
      exact o_ri (show ((-1) : Int32).toInt = (-1) from rfl) hM5 h
    · replace h := it_f c2 h
      refine ok_f (mt (c_eq tv7 (show (0 : Int32).toInt = 0 from rfl)).mp c2) ?_
      refine ok_b (o_isO hM5 wthis.1) ?_
      replace h := ob h; obtain ⟨⟨zv11, J9⟩, ezv11, h⟩ := h
      obtain ⟨⟨v11, M9⟩, eM9, tv11, hM9⟩ := h_X12_findPlan hM5 wthis tp1 ezv11
      refine ok_b eM9 ?_
      by_cases c3 : zv11 = 0
      · replace h := it_t c3 h
        refine ok_t ((c_eq tv11 (show (0 : Int32).toInt = 0 from rfl)).mpr c3) ?_
        exact o_ri (show ((-4) : Int32).toInt = (-4) from rfl) hM9 h
      · replace h := it_f c3 h
        refine ok_f (mt (c_eq tv11 (show (0 : Int32).toInt = 0 from rfl)).mp c3) ?_
        refine h_X12_planned_L33  _ _ ?_ _ wthis _ _ tp2 _ _ _ (show (0 : Int32).toInt = 0 from rfl) _ _ hM9 h
        intro y20 zy20 ty20 M21 J21 hM21 h
        refine ok_b (o_rdS hM21 wthis.1 (wthis.2.2.2.2.2.2.2.1.1)) ?_
        refine ok_s ?_
        replace h := ob h; obtain ⟨zv23, ezv23, h⟩ := h
        obtain ⟨v23, ev23, tv23⟩ := o_ldI hM21 wthis.2.2.2.2.2.2.2.1.2 rfl ty20 ezv23
        refine ok_b ev23 ?_
        replace h := ob h; obtain ⟨zv25, ezv25, h⟩ := h
        obtain ⟨v25, ev25, tv25⟩ := o_dvI tv23 (show (9 : Int32).toInt = 9 from rfl) ezv25
        refine ok_b ev25 ?_
        refine ok_b (o_rdS hM21 wthis.1 (wthis.2.2.2.2.2.2.2.1.1)) ?_
        refine ok_s ?_
        replace h := ob h; obtain ⟨zv27, ezv27, h⟩ := h
        obtain ⟨v27, ev27, tv27⟩ := o_ldI hM21 wthis.2.2.2.2.2.2.2.1.2 rfl ty20 ezv27
        refine ok_b ev27 ?_
        replace h := ob h; obtain ⟨zv29, ezv29, h⟩ := h
        obtain ⟨v29, ev29, tv29⟩ := o_rmI tv27 (show (9 : Int32).toInt = 9 from rfl) ezv29
        refine ok_b ev29 ?_
        exact o_ri (t_add (t_add (t_mul (show (20 : Int32).toInt = 20 from rfl) (t_add tv25 (show (6 : Int32).toInt = 6 from rfl))) tv29) (show (6 : Int32).toInt = 6 from rfl)) hM21 h

set_option maxHeartbeats 4000000 in
set_option maxRecDepth 100000 in
theorem h_X12_ends {E : Em} {M : Mm} {J : Jm} (hM : Mre E M J) {this : Nat} (wthis : W12 E this) {p1 : Int32} {zp1 : Int} (tp1 : p1.toInt = zp1) {p2 : Int32} {zp2 : Int} (tp2 : p2.toInt = zp2) {p3 : Int32} {zp3 : Int} (tp3 : p3.toInt = zp3) {p4 : Int32} {zp4 : Int} (tp4 : p4.toInt = zp4) {z : Int} {J1 : Jm} (h : H_X12_ends this zp1 zp2 zp3 zp4 J = some (z, J1)) : Ok (F_X12_ends this p1 p2 p3 p4 M) (fun q => q.1.toInt = z ∧ Mre E q.2 J1) := by
  unfold H_X12_ends at h
  unfold F_X12_ends
  refine ok_b (o_isO hM wthis.1) ?_
  replace h := ob h; obtain ⟨zv3, ezv3, h⟩ := h
  obtain ⟨⟨v3, M1⟩, eM1, tv3, hM1⟩ := h_X12_isGlider hM wthis tp1 ezv3
  refine ok_b eM1 ?_
  by_cases c1 : zv3 = 0
  · replace h := it_t c1 h
    refine ok_t ((c_eq tv3 (show (0 : Int32).toInt = 0 from rfl)).mpr c1) ?_
    exact o_ri (show ((-1) : Int32).toInt = (-1) from rfl) hM1 h
  · replace h := it_f c1 h
    refine ok_f (mt (c_eq tv3 (show (0 : Int32).toInt = 0 from rfl)).mp c1) ?_
    refine ok_b (o_isO hM1 wthis.1) ?_
    replace h := ob h; obtain ⟨zv7, ezv7, h⟩ := h
    obtain ⟨⟨v7, M5⟩, eM5, tv7, hM5⟩ := h_X12_sinks hM1 wthis tp1 ezv7
    refine ok_b eM5 ?_
    refine ok_b (o_isO hM5 wthis.1) ?_
    replace h := ob h; obtain ⟨zv10, ezv10, h⟩ := h
    obtain ⟨⟨v10, M8⟩, eM8, tv10, hM8⟩ := h_X12_is hM5 wthis tp2 (show (0 : Int32).toInt = 0 from rfl) tv7 ezv10
    refine ok_b eM8 ?_
    by_cases c2 : zv10 = 0
    · replace h := it_t c2 h
      refine ok_t ((c_eq tv10 (show (0 : Int32).toInt = 0 from rfl)).mpr c2) ?_
      exact o_ri (show ((-1) : Int32).toInt = (-1) from rfl) hM8 h
    · replace h := it_f c2 h
      refine ok_f (mt (c_eq tv10 (show (0 : Int32).toInt = 0 from rfl)).mp c2) ?_
      refine ok_b (o_isO hM8 wthis.1) ?_
      replace h := ob h; obtain ⟨zv14, ezv14, h⟩ := h
      obtain ⟨⟨v14, M12⟩, eM12, tv14, hM12⟩ := h_X12_isHeading hM8 wthis tp1 tp3 tp4 ezv14
      refine ok_b eM12 ?_
      by_cases c3 : zv14 = 0
      · replace h := it_t c3 h
        refine ok_t ((c_eq tv14 (show (0 : Int32).toInt = 0 from rfl)).mpr c3) ?_
        exact o_ri (show ((-1) : Int32).toInt = (-1) from rfl) hM12 h
      · replace h := it_f c3 h
        refine ok_f (mt (c_eq tv14 (show (0 : Int32).toInt = 0 from rfl)).mp c3) ?_
        refine ok_b (o_isO hM12 wthis.1) ?_
        replace h := ob h; obtain ⟨zv18, ezv18, h⟩ := h
        obtain ⟨⟨v18, M16⟩, eM16, tv18, hM16⟩ := h_X12_isUp hM12 wthis tp1 ezv18
        refine ok_b eM16 ?_
        by_cases c4 : zv18 = 0
        · replace h := it_t c4 h
          refine ok_t ((c_eq tv18 (show (0 : Int32).toInt = 0 from rfl)).mpr c4) ?_
          exact o_ri (show ((-3) : Int32).toInt = (-3) from rfl) hM16 h
        · replace h := it_f c4 h
          refine ok_f (mt (c_eq tv18 (show (0 : Int32).toInt = 0 from rfl)).mp c4) ?_
          refine ok_b (o_isO hM16 wthis.1) ?_
          replace h := ob h; obtain ⟨J20, eJ20, h⟩ := h
          obtain ⟨M20, eM20, hM20⟩ := h_X12_endBy hM16 wthis tp1 tp2 tp3 tp4 eJ20
          refine ok_b eM20 ?_
          obtain ⟨v22, ev22, tv22⟩ := o_rdI (k := 4) hM20 wthis.1
          refine ok_b ev22 ?_
          obtain ⟨v23, ev23, tv23⟩ := o_rdI (k := 5) hM20 wthis.1
          refine ok_b ev23 ?_
          exact o_ri (t_add (t_mul (show (8 : Int32).toInt = 8 from rfl) tv22) tv23) hM20 h

set_option maxHeartbeats 4000000 in
set_option maxRecDepth 100000 in
theorem h_X12_comesTo_L5 {E : Em} {z : Int} (J : Jm)  (x0 : Nat) (wx0 : W12 E x0) (x1 : Int32) (zx1 : Int) (tx1 : x1.toInt = zx1) (x2 : Int32) (zx2 : Int) (tx2 : x2.toInt = zx2) : ∀ (fu : Nat), ∀ (x3 : Int32) (zx3 : Int), x3.toInt = zx3 → ∀ (x4 : Int32) (zx4 : Int), x4.toInt = zx4 → ∀ (M0 : Mm), Mre E M0 J → H_X12_comesTo_L5 x0 zx1 zx2 J fu zx3 zx4 = some z → Ok (F_X12_comesTo_L5 x0 x1 x2 fu x3 x4 M0) (fun q => q.1.toInt = z ∧ Mre E q.2 J) := by
  intro fu
  induction fu with
  | zero =>
    intro x3 zx3 tx3 x4 zx4 tx4 M0 hM0 h
    rw [H_X12_comesTo_L5] at h
    cases h
  | succ n1 ih =>
    intro x3 zx3 tx3 x4 zx4 tx4 M0 hM0 h
    rw [H_X12_comesTo_L5] at h
    rw [F_X12_comesTo_L5]
    by_cases c1 : 4 ≤ zx4
    · replace h := it_t c1 h
      refine ok_t ((c_le (show (4 : Int32).toInt = 4 from rfl) tx4).mpr c1) ?_
      exact o_ri0 tx3 hM0 h
    · replace h := it_f c1 h
      refine ok_f (mt (c_le (show (4 : Int32).toInt = 4 from rfl) tx4).mp c1) ?_
      refine ok_b (o_isO hM0 wx0.1) ?_
      replace h := ob h; obtain ⟨zv5, ezv5, h⟩ := h
      obtain ⟨⟨v5, M3⟩, eM3, tv5, hM3⟩ := h_X12_besideOf hM0 wx0 tx1 tx4 ezv5
      refine ok_b eM3 ?_
      by_cases c2 : zv5 < 0
      · replace h := it_t c2 h
        refine ok_t ((c_lt tv5 (show (0 : Int32).toInt = 0 from rfl)).mpr c2) ?_
        exact ih _ _ tx3 _ _ (t_add tx4 (show (1 : Int32).toInt = 1 from rfl)) _ hM3 h
      · replace h := it_f c2 h
        refine ok_f (mt (c_lt tv5 (show (0 : Int32).toInt = 0 from rfl)).mp c2) ?_
        refine ok_b (o_rdS hM3 wx0.1 (wx0.2.1.1)) ?_
        refine ok_s ?_
        replace h := ob h; obtain ⟨zv8, ezv8, h⟩ := h
        obtain ⟨v8, ev8, tv8⟩ := o_ldI hM3 wx0.2.1.2 rfl (t_add (show (10 : Int32).toInt = 10 from rfl) tv5) ezv8
        refine ok_b ev8 ?_
        by_cases c3 : zx2 < zv8
        · replace h := it_t c3 h
          refine ok_t ((c_lt tx2 tv8).mpr c3) ?_
          replace h := ob h; obtain ⟨zv11, ezv11, h⟩ := h
          obtain ⟨v11, ev11, tv11⟩ := o_rmI tx4 (show (2 : Int32).toInt = 2 from rfl) ezv11
          refine ok_b ev11 ?_
          replace h := jp_e h; obtain ⟨k12h, ek12h, h⟩ := h
          refine ok_jp (fun k12 ek12 => ?_)
          have Jk12 : ∀ (s13 : Int32) (zs13 : Int), s13.toInt = zs13 → ∀ (M14 : Mm), Mre E M14 J → k12h zs13 = some z → Ok (k12 s13 M14) (fun q => q.1.toInt = z ∧ Mre E q.2 J) := by
            intro s13 zs13 ts13 M14 hM14 h
            rw [ek12]
            rw [ek12h] at h
            replace h := nv_e h; obtain ⟨zv15, ezv15, h⟩ := h
            obtain ⟨v15, evv15⟩ : ∃ v : Int32, v = (if 2 ≤ x4 then s13 else (-s13)) := ⟨_, rfl⟩
            have tv15 : v15.toInt = zv15 := by rw [evv15, ezv15]; exact (t_ite (c_le (show (2 : Int32).toInt = 2 from rfl) tx4) ts13 (t_neg ts13))
            refine ok_nv evv15 ?_
            replace h := nv_e h; obtain ⟨zv17, ezv17, h⟩ := h
            obtain ⟨v17, evv17⟩ : ∃ v : Int32, v = (if v15 ≤ 0 then 0 else v15) := ⟨_, rfl⟩
            have tv17 : v17.toInt = zv17 := by rw [evv17, ezv17]; exact (t_ite (c_le tv15 (show (0 : Int32).toInt = 0 from rfl)) (show (0 : Int32).toInt = 0 from rfl) tv15)
            refine ok_nv evv17 ?_
            exact ih _ _ (t_add tx3 tv17) _ _ (t_add tx4 (show (1 : Int32).toInt = 1 from rfl)) _ hM14 h
          by_cases c4 : zv11 = 0
          · replace h := it_t c4 h
            refine ok_t ((c_eq tv11 (show (0 : Int32).toInt = 0 from rfl)).mpr c4) ?_
            refine ok_b (o_rdS hM3 wx0.1 (wx0.2.1.1)) ?_
            refine ok_s ?_
            replace h := ob h; obtain ⟨zv27, ezv27, h⟩ := h
            obtain ⟨v27, ev27, tv27⟩ := o_ldI hM3 wx0.2.1.2 rfl (t_add (t_add (show (890 : Int32).toInt = 890 from rfl) (t_mul (show (4 : Int32).toInt = 4 from rfl) tv5)) tx2) ezv27
            refine ok_b ev27 ?_
            exact Jk12 _ _ tv27 _ hM3 h
          · replace h := it_f c4 h
            refine ok_f (mt (c_eq tv11 (show (0 : Int32).toInt = 0 from rfl)).mp c4) ?_
            refine ok_b (o_rdS hM3 wx0.1 (wx0.2.1.1)) ?_
            refine ok_s ?_
            replace h := ob h; obtain ⟨zv24, ezv24, h⟩ := h
            obtain ⟨v24, ev24, tv24⟩ := o_ldI hM3 wx0.2.1.2 rfl (t_add (t_add (show (1210 : Int32).toInt = 1210 from rfl) (t_mul (show (4 : Int32).toInt = 4 from rfl) tv5)) tx2) ezv24
            refine ok_b ev24 ?_
            exact Jk12 _ _ tv24 _ hM3 h
        · replace h := it_f c3 h
          refine ok_f (mt (c_lt tx2 tv8).mp c3) ?_
          exact ih _ _ tx3 _ _ (t_add tx4 (show (1 : Int32).toInt = 1 from rfl)) _ hM3 h
set_option maxHeartbeats 4000000 in
set_option maxRecDepth 100000 in
theorem h_X12_comesTo {E : Em} {M : Mm} {J : Jm} (hM : Mre E M J) {this : Nat} (wthis : W12 E this) {p1 : Int32} {zp1 : Int} (tp1 : p1.toInt = zp1) {p2 : Int32} {zp2 : Int} (tp2 : p2.toInt = zp2) {z : Int} (h : H_X12_comesTo this zp1 zp2 J = some z) : Ok (F_X12_comesTo this p1 p2 M) (fun q => q.1.toInt = z ∧ Mre E q.2 J) := by
  unfold H_X12_comesTo at h
  unfold F_X12_comesTo
  refine h_X12_comesTo_L5 _  _ wthis _ _ tp1 _ _ tp2 _ _ _ (show (0 : Int32).toInt = 0 from rfl) _ _ (show (0 : Int32).toInt = 0 from rfl) _ hM h

set_option maxHeartbeats 4000000 in
set_option maxRecDepth 100000 in
theorem h_X12_whole_L16 {E : Em} {z : Int} (J : Jm)  (x0 : Nat) (wx0 : W12 E x0) (x1 : Int32) (zx1 : Int) (tx1 : x1.toInt = zx1) : ∀ (fu : Nat), ∀ (x2 : Int32) (zx2 : Int), x2.toInt = zx2 → ∀ (x3 : Int32) (zx3 : Int), x3.toInt = zx3 → ∀ (M0 : Mm), Mre E M0 J → H_X12_whole_L16 x0 zx1 J fu zx2 zx3 = some z → Ok (F_X12_whole_L16 x0 x1 fu x2 x3 M0) (fun q => q.1.toInt = z ∧ Mre E q.2 J) := by
  intro fu
  induction fu with
  | zero =>
    intro x2 zx2 tx2 x3 zx3 tx3 M0 hM0 h
    rw [H_X12_whole_L16] at h
    cases h
  | succ n5 ih =>
    intro x2 zx2 tx2 x3 zx3 tx3 M0 hM0 h
    rw [H_X12_whole_L16] at h
    rw [F_X12_whole_L16]
    by_cases c2 : 80 ≤ zx3
    · replace h := it_t c2 h
      refine ok_t ((c_le (show (80 : Int32).toInt = 80 from rfl) tx3).mpr c2) ?_
      exact o_ri0 tx2 hM0 h
    · replace h := it_f c2 h
      refine ok_f (mt (c_le (show (80 : Int32).toInt = 80 from rfl) tx3).mp c2) ?_
      refine ok_b (o_rdS hM0 wx0.1 (wx0.2.1.1)) ?_
      refine ok_s ?_
      replace h := ob h; obtain ⟨zv8, ezv8, h⟩ := h
      obtain ⟨v8, ev8, tv8⟩ := o_ldI hM0 wx0.2.1.2 rfl (t_add (show (10 : Int32).toInt = 10 from rfl) tx3) ezv8
      refine ok_b ev8 ?_
      by_cases c3 : zv8 ≤ zx1
      · replace h := it_t c3 h
        refine ok_t ((c_le tv8 tx1).mpr c3) ?_
        exact ih _ _ tx2 _ _ (t_add tx3 (show (1 : Int32).toInt = 1 from rfl)) _ hM0 h
      · replace h := it_f c3 h
        refine ok_f (mt (c_le tv8 tx1).mp c3) ?_
        refine ok_b (o_rdS hM0 wx0.1 (wx0.2.1.1)) ?_
        refine ok_s ?_
        replace h := ob h; obtain ⟨zv12, ezv12, h⟩ := h
        obtain ⟨v12, ev12, tv12⟩ := o_ldI hM0 wx0.2.1.2 rfl (t_add (t_add (show (890 : Int32).toInt = 890 from rfl) (t_mul (show (4 : Int32).toInt = 4 from rfl) tx3)) tx1) ezv12
        refine ok_b ev12 ?_
        refine ok_b (o_isO hM0 wx0.1) ?_
        replace h := ob h; obtain ⟨zv16, ezv16, h⟩ := h
        obtain ⟨⟨v16, M14⟩, eM14, tv16, hM14⟩ := h_X12_abs hM0 wx0 tv12 ezv16
        refine ok_b eM14 ?_
        refine ok_b (o_rdS hM14 wx0.1 (wx0.2.1.1)) ?_
        refine ok_s ?_
        replace h := ob h; obtain ⟨zv18, ezv18, h⟩ := h
        obtain ⟨v18, ev18, tv18⟩ := o_ldI hM14 wx0.2.1.2 rfl (t_add (t_add (show (1210 : Int32).toInt = 1210 from rfl) (t_mul (show (4 : Int32).toInt = 4 from rfl) tx3)) tx1) ezv18
        refine ok_b ev18 ?_
        refine ok_b (o_isO hM14 wx0.1) ?_
        replace h := ob h; obtain ⟨zv22, ezv22, h⟩ := h
        obtain ⟨⟨v22, M20⟩, eM20, tv22, hM20⟩ := h_X12_abs hM14 wx0 tv18 ezv22
        refine ok_b eM20 ?_
        refine ok_b (o_isO hM20 wx0.1) ?_
        replace h := ob h; obtain ⟨zv25, ezv25, h⟩ := h
        obtain ⟨⟨v25, M23⟩, eM23, tv25, hM23⟩ := h_X12_comesTo hM20 wx0 tx3 tx1 ezv25
        refine ok_b eM23 ?_
        by_cases c4 : (wr (zv16 + zv22)) = zv25
        · replace h := it_t c4 h
          refine ok_t ((c_eq (t_add tv16 tv22) tv25).mpr c4) ?_
          exact ih _ _ (t_add tx2 (show (1 : Int32).toInt = 1 from rfl)) _ _ (t_add tx3 (show (1 : Int32).toInt = 1 from rfl)) _ hM23 h
        · replace h := it_f c4 h
          refine ok_f (mt (c_eq (t_add tv16 tv22) tv25).mp c4) ?_
          exact ih _ _ tx2 _ _ (t_add tx3 (show (1 : Int32).toInt = 1 from rfl)) _ hM23 h
set_option maxHeartbeats 4000000 in
set_option maxRecDepth 100000 in
theorem h_X12_whole {E : Em} {M : Mm} {J : Jm} (hM : Mre E M J) {this : Nat} (wthis : W12 E this) {p1 : Int32} {zp1 : Int} (tp1 : p1.toInt = zp1) {z : Int} (h : H_X12_whole this zp1 J = some z) : Ok (F_X12_whole this p1 M) (fun q => q.1.toInt = z ∧ Mre E q.2 J) := by
  unfold H_X12_whole at h
  unfold F_X12_whole
  refine ok_b (o_isO hM wthis.1) ?_
  replace h := ob h; obtain ⟨zv3, ezv3, h⟩ := h
  obtain ⟨⟨v3, M1⟩, eM1, tv3, hM1⟩ := h_X12_is hM wthis tp1 (show (0 : Int32).toInt = 0 from rfl) (show (3 : Int32).toInt = 3 from rfl) ezv3
  refine ok_b eM1 ?_
  by_cases c1 : zv3 = 0
  · replace h := it_t c1 h
    refine ok_t ((c_eq tv3 (show (0 : Int32).toInt = 0 from rfl)).mpr c1) ?_
    exact o_ri0 (show ((-1) : Int32).toInt = (-1) from rfl) hM1 h
  · replace h := it_f c1 h
    refine ok_f (mt (c_eq tv3 (show (0 : Int32).toInt = 0 from rfl)).mp c1) ?_
    refine h_X12_whole_L16 _  _ wthis _ _ tp1 _ _ _ (show (0 : Int32).toInt = 0 from rfl) _ _ (show (0 : Int32).toInt = 0 from rfl) _ hM1 h

set_option maxHeartbeats 4000000 in
set_option maxRecDepth 100000 in
theorem h_X12_ship {E : Em} {M : Mm} {J : Jm} (hM : Mre E M J) {this : Nat} (wthis : W12 E this) {p1 : Int32} {zp1 : Int} (tp1 : p1.toInt = zp1) {p2 : Int32} {zp2 : Int} (tp2 : p2.toInt = zp2) {z : Int} {J1 : Jm} (h : H_X12_ship this zp1 zp2 J = some (z, J1)) : Ok (F_X12_ship this p1 p2 M) (fun q => q.1.toInt = z ∧ Mre E q.2 J1) := by
  unfold H_X12_ship at h
  unfold F_X12_ship
  refine ok_b (o_isO hM wthis.1) ?_
  replace h := ob h; obtain ⟨zv3, ezv3, h⟩ := h
  obtain ⟨⟨v3, M1⟩, eM1, tv3, hM1⟩ := h_X12_isCell hM wthis tp1 tp2 ezv3
  refine ok_b eM1 ?_
  by_cases c1 : zv3 = 0
  · replace h := it_t c1 h
    refine ok_t ((c_eq tv3 (show (0 : Int32).toInt = 0 from rfl)).mpr c1) ?_
    exact o_ri (show ((-1) : Int32).toInt = (-1) from rfl) hM1 h
  · replace h := it_f c1 h
    refine ok_f (mt (c_eq tv3 (show (0 : Int32).toInt = 0 from rfl)).mp c1) ?_
    refine ok_b (o_isO hM1 wthis.1) ?_
    replace h := ob h; obtain ⟨zv7, ezv7, h⟩ := h
    obtain ⟨⟨v7, M5⟩, eM5, tv7, hM5⟩ := h_X12_isWater hM1 wthis tp1 tp2 ezv7
    refine ok_b eM5 ?_
    by_cases c2 : zv7 = 0
    · replace h := it_t c2 h
      refine ok_t ((c_eq tv7 (show (0 : Int32).toInt = 0 from rfl)).mpr c2) ?_
      exact o_ri (show ((-3) : Int32).toInt = (-3) from rfl) hM5 h
    · replace h := it_f c2 h
      refine ok_f (mt (c_eq tv7 (show (0 : Int32).toInt = 0 from rfl)).mp c2) ?_
      refine ok_b (o_rdS hM5 wthis.1 (wthis.2.1.1)) ?_
      refine ok_s ?_
      replace h := ob h; obtain ⟨zv10, ezv10, h⟩ := h
      obtain ⟨v10, ev10, tv10⟩ := o_ldI hM5 wthis.2.1.2 rfl (show (6 : Int32).toInt = 6 from rfl) ezv10
      refine ok_b ev10 ?_
      refine ok_b (o_rdS hM5 wthis.1 (wthis.2.1.1)) ?_
      refine ok_s ?_
      replace h := ob h; obtain ⟨J13, eJ13, h⟩ := h
      obtain ⟨M13, eM13, hM13⟩ := o_stI hM5 wthis.2.1.2 rfl (show (6 : Int32).toInt = 6 from rfl) (t_add (t_mul (show (8 : Int32).toInt = 8 from rfl) tp1) tp2) eJ13
      refine ok_b eM13 ?_
      exact o_ri tv10 hM13 h

set_option maxHeartbeats 4000000 in
set_option maxRecDepth 100000 in
theorem h_X12_leftOf {E : Em} {M : Mm} {J : Jm} (hM : Mre E M J) {this : Nat} (wthis : W12 E this) {p1 : Int32} {zp1 : Int} (tp1 : p1.toInt = zp1) {z : Int} (h : H_X12_leftOf this zp1 J = some z) : Ok (F_X12_leftOf this p1 M) (fun q => q.1.toInt = z ∧ Mre E q.2 J) := by
  unfold H_X12_leftOf at h
  unfold F_X12_leftOf
  refine ok_b (o_rdS hM wthis.1 (wthis.2.1.1)) ?_
  refine ok_s ?_
  replace h := ob h; obtain ⟨zv2, ezv2, h⟩ := h
  obtain ⟨v2, ev2, tv2⟩ := o_ldI hM wthis.2.1.2 rfl (t_add (show (2194 : Int32).toInt = 2194 from rfl) tp1) ezv2
  refine ok_b ev2 ?_
  refine ok_b (o_isO hM wthis.1) ?_
  replace h := ob h; obtain ⟨zv6, ezv6, h⟩ := h
  obtain ⟨⟨v6, M4⟩, eM4, tv6, hM4⟩ := h_X12_cost hM wthis tp1 (show (1 : Int32).toInt = 1 from rfl) ezv6
  refine ok_b eM4 ?_
  replace h := ob h; obtain ⟨zv7, ezv7, h⟩ := h
  obtain ⟨v7, ev7, tv7⟩ := o_dvI tv2 tv6 ezv7
  refine ok_b ev7 ?_
  exact o_ri0 tv7 hM4 h

set_option maxHeartbeats 4000000 in
set_option maxRecDepth 100000 in
theorem h_X12_left {E : Em} {M : Mm} {J : Jm} (hM : Mre E M J) {this : Nat} (wthis : W12 E this) {p1 : Int32} {zp1 : Int} (tp1 : p1.toInt = zp1) {z : Int} (h : H_X12_left this zp1 J = some z) : Ok (F_X12_left this p1 M) (fun q => q.1.toInt = z ∧ Mre E q.2 J) := by
  unfold H_X12_left at h
  unfold F_X12_left
  refine ok_b (o_isO hM wthis.1) ?_
  replace h := ob h; obtain ⟨zv3, ezv3, h⟩ := h
  obtain ⟨⟨v3, M1⟩, eM1, tv3, hM1⟩ := h_X12_isGlider hM wthis tp1 ezv3
  refine ok_b eM1 ?_
  by_cases c1 : zv3 = 0
  · replace h := it_t c1 h
    refine ok_t ((c_eq tv3 (show (0 : Int32).toInt = 0 from rfl)).mpr c1) ?_
    exact o_ri0 (show ((-1) : Int32).toInt = (-1) from rfl) hM1 h
  · replace h := it_f c1 h
    refine ok_f (mt (c_eq tv3 (show (0 : Int32).toInt = 0 from rfl)).mp c1) ?_
    refine ok_b (o_isO hM1 wthis.1) ?_
    replace h := ob h; obtain ⟨zv7, ezv7, h⟩ := h
    obtain ⟨⟨v7, M5⟩, eM5, tv7, hM5⟩ := h_X12_isUp hM1 wthis tp1 ezv7
    refine ok_b eM5 ?_
    by_cases c2 : zv7 = 0
    · replace h := it_t c2 h
      refine ok_t ((c_eq tv7 (show (0 : Int32).toInt = 0 from rfl)).mpr c2) ?_
      exact o_ri0 (show ((-3) : Int32).toInt = (-3) from rfl) hM5 h
    · replace h := it_f c2 h
      refine ok_f (mt (c_eq tv7 (show (0 : Int32).toInt = 0 from rfl)).mp c2) ?_
      refine ok_b (o_isO hM5 wthis.1) ?_
      replace h := ob h; obtain ⟨zv11, ezv11, h⟩ := h
      obtain ⟨⟨v11, M9⟩, eM9, tv11, hM9⟩ := h_X12_leftOf hM5 wthis tp1 ezv11
      refine ok_b eM9 ?_
      exact o_ri0 tv11 hM9 h

set_option maxHeartbeats 4000000 in
set_option maxRecDepth 100000 in
theorem h_X12_offShip {E : Em} {M : Mm} {J : Jm} (hM : Mre E M J) {this : Nat} (wthis : W12 E this) {p1 : Int32} {zp1 : Int} (tp1 : p1.toInt = zp1) {z : Int} (h : H_X12_offShip this zp1 J = some z) : Ok (F_X12_offShip this p1 M) (fun q => q.1.toInt = z ∧ Mre E q.2 J) := by
  unfold H_X12_offShip at h
  unfold F_X12_offShip
  refine ok_b (o_rdS hM wthis.1 (wthis.2.1.1)) ?_
  refine ok_s ?_
  replace h := ob h; obtain ⟨zv2, ezv2, h⟩ := h
  obtain ⟨v2, ev2, tv2⟩ := o_ldI hM wthis.2.1.2 rfl (t_add (show (2178 : Int32).toInt = 2178 from rfl) tp1) ezv2
  refine ok_b ev2 ?_
  refine ok_b (o_rdS hM wthis.1 (wthis.2.1.1)) ?_
  refine ok_s ?_
  replace h := ob h; obtain ⟨zv5, ezv5, h⟩ := h
  obtain ⟨v5, ev5, tv5⟩ := o_ldI hM wthis.2.1.2 rfl (show (6 : Int32).toInt = 6 from rfl) ezv5
  refine ok_b ev5 ?_
  replace h := ob h; obtain ⟨zv7, ezv7, h⟩ := h
  obtain ⟨v7, ev7, tv7⟩ := o_dvI tv5 (show (8 : Int32).toInt = 8 from rfl) ezv7
  refine ok_b ev7 ?_
  refine ok_b (o_isO hM wthis.1) ?_
  replace h := ob h; obtain ⟨zv10, ezv10, h⟩ := h
  obtain ⟨⟨v10, M8⟩, eM8, tv10, hM8⟩ := h_X12_abs hM wthis (t_sub tv2 tv7) ezv10
  refine ok_b eM8 ?_
  refine ok_b (o_rdS hM8 wthis.1 (wthis.2.1.1)) ?_
  refine ok_s ?_
  replace h := ob h; obtain ⟨zv12, ezv12, h⟩ := h
  obtain ⟨v12, ev12, tv12⟩ := o_ldI hM8 wthis.2.1.2 rfl (t_add (show (2186 : Int32).toInt = 2186 from rfl) tp1) ezv12
  refine ok_b ev12 ?_
  refine ok_b (o_rdS hM8 wthis.1 (wthis.2.1.1)) ?_
  refine ok_s ?_
  replace h := ob h; obtain ⟨zv15, ezv15, h⟩ := h
  obtain ⟨v15, ev15, tv15⟩ := o_ldI hM8 wthis.2.1.2 rfl (show (6 : Int32).toInt = 6 from rfl) ezv15
  refine ok_b ev15 ?_
  replace h := ob h; obtain ⟨zv17, ezv17, h⟩ := h
  obtain ⟨v17, ev17, tv17⟩ := o_rmI tv15 (show (8 : Int32).toInt = 8 from rfl) ezv17
  refine ok_b ev17 ?_
  refine ok_b (o_isO hM8 wthis.1) ?_
  replace h := ob h; obtain ⟨zv20, ezv20, h⟩ := h
  obtain ⟨⟨v20, M18⟩, eM18, tv20, hM18⟩ := h_X12_abs hM8 wthis (t_sub tv12 tv17) ezv20
  refine ok_b eM18 ?_
  exact o_ri0 (t_add tv10 tv20) hM18 h

set_option maxHeartbeats 4000000 in
set_option maxRecDepth 100000 in
theorem h_X12_next_L5 {E : Em} {z : Int} (J : Jm)  (x0 : Nat) (wx0 : W12 E x0) : ∀ (fu : Nat), ∀ (x1 : Int32) (zx1 : Int), x1.toInt = zx1 → ∀ (x2 : Int32) (zx2 : Int), x2.toInt = zx2 → ∀ (M0 : Mm), Mre E M0 J → H_X12_next_L5 x0 J fu zx1 zx2 = some z → Ok (F_X12_next_L5 x0 fu x1 x2 M0) (fun q => q.1.toInt = z ∧ Mre E q.2 J) := by
  intro fu
  induction fu with
  | zero =>
    intro x1 zx1 tx1 x2 zx2 tx2 M0 hM0 h
    rw [H_X12_next_L5] at h
    cases h
  | succ n1 ih =>
    intro x1 zx1 tx1 x2 zx2 tx2 M0 hM0 h
    rw [H_X12_next_L5] at h
    rw [F_X12_next_L5]
    refine ok_b (o_rdS hM0 wx0.1 (wx0.2.1.1)) ?_
    refine ok_s ?_
    replace h := ob h; obtain ⟨zv3, ezv3, h⟩ := h
    obtain ⟨v3, ev3, tv3⟩ := o_ldI hM0 wx0.2.1.2 rfl (show (0 : Int32).toInt = 0 from rfl) ezv3
    refine ok_b ev3 ?_
    by_cases c1 : zv3 ≤ zx2
    · replace h := it_t c1 h
      refine ok_t ((c_le tv3 tx2).mpr c1) ?_
      exact o_ri0 tx1 hM0 h
    · replace h := it_f c1 h
      refine ok_f (mt (c_le tv3 tx2).mp c1) ?_
      refine ok_b (o_isO hM0 wx0.1) ?_
      replace h := ob h; obtain ⟨zv8, ezv8, h⟩ := h
      obtain ⟨⟨v8, M6⟩, eM6, tv8, hM6⟩ := h_X12_isUp hM0 wx0 tx2 ezv8
      refine ok_b eM6 ?_
      by_cases c2 : zv8 = 0
      · replace h := it_t c2 h
        refine ok_t ((c_eq tv8 (show (0 : Int32).toInt = 0 from rfl)).mpr c2) ?_
        exact ih _ _ tx1 _ _ (t_add tx2 (show (1 : Int32).toInt = 1 from rfl)) _ hM6 h
      · replace h := it_f c2 h
        refine ok_f (mt (c_eq tv8 (show (0 : Int32).toInt = 0 from rfl)).mp c2) ?_
        by_cases c3 : zx1 < 0
        · replace h := it_t c3 h
          refine ok_t ((c_lt tx1 (show (0 : Int32).toInt = 0 from rfl)).mpr c3) ?_
          exact ih _ _ tx2 _ _ (t_add tx2 (show (1 : Int32).toInt = 1 from rfl)) _ hM6 h
        · replace h := it_f c3 h
          refine ok_f (mt (c_lt tx1 (show (0 : Int32).toInt = 0 from rfl)).mp c3) ?_
          refine ok_b (o_isO hM6 wx0.1) ?_
          replace h := ob h; obtain ⟨zv13, ezv13, h⟩ := h
          obtain ⟨⟨v13, M11⟩, eM11, tv13, hM11⟩ := h_X12_leftOf hM6 wx0 tx2 ezv13
          refine ok_b eM11 ?_
          refine ok_b (o_isO hM11 wx0.1) ?_
          replace h := ob h; obtain ⟨zv16, ezv16, h⟩ := h
          obtain ⟨⟨v16, M14⟩, eM14, tv16, hM14⟩ := h_X12_leftOf hM11 wx0 tx1 ezv16
          refine ok_b eM14 ?_
          by_cases c4 : zv13 < zv16
          · replace h := it_t c4 h
            refine ok_t ((c_lt tv13 tv16).mpr c4) ?_
            exact ih _ _ tx2 _ _ (t_add tx2 (show (1 : Int32).toInt = 1 from rfl)) _ hM14 h
          · replace h := it_f c4 h
            refine ok_f (mt (c_lt tv13 tv16).mp c4) ?_
            refine ok_b (o_isO hM14 wx0.1) ?_
            replace h := ob h; obtain ⟨zv20, ezv20, h⟩ := h
            obtain ⟨⟨v20, M18⟩, eM18, tv20, hM18⟩ := h_X12_leftOf hM14 wx0 tx2 ezv20
            refine ok_b eM18 ?_
            refine ok_b (o_isO hM18 wx0.1) ?_
            replace h := ob h; obtain ⟨zv23, ezv23, h⟩ := h
            obtain ⟨⟨v23, M21⟩, eM21, tv23, hM21⟩ := h_X12_leftOf hM18 wx0 tx1 ezv23
            refine ok_b eM21 ?_
            by_cases c5 : zv20 = zv23
            · replace h := it_t c5 h
              refine ok_t ((c_eq tv20 tv23).mpr c5) ?_
              refine ok_b (o_isO hM21 wx0.1) ?_
              replace h := ob h; obtain ⟨zv27, ezv27, h⟩ := h
              obtain ⟨⟨v27, M25⟩, eM25, tv27, hM25⟩ := h_X12_offShip hM21 wx0 tx2 ezv27
              refine ok_b eM25 ?_
              refine ok_b (o_isO hM25 wx0.1) ?_
              replace h := ob h; obtain ⟨zv30, ezv30, h⟩ := h
              obtain ⟨⟨v30, M28⟩, eM28, tv30, hM28⟩ := h_X12_offShip hM25 wx0 tx1 ezv30
              refine ok_b eM28 ?_
              by_cases c6 : zv30 ≤ zv27
              · replace h := it_t c6 h
                refine ok_t ((c_le tv30 tv27).mpr c6) ?_
                exact ih _ _ tx1 _ _ (t_add tx2 (show (1 : Int32).toInt = 1 from rfl)) _ hM28 h
              · replace h := it_f c6 h
                refine ok_f (mt (c_le tv30 tv27).mp c6) ?_
                exact ih _ _ tx2 _ _ (t_add tx2 (show (1 : Int32).toInt = 1 from rfl)) _ hM28 h
            · replace h := it_f c5 h
              refine ok_f (mt (c_eq tv20 tv23).mp c5) ?_
              exact ih _ _ tx1 _ _ (t_add tx2 (show (1 : Int32).toInt = 1 from rfl)) _ hM21 h
set_option maxHeartbeats 4000000 in
set_option maxRecDepth 100000 in
theorem h_X12_next {E : Em} {M : Mm} {J : Jm} (hM : Mre E M J) {this : Nat} (wthis : W12 E this) {z : Int} (h : H_X12_next this J = some z) : Ok (F_X12_next this M) (fun q => q.1.toInt = z ∧ Mre E q.2 J) := by
  unfold H_X12_next at h
  unfold F_X12_next
  refine h_X12_next_L5 _  _ wthis _ _ _ (show ((-4) : Int32).toInt = (-4) from rfl) _ _ (show (0 : Int32).toInt = 0 from rfl) _ hM h

set_option maxHeartbeats 4000000 in
set_option maxRecDepth 100000 in
theorem h_X12_fetch {E : Em} {M : Mm} {J : Jm} (hM : Mre E M J) {this : Nat} (wthis : W12 E this) {p1 : Int32} {zp1 : Int} (tp1 : p1.toInt = zp1) {z : Int} {J1 : Jm} (h : H_X12_fetch this zp1 J = some (z, J1)) : Ok (F_X12_fetch this p1 M) (fun q => q.1.toInt = z ∧ Mre E q.2 J1) := by
  unfold H_X12_fetch at h
  unfold F_X12_fetch
  refine ok_b (o_isO hM wthis.1) ?_
  replace h := ob h; obtain ⟨zv3, ezv3, h⟩ := h
  obtain ⟨⟨v3, M1⟩, eM1, tv3, hM1⟩ := h_X12_isGlider hM wthis tp1 ezv3
  refine ok_b eM1 ?_
  by_cases c1 : zv3 = 0
  · replace h := it_t c1 h
    refine ok_t ((c_eq tv3 (show (0 : Int32).toInt = 0 from rfl)).mpr c1) ?_
    exact o_ri (show ((-1) : Int32).toInt = (-1) from rfl) hM1 h
  · replace h := it_f c1 h
    refine ok_f (mt (c_eq tv3 (show (0 : Int32).toInt = 0 from rfl)).mp c1) ?_
    refine ok_b (o_isO hM1 wthis.1) ?_
    replace h := ob h; obtain ⟨zv7, ezv7, h⟩ := h
    obtain ⟨⟨v7, M5⟩, eM5, tv7, hM5⟩ := h_X12_isUp hM1 wthis tp1 ezv7
    refine ok_b eM5 ?_
    by_cases c2 : zv7 = 0
    · replace h := it_t c2 h
      refine ok_t ((c_eq tv7 (show (0 : Int32).toInt = 0 from rfl)).mpr c2) ?_
      exact o_ri (show ((-3) : Int32).toInt = (-3) from rfl) hM5 h
    · replace h := it_f c2 h
      refine ok_f (mt (c_eq tv7 (show (0 : Int32).toInt = 0 from rfl)).mp c2) ?_
      refine ok_b (o_isO hM5 wthis.1) ?_
      replace h := ob h; obtain ⟨zv11, ezv11, h⟩ := h
      obtain ⟨⟨v11, M9⟩, eM9, tv11, hM9⟩ := h_X12_offShip hM5 wthis tp1 ezv11
      refine ok_b eM9 ?_
      by_cases c3 : zv11 ≤ 3
      · replace h := it_t c3 h
        refine ok_t ((c_le tv11 (show (3 : Int32).toInt = 3 from rfl)).mpr c3) ?_
        refine ok_b (o_rdS hM9 wthis.1 (wthis.2.1.1)) ?_
        refine ok_s ?_
        replace h := ob h; obtain ⟨J14, eJ14, h⟩ := h
        obtain ⟨M14, eM14, hM14⟩ := o_stI hM9 wthis.2.1.2 rfl (t_add (show (2202 : Int32).toInt = 2202 from rfl) tp1) (show (1 : Int32).toInt = 1 from rfl) eJ14
        refine ok_b eM14 ?_
        refine ok_b (o_isO hM14 wthis.1) ?_
        replace h := ob h; obtain ⟨zv18, ezv18, h⟩ := h
        obtain ⟨⟨v18, M16⟩, eM16, tv18, hM16⟩ := h_X12_offShip hM14 wthis tp1 ezv18
        refine ok_b eM16 ?_
        exact o_ri tv18 hM16 h
      · replace h := it_f c3 h
        refine ok_f (mt (c_le tv11 (show (3 : Int32).toInt = 3 from rfl)).mp c3) ?_
        exact o_ri (show ((-3) : Int32).toInt = (-3) from rfl) hM9 h

set_option maxHeartbeats 4000000 in
set_option maxRecDepth 100000 in
theorem h_X12_image_L2 {E : Em} {z : Int} {J1 : Jm}   (x0 : Nat) (wx0 : W12 E x0) : ∀ (fu : Nat), ∀ (x1 : Int32) (zx1 : Int), x1.toInt = zx1 → ∀ (M0 : Mm) (J0 : Jm), Mre E M0 J0 → H_X12_image_L2 x0 fu zx1 J0 = some (z, J1) → Ok (F_X12_image_L2 x0 fu x1 M0) (fun q => q.1.toInt = z ∧ Mre E q.2 J1) := by
  intro fu
  induction fu with
  | zero =>
    intro x1 zx1 tx1 M0 J0 hM0 h
    rw [H_X12_image_L2] at h
    cases h
  | succ n1 ih =>
    intro x1 zx1 tx1 M0 J0 hM0 h
    rw [H_X12_image_L2] at h
    rw [F_X12_image_L2]
    by_cases c1 : 8369 ≤ zx1
    · replace h := it_t c1 h
      refine ok_t ((c_le (show (8369 : Int32).toInt = 8369 from rfl) tx1).mpr c1) ?_
      replace h := nv_e h; obtain ⟨J3, eJ3, h⟩ := h
      obtain ⟨M3, eM3, hM3⟩ := o_wrZ (k := 3) hM0 wx0.1 (show (1 : Int32).toInt = 1 from rfl) (by decide) eJ3
      refine ok_b eM3 ?_
      refine ok_b (o_rdS hM3 wx0.1 (wx0.2.1.1)) ?_
      refine ok_s ?_
      replace h := ob h; obtain ⟨zv5, ezv5, h⟩ := h
      obtain ⟨v5, ev5, tv5⟩ := o_ldI hM3 wx0.2.1.2 rfl (show (1 : Int32).toInt = 1 from rfl) ezv5
      refine ok_b ev5 ?_
      exact o_ri tv5 hM3 h
    · replace h := it_f c1 h
      refine ok_f (mt (c_le (show (8369 : Int32).toInt = 8369 from rfl) tx1).mp c1) ?_
      refine ok_b (o_rdS hM0 wx0.1 (wx0.2.2.1.1)) ?_
      refine ok_b (o_rdS hM0 wx0.1 (wx0.2.1.1)) ?_
      refine ok_s ?_
      replace h := ob h; obtain ⟨zv9, ezv9, h⟩ := h
      obtain ⟨v9, ev9, tv9⟩ := o_ldI hM0 wx0.2.1.2 rfl tx1 ezv9
      refine ok_b ev9 ?_
      refine ok_s ?_
      replace h := ob h; obtain ⟨J11, eJ11, h⟩ := h
      obtain ⟨M11, eM11, hM11⟩ := o_stI hM0 wx0.2.2.1.2 rfl tx1 tv9 eJ11
      refine ok_b eM11 ?_
      exact ih _ _ (t_add tx1 (show (1 : Int32).toInt = 1 from rfl)) _ _ hM11 h
set_option maxHeartbeats 4000000 in
set_option maxRecDepth 100000 in
theorem h_X12_image {E : Em} {M : Mm} {J : Jm} (hM : Mre E M J) {this : Nat} (wthis : W12 E this) {z : Int} {J1 : Jm} (h : H_X12_image this J = some (z, J1)) : Ok (F_X12_image this M) (fun q => q.1.toInt = z ∧ Mre E q.2 J1) := by
  unfold H_X12_image at h
  unfold F_X12_image
  refine h_X12_image_L2   _ wthis _ _ _ (show (0 : Int32).toInt = 0 from rfl) _ _ hM h

set_option maxHeartbeats 4000000 in
set_option maxRecDepth 100000 in
theorem h_X12_restore_L12 {E : Em} {z : Int} {J1 : Jm}   (x0 : Nat) (wx0 : W12 E x0) : ∀ (fu : Nat), ∀ (x1 : Int32) (zx1 : Int), x1.toInt = zx1 → ∀ (M0 : Mm) (J0 : Jm), Mre E M0 J0 → H_X12_restore_L12 x0 fu zx1 J0 = some (z, J1) → Ok (F_X12_restore_L12 x0 fu x1 M0) (fun q => q.1.toInt = z ∧ Mre E q.2 J1) := by
  intro fu
  induction fu with
  | zero =>
    intro x1 zx1 tx1 M0 J0 hM0 h
    rw [H_X12_restore_L12] at h
    cases h
  | succ n3 ih =>
    intro x1 zx1 tx1 M0 J0 hM0 h
    rw [H_X12_restore_L12] at h
    rw [F_X12_restore_L12]
    by_cases c2 : 8369 ≤ zx1
    · replace h := it_t c2 h
      refine ok_t ((c_le (show (8369 : Int32).toInt = 8369 from rfl) tx1).mpr c2) ?_
      refine ok_b (o_rdS hM0 wx0.1 (wx0.2.1.1)) ?_
      refine ok_s ?_
      replace h := ob h; obtain ⟨zv6, ezv6, h⟩ := h
      obtain ⟨v6, ev6, tv6⟩ := o_ldI hM0 wx0.2.1.2 rfl (show (1 : Int32).toInt = 1 from rfl) ezv6
      refine ok_b ev6 ?_
      exact o_ri tv6 hM0 h
    · replace h := it_f c2 h
      refine ok_f (mt (c_le (show (8369 : Int32).toInt = 8369 from rfl) tx1).mp c2) ?_
      refine ok_b (o_rdS hM0 wx0.1 (wx0.2.1.1)) ?_
      refine ok_b (o_rdS hM0 wx0.1 (wx0.2.2.1.1)) ?_
      refine ok_s ?_
      replace h := ob h; obtain ⟨zv10, ezv10, h⟩ := h
      obtain ⟨v10, ev10, tv10⟩ := o_ldI hM0 wx0.2.2.1.2 rfl tx1 ezv10
      refine ok_b ev10 ?_
      refine ok_s ?_
      replace h := ob h; obtain ⟨J12, eJ12, h⟩ := h
      obtain ⟨M12, eM12, hM12⟩ := o_stI hM0 wx0.2.1.2 rfl tx1 tv10 eJ12
      refine ok_b eM12 ?_
      exact ih _ _ (t_add tx1 (show (1 : Int32).toInt = 1 from rfl)) _ _ hM12 h
set_option maxHeartbeats 4000000 in
set_option maxRecDepth 100000 in
theorem h_X12_restore {E : Em} {M : Mm} {J : Jm} (hM : Mre E M J) {this : Nat} (wthis : W12 E this) {z : Int} {J1 : Jm} (h : H_X12_restore this J = some (z, J1)) : Ok (F_X12_restore this M) (fun q => q.1.toInt = z ∧ Mre E q.2 J1) := by
  unfold H_X12_restore at h
  unfold F_X12_restore
  obtain ⟨v1, ev1, tv1⟩ := o_rdI (k := 3) hM wthis.1
  refine ok_b ev1 ?_
  by_cases c1 : (J this 3) = 0
  · replace h := it_t c1 h
    refine ok_t ((c_eq tv1 (show (0 : Int32).toInt = 0 from rfl)).mpr c1) ?_
    exact o_ri (show ((-3) : Int32).toInt = (-3) from rfl) hM h
  · replace h := it_f c1 h
    refine ok_f (mt (c_eq tv1 (show (0 : Int32).toInt = 0 from rfl)).mp c1) ?_
    refine h_X12_restore_L12   _ wthis _ _ _ (show (0 : Int32).toInt = 0 from rfl) _ _ hM h

set_option maxHeartbeats 4000000 in
set_option maxRecDepth 100000 in
theorem h_X12_count_L69 {E : Em} {z : Int} (J : Jm)  (x0 : Nat) (wx0 : W12 E x0) (x1 : Int32) (zx1 : Int) (tx1 : x1.toInt = zx1) : ∀ (fu : Nat), ∀ (x2 : Int32) (zx2 : Int), x2.toInt = zx2 → ∀ (x3 : Int32) (zx3 : Int), x3.toInt = zx3 → ∀ (M0 : Mm), Mre E M0 J → H_X12_count_L69 x0 zx1 J fu zx2 zx3 = some z → Ok (F_X12_count_L69 x0 x1 fu x2 x3 M0) (fun q => q.1.toInt = z ∧ Mre E q.2 J) := by
  intro fu
  induction fu with
  | zero =>
    intro x2 zx2 tx2 x3 zx3 tx3 M0 hM0 h
    rw [H_X12_count_L69] at h
    cases h
  | succ n6 ih =>
    intro x2 zx2 tx2 x3 zx3 tx3 M0 hM0 h
    rw [H_X12_count_L69] at h
    rw [F_X12_count_L69]
    refine ok_b (o_rdS hM0 wx0.1 (wx0.2.1.1)) ?_
    refine ok_s ?_
    replace h := ob h; obtain ⟨zv8, ezv8, h⟩ := h
    obtain ⟨v8, ev8, tv8⟩ := o_ldI hM0 wx0.2.1.2 rfl (show (0 : Int32).toInt = 0 from rfl) ezv8
    refine ok_b ev8 ?_
    by_cases c3 : zv8 ≤ zx3
    · replace h := it_t c3 h
      refine ok_t ((c_le tv8 tx3).mpr c3) ?_
      exact o_ri0 tx2 hM0 h
    · replace h := it_f c3 h
      refine ok_f (mt (c_le tv8 tx3).mp c3) ?_
      refine ok_b (o_rdS hM0 wx0.1 (wx0.2.1.1)) ?_
      refine ok_s ?_
      replace h := ob h; obtain ⟨zv12, ezv12, h⟩ := h
      obtain ⟨v12, ev12, tv12⟩ := o_ldI hM0 wx0.2.1.2 rfl (t_add (show (2202 : Int32).toInt = 2202 from rfl) tx3) ezv12
      refine ok_b ev12 ?_
      replace h := nv_e h; obtain ⟨zv14, ezv14, h⟩ := h
      obtain ⟨v14, evv14⟩ : ∃ v : Int32, v = (if v12 = (x1 - 1) then 1 else 0) := ⟨_, rfl⟩
      have tv14 : v14.toInt = zv14 := by rw [evv14, ezv14]; exact (t_ite (c_eq tv12 (t_sub tx1 (show (1 : Int32).toInt = 1 from rfl))) (show (1 : Int32).toInt = 1 from rfl) (show (0 : Int32).toInt = 0 from rfl))
      refine ok_nv evv14 ?_
      exact ih _ _ (t_add tx2 tv14) _ _ (t_add tx3 (show (1 : Int32).toInt = 1 from rfl)) _ hM0 h
set_option maxHeartbeats 4000000 in
set_option maxRecDepth 100000 in
theorem h_X12_count_L141 {E : Em} {z : Int} (J : Jm)  (x0 : Nat) (wx0 : W12 E x0) : ∀ (fu : Nat), ∀ (x2 : Int32) (zx2 : Int), x2.toInt = zx2 → ∀ (x3 : Int32) (zx3 : Int), x3.toInt = zx3 → ∀ (M0 : Mm), Mre E M0 J → H_X12_count_L141 x0 J fu zx2 zx3 = some z → Ok (F_X12_count_L141 x0 fu x2 x3 M0) (fun q => q.1.toInt = z ∧ Mre E q.2 J) := by
  intro fu
  induction fu with
  | zero =>
    intro x2 zx2 tx2 x3 zx3 tx3 M0 hM0 h
    rw [H_X12_count_L141] at h
    cases h
  | succ n35 ih =>
    intro x2 zx2 tx2 x3 zx3 tx3 M0 hM0 h
    rw [H_X12_count_L141] at h
    rw [F_X12_count_L141]
    by_cases c9 : 80 ≤ zx3
    · replace h := it_t c9 h
      refine ok_t ((c_le (show (80 : Int32).toInt = 80 from rfl) tx3).mpr c9) ?_
      exact o_ri0 tx2 hM0 h
    · replace h := it_f c9 h
      refine ok_f (mt (c_le (show (80 : Int32).toInt = 80 from rfl) tx3).mp c9) ?_
      refine ok_b (o_rdS hM0 wx0.1 (wx0.2.1.1)) ?_
      refine ok_s ?_
      replace h := ob h; obtain ⟨zv38, ezv38, h⟩ := h
      obtain ⟨v38, ev38, tv38⟩ := o_ldI hM0 wx0.2.1.2 rfl (t_add (show (170 : Int32).toInt = 170 from rfl) tx3) ezv38
      refine ok_b ev38 ?_
      exact ih _ _ (t_add tx2 tv38) _ _ (t_add tx3 (show (1 : Int32).toInt = 1 from rfl)) _ hM0 h
set_option maxHeartbeats 4000000 in
set_option maxRecDepth 100000 in
theorem h_X12_count_L177 {E : Em} {z : Int} (J : Jm)  (x0 : Nat) (wx0 : W12 E x0) : ∀ (fu : Nat), ∀ (x2 : Int32) (zx2 : Int), x2.toInt = zx2 → ∀ (x3 : Int32) (zx3 : Int), x3.toInt = zx3 → ∀ (M0 : Mm), Mre E M0 J → H_X12_count_L177 x0 J fu zx2 zx3 = some z → Ok (F_X12_count_L177 x0 fu x2 x3 M0) (fun q => q.1.toInt = z ∧ Mre E q.2 J) := by
  intro fu
  induction fu with
  | zero =>
    intro x2 zx2 tx2 x3 zx3 tx3 M0 hM0 h
    rw [H_X12_count_L177] at h
    cases h
  | succ n45 ih =>
    intro x2 zx2 tx2 x3 zx3 tx3 M0 hM0 h
    rw [H_X12_count_L177] at h
    rw [F_X12_count_L177]
    refine ok_b (o_rdS hM0 wx0.1 (wx0.2.1.1)) ?_
    refine ok_s ?_
    replace h := ob h; obtain ⟨zv47, ezv47, h⟩ := h
    obtain ⟨v47, ev47, tv47⟩ := o_ldI hM0 wx0.2.1.2 rfl (show (0 : Int32).toInt = 0 from rfl) ezv47
    refine ok_b ev47 ?_
    by_cases c12 : zv47 ≤ zx3
    · replace h := it_t c12 h
      refine ok_t ((c_le tv47 tx3).mpr c12) ?_
      exact o_ri0 tx2 hM0 h
    · replace h := it_f c12 h
      refine ok_f (mt (c_le tv47 tx3).mp c12) ?_
      refine ok_b (o_rdS hM0 wx0.1 (wx0.2.1.1)) ?_
      refine ok_s ?_
      replace h := ob h; obtain ⟨zv51, ezv51, h⟩ := h
      obtain ⟨v51, ev51, tv51⟩ := o_ldI hM0 wx0.2.1.2 rfl (t_add (show (2194 : Int32).toInt = 2194 from rfl) tx3) ezv51
      refine ok_b ev51 ?_
      exact ih _ _ (t_add tx2 tv51) _ _ (t_add tx3 (show (1 : Int32).toInt = 1 from rfl)) _ hM0 h
set_option maxHeartbeats 4000000 in
set_option maxRecDepth 100000 in
theorem h_X12_count {E : Em} {M : Mm} {J : Jm} (hM : Mre E M J) {this : Nat} (wthis : W12 E this) {p1 : Int32} {zp1 : Int} (tp1 : p1.toInt = zp1) {z : Int} (h : H_X12_count this zp1 J = some z) : Ok (F_X12_count this p1 M) (fun q => q.1.toInt = z ∧ Mre E q.2 J) := by
  unfold H_X12_count at h
  unfold F_X12_count
  by_cases c1 : zp1 = 0
  · replace h := it_t c1 h
    refine ok_t ((c_eq tp1 (show (0 : Int32).toInt = 0 from rfl)).mpr c1) ?_
    refine ok_b (o_rdS hM wthis.1 (wthis.2.1.1)) ?_
    refine ok_s ?_
    replace h := ob h; obtain ⟨zv3, ezv3, h⟩ := h
    obtain ⟨v3, ev3, tv3⟩ := o_ldI hM wthis.2.1.2 rfl (show (0 : Int32).toInt = 0 from rfl) ezv3
    refine ok_b ev3 ?_
    exact o_ri0 tv3 hM h
  · replace h := it_f c1 h
    refine ok_f (mt (c_eq tp1 (show (0 : Int32).toInt = 0 from rfl)).mp c1) ?_
    by_cases c2 : zp1 = 1 ∨ zp1 = 2 ∨ zp1 = 3
    · replace h := it_t c2 h
      refine ok_t ((c_or (c_eq tp1 (show (1 : Int32).toInt = 1 from rfl)) (c_or (c_eq tp1 (show (2 : Int32).toInt = 2 from rfl)) (c_eq tp1 (show (3 : Int32).toInt = 3 from rfl)))).mpr c2) ?_
      refine h_X12_count_L69 _  _ wthis _ _ tp1 _ _ _ (show (0 : Int32).toInt = 0 from rfl) _ _ (show (0 : Int32).toInt = 0 from rfl) _ hM h
    · replace h := it_f c2 h
      refine ok_f (mt (c_or (c_eq tp1 (show (1 : Int32).toInt = 1 from rfl)) (c_or (c_eq tp1 (show (2 : Int32).toInt = 2 from rfl)) (c_eq tp1 (show (3 : Int32).toInt = 3 from rfl)))).mp c2) ?_
      by_cases c4 : zp1 = 4
      · replace h := it_t c4 h
        refine ok_t ((c_eq tp1 (show (4 : Int32).toInt = 4 from rfl)).mpr c4) ?_
        refine ok_b (o_rdS hM wthis.1 (wthis.2.1.1)) ?_
        refine ok_s ?_
        replace h := ob h; obtain ⟨zv20, ezv20, h⟩ := h
        obtain ⟨v20, ev20, tv20⟩ := o_ldI hM wthis.2.1.2 rfl (show (1 : Int32).toInt = 1 from rfl) ezv20
        refine ok_b ev20 ?_
        exact o_ri0 tv20 hM h
      · replace h := it_f c4 h
        refine ok_f (mt (c_eq tp1 (show (4 : Int32).toInt = 4 from rfl)).mp c4) ?_
        by_cases c5 : zp1 = 5
        · replace h := it_t c5 h
          refine ok_t ((c_eq tp1 (show (5 : Int32).toInt = 5 from rfl)).mpr c5) ?_
          refine ok_b (o_rdS hM wthis.1 (wthis.2.1.1)) ?_
          refine ok_s ?_
          replace h := ob h; obtain ⟨zv24, ezv24, h⟩ := h
          obtain ⟨v24, ev24, tv24⟩ := o_ldI hM wthis.2.1.2 rfl (show (2 : Int32).toInt = 2 from rfl) ezv24
          refine ok_b ev24 ?_
          exact o_ri0 tv24 hM h
        · replace h := it_f c5 h
          refine ok_f (mt (c_eq tp1 (show (5 : Int32).toInt = 5 from rfl)).mp c5) ?_
          by_cases c6 : zp1 = 6
          · replace h := it_t c6 h
            refine ok_t ((c_eq tp1 (show (6 : Int32).toInt = 6 from rfl)).mpr c6) ?_
            refine ok_b (o_rdS hM wthis.1 (wthis.2.1.1)) ?_
            refine ok_s ?_
            replace h := ob h; obtain ⟨zv28, ezv28, h⟩ := h
            obtain ⟨v28, ev28, tv28⟩ := o_ldI hM wthis.2.1.2 rfl (show (3 : Int32).toInt = 3 from rfl) ezv28
            refine ok_b ev28 ?_
            exact o_ri0 tv28 hM h
          · replace h := it_f c6 h
            refine ok_f (mt (c_eq tp1 (show (6 : Int32).toInt = 6 from rfl)).mp c6) ?_
            by_cases c7 : zp1 = 7
            · replace h := it_t c7 h
              refine ok_t ((c_eq tp1 (show (7 : Int32).toInt = 7 from rfl)).mpr c7) ?_
              refine ok_b (o_rdS hM wthis.1 (wthis.2.1.1)) ?_
              refine ok_s ?_
              replace h := ob h; obtain ⟨zv32, ezv32, h⟩ := h
              obtain ⟨v32, ev32, tv32⟩ := o_ldI hM wthis.2.1.2 rfl (show (4 : Int32).toInt = 4 from rfl) ezv32
              refine ok_b ev32 ?_
              exact o_ri0 tv32 hM h
            · replace h := it_f c7 h
              refine ok_f (mt (c_eq tp1 (show (7 : Int32).toInt = 7 from rfl)).mp c7) ?_
              by_cases c8 : zp1 = 8
              · replace h := it_t c8 h
                refine ok_t ((c_eq tp1 (show (8 : Int32).toInt = 8 from rfl)).mpr c8) ?_
                refine h_X12_count_L141 _  _ wthis _ _ _ (show (0 : Int32).toInt = 0 from rfl) _ _ (show (0 : Int32).toInt = 0 from rfl) _ hM h
              · replace h := it_f c8 h
                refine ok_f (mt (c_eq tp1 (show (8 : Int32).toInt = 8 from rfl)).mp c8) ?_
                by_cases c10 : zp1 = 9
                · replace h := it_t c10 h
                  refine ok_t ((c_eq tp1 (show (9 : Int32).toInt = 9 from rfl)).mpr c10) ?_
                  refine ok_b (o_rdS hM wthis.1 (wthis.2.1.1)) ?_
                  refine ok_s ?_
                  replace h := ob h; obtain ⟨zv42, ezv42, h⟩ := h
                  obtain ⟨v42, ev42, tv42⟩ := o_ldI hM wthis.2.1.2 rfl (show (5 : Int32).toInt = 5 from rfl) ezv42
                  refine ok_b ev42 ?_
                  exact o_ri0 tv42 hM h
                · replace h := it_f c10 h
                  refine ok_f (mt (c_eq tp1 (show (9 : Int32).toInt = 9 from rfl)).mp c10) ?_
                  by_cases c11 : zp1 = 10
                  · replace h := it_t c11 h
                    refine ok_t ((c_eq tp1 (show (10 : Int32).toInt = 10 from rfl)).mpr c11) ?_
                    refine h_X12_count_L177 _  _ wthis _ _ _ (show (0 : Int32).toInt = 0 from rfl) _ _ (show (0 : Int32).toInt = 0 from rfl) _ hM h
                  · replace h := it_f c11 h
                    refine ok_f (mt (c_eq tp1 (show (10 : Int32).toInt = 10 from rfl)).mp c11) ?_
                    exact o_ri0 (show ((-1) : Int32).toInt = (-1) from rfl) hM h

set_option maxHeartbeats 4000000 in
set_option maxRecDepth 100000 in
theorem h_X12_isShelf {E : Em} {M : Mm} {J : Jm} (hM : Mre E M J) {this : Nat} (wthis : W12 E this) {p1 : Int32} {zp1 : Int} (tp1 : p1.toInt = zp1) {z : Int} (h : H_X12_isShelf this zp1 = some z) : Ok (F_X12_isShelf this p1 M) (fun q => q.1.toInt = z ∧ Mre E q.2 J) := by
  unfold H_X12_isShelf at h
  unfold F_X12_isShelf
  refine ok_b (o_isO hM wthis.1) ?_
  replace h := ob h; obtain ⟨zv3, ezv3, h⟩ := h
  obtain ⟨⟨v3, M1⟩, eM1, tv3, hM1⟩ := h_X12_is hM wthis tp1 (show (0 : Int32).toInt = 0 from rfl) (show (7 : Int32).toInt = 7 from rfl) ezv3
  refine ok_b eM1 ?_
  replace h := ob h; obtain ⟨_, hz1, h⟩ := h
  refine ok_b (o_ckZ tv3 (jZ_e hz1)) ?_
  exact o_ri0 tv3 hM1 h

set_option maxHeartbeats 4000000 in
set_option maxRecDepth 100000 in
theorem h_X12_keep {E : Em} {M : Mm} {J : Jm} (hM : Mre E M J) {this : Nat} (wthis : W12 E this) {p1 : Int32} {zp1 : Int} (tp1 : p1.toInt = zp1) {p2 : Int32} {zp2 : Int} (tp2 : p2.toInt = zp2) {p3 : Int32} {zp3 : Int} (tp3 : p3.toInt = zp3) {z : Int} {J1 : Jm} (h : H_X12_keep this zp1 zp2 zp3 J = some (z, J1)) : Ok (F_X12_keep this p1 p2 p3 M) (fun q => q.1.toInt = z ∧ Mre E q.2 J1) := by
  unfold H_X12_keep at h
  unfold F_X12_keep
  refine ok_b (o_isO hM wthis.1) ?_
  replace h := ob h; obtain ⟨zv3, ezv3, h⟩ := h
  obtain ⟨⟨v3, M1⟩, eM1, tv3, hM1⟩ := h_X12_isShelf hM wthis tp1 ezv3
  refine ok_b eM1 ?_
  by_cases c1 : zv3 = 0
  · replace h := it_t c1 h
    refine ok_t ((c_eq tv3 (show (0 : Int32).toInt = 0 from rfl)).mpr c1) ?_
    exact o_ri (show ((-1) : Int32).toInt = (-1) from rfl) hM1 h
  · replace h := it_f c1 h
    refine ok_f (mt (c_eq tv3 (show (0 : Int32).toInt = 0 from rfl)).mp c1) ?_
    refine ok_b (o_isO hM1 wthis.1) ?_
    replace h := ob h; obtain ⟨zv7, ezv7, h⟩ := h
    obtain ⟨⟨v7, M5⟩, eM5, tv7, hM5⟩ := h_X12_is hM1 wthis tp2 (show (0 : Int32).toInt = 0 from rfl) (show (1 : Int32).toInt = 1 from rfl) ezv7
    refine ok_b eM5 ?_
    by_cases c2 : zv7 = 0
    · replace h := it_t c2 h
      refine ok_t ((c_eq tv7 (show (0 : Int32).toInt = 0 from rfl)).mpr c2) ?_
      exact o_ri (show ((-1) : Int32).toInt = (-1) from rfl) hM5 h
    · replace h := it_f c2 h
      refine ok_f (mt (c_eq tv7 (show (0 : Int32).toInt = 0 from rfl)).mp c2) ?_
      replace h := jp_e h; obtain ⟨k9h, ek9h, h⟩ := h
      refine ok_jp (fun k9 ek9 => ?_)
      have Jk9 : ∀ (M10 : Mm) (J10 : Jm), Mre E M10 J10 → k9h J10 = some (z, J1) → Ok (k9 M10) (fun q => q.1.toInt = z ∧ Mre E q.2 J1) := by
        intro M10 J10 hM10 h
        rw [ek9]
        rw [ek9h] at h
        refine ok_b (o_rdS hM10 wthis.1 (wthis.2.2.2.2.2.2.2.2.2.1.1)) ?_
        refine ok_s ?_
        replace h := ob h; obtain ⟨J12, eJ12, h⟩ := h
        obtain ⟨M12, eM12, hM12⟩ := o_stI hM10 wthis.2.2.2.2.2.2.2.2.2.1.2 rfl tp1 tp2 eJ12
        refine ok_b eM12 ?_
        by_cases c3 : zp2 = 1
        · replace h := it_t c3 h
          refine ok_t ((c_eq tp2 (show (1 : Int32).toInt = 1 from rfl)).mpr c3) ?_
          refine ok_b (o_rdS hM12 wthis.1 (wthis.2.2.2.2.2.2.2.2.2.2.1.1)) ?_
          refine ok_b (o_rdS hM12 wthis.1 (wthis.2.1.1)) ?_
          refine ok_s ?_
          replace h := ob h; obtain ⟨zv17, ezv17, h⟩ := h
          obtain ⟨v17, ev17, tv17⟩ := o_ldI hM12 wthis.2.1.2 rfl (t_add (show (2170 : Int32).toInt = 2170 from rfl) tp3) ezv17
          refine ok_b ev17 ?_
          refine ok_s ?_
          replace h := ob h; obtain ⟨J19, eJ19, h⟩ := h
          obtain ⟨M19, eM19, hM19⟩ := o_stI hM12 wthis.2.2.2.2.2.2.2.2.2.2.1.2 rfl tp1 tv17 eJ19
          refine ok_b eM19 ?_
          refine ok_b (o_rdS hM19 wthis.1 (wthis.2.2.2.2.2.2.2.2.2.2.2.1.1)) ?_
          refine ok_b (o_rdS hM19 wthis.1 (wthis.2.1.1)) ?_
          refine ok_s ?_
          replace h := ob h; obtain ⟨zv23, ezv23, h⟩ := h
          obtain ⟨v23, ev23, tv23⟩ := o_ldI hM19 wthis.2.1.2 rfl (t_add (show (2178 : Int32).toInt = 2178 from rfl) tp3) ezv23
          refine ok_b ev23 ?_
          refine ok_b (o_rdS hM19 wthis.1 (wthis.2.1.1)) ?_
          refine ok_s ?_
          replace h := ob h; obtain ⟨zv26, ezv26, h⟩ := h
          obtain ⟨v26, ev26, tv26⟩ := o_ldI hM19 wthis.2.1.2 rfl (t_add (show (2186 : Int32).toInt = 2186 from rfl) tp3) ezv26
          refine ok_b ev26 ?_
          refine ok_s ?_
          replace h := ob h; obtain ⟨J28, eJ28, h⟩ := h
          obtain ⟨M28, eM28, hM28⟩ := o_stI hM19 wthis.2.2.2.2.2.2.2.2.2.2.2.1.2 rfl tp1 (t_add (t_mul (show (8 : Int32).toInt = 8 from rfl) tv23) tv26) eJ28
          refine ok_b eM28 ?_
          refine ok_b (o_rdS hM28 wthis.1 (wthis.2.2.2.2.2.2.2.2.2.2.2.2.1.1)) ?_
          refine ok_b (o_rdS hM28 wthis.1 (wthis.2.1.1)) ?_
          refine ok_s ?_
          replace h := ob h; obtain ⟨zv32, ezv32, h⟩ := h
          obtain ⟨v32, ev32, tv32⟩ := o_ldI hM28 wthis.2.1.2 rfl (t_add (show (2194 : Int32).toInt = 2194 from rfl) tp3) ezv32
          refine ok_b ev32 ?_
          refine ok_s ?_
          replace h := ob h; obtain ⟨J34, eJ34, h⟩ := h
          obtain ⟨M34, eM34, hM34⟩ := o_stI hM28 wthis.2.2.2.2.2.2.2.2.2.2.2.2.1.2 rfl tp1 tv32 eJ34
          refine ok_b eM34 ?_
          refine ok_b (o_rdS hM34 wthis.1 (wthis.2.2.2.2.2.2.2.2.2.2.2.2.2.1.1)) ?_
          refine ok_b (o_rdS hM34 wthis.1 (wthis.2.1.1)) ?_
          refine ok_s ?_
          replace h := ob h; obtain ⟨zv38, ezv38, h⟩ := h
          obtain ⟨v38, ev38, tv38⟩ := o_ldI hM34 wthis.2.1.2 rfl (t_add (show (2202 : Int32).toInt = 2202 from rfl) tp3) ezv38
          refine ok_b ev38 ?_
          refine ok_s ?_
          replace h := ob h; obtain ⟨J40, eJ40, h⟩ := h
          obtain ⟨M40, eM40, hM40⟩ := o_stI hM34 wthis.2.2.2.2.2.2.2.2.2.2.2.2.2.1.2 rfl tp1 tv38 eJ40
          refine ok_b eM40 ?_
          exact o_ri (show (0 : Int32).toInt = 0 from rfl) hM40 h
        · replace h := it_f c3 h
          refine ok_f (mt (c_eq tp2 (show (1 : Int32).toInt = 1 from rfl)).mp c3) ?_
          exact o_ri (show (0 : Int32).toInt = 0 from rfl) hM12 h
      by_cases c4 : zp2 = 1
      · replace h := it_t c4 h
        refine ok_t ((c_eq tp2 (show (1 : Int32).toInt = 1 from rfl)).mpr c4) ?_
        refine ok_b (o_isO hM5 wthis.1) ?_
        replace h := ob h; obtain ⟨zv46, ezv46, h⟩ := h
        obtain ⟨⟨v46, M44⟩, eM44, tv46, hM44⟩ := h_X12_isGlider hM5 wthis tp3 ezv46
        refine ok_b eM44 ?_
        by_cases c5 : zv46 = 0
        · replace h := it_t c5 h
          refine ok_t ((c_eq tv46 (show (0 : Int32).toInt = 0 from rfl)).mpr c5) ?_
          exact o_ri (show ((-1) : Int32).toInt = (-1) from rfl) hM44 h
        · replace h := it_f c5 h
          refine ok_f (mt (c_eq tv46 (show (0 : Int32).toInt = 0 from rfl)).mp c5) ?_
          exact Jk9 _ _ hM44 h
      · replace h := it_f c4 h
        refine ok_f (mt (c_eq tp2 (show (1 : Int32).toInt = 1 from rfl)).mp c4) ?_
        exact Jk9 _ _ hM5 h

set_option maxHeartbeats 4000000 in
set_option maxRecDepth 100000 in
theorem h_X12_row_L57 {E : Em} {z : Int} {J1 : Jm}   (x0 : Nat) (wx0 : W12 E x0) (x1 : Int32) (zx1 : Int) (tx1 : x1.toInt = zx1) : ∀ (fu : Nat), ∀ (x4 : Int32) (zx4 : Int), x4.toInt = zx4 → ∀ (M0 : Mm) (J0 : Jm), Mre E M0 J0 → H_X12_row_L57 x0 zx1 fu zx4 J0 = some (z, J1) → Ok (F_X12_row_L57 x0 x1 fu x4 M0) (fun q => q.1.toInt = z ∧ Mre E q.2 J1) := by
  intro fu
  induction fu with
  | zero =>
    intro x4 zx4 tx4 M0 J0 hM0 h
    rw [H_X12_row_L57] at h
    cases h
  | succ n20 ih =>
    intro x4 zx4 tx4 M0 J0 hM0 h
    rw [H_X12_row_L57] at h
    rw [F_X12_row_L57]
    by_cases c5 : 80 ≤ zx4
    · replace h := it_t c5 h
      refine ok_t ((c_le (show (80 : Int32).toInt = 80 from rfl) tx4).mpr c5) ?_
      exact o_ri (show (0 : Int32).toInt = 0 from rfl) hM0 h
    · replace h := it_f c5 h
      refine ok_f (mt (c_le (show (80 : Int32).toInt = 80 from rfl) tx4).mp c5) ?_
      refine ok_b (o_rdS hM0 wx0.1 (wx0.2.2.2.2.2.2.2.2.2.2.2.2.2.2.2.2.1.1)) ?_
      refine ok_s ?_
      replace h := ob h; obtain ⟨J23, eJ23, h⟩ := h
      obtain ⟨M23, eM23, hM23⟩ := o_stI hM0 wx0.2.2.2.2.2.2.2.2.2.2.2.2.2.2.2.2.1.2 rfl (t_add (t_mul (show (80 : Int32).toInt = 80 from rfl) tx1) tx4) (show (0 : Int32).toInt = 0 from rfl) eJ23
      refine ok_b eM23 ?_
      exact ih _ _ (t_add tx4 (show (1 : Int32).toInt = 1 from rfl)) _ _ hM23 h
set_option maxHeartbeats 4000000 in
set_option maxRecDepth 100000 in
theorem h_X12_row {E : Em} {M : Mm} {J : Jm} (hM : Mre E M J) {this : Nat} (wthis : W12 E this) {p1 : Int32} {zp1 : Int} (tp1 : p1.toInt = zp1) {p2 : Int32} {zp2 : Int} (tp2 : p2.toInt = zp2) {p3 : Int32} {zp3 : Int} (tp3 : p3.toInt = zp3) {z : Int} {J1 : Jm} (h : H_X12_row this zp1 zp2 zp3 J = some (z, J1)) : Ok (F_X12_row this p1 p2 p3 M) (fun q => q.1.toInt = z ∧ Mre E q.2 J1) := by
  unfold H_X12_row at h
  unfold F_X12_row
  refine ok_b (o_isO hM wthis.1) ?_
  replace h := ob h; obtain ⟨zv3, ezv3, h⟩ := h
  obtain ⟨⟨v3, M1⟩, eM1, tv3, hM1⟩ := h_X12_isShelf hM wthis tp1 ezv3
  refine ok_b eM1 ?_
  by_cases c1 : zv3 = 0
  · replace h := it_t c1 h
    refine ok_t ((c_eq tv3 (show (0 : Int32).toInt = 0 from rfl)).mpr c1) ?_
    exact o_ri (show ((-1) : Int32).toInt = (-1) from rfl) hM1 h
  · replace h := it_f c1 h
    refine ok_f (mt (c_eq tv3 (show (0 : Int32).toInt = 0 from rfl)).mp c1) ?_
    refine ok_b (o_isO hM1 wthis.1) ?_
    replace h := ob h; obtain ⟨zv7, ezv7, h⟩ := h
    obtain ⟨⟨v7, M5⟩, eM5, tv7, hM5⟩ := h_X12_is hM1 wthis tp2 (show (0 : Int32).toInt = 0 from rfl) (show (2 : Int32).toInt = 2 from rfl) ezv7
    refine ok_b eM5 ?_
    by_cases c2 : zv7 = 0
    · replace h := it_t c2 h
      refine ok_t ((c_eq tv7 (show (0 : Int32).toInt = 0 from rfl)).mpr c2) ?_
      exact o_ri (show ((-1) : Int32).toInt = (-1) from rfl) hM5 h
    · replace h := it_f c2 h
      refine ok_f (mt (c_eq tv7 (show (0 : Int32).toInt = 0 from rfl)).mp c2) ?_
      by_cases c3 : zp3 ≤ 80
      · replace h := it_t c3 h
        refine ok_t ((c_le tp3 (show (80 : Int32).toInt = 80 from rfl)).mpr c3) ?_
        by_cases c4 : 0 ≤ zp3
        · replace h := it_t c4 h
          refine ok_t ((c_le (show (0 : Int32).toInt = 0 from rfl) tp3).mpr c4) ?_
          refine ok_b (o_rdS hM5 wthis.1 (wthis.2.2.2.2.2.2.2.2.2.1.1)) ?_
          refine ok_s ?_
          replace h := ob h; obtain ⟨J12, eJ12, h⟩ := h
          obtain ⟨M12, eM12, hM12⟩ := o_stI hM5 wthis.2.2.2.2.2.2.2.2.2.1.2 rfl tp1 (show (2 : Int32).toInt = 2 from rfl) eJ12
          refine ok_b eM12 ?_
          refine ok_b (o_rdS hM12 wthis.1 (wthis.2.2.2.2.2.2.2.2.2.2.2.2.2.2.1.1)) ?_
          refine ok_s ?_
          replace h := ob h; obtain ⟨J15, eJ15, h⟩ := h
          obtain ⟨M15, eM15, hM15⟩ := o_stI hM12 wthis.2.2.2.2.2.2.2.2.2.2.2.2.2.2.1.2 rfl tp1 tp2 eJ15
          refine ok_b eM15 ?_
          refine ok_b (o_rdS hM15 wthis.1 (wthis.2.2.2.2.2.2.2.2.2.2.2.2.2.2.2.1.1)) ?_
          refine ok_s ?_
          replace h := ob h; obtain ⟨J18, eJ18, h⟩ := h
          obtain ⟨M18, eM18, hM18⟩ := o_stI hM15 wthis.2.2.2.2.2.2.2.2.2.2.2.2.2.2.2.1.2 rfl tp1 tp3 eJ18
          refine ok_b eM18 ?_
          refine h_X12_row_L57   _ wthis _ _ tp1 _ _ _ (show (0 : Int32).toInt = 0 from rfl) _ _ hM18 h
        · replace h := it_f c4 h
          refine ok_f (mt (c_le (show (0 : Int32).toInt = 0 from rfl) tp3).mp c4) ?_
          exact o_ri (show ((-14) : Int32).toInt = (-14) from rfl) hM5 h
      · replace h := it_f c3 h
        refine ok_f (mt (c_le tp3 (show (80 : Int32).toInt = 80 from rfl)).mp c3) ?_
        exact o_ri (show ((-1) : Int32).toInt = (-1) from rfl) hM5 h

set_option maxHeartbeats 4000000 in
set_option maxRecDepth 100000 in
theorem h_X12_narrow {E : Em} {M : Mm} {J : Jm} (hM : Mre E M J) {this : Nat} (wthis : W12 E this) {p1 : Int32} {zp1 : Int} (tp1 : p1.toInt = zp1) {p2 : Int32} {zp2 : Int} (tp2 : p2.toInt = zp2) {z : Int} (h : H_X12_narrow this zp1 zp2 = some z) : Ok (F_X12_narrow this p1 p2 M) (fun q => q.1.toInt = z ∧ Mre E q.2 J) := by
  unfold H_X12_narrow at h
  unfold F_X12_narrow
  by_cases c1 : zp1 = 0
  · replace h := it_t c1 h
    refine ok_t ((c_eq tp1 (show (0 : Int32).toInt = 0 from rfl)).mpr c1) ?_
    exact o_ri0 (t_b8 tp2) hM h
  · replace h := it_f c1 h
    refine ok_f (mt (c_eq tp1 (show (0 : Int32).toInt = 0 from rfl)).mp c1) ?_
    by_cases c2 : zp1 = 1
    · replace h := it_t c2 h
      refine ok_t ((c_eq tp1 (show (1 : Int32).toInt = 1 from rfl)).mpr c2) ?_
      exact o_ri0 (t_s16 tp2) hM h
    · replace h := it_f c2 h
      refine ok_f (mt (c_eq tp1 (show (1 : Int32).toInt = 1 from rfl)).mp c2) ?_
      exact o_ri0 tp2 hM h

set_option maxHeartbeats 4000000 in
set_option maxRecDepth 100000 in
theorem h_X12_put {E : Em} {M : Mm} {J : Jm} (hM : Mre E M J) {this : Nat} (wthis : W12 E this) {p1 : Int32} {zp1 : Int} (tp1 : p1.toInt = zp1) {p2 : Int32} {zp2 : Int} (tp2 : p2.toInt = zp2) {p3 : Int32} {zp3 : Int} (tp3 : p3.toInt = zp3) {z : Int} {J1 : Jm} (h : H_X12_put this zp1 zp2 zp3 J = some (z, J1)) : Ok (F_X12_put this p1 p2 p3 M) (fun q => q.1.toInt = z ∧ Mre E q.2 J1) := by
  unfold H_X12_put at h
  unfold F_X12_put
  refine ok_b (o_isO hM wthis.1) ?_
  replace h := ob h; obtain ⟨zv3, ezv3, h⟩ := h
  obtain ⟨⟨v3, M1⟩, eM1, tv3, hM1⟩ := h_X12_isShelf hM wthis tp1 ezv3
  refine ok_b eM1 ?_
  by_cases c1 : zv3 = 0
  · replace h := it_t c1 h
    refine ok_t ((c_eq tv3 (show (0 : Int32).toInt = 0 from rfl)).mpr c1) ?_
    exact o_ri (show ((-1) : Int32).toInt = (-1) from rfl) hM1 h
  · replace h := it_f c1 h
    refine ok_f (mt (c_eq tv3 (show (0 : Int32).toInt = 0 from rfl)).mp c1) ?_
    refine ok_b (o_rdS hM1 wthis.1 (wthis.2.2.2.2.2.2.2.2.2.1.1)) ?_
    refine ok_s ?_
    replace h := ob h; obtain ⟨zv6, ezv6, h⟩ := h
    obtain ⟨v6, ev6, tv6⟩ := o_ldI hM1 wthis.2.2.2.2.2.2.2.2.2.1.2 rfl tp1 ezv6
    refine ok_b ev6 ?_
    by_cases c2 : zv6 = 0
    · replace h := it_t c2 h
      refine ok_t ((c_eq tv6 (show (0 : Int32).toInt = 0 from rfl)).mpr c2) ?_
      exact o_ri (show ((-11) : Int32).toInt = (-11) from rfl) hM1 h
    · replace h := it_f c2 h
      refine ok_f (mt (c_eq tv6 (show (0 : Int32).toInt = 0 from rfl)).mp c2) ?_
      refine ok_b (o_rdS hM1 wthis.1 (wthis.2.2.2.2.2.2.2.2.2.1.1)) ?_
      refine ok_s ?_
      replace h := ob h; obtain ⟨zv10, ezv10, h⟩ := h
      obtain ⟨v10, ev10, tv10⟩ := o_ldI hM1 wthis.2.2.2.2.2.2.2.2.2.1.2 rfl tp1 ezv10
      refine ok_b ev10 ?_
      by_cases c3 : zv10 = 2
      · replace h := it_t c3 h
        refine ok_t ((c_eq tv10 (show (2 : Int32).toInt = 2 from rfl)).mpr c3) ?_
        refine ok_b (o_rdS hM1 wthis.1 (wthis.2.2.2.2.2.2.2.2.2.2.2.2.2.2.2.1.1)) ?_
        refine ok_s ?_
        replace h := ob h; obtain ⟨zv14, ezv14, h⟩ := h
        obtain ⟨v14, ev14, tv14⟩ := o_ldI hM1 wthis.2.2.2.2.2.2.2.2.2.2.2.2.2.2.2.1.2 rfl tp1 ezv14
        refine ok_b ev14 ?_
        refine ok_b (o_isO hM1 wthis.1) ?_
        replace h := ob h; obtain ⟨zv18, ezv18, h⟩ := h
        obtain ⟨⟨v18, M16⟩, eM16, tv18, hM16⟩ := h_X12_is hM1 wthis tp2 (show (0 : Int32).toInt = 0 from rfl) (t_sub tv14 (show (1 : Int32).toInt = 1 from rfl)) ezv18
        refine ok_b eM16 ?_
        by_cases c4 : zv18 = 0
        · replace h := it_t c4 h
          refine ok_t ((c_eq tv18 (show (0 : Int32).toInt = 0 from rfl)).mpr c4) ?_
          exact o_ri (show ((-13) : Int32).toInt = (-13) from rfl) hM16 h
        · replace h := it_f c4 h
          refine ok_f (mt (c_eq tv18 (show (0 : Int32).toInt = 0 from rfl)).mp c4) ?_
          refine ok_b (o_rdS hM16 wthis.1 (wthis.2.2.2.2.2.2.2.2.2.2.2.2.2.2.2.2.1.1)) ?_
          refine ok_b (o_rdS hM16 wthis.1 (wthis.2.2.2.2.2.2.2.2.2.2.2.2.2.2.1.1)) ?_
          refine ok_s ?_
          replace h := ob h; obtain ⟨zv22, ezv22, h⟩ := h
          obtain ⟨v22, ev22, tv22⟩ := o_ldI hM16 wthis.2.2.2.2.2.2.2.2.2.2.2.2.2.2.1.2 rfl tp1 ezv22
          refine ok_b ev22 ?_
          refine ok_b (o_isO hM16 wthis.1) ?_
          replace h := ob h; obtain ⟨zv26, ezv26, h⟩ := h
          obtain ⟨⟨v26, M24⟩, eM24, tv26, hM24⟩ := h_X12_narrow hM16 wthis tv22 tp3 ezv26
          refine ok_b eM24 ?_
          refine ok_s ?_
          replace h := ob h; obtain ⟨J27, eJ27, h⟩ := h
          obtain ⟨M27, eM27, hM27⟩ := o_stI hM24 wthis.2.2.2.2.2.2.2.2.2.2.2.2.2.2.2.2.1.2 rfl (t_add (t_mul (show (80 : Int32).toInt = 80 from rfl) tp1) tp2) tv26 eJ27
          refine ok_b eM27 ?_
          exact o_ri (show (0 : Int32).toInt = 0 from rfl) hM27 h
      · replace h := it_f c3 h
        refine ok_f (mt (c_eq tv10 (show (2 : Int32).toInt = 2 from rfl)).mp c3) ?_
        exact o_ri (show ((-12) : Int32).toInt = (-12) from rfl) hM1 h

set_option maxHeartbeats 4000000 in
set_option maxRecDepth 100000 in
theorem h_X12_element {E : Em} {M : Mm} {J : Jm} (hM : Mre E M J) {this : Nat} (wthis : W12 E this) {p1 : Int32} {zp1 : Int} (tp1 : p1.toInt = zp1) {p2 : Int32} {zp2 : Int} (tp2 : p2.toInt = zp2) {z : Int} {J1 : Jm} (h : H_X12_element this zp1 zp2 J = some (z, J1)) : Ok (F_X12_element this p1 p2 M) (fun q => q.1.toInt = z ∧ Mre E q.2 J1) := by
  unfold H_X12_element at h
  unfold F_X12_element
  refine ok_b (o_isO hM wthis.1) ?_
  replace h := ob h; obtain ⟨zv3, ezv3, h⟩ := h
  obtain ⟨⟨v3, M1⟩, eM1, tv3, hM1⟩ := h_X12_isShelf hM wthis tp1 ezv3
  refine ok_b eM1 ?_
  replace h := jp_e h; obtain ⟨k4h, ek4h, h⟩ := h
  refine ok_jp (fun k4 ek4 => ?_)
  have Jk4 : ∀ (s5 : Int32) (zs5 : Int), s5.toInt = zs5 → ∀ (M6 : Mm) (J6 : Jm), Mre E M6 J6 → k4h zs5 J6 = some (z, J1) → Ok (k4 s5 M6) (fun q => q.1.toInt = z ∧ Mre E q.2 J1) := by
    intro s5 zs5 ts5 M6 J6 hM6 h
    rw [ek4]
    rw [ek4h] at h
    replace h := nv_e h; obtain ⟨J7, eJ7, h⟩ := h
    obtain ⟨M7, eM7, hM7⟩ := o_wrI (k := 0) hM6 wthis.1 ts5 eJ7
    refine ok_b eM7 ?_
    obtain ⟨v8, ev8, tv8⟩ := o_rdI (k := 0) hM7 wthis.1
    refine ok_b ev8 ?_
    by_cases c1 : (J7 this 0) ≤ 0
    · replace h := it_t c1 h
      refine ok_t ((c_le tv8 (show (0 : Int32).toInt = 0 from rfl)).mpr c1) ?_
      refine ok_b (o_rdS hM7 wthis.1 (wthis.2.2.2.2.2.2.2.2.2.2.2.2.2.2.2.2.1.1)) ?_
      refine ok_s ?_
      replace h := ob h; obtain ⟨zv11, ezv11, h⟩ := h
      obtain ⟨v11, ev11, tv11⟩ := o_ldI hM7 wthis.2.2.2.2.2.2.2.2.2.2.2.2.2.2.2.2.1.2 rfl (t_add (t_mul (show (80 : Int32).toInt = 80 from rfl) tp1) tp2) ezv11
      refine ok_b ev11 ?_
      exact o_ril (t_l64 tv11) hM7 h
    · replace h := it_f c1 h
      refine ok_f (mt (c_le tv8 (show (0 : Int32).toInt = 0 from rfl)).mp c1) ?_
      exact o_ril (show (0 : Int64).toInt = 0 from rfl) hM7 h
  by_cases c2 : zv3 = 0
  · replace h := it_t c2 h
    refine ok_t ((c_eq tv3 (show (0 : Int32).toInt = 0 from rfl)).mpr c2) ?_
    exact Jk4 _ _ (show (1 : Int32).toInt = 1 from rfl) _ _ hM1 h
  · replace h := it_f c2 h
    refine ok_f (mt (c_eq tv3 (show (0 : Int32).toInt = 0 from rfl)).mp c2) ?_
    refine ok_b (o_rdS hM1 wthis.1 (wthis.2.2.2.2.2.2.2.2.2.1.1)) ?_
    refine ok_s ?_
    replace h := ob h; obtain ⟨zv16, ezv16, h⟩ := h
    obtain ⟨v16, ev16, tv16⟩ := o_ldI hM1 wthis.2.2.2.2.2.2.2.2.2.1.2 rfl tp1 ezv16
    refine ok_b ev16 ?_
    by_cases c3 : zv16 = 2
    · replace h := it_t c3 h
      refine ok_t ((c_eq tv16 (show (2 : Int32).toInt = 2 from rfl)).mpr c3) ?_
      refine ok_b (o_rdS hM1 wthis.1 (wthis.2.2.2.2.2.2.2.2.2.2.2.2.2.2.2.1.1)) ?_
      refine ok_s ?_
      replace h := ob h; obtain ⟨zv20, ezv20, h⟩ := h
      obtain ⟨v20, ev20, tv20⟩ := o_ldI hM1 wthis.2.2.2.2.2.2.2.2.2.2.2.2.2.2.2.1.2 rfl tp1 ezv20
      refine ok_b ev20 ?_
      refine ok_b (o_isO hM1 wthis.1) ?_
      replace h := ob h; obtain ⟨zv24, ezv24, h⟩ := h
      obtain ⟨⟨v24, M22⟩, eM22, tv24, hM22⟩ := h_X12_is hM1 wthis tp2 (show (0 : Int32).toInt = 0 from rfl) (t_sub tv20 (show (1 : Int32).toInt = 1 from rfl)) ezv24
      refine ok_b eM22 ?_
      by_cases c4 : zv24 = 0
      · replace h := it_t c4 h
        refine ok_t ((c_eq tv24 (show (0 : Int32).toInt = 0 from rfl)).mpr c4) ?_
        exact Jk4 _ _ (show (2 : Int32).toInt = 2 from rfl) _ _ hM22 h
      · replace h := it_f c4 h
        refine ok_f (mt (c_eq tv24 (show (0 : Int32).toInt = 0 from rfl)).mp c4) ?_
        exact Jk4 _ _ (show (0 : Int32).toInt = 0 from rfl) _ _ hM22 h
    · replace h := it_f c3 h
      refine ok_f (mt (c_eq tv16 (show (2 : Int32).toInt = 2 from rfl)).mp c3) ?_
      exact Jk4 _ _ (show (2 : Int32).toInt = 2 from rfl) _ _ hM1 h

set_option maxHeartbeats 4000000 in
set_option maxRecDepth 100000 in
theorem h_X12_copy_L124 {E : Em} {z : Int} {J1 : Jm}  (k158 : Mm → Option (Int32 × Mm)) (k158h : Jm → Option (Int × Jm)) (hk158 : ∀ (M9 : Mm) (J9 : Jm), Mre E M9 J9 → k158h J9 = some (z, J1) → Ok (k158 M9) (fun q => q.1.toInt = z ∧ Mre E q.2 J1)) (x0 : Nat) (wx0 : W12 E x0) (x1 : Int32) (zx1 : Int) (tx1 : x1.toInt = zx1) (x2 : Int32) (zx2 : Int) (tx2 : x2.toInt = zx2) (x3 : Int32) (zx3 : Int) (tx3 : x3.toInt = zx3) (x4 : Int32) (zx4 : Int) (tx4 : x4.toInt = zx4) (x5 : Int32) (zx5 : Int) (tx5 : x5.toInt = zx5) : ∀ (fu : Nat), ∀ (x6 : Int32) (zx6 : Int), x6.toInt = zx6 → ∀ (M0 : Mm) (J0 : Jm), Mre E M0 J0 → H_X12_copy_L124 k158h x0 zx1 zx2 zx3 zx4 zx5 fu zx6 J0 = some (z, J1) → Ok (F_X12_copy_L124 k158 x0 x1 x2 x3 x4 x5 fu x6 M0) (fun q => q.1.toInt = z ∧ Mre E q.2 J1) := by
  intro fu
  induction fu with
  | zero =>
    intro x6 zx6 tx6 M0 J0 hM0 h
    rw [H_X12_copy_L124] at h
    cases h
  | succ n43 ih =>
    intro x6 zx6 tx6 M0 J0 hM0 h
    rw [H_X12_copy_L124] at h
    rw [F_X12_copy_L124]
    by_cases c13 : zx5 ≤ zx6
    · replace h := it_t c13 h
      refine ok_t ((c_le tx5 tx6).mpr c13) ?_
      exact hk158 _ _ hM0 h
    · replace h := it_f c13 h
      refine ok_f (mt (c_le tx5 tx6).mp c13) ?_
      refine ok_b (o_rdS hM0 wx0.1 (wx0.2.2.2.2.2.2.2.2.2.2.2.2.2.2.2.2.2.1)) ?_
      refine ok_b (o_rdS hM0 wx0.1 (wx0.2.2.2.2.2.2.2.2.2.2.2.2.2.2.2.2.1.1)) ?_
      refine ok_s ?_
      replace h := ob h; obtain ⟨zv47, ezv47, h⟩ := h
      obtain ⟨v47, ev47, tv47⟩ := o_ldI hM0 wx0.2.2.2.2.2.2.2.2.2.2.2.2.2.2.2.2.1.2 rfl (t_add (t_add (t_mul (show (80 : Int32).toInt = 80 from rfl) tx1) tx2) tx6) ezv47
      refine ok_b ev47 ?_
      refine ok_s ?_
      replace h := ob h; obtain ⟨J49, eJ49, h⟩ := h
      obtain ⟨M49, eM49, hM49⟩ := o_stI hM0 wx0.2.2.2.2.2.2.2.2.2.2.2.2.2.2.2.2.2.2 rfl tx6 tv47 eJ49
      refine ok_b eM49 ?_
      exact ih _ _ (t_add tx6 (show (1 : Int32).toInt = 1 from rfl)) _ _ hM49 h
set_option maxHeartbeats 4000000 in
set_option maxRecDepth 100000 in
theorem h_X12_copy_L161 {E : Em} {z : Int} {J1 : Jm}   (x0 : Nat) (wx0 : W12 E x0) (x3 : Int32) (zx3 : Int) (tx3 : x3.toInt = zx3) (x4 : Int32) (zx4 : Int) (tx4 : x4.toInt = zx4) (x5 : Int32) (zx5 : Int) (tx5 : x5.toInt = zx5) : ∀ (fu : Nat), ∀ (x6 : Int32) (zx6 : Int), x6.toInt = zx6 → ∀ (M0 : Mm) (J0 : Jm), Mre E M0 J0 → H_X12_copy_L161 x0 zx3 zx4 zx5 fu zx6 J0 = some (z, J1) → Ok (F_X12_copy_L161 x0 x3 x4 x5 fu x6 M0) (fun q => q.1.toInt = z ∧ Mre E q.2 J1) := by
  intro fu
  induction fu with
  | zero =>
    intro x6 zx6 tx6 M0 J0 hM0 h
    rw [H_X12_copy_L161] at h
    cases h
  | succ n52 ih =>
    intro x6 zx6 tx6 M0 J0 hM0 h
    rw [H_X12_copy_L161] at h
    rw [F_X12_copy_L161]
    by_cases c14 : zx5 ≤ zx6
    · replace h := it_t c14 h
      refine ok_t ((c_le tx5 tx6).mpr c14) ?_
      exact o_ri tx5 hM0 h
    · replace h := it_f c14 h
      refine ok_f (mt (c_le tx5 tx6).mp c14) ?_
      refine ok_b (o_rdS hM0 wx0.1 (wx0.2.2.2.2.2.2.2.2.2.2.2.2.2.2.2.2.1.1)) ?_
      refine ok_b (o_rdS hM0 wx0.1 (wx0.2.2.2.2.2.2.2.2.2.2.2.2.2.2.2.2.2.1)) ?_
      refine ok_s ?_
      replace h := ob h; obtain ⟨zv56, ezv56, h⟩ := h
      obtain ⟨v56, ev56, tv56⟩ := o_ldI hM0 wx0.2.2.2.2.2.2.2.2.2.2.2.2.2.2.2.2.2.2 rfl tx6 ezv56
      refine ok_b ev56 ?_
      refine ok_s ?_
      replace h := ob h; obtain ⟨J58, eJ58, h⟩ := h
      obtain ⟨M58, eM58, hM58⟩ := o_stI hM0 wx0.2.2.2.2.2.2.2.2.2.2.2.2.2.2.2.2.1.2 rfl (t_add (t_add (t_mul (show (80 : Int32).toInt = 80 from rfl) tx3) tx4) tx6) tv56 eJ58
      refine ok_b eM58 ?_
      exact ih _ _ (t_add tx6 (show (1 : Int32).toInt = 1 from rfl)) _ _ hM58 h
set_option maxHeartbeats 4000000 in
set_option maxRecDepth 100000 in
theorem h_X12_copy {E : Em} {M : Mm} {J : Jm} (hM : Mre E M J) {this : Nat} (wthis : W12 E this) {p1 : Int32} {zp1 : Int} (tp1 : p1.toInt = zp1) {p2 : Int32} {zp2 : Int} (tp2 : p2.toInt = zp2) {p3 : Int32} {zp3 : Int} (tp3 : p3.toInt = zp3) {p4 : Int32} {zp4 : Int} (tp4 : p4.toInt = zp4) {p5 : Int32} {zp5 : Int} (tp5 : p5.toInt = zp5) {z : Int} {J1 : Jm} (h : H_X12_copy this zp1 zp2 zp3 zp4 zp5 J = some (z, J1)) : Ok (F_X12_copy this p1 p2 p3 p4 p5 M) (fun q => q.1.toInt = z ∧ Mre E q.2 J1) := by
  unfold H_X12_copy at h
  unfold F_X12_copy
  refine ok_b (o_isO hM wthis.1) ?_
  replace h := ob h; obtain ⟨zv3, ezv3, h⟩ := h
  obtain ⟨⟨v3, M1⟩, eM1, tv3, hM1⟩ := h_X12_isShelf hM wthis tp1 ezv3
  refine ok_b eM1 ?_
  by_cases c1 : zv3 = 0
  · replace h := it_t c1 h
    refine ok_t ((c_eq tv3 (show (0 : Int32).toInt = 0 from rfl)).mpr c1) ?_
    exact o_ri (show ((-1) : Int32).toInt = (-1) from rfl) hM1 h
  · replace h := it_f c1 h
    refine ok_f (mt (c_eq tv3 (show (0 : Int32).toInt = 0 from rfl)).mp c1) ?_
    refine ok_b (o_isO hM1 wthis.1) ?_
    replace h := ob h; obtain ⟨zv7, ezv7, h⟩ := h
    obtain ⟨⟨v7, M5⟩, eM5, tv7, hM5⟩ := h_X12_isShelf hM1 wthis tp3 ezv7
    refine ok_b eM5 ?_
    by_cases c2 : zv7 = 0
    · replace h := it_t c2 h
      refine ok_t ((c_eq tv7 (show (0 : Int32).toInt = 0 from rfl)).mpr c2) ?_
      exact o_ri (show ((-1) : Int32).toInt = (-1) from rfl) hM5 h
    · replace h := it_f c2 h
      refine ok_f (mt (c_eq tv7 (show (0 : Int32).toInt = 0 from rfl)).mp c2) ?_
      refine ok_b (o_rdS hM5 wthis.1 (wthis.2.2.2.2.2.2.2.2.2.1.1)) ?_
      refine ok_s ?_
      replace h := ob h; obtain ⟨zv10, ezv10, h⟩ := h
      obtain ⟨v10, ev10, tv10⟩ := o_ldI hM5 wthis.2.2.2.2.2.2.2.2.2.1.2 rfl tp1 ezv10
      refine ok_b ev10 ?_
      by_cases c3 : zv10 = 0
      · replace h := it_t c3 h
        refine ok_t ((c_eq tv10 (show (0 : Int32).toInt = 0 from rfl)).mpr c3) ?_
        exact o_ri (show ((-11) : Int32).toInt = (-11) from rfl) hM5 h
      · replace h := it_f c3 h
        refine ok_f (mt (c_eq tv10 (show (0 : Int32).toInt = 0 from rfl)).mp c3) ?_
        refine ok_b (o_rdS hM5 wthis.1 (wthis.2.2.2.2.2.2.2.2.2.1.1)) ?_
        refine ok_s ?_
        replace h := ob h; obtain ⟨zv14, ezv14, h⟩ := h
        obtain ⟨v14, ev14, tv14⟩ := o_ldI hM5 wthis.2.2.2.2.2.2.2.2.2.1.2 rfl tp3 ezv14
        refine ok_b ev14 ?_
        by_cases c4 : zv14 = 0
        · replace h := it_t c4 h
          refine ok_t ((c_eq tv14 (show (0 : Int32).toInt = 0 from rfl)).mpr c4) ?_
          exact o_ri (show ((-11) : Int32).toInt = (-11) from rfl) hM5 h
        · replace h := it_f c4 h
          refine ok_f (mt (c_eq tv14 (show (0 : Int32).toInt = 0 from rfl)).mp c4) ?_
          refine ok_b (o_rdS hM5 wthis.1 (wthis.2.2.2.2.2.2.2.2.2.1.1)) ?_
          refine ok_s ?_
          replace h := ob h; obtain ⟨zv18, ezv18, h⟩ := h
          obtain ⟨v18, ev18, tv18⟩ := o_ldI hM5 wthis.2.2.2.2.2.2.2.2.2.1.2 rfl tp1 ezv18
          refine ok_b ev18 ?_
          by_cases c5 : zv18 = 2
          · replace h := it_t c5 h
            refine ok_t ((c_eq tv18 (show (2 : Int32).toInt = 2 from rfl)).mpr c5) ?_
            refine ok_b (o_rdS hM5 wthis.1 (wthis.2.2.2.2.2.2.2.2.2.1.1)) ?_
            refine ok_s ?_
            replace h := ob h; obtain ⟨zv22, ezv22, h⟩ := h
            obtain ⟨v22, ev22, tv22⟩ := o_ldI hM5 wthis.2.2.2.2.2.2.2.2.2.1.2 rfl tp3 ezv22
            refine ok_b ev22 ?_
            by_cases c6 : zv22 = 2
            · replace h := it_t c6 h
              refine ok_t ((c_eq tv22 (show (2 : Int32).toInt = 2 from rfl)).mpr c6) ?_
              refine ok_b (o_rdS hM5 wthis.1 (wthis.2.2.2.2.2.2.2.2.2.2.2.2.2.2.1.1)) ?_
              refine ok_s ?_
              replace h := ob h; obtain ⟨zv26, ezv26, h⟩ := h
              obtain ⟨v26, ev26, tv26⟩ := o_ldI hM5 wthis.2.2.2.2.2.2.2.2.2.2.2.2.2.2.1.2 rfl tp1 ezv26
              refine ok_b ev26 ?_
              refine ok_b (o_rdS hM5 wthis.1 (wthis.2.2.2.2.2.2.2.2.2.2.2.2.2.2.1.1)) ?_
              refine ok_s ?_
              replace h := ob h; obtain ⟨zv29, ezv29, h⟩ := h
              obtain ⟨v29, ev29, tv29⟩ := o_ldI hM5 wthis.2.2.2.2.2.2.2.2.2.2.2.2.2.2.1.2 rfl tp3 ezv29
              refine ok_b ev29 ?_
              by_cases c7 : zv26 = zv29
              · replace h := it_t c7 h
                refine ok_t ((c_eq tv26 tv29).mpr c7) ?_
                by_cases c8 : zp5 < 0
                · replace h := it_t c8 h
                  refine ok_t ((c_lt tp5 (show (0 : Int32).toInt = 0 from rfl)).mpr c8) ?_
                  exact o_ri (show ((-13) : Int32).toInt = (-13) from rfl) hM5 h
                · replace h := it_f c8 h
                  refine ok_f (mt (c_lt tp5 (show (0 : Int32).toInt = 0 from rfl)).mp c8) ?_
                  by_cases c9 : zp2 < 0
                  · replace h := it_t c9 h
                    refine ok_t ((c_lt tp2 (show (0 : Int32).toInt = 0 from rfl)).mpr c9) ?_
                    exact o_ri (show ((-13) : Int32).toInt = (-13) from rfl) hM5 h
                  · replace h := it_f c9 h
                    refine ok_f (mt (c_lt tp2 (show (0 : Int32).toInt = 0 from rfl)).mp c9) ?_
                    by_cases c10 : zp4 < 0
                    · replace h := it_t c10 h
                      refine ok_t ((c_lt tp4 (show (0 : Int32).toInt = 0 from rfl)).mpr c10) ?_
                      exact o_ri (show ((-13) : Int32).toInt = (-13) from rfl) hM5 h
                    · replace h := it_f c10 h
                      refine ok_f (mt (c_lt tp4 (show (0 : Int32).toInt = 0 from rfl)).mp c10) ?_
                      refine ok_b (o_rdS hM5 wthis.1 (wthis.2.2.2.2.2.2.2.2.2.2.2.2.2.2.2.1.1)) ?_
                      refine ok_s ?_
                      replace h := ob h; obtain ⟨zv36, ezv36, h⟩ := h
                      obtain ⟨v36, ev36, tv36⟩ := o_ldI hM5 wthis.2.2.2.2.2.2.2.2.2.2.2.2.2.2.2.1.2 rfl tp1 ezv36
                      refine ok_b ev36 ?_
                      by_cases c11 : (wr (zv36 - zp5)) < zp2
                      · replace h := it_t c11 h
                        refine ok_t ((c_lt (t_sub tv36 tp5) tp2).mpr c11) ?_
                        exact o_ri (show ((-13) : Int32).toInt = (-13) from rfl) hM5 h
                      · replace h := it_f c11 h
                        refine ok_f (mt (c_lt (t_sub tv36 tp5) tp2).mp c11) ?_
                        refine ok_b (o_rdS hM5 wthis.1 (wthis.2.2.2.2.2.2.2.2.2.2.2.2.2.2.2.1.1)) ?_
                        refine ok_s ?_
                        replace h := ob h; obtain ⟨zv40, ezv40, h⟩ := h
                        obtain ⟨v40, ev40, tv40⟩ := o_ldI hM5 wthis.2.2.2.2.2.2.2.2.2.2.2.2.2.2.2.1.2 rfl tp3 ezv40
                        refine ok_b ev40 ?_
                        by_cases c12 : zp4 ≤ (wr (zv40 - zp5))
                        · replace h := it_t c12 h
                          refine ok_t ((c_le tp4 (t_sub tv40 tp5)).mpr c12) ?_
                          refine h_X12_copy_L124  _ _ ?_ _ wthis _ _ tp1 _ _ tp2 _ _ tp3 _ _ tp4 _ _ tp5 _ _ _ (show (0 : Int32).toInt = 0 from rfl) _ _ hM5 h
                          intro M51 J51 hM51 h
                          refine h_X12_copy_L161   _ wthis _ _ tp3 _ _ tp4 _ _ tp5 _ _ _ (show (0 : Int32).toInt = 0 from rfl) _ _ hM51 h
                        · replace h := it_f c12 h
                          refine ok_f (mt (c_le tp4 (t_sub tv40 tp5)).mp c12) ?_
                          exact o_ri (show ((-13) : Int32).toInt = (-13) from rfl) hM5 h
              · replace h := it_f c7 h
                refine ok_f (mt (c_eq tv26 tv29).mp c7) ?_
                exact o_ri (show ((-12) : Int32).toInt = (-12) from rfl) hM5 h
            · replace h := it_f c6 h
              refine ok_f (mt (c_eq tv22 (show (2 : Int32).toInt = 2 from rfl)).mp c6) ?_
              exact o_ri (show ((-12) : Int32).toInt = (-12) from rfl) hM5 h
          · replace h := it_f c5 h
            refine ok_f (mt (c_eq tv18 (show (2 : Int32).toInt = 2 from rfl)).mp c5) ?_
            exact o_ri (show ((-12) : Int32).toInt = (-12) from rfl) hM5 h

set_option maxHeartbeats 4000000 in
set_option maxRecDepth 100000 in
theorem h_X12_lacksGlider {E : Em} {M : Mm} {J : Jm} (hM : Mre E M J) {this : Nat} (wthis : W12 E this) {p1 : Int32} {zp1 : Int} (tp1 : p1.toInt = zp1) {z : Int} (h : H_X12_lacksGlider this zp1 J = some z) : Ok (F_X12_lacksGlider this p1 M) (fun q => q.1.toInt = z ∧ Mre E q.2 J) := by
  unfold H_X12_lacksGlider at h
  unfold F_X12_lacksGlider
  refine ok_b (o_isO hM wthis.1) ?_
  replace h := ob h; obtain ⟨zv3, ezv3, h⟩ := h
  obtain ⟨⟨v3, M1⟩, eM1, tv3, hM1⟩ := h_X12_isShelf hM wthis tp1 ezv3
  refine ok_b eM1 ?_
  by_cases c1 : zv3 = 0
  · replace h := it_t c1 h
    refine ok_t ((c_eq tv3 (show (0 : Int32).toInt = 0 from rfl)).mpr c1) ?_
    exact o_ri0 (show ((-1) : Int32).toInt = (-1) from rfl) hM1 h
  · replace h := it_f c1 h
    refine ok_f (mt (c_eq tv3 (show (0 : Int32).toInt = 0 from rfl)).mp c1) ?_
    refine ok_b (o_rdS hM1 wthis.1 (wthis.2.2.2.2.2.2.2.2.2.1.1)) ?_
    refine ok_s ?_
    replace h := ob h; obtain ⟨zv6, ezv6, h⟩ := h
    obtain ⟨v6, ev6, tv6⟩ := o_ldI hM1 wthis.2.2.2.2.2.2.2.2.2.1.2 rfl tp1 ezv6
    refine ok_b ev6 ?_
    by_cases c2 : zv6 = 0
    · replace h := it_t c2 h
      refine ok_t ((c_eq tv6 (show (0 : Int32).toInt = 0 from rfl)).mpr c2) ?_
      exact o_ri0 (show ((-11) : Int32).toInt = (-11) from rfl) hM1 h
    · replace h := it_f c2 h
      refine ok_f (mt (c_eq tv6 (show (0 : Int32).toInt = 0 from rfl)).mp c2) ?_
      refine ok_b (o_rdS hM1 wthis.1 (wthis.2.2.2.2.2.2.2.2.2.1.1)) ?_
      refine ok_s ?_
      replace h := ob h; obtain ⟨zv10, ezv10, h⟩ := h
      obtain ⟨v10, ev10, tv10⟩ := o_ldI hM1 wthis.2.2.2.2.2.2.2.2.2.1.2 rfl tp1 ezv10
      refine ok_b ev10 ?_
      by_cases c3 : zv10 = 2
      · replace h := it_t c3 h
        refine ok_t ((c_eq tv10 (show (2 : Int32).toInt = 2 from rfl)).mpr c3) ?_
        exact o_ri0 (show ((-12) : Int32).toInt = (-12) from rfl) hM1 h
      · replace h := it_f c3 h
        refine ok_f (mt (c_eq tv10 (show (2 : Int32).toInt = 2 from rfl)).mp c3) ?_
        exact o_ri0 (show (0 : Int32).toInt = 0 from rfl) hM1 h

set_option maxHeartbeats 4000000 in
set_option maxRecDepth 100000 in
theorem h_X12_sum {E : Em} {M : Mm} {J : Jm} (hM : Mre E M J) {this : Nat} (wthis : W12 E this) {p1 : Int32} {zp1 : Int} (tp1 : p1.toInt = zp1) {z : Int} (h : H_X12_sum this zp1 J = some z) : Ok (F_X12_sum this p1 M) (fun q => q.1.toInt = z ∧ Mre E q.2 J) := by
  unfold H_X12_sum at h
  unfold F_X12_sum
  refine ok_b (o_isO hM wthis.1) ?_
  replace h := ob h; obtain ⟨zv3, ezv3, h⟩ := h
  obtain ⟨⟨v3, M1⟩, eM1, tv3, hM1⟩ := h_X12_lacksGlider hM wthis tp1 ezv3
  refine ok_b eM1 ?_
  by_cases c1 : zv3 = 0
  · replace h := it_t c1 h
    refine ok_t ((c_eq tv3 (show (0 : Int32).toInt = 0 from rfl)).mpr c1) ?_
    refine ok_b (o_rdS hM1 wthis.1 (wthis.2.2.2.2.2.2.2.2.2.2.1.1)) ?_
    refine ok_s ?_
    replace h := ob h; obtain ⟨zv6, ezv6, h⟩ := h
    obtain ⟨v6, ev6, tv6⟩ := o_ldI hM1 wthis.2.2.2.2.2.2.2.2.2.2.1.2 rfl tp1 ezv6
    refine ok_b ev6 ?_
    replace h := nv_e h; obtain ⟨zv8, ezv8, h⟩ := h
    obtain ⟨v8, evv8⟩ : ∃ v : Int32, v = (if v6 = 0 then 2 else (if v6 = 2 then 3 else 1)) := ⟨_, rfl⟩
    have tv8 : v8.toInt = zv8 := by rw [evv8, ezv8]; exact (t_ite (c_eq tv6 (show (0 : Int32).toInt = 0 from rfl)) (show (2 : Int32).toInt = 2 from rfl) (t_ite (c_eq tv6 (show (2 : Int32).toInt = 2 from rfl)) (show (3 : Int32).toInt = 3 from rfl) (show (1 : Int32).toInt = 1 from rfl)))
    refine ok_nv evv8 ?_
    replace h := nv_e h; obtain ⟨zv10, ezv10, h⟩ := h
    obtain ⟨v10, evv10⟩ : ∃ v : Int32, v = (if v6 = 0 then 2 else (if v6 = 1 then 3 else (if v6 = 2 then 1 else 4))) := ⟨_, rfl⟩
    have tv10 : v10.toInt = zv10 := by rw [evv10, ezv10]; exact (t_ite (c_eq tv6 (show (0 : Int32).toInt = 0 from rfl)) (show (2 : Int32).toInt = 2 from rfl) (t_ite (c_eq tv6 (show (1 : Int32).toInt = 1 from rfl)) (show (3 : Int32).toInt = 3 from rfl) (t_ite (c_eq tv6 (show (2 : Int32).toInt = 2 from rfl)) (show (1 : Int32).toInt = 1 from rfl) (show (4 : Int32).toInt = 4 from rfl))))
    refine ok_nv evv10 ?_
    replace h := jp_e h; obtain ⟨k12h, ek12h, h⟩ := h
    refine ok_jp (fun k12 ek12 => ?_)
    have Jk12 : ∀ (s13 : Int32) (zs13 : Int), s13.toInt = zs13 → ∀ (M14 : Mm), Mre E M14 J → k12h zs13 = some z → Ok (k12 s13 M14) (fun q => q.1.toInt = z ∧ Mre E q.2 J) := by
      intro s13 zs13 ts13 M14 hM14 h
      rw [ek12]
      rw [ek12h] at h
      by_cases c2 : zv6 = 3
      · replace h := it_t c2 h
        refine ok_t ((c_eq tv6 (show (3 : Int32).toInt = 3 from rfl)).mpr c2) ?_
        exact o_ri0 (t_mul (show (2 : Int32).toInt = 2 from rfl) (t_add (t_add (t_add (show (100 : Int32).toInt = 100 from rfl) (t_mul (show (10 : Int32).toInt = 10 from rfl) tv8)) tv10) ts13)) hM14 h
      · replace h := it_f c2 h
        refine ok_f (mt (c_eq tv6 (show (3 : Int32).toInt = 3 from rfl)).mp c2) ?_
        exact o_ri0 (t_add (t_add (t_add (show (100 : Int32).toInt = 100 from rfl) (t_mul (show (10 : Int32).toInt = 10 from rfl) tv8)) tv10) ts13) hM14 h
    by_cases c3 : zv6 = 1
    · replace h := it_t c3 h
      refine ok_t ((c_eq tv6 (show (1 : Int32).toInt = 1 from rfl)).mpr c3) ?_
      refine ok_b (o_isO hM1 wthis.1) ?_
      replace h := ob h; obtain ⟨zv20, ezv20, h⟩ := h
      obtain ⟨⟨v20, M18⟩, eM18, tv20, hM18⟩ := h_X12_dry hM1 wthis tv6 (show (0 : Int32).toInt = 0 from rfl) ezv20
      refine ok_b eM18 ?_
      exact Jk12 _ _ tv20 _ hM18 h
    · replace h := it_f c3 h
      refine ok_f (mt (c_eq tv6 (show (1 : Int32).toInt = 1 from rfl)).mp c3) ?_
      by_cases c4 : zv6 = 3
      · replace h := it_t c4 h
        refine ok_t ((c_eq tv6 (show (3 : Int32).toInt = 3 from rfl)).mpr c4) ?_
        refine ok_b (o_isO hM1 wthis.1) ?_
        replace h := ob h; obtain ⟨zv28, ezv28, h⟩ := h
        obtain ⟨⟨v28, M26⟩, eM26, tv28, hM26⟩ := h_X12_dry hM1 wthis tv6 (show (0 : Int32).toInt = 0 from rfl) ezv28
        refine ok_b eM26 ?_
        exact Jk12 _ _ tv28 _ hM26 h
      · replace h := it_f c4 h
        refine ok_f (mt (c_eq tv6 (show (3 : Int32).toInt = 3 from rfl)).mp c4) ?_
        by_cases c5 : zv6 = 2
        · replace h := it_t c5 h
          refine ok_t ((c_eq tv6 (show (2 : Int32).toInt = 2 from rfl)).mpr c5) ?_
          refine ok_b (o_rdS hM1 wthis.1 (wthis.2.2.2.2.2.2.2.2.2.2.2.2.1.1)) ?_
          refine ok_s ?_
          replace h := ob h; obtain ⟨zv24, ezv24, h⟩ := h
          obtain ⟨v24, ev24, tv24⟩ := o_ldI hM1 wthis.2.2.2.2.2.2.2.2.2.2.2.2.1.2 rfl tp1 ezv24
          refine ok_b ev24 ?_
          exact Jk12 _ _ tv24 _ hM1 h
        · replace h := it_f c5 h
          refine ok_f (mt (c_eq tv6 (show (2 : Int32).toInt = 2 from rfl)).mp c5) ?_
          exact Jk12 _ _ (show (0 : Int32).toInt = 0 from rfl) _ hM1 h
  · replace h := it_f c1 h
    refine ok_f (mt (c_eq tv3 (show (0 : Int32).toInt = 0 from rfl)).mp c1) ?_
    refine ok_b (o_isO hM1 wthis.1) ?_
    replace h := ob h; obtain ⟨zv36, ezv36, h⟩ := h
    obtain ⟨⟨v36, M34⟩, eM34, tv36, hM34⟩ := h_X12_lacksGlider hM1 wthis tp1 ezv36
    refine ok_b eM34 ?_
    exact o_ri0 tv36 hM34 h

set_option maxHeartbeats 4000000 in
set_option maxRecDepth 100000 in
theorem h_X12_toss {E : Em} {M : Mm} {J : Jm} (hM : Mre E M J) {this : Nat} (wthis : W12 E this) {p1 : Int32} {zp1 : Int} (tp1 : p1.toInt = zp1) {z : Int} (h : H_X12_toss this zp1 J = some z) : Ok (F_X12_toss this p1 M) (fun q => q.1.toInt = z ∧ Mre E q.2 J) := by
  unfold H_X12_toss at h
  unfold F_X12_toss
  refine ok_b (o_isO hM wthis.1) ?_
  replace h := ob h; obtain ⟨zv3, ezv3, h⟩ := h
  obtain ⟨⟨v3, M1⟩, eM1, tv3, hM1⟩ := h_X12_lacksGlider hM wthis tp1 ezv3
  refine ok_b eM1 ?_
  by_cases c1 : zv3 = 0
  · replace h := it_t c1 h
    refine ok_t ((c_eq tv3 (show (0 : Int32).toInt = 0 from rfl)).mpr c1) ?_
    refine ok_b (o_rdS hM1 wthis.1 (wthis.2.2.2.2.2.2.2.2.2.2.1.1)) ?_
    refine ok_s ?_
    replace h := ob h; obtain ⟨zv6, ezv6, h⟩ := h
    obtain ⟨v6, ev6, tv6⟩ := o_ldI hM1 wthis.2.2.2.2.2.2.2.2.2.2.1.2 rfl tp1 ezv6
    refine ok_b ev6 ?_
    by_cases c2 : zv6 = 0
    · replace h := it_t c2 h
      refine ok_t ((c_eq tv6 (show (0 : Int32).toInt = 0 from rfl)).mpr c2) ?_
      exact o_ri0 (show ((-15) : Int32).toInt = (-15) from rfl) hM1 h
    · replace h := it_f c2 h
      refine ok_f (mt (c_eq tv6 (show (0 : Int32).toInt = 0 from rfl)).mp c2) ?_
      refine ok_b (o_rdS hM1 wthis.1 (wthis.2.2.2.2.2.2.2.2.2.2.2.2.2.1.1)) ?_
      refine ok_s ?_
      replace h := ob h; obtain ⟨zv10, ezv10, h⟩ := h
      obtain ⟨v10, ev10, tv10⟩ := o_ldI hM1 wthis.2.2.2.2.2.2.2.2.2.2.2.2.2.1.2 rfl tp1 ezv10
      refine ok_b ev10 ?_
      by_cases c3 : zv10 = 0
      · replace h := it_t c3 h
        refine ok_t ((c_eq tv10 (show (0 : Int32).toInt = 0 from rfl)).mpr c3) ?_
        refine ok_b (o_rdS hM1 wthis.1 (wthis.2.2.2.2.2.2.2.2.2.2.2.1.1)) ?_
        refine ok_s ?_
        replace h := ob h; obtain ⟨zv14, ezv14, h⟩ := h
        obtain ⟨v14, ev14, tv14⟩ := o_ldI hM1 wthis.2.2.2.2.2.2.2.2.2.2.2.1.2 rfl tp1 ezv14
        refine ok_b ev14 ?_
        refine ok_b (o_rdS hM1 wthis.1 (wthis.2.2.2.2.2.2.2.2.2.2.1.1)) ?_
        refine ok_s ?_
        replace h := ob h; obtain ⟨zv17, ezv17, h⟩ := h
        obtain ⟨v17, ev17, tv17⟩ := o_ldI hM1 wthis.2.2.2.2.2.2.2.2.2.2.1.2 rfl tp1 ezv17
        refine ok_b ev17 ?_
        replace h := nv_e h; obtain ⟨zv19, ezv19, h⟩ := h
        obtain ⟨v19, evv19⟩ : ∃ v : Int32, v = (if v17 = 3 then 100 else 0) := ⟨_, rfl⟩
        have tv19 : v19.toInt = zv19 := by rw [evv19, ezv19]; exact (t_ite (c_eq tv17 (show (3 : Int32).toInt = 3 from rfl)) (show (100 : Int32).toInt = 100 from rfl) (show (0 : Int32).toInt = 0 from rfl))
        refine ok_nv evv19 ?_
        exact o_ri0 (t_add tv14 tv19) hM1 h
      · replace h := it_f c3 h
        refine ok_f (mt (c_eq tv10 (show (0 : Int32).toInt = 0 from rfl)).mp c3) ?_
        exact o_ri0 (show ((-15) : Int32).toInt = (-15) from rfl) hM1 h
  · replace h := it_f c1 h
    refine ok_f (mt (c_eq tv3 (show (0 : Int32).toInt = 0 from rfl)).mp c1) ?_
    refine ok_b (o_isO hM1 wthis.1) ?_
    replace h := ob h; obtain ⟨zv24, ezv24, h⟩ := h
    obtain ⟨⟨v24, M22⟩, eM22, tv24, hM22⟩ := h_X12_lacksGlider hM1 wthis tp1 ezv24
    refine ok_b eM22 ?_
    exact o_ri0 tv24 hM22 h
