set_option maxHeartbeats 4000000 in
set_option maxRecDepth 100000 in
theorem h_X12_takesTest_L15 {E : Em} {z : Int} {J1 : Jm}   (x0 : Nat) (wx0 : W12 E x0) (x1 : Int32) (zx1 : Int) (tx1 : x1.toInt = zx1) : ∀ (fu : Nat), ∀ (M0 : Mm) (J0 : Jm), Mre E M0 J0 → H_X12_takesTest_L15 x0 zx1 fu J0 = some (z, J1) → Ok (F_X12_takesTest_L15 x0 x1 fu M0) (fun q => q.1.toInt = z ∧ Mre E q.2 J1) := by
  intro fu
  induction fu with
  | zero =>
    intro  M0 J0 hM0 h
    rw [H_X12_takesTest_L15] at h
    cases h
  | succ n6 ih =>
    intro  M0 J0 hM0 h
    rw [H_X12_takesTest_L15] at h
    rw [F_X12_takesTest_L15]
    refine ok_b (o_isO hM0 wx0.1) ?_
    replace h := ob h; obtain ⟨zv9, ezv9, h⟩ := h
    obtain ⟨⟨v9, M7⟩, eM7, tv9, hM7⟩ := h_X12_at hM0 wx0 ezv9
    refine ok_b eM7 ?_
    by_cases c2 : zv9 = 38
    · replace h := it_t c2 h
      refine ok_t ((c_eq tv9 (show (38 : Int32).toInt = 38 from rfl)).mpr c2) ?_
      obtain ⟨v11, ev11, tv11⟩ := o_rdI (k := 12) hM7 wx0.1
      refine ok_b ev11 ?_
      replace h := nv_e h; obtain ⟨J12, eJ12, h⟩ := h
      obtain ⟨M12, eM12, hM12⟩ := o_wrI (k := 12) hM7 wx0.1 (t_add tv11 (show (1 : Int32).toInt = 1 from rfl)) eJ12
      refine ok_b eM12 ?_
      refine ok_b (o_isO hM12 wx0.1) ?_
      replace h := ob h; obtain ⟨⟨zv15, J13⟩, ezv15, h⟩ := h
      obtain ⟨⟨v15, M13⟩, eM13, tv15, hM13⟩ := h_X12_takesCheck hM12 wx0 tx1 ezv15
      refine ok_b eM13 ?_
      by_cases c3 : zv15 = 0
      · replace h := it_t c3 h
        refine ok_t ((c_eq tv15 (show (0 : Int32).toInt = 0 from rfl)).mpr c3) ?_
        exact o_ri (show (0 : Int32).toInt = 0 from rfl) hM13 h
      · replace h := it_f c3 h
        refine ok_f (mt (c_eq tv15 (show (0 : Int32).toInt = 0 from rfl)).mp c3) ?_
        exact ih _ _ hM13 h
    · replace h := it_f c2 h
      refine ok_f (mt (c_eq tv9 (show (38 : Int32).toInt = 38 from rfl)).mp c2) ?_
      exact o_ri (show (1 : Int32).toInt = 1 from rfl) hM7 h
set_option maxHeartbeats 4000000 in
set_option maxRecDepth 100000 in
theorem h_X12_takesTest {E : Em} {M : Mm} {J : Jm} (hM : Mre E M J) {this : Nat} (wthis : W12 E this) {p1 : Int32} {zp1 : Int} (tp1 : p1.toInt = zp1) {z : Int} {J1 : Jm} (h : H_X12_takesTest this zp1 J = some (z, J1)) : Ok (F_X12_takesTest this p1 M) (fun q => q.1.toInt = z ∧ Mre E q.2 J1) := by
  unfold H_X12_takesTest at h
  unfold F_X12_takesTest
  replace h := nv_e h; obtain ⟨J1, eJ1, h⟩ := h
  obtain ⟨M1, eM1, hM1⟩ := o_wrZ (k := 15) hM wthis.1 (show (1 : Int32).toInt = 1 from rfl) (by decide) eJ1
  refine ok_b eM1 ?_
  refine ok_b (o_isO hM1 wthis.1) ?_
  replace h := ob h; obtain ⟨⟨zv4, J2⟩, ezv4, h⟩ := h
  obtain ⟨⟨v4, M2⟩, eM2, tv4, hM2⟩ := h_X12_takesCheck hM1 wthis tp1 ezv4
  refine ok_b eM2 ?_
  by_cases c1 : zv4 = 0
  · replace h := it_t c1 h
    refine ok_t ((c_eq tv4 (show (0 : Int32).toInt = 0 from rfl)).mpr c1) ?_
    exact o_ri (show (0 : Int32).toInt = 0 from rfl) hM2 h
  · replace h := it_f c1 h
    refine ok_f (mt (c_eq tv4 (show (0 : Int32).toInt = 0 from rfl)).mp c1) ?_
    refine h_X12_takesTest_L15   _ wthis _ _ tp1 _ _ _ hM2 h

set_option maxHeartbeats 4000000 in
set_option maxRecDepth 100000 in
theorem h_X12_takesAct {E : Em} {M : Mm} {J : Jm} (hM : Mre E M J) {this : Nat} (wthis : W12 E this) {p1 : Int32} {zp1 : Int} (tp1 : p1.toInt = zp1) {z : Int} {J1 : Jm} (h : H_X12_takesAct this zp1 J = some (z, J1)) : Ok (F_X12_takesAct this p1 M) (fun q => q.1.toInt = z ∧ Mre E q.2 J1) := by
  unfold H_X12_takesAct at h
  unfold F_X12_takesAct
  refine ok_b (o_isO hM wthis.1) ?_
  replace h := ob h; obtain ⟨zv3, ezv3, h⟩ := h
  obtain ⟨⟨v3, M1⟩, eM1, tv3, hM1⟩ := h_X12_at hM wthis ezv3
  refine ok_b eM1 ?_
  replace h := jp_e h; obtain ⟨k4h, ek4h, h⟩ := h
  refine ok_jp (fun k4 ek4 => ?_)
  have Jk4 : ∀ (M5 : Mm) (J5 : Jm), Mre E M5 J5 → k4h J5 = some (z, J1) → Ok (k4 M5) (fun q => q.1.toInt = z ∧ Mre E q.2 J1) := by
    intro M5 J5 hM5 h
    rw [ek4]
    rw [ek4h] at h
    obtain ⟨v6, ev6, tv6⟩ := o_rdI (k := 12) hM5 wthis.1
    refine ok_b ev6 ?_
    replace h := nv_e h; obtain ⟨J7, eJ7, h⟩ := h
    obtain ⟨M7, eM7, hM7⟩ := o_wrI (k := 12) hM5 wthis.1 (t_add tv6 (show (1 : Int32).toInt = 1 from rfl)) eJ7
    refine ok_b eM7 ?_
    replace h := jp_e h; obtain ⟨k8h, ek8h, h⟩ := h
    refine ok_jp (fun k8 ek8 => ?_)
    have Jk8 : ∀ (x9 : Int32) (zx9 : Int), x9.toInt = zx9 → ∀ (x10 : Int32) (zx10 : Int), x10.toInt = zx10 → ∀ (M11 : Mm) (J11 : Jm), Mre E M11 J11 → k8h zx9 zx10 J11 = some (z, J1) → Ok (k8 x9 x10 M11) (fun q => q.1.toInt = z ∧ Mre E q.2 J1) := by
      intro x9 zx9 tx9 x10 zx10 tx10 M11 J11 hM11 h
      rw [ek8]
      rw [ek8h] at h
      replace h := jp_e h; obtain ⟨k12h, ek12h, h⟩ := h
      refine ok_jp (fun k12 ek12 => ?_)
      have Jk12 : ∀ (x13 : Int32) (zx13 : Int), x13.toInt = zx13 → ∀ (M14 : Mm) (J14 : Jm), Mre E M14 J14 → k12h zx13 J14 = some (z, J1) → Ok (k12 x13 M14) (fun q => q.1.toInt = z ∧ Mre E q.2 J1) := by
        intro x13 zx13 tx13 M14 J14 hM14 h
        rw [ek12]
        rw [ek12h] at h
        obtain ⟨v15, ev15, tv15⟩ := o_rdI (k := 15) hM14 wthis.1
        refine ok_b ev15 ?_
        by_cases c1 : (J14 this 15) = 0
        · replace h := it_t c1 h
          refine ok_t ((c_eq tv15 (show (0 : Int32).toInt = 0 from rfl)).mpr c1) ?_
          exact o_ri (show (1 : Int32).toInt = 1 from rfl) hM14 h
        · replace h := it_f c1 h
          refine ok_f (mt (c_eq tv15 (show (0 : Int32).toInt = 0 from rfl)).mp c1) ?_
          obtain ⟨v17, ev17, tv17⟩ := o_rdI (k := 16) hM14 wthis.1
          refine ok_b ev17 ?_
          by_cases c2 : (J14 this 16) < 0
          · replace h := it_t c2 h
            refine ok_t ((c_lt tv17 (show (0 : Int32).toInt = 0 from rfl)).mpr c2) ?_
            replace h := nv_e h; obtain ⟨J19, eJ19, h⟩ := h
            obtain ⟨M19, eM19, hM19⟩ := o_wrI (k := 16) hM14 wthis.1 tp1 eJ19
            refine ok_b eM19 ?_
            replace h := nv_e h; obtain ⟨J20, eJ20, h⟩ := h
            obtain ⟨M20, eM20, hM20⟩ := o_wrI (k := 17) hM19 wthis.1 tv3 eJ20
            refine ok_b eM20 ?_
            replace h := nv_e h; obtain ⟨J21, eJ21, h⟩ := h
            obtain ⟨M21, eM21, hM21⟩ := o_wrI (k := 18) hM20 wthis.1 tx9 eJ21
            refine ok_b eM21 ?_
            replace h := nv_e h; obtain ⟨J22, eJ22, h⟩ := h
            obtain ⟨M22, eM22, hM22⟩ := o_wrI (k := 19) hM21 wthis.1 tx10 eJ22
            refine ok_b eM22 ?_
            replace h := nv_e h; obtain ⟨J23, eJ23, h⟩ := h
            obtain ⟨M23, eM23, hM23⟩ := o_wrI (k := 20) hM22 wthis.1 tx13 eJ23
            refine ok_b eM23 ?_
            exact o_ri (show (1 : Int32).toInt = 1 from rfl) hM23 h
          · replace h := it_f c2 h
            refine ok_f (mt (c_lt tv17 (show (0 : Int32).toInt = 0 from rfl)).mp c2) ?_
            exact o_ri (show (1 : Int32).toInt = 1 from rfl) hM14 h
      by_cases c3 : zv3 = 117
      · replace h := it_t c3 h
        refine ok_t ((c_eq tv3 (show (117 : Int32).toInt = 117 from rfl)).mpr c3) ?_
        exact Jk12 _ _ (show (0 : Int32).toInt = 0 from rfl) _ _ hM11 h
      · replace h := it_f c3 h
        refine ok_f (mt (c_eq tv3 (show (117 : Int32).toInt = 117 from rfl)).mp c3) ?_
        refine ok_b (o_isO hM11 wthis.1) ?_
        replace h := ob h; obtain ⟨⟨zv28, J26⟩, ezv28, h⟩ := h
        obtain ⟨⟨v28, M26⟩, eM26, tv28, hM26⟩ := h_X12_takes hM11 wthis (show (0 : Int32).toInt = 0 from rfl) (show (3 : Int32).toInt = 3 from rfl) ezv28
        refine ok_b eM26 ?_
        by_cases c4 : zv28 = 0
        · replace h := it_t c4 h
          refine ok_t ((c_eq tv28 (show (0 : Int32).toInt = 0 from rfl)).mpr c4) ?_
          exact o_ri (show (0 : Int32).toInt = 0 from rfl) hM26 h
        · replace h := it_f c4 h
          refine ok_f (mt (c_eq tv28 (show (0 : Int32).toInt = 0 from rfl)).mp c4) ?_
          obtain ⟨v30, ev30, tv30⟩ := o_rdI (k := 14) hM26 wthis.1
          refine ok_b ev30 ?_
          exact Jk12 _ _ tv30 _ _ hM26 h
    by_cases c5 : zv3 = 103
    · replace h := it_t c5 h
      refine ok_t ((c_eq tv3 (show (103 : Int32).toInt = 103 from rfl)).mpr c5) ?_
      refine ok_b (o_isO hM7 wthis.1) ?_
      replace h := ob h; obtain ⟨⟨zv35, J33⟩, ezv35, h⟩ := h
      obtain ⟨⟨v35, M33⟩, eM33, tv35, hM33⟩ := h_X12_takes hM7 wthis (show (0 : Int32).toInt = 0 from rfl) (show (9 : Int32).toInt = 9 from rfl) ezv35
      refine ok_b eM33 ?_
      by_cases c6 : zv35 = 0
      · replace h := it_t c6 h
        refine ok_t ((c_eq tv35 (show (0 : Int32).toInt = 0 from rfl)).mpr c6) ?_
        exact o_ri (show (0 : Int32).toInt = 0 from rfl) hM33 h
      · replace h := it_f c6 h
        refine ok_f (mt (c_eq tv35 (show (0 : Int32).toInt = 0 from rfl)).mp c6) ?_
        obtain ⟨v37, ev37, tv37⟩ := o_rdI (k := 14) hM33 wthis.1
        refine ok_b ev37 ?_
        refine ok_b (o_isO hM33 wthis.1) ?_
        replace h := ob h; obtain ⟨⟨zv40, J38⟩, ezv40, h⟩ := h
        obtain ⟨⟨v40, M38⟩, eM38, tv40, hM38⟩ := h_X12_takes hM33 wthis (show (0 : Int32).toInt = 0 from rfl) (show (7 : Int32).toInt = 7 from rfl) ezv40
        refine ok_b eM38 ?_
        by_cases c7 : zv40 = 0
        · replace h := it_t c7 h
          refine ok_t ((c_eq tv40 (show (0 : Int32).toInt = 0 from rfl)).mpr c7) ?_
          exact o_ri (show (0 : Int32).toInt = 0 from rfl) hM38 h
        · replace h := it_f c7 h
          refine ok_f (mt (c_eq tv40 (show (0 : Int32).toInt = 0 from rfl)).mp c7) ?_
          obtain ⟨v42, ev42, tv42⟩ := o_rdI (k := 14) hM38 wthis.1
          refine ok_b ev42 ?_
          exact Jk8 _ _ tv37 _ _ tv42 _ _ hM38 h
    · replace h := it_f c5 h
      refine ok_f (mt (c_eq tv3 (show (103 : Int32).toInt = 103 from rfl)).mp c5) ?_
      exact Jk8 _ _ (show (0 : Int32).toInt = 0 from rfl) _ _ (show (0 : Int32).toInt = 0 from rfl) _ _ hM7 h
  by_cases c8 : zv3 = 115
  · replace h := it_t c8 h
    refine ok_t ((c_eq tv3 (show (115 : Int32).toInt = 115 from rfl)).mpr c8) ?_
    exact Jk4 _ _ hM1 h
  · replace h := it_f c8 h
    refine ok_f (mt (c_eq tv3 (show (115 : Int32).toInt = 115 from rfl)).mp c8) ?_
    by_cases c9 : zv3 = 103
    · replace h := it_t c9 h
      refine ok_t ((c_eq tv3 (show (103 : Int32).toInt = 103 from rfl)).mpr c9) ?_
      exact Jk4 _ _ hM1 h
    · replace h := it_f c9 h
      refine ok_f (mt (c_eq tv3 (show (103 : Int32).toInt = 103 from rfl)).mp c9) ?_
      by_cases c10 : zv3 = 117
      · replace h := it_t c10 h
        refine ok_t ((c_eq tv3 (show (117 : Int32).toInt = 117 from rfl)).mpr c10) ?_
        exact Jk4 _ _ hM1 h
      · replace h := it_f c10 h
        refine ok_f (mt (c_eq tv3 (show (117 : Int32).toInt = 117 from rfl)).mp c10) ?_
        exact o_ri (show (0 : Int32).toInt = 0 from rfl) hM1 h

set_option maxHeartbeats 4000000 in
set_option maxRecDepth 100000 in
theorem h_X12_goesOrder_L77 {E : Em} {z : Int} {J1 : Jm}  (k158 : Int32 → Mm → Option (Int32 × Mm)) (k158h : Int → Jm → Option (Int × Jm)) (hk158 : ∀ (y0 : Int32) (zy0 : Int), y0.toInt = zy0 → ∀ (M9 : Mm) (J9 : Jm), Mre E M9 J9 → k158h zy0 J9 = some (z, J1) → Ok (k158 y0 M9) (fun q => q.1.toInt = z ∧ Mre E q.2 J1)) (x0 : Nat) (wx0 : W12 E x0) (x2 : Int32) (zx2 : Int) (tx2 : x2.toInt = zx2) : ∀ (fu : Nat), ∀ (x3 : Int32) (zx3 : Int), x3.toInt = zx3 → ∀ (M0 : Mm) (J0 : Jm), Mre E M0 J0 → H_X12_goesOrder_L77 k158h x0 zx2 fu zx3 J0 = some (z, J1) → Ok (F_X12_goesOrder_L77 k158 x0 x2 fu x3 M0) (fun q => q.1.toInt = z ∧ Mre E q.2 J1) := by
  intro fu
  induction fu with
  | zero =>
    intro x3 zx3 tx3 M0 J0 hM0 h
    rw [H_X12_goesOrder_L77] at h
    cases h
  | succ n15 ih =>
    intro x3 zx3 tx3 M0 J0 hM0 h
    rw [H_X12_goesOrder_L77] at h
    rw [F_X12_goesOrder_L77]
    obtain ⟨v16, ev16, tv16⟩ := o_rdI (k := 12) hM0 wx0.1
    refine ok_b ev16 ?_
    obtain ⟨v17, ev17, tv17⟩ := o_rdI (k := 11) hM0 wx0.1
    refine ok_b ev17 ?_
    by_cases c1 : (J0 x0 11) ≤ (J0 x0 12)
    · replace h := it_t c1 h
      refine ok_t ((c_le tv17 tv16).mpr c1) ?_
      exact hk158 _ _ tx3 _ _ hM0 h
    · replace h := it_f c1 h
      refine ok_f (mt (c_le tv17 tv16).mp c1) ?_
      by_cases c2 : zx3 = 6
      · replace h := it_t c2 h
        refine ok_t ((c_eq tx3 (show (6 : Int32).toInt = 6 from rfl)).mpr c2) ?_
        exact o_ri (show (0 : Int32).toInt = 0 from rfl) hM0 h
      · replace h := it_f c2 h
        refine ok_f (mt (c_eq tx3 (show (6 : Int32).toInt = 6 from rfl)).mp c2) ?_
        refine ok_b (o_isO hM0 wx0.1) ?_
        replace h := ob h; obtain ⟨⟨zv22, J20⟩, ezv22, h⟩ := h
        obtain ⟨⟨v22, M20⟩, eM20, tv22, hM20⟩ := h_X12_takesTest hM0 wx0 tx2 ezv22
        refine ok_b eM20 ?_
        by_cases c3 : zv22 = 0
        · replace h := it_t c3 h
          refine ok_t ((c_eq tv22 (show (0 : Int32).toInt = 0 from rfl)).mpr c3) ?_
          exact o_ri (show (0 : Int32).toInt = 0 from rfl) hM20 h
        · replace h := it_f c3 h
          refine ok_f (mt (c_eq tv22 (show (0 : Int32).toInt = 0 from rfl)).mp c3) ?_
          refine ok_b (o_isO hM20 wx0.1) ?_
          replace h := ob h; obtain ⟨zv26, ezv26, h⟩ := h
          obtain ⟨⟨v26, M24⟩, eM24, tv26, hM24⟩ := h_X12_at hM20 wx0 ezv26
          refine ok_b eM24 ?_
          by_cases c4 : zv26 = 63
          · replace h := it_t c4 h
            refine ok_t ((c_eq tv26 (show (63 : Int32).toInt = 63 from rfl)).mpr c4) ?_
            obtain ⟨v28, ev28, tv28⟩ := o_rdI (k := 12) hM24 wx0.1
            refine ok_b ev28 ?_
            replace h := nv_e h; obtain ⟨J29, eJ29, h⟩ := h
            obtain ⟨M29, eM29, hM29⟩ := o_wrI (k := 12) hM24 wx0.1 (t_add tv28 (show (1 : Int32).toInt = 1 from rfl)) eJ29
            refine ok_b eM29 ?_
            refine ok_b (o_isO hM29 wx0.1) ?_
            replace h := ob h; obtain ⟨⟨zv32, J30⟩, ezv32, h⟩ := h
            obtain ⟨⟨v32, M30⟩, eM30, tv32, hM30⟩ := h_X12_takesAct hM29 wx0 tx3 ezv32
            refine ok_b eM30 ?_
            by_cases c5 : zv32 = 0
            · replace h := it_t c5 h
              refine ok_t ((c_eq tv32 (show (0 : Int32).toInt = 0 from rfl)).mpr c5) ?_
              exact o_ri (show (0 : Int32).toInt = 0 from rfl) hM30 h
            · replace h := it_f c5 h
              refine ok_f (mt (c_eq tv32 (show (0 : Int32).toInt = 0 from rfl)).mp c5) ?_
              refine ok_b (o_isO hM30 wx0.1) ?_
              replace h := ob h; obtain ⟨zv36, ezv36, h⟩ := h
              obtain ⟨⟨v36, M34⟩, eM34, tv36, hM34⟩ := h_X12_at hM30 wx0 ezv36
              refine ok_b eM34 ?_
              by_cases c6 : zv36 = 59
              · replace h := it_t c6 h
                refine ok_t ((c_eq tv36 (show (59 : Int32).toInt = 59 from rfl)).mpr c6) ?_
                obtain ⟨v38, ev38, tv38⟩ := o_rdI (k := 12) hM34 wx0.1
                refine ok_b ev38 ?_
                replace h := nv_e h; obtain ⟨J39, eJ39, h⟩ := h
                obtain ⟨M39, eM39, hM39⟩ := o_wrI (k := 12) hM34 wx0.1 (t_add tv38 (show (1 : Int32).toInt = 1 from rfl)) eJ39
                refine ok_b eM39 ?_
                exact ih _ _ (t_add tx3 (show (1 : Int32).toInt = 1 from rfl)) _ _ hM39 h
              · replace h := it_f c6 h
                refine ok_f (mt (c_eq tv36 (show (59 : Int32).toInt = 59 from rfl)).mp c6) ?_
                exact o_ri (show (0 : Int32).toInt = 0 from rfl) hM34 h
          · replace h := it_f c4 h
            refine ok_f (mt (c_eq tv26 (show (63 : Int32).toInt = 63 from rfl)).mp c4) ?_
            exact o_ri (show (0 : Int32).toInt = 0 from rfl) hM24 h
set_option maxHeartbeats 4000000 in
set_option maxRecDepth 100000 in
theorem h_X12_goesOrder {E : Em} {M : Mm} {J : Jm} (hM : Mre E M J) {this : Nat} (wthis : W12 E this) {p1 : Int32} {zp1 : Int} (tp1 : p1.toInt = zp1) {p2 : Int32} {zp2 : Int} (tp2 : p2.toInt = zp2) {z : Int} {J1 : Jm} (h : H_X12_goesOrder this zp1 zp2 J = some (z, J1)) : Ok (F_X12_goesOrder this p1 p2 M) (fun q => q.1.toInt = z ∧ Mre E q.2 J1) := by
  unfold H_X12_goesOrder at h
  unfold F_X12_goesOrder
  replace h := nv_e h; obtain ⟨zv1, ezv1, h⟩ := h
  obtain ⟨v1, evv1⟩ : ∃ v : Int32, v = (if 0 ≤ p1 then 0 else 1) := ⟨_, rfl⟩
  have tv1 : v1.toInt = zv1 := by rw [evv1, ezv1]; exact (t_ite (c_le (show (0 : Int32).toInt = 0 from rfl) tp1) (show (0 : Int32).toInt = 0 from rfl) (show (1 : Int32).toInt = 1 from rfl))
  refine ok_nv evv1 ?_
  replace h := ob h; obtain ⟨_, hzM3, h⟩ := h
  replace h := nv_e h; obtain ⟨J3, eJ3, h⟩ := h
  obtain ⟨M3, eM3, hM3⟩ := o_wrZ (k := 13) hM wthis.1 tv1 (jZ_e hzM3) eJ3
  refine ok_b eM3 ?_
  obtain ⟨v4, ev4, tv4⟩ := o_rdI (k := 13) hM3 wthis.1
  refine ok_b ev4 ?_
  replace h := nv_e h; obtain ⟨zv5, ezv5, h⟩ := h
  obtain ⟨v5, evv5⟩ : ∃ v : Int32, v = (if v4 = 0 then (7559 + (80 * p1)) else 0) := ⟨_, rfl⟩
  have tv5 : v5.toInt = zv5 := by rw [evv5, ezv5]; exact (t_ite (c_eq tv4 (show (0 : Int32).toInt = 0 from rfl)) (t_add (show (7559 : Int32).toInt = 7559 from rfl) (t_mul (show (80 : Int32).toInt = 80 from rfl) tp1)) (show (0 : Int32).toInt = 0 from rfl))
  refine ok_nv evv5 ?_
  replace h := nv_e h; obtain ⟨J7, eJ7, h⟩ := h
  obtain ⟨M7, eM7, hM7⟩ := o_wrI (k := 10) hM3 wthis.1 tv5 eJ7
  refine ok_b eM7 ?_
  obtain ⟨v8, ev8, tv8⟩ := o_rdI (k := 13) hM7 wthis.1
  refine ok_b ev8 ?_
  replace h := jp_e h; obtain ⟨k9h, ek9h, h⟩ := h
  refine ok_jp (fun k9 ek9 => ?_)
  have Jk9 : ∀ (s10 : Int32) (zs10 : Int), s10.toInt = zs10 → ∀ (M11 : Mm) (J11 : Jm), Mre E M11 J11 → k9h zs10 J11 = some (z, J1) → Ok (k9 s10 M11) (fun q => q.1.toInt = z ∧ Mre E q.2 J1) := by
    intro s10 zs10 ts10 M11 J11 hM11 h
    rw [ek9]
    rw [ek9h] at h
    replace h := nv_e h; obtain ⟨J12, eJ12, h⟩ := h
    obtain ⟨M12, eM12, hM12⟩ := o_wrI (k := 11) hM11 wthis.1 ts10 eJ12
    refine ok_b eM12 ?_
    replace h := nv_e h; obtain ⟨J13, eJ13, h⟩ := h
    obtain ⟨M13, eM13, hM13⟩ := o_wrI (k := 12) hM12 wthis.1 (show (0 : Int32).toInt = 0 from rfl) eJ13
    refine ok_b eM13 ?_
    replace h := nv_e h; obtain ⟨J14, eJ14, h⟩ := h
    obtain ⟨M14, eM14, hM14⟩ := o_wrI (k := 16) hM13 wthis.1 (show ((-4) : Int32).toInt = (-4) from rfl) eJ14
    refine ok_b eM14 ?_
    refine h_X12_goesOrder_L77  _ _ ?_ _ wthis _ _ tp2 _ _ _ (show (0 : Int32).toInt = 0 from rfl) _ _ hM14 h
    intro y40 zy40 ty40 M41 J41 hM41 h
    by_cases c7 : zy40 ≤ 0
    · replace h := it_t c7 h
      refine ok_t ((c_le ty40 (show (0 : Int32).toInt = 0 from rfl)).mpr c7) ?_
      exact o_ri (show (0 : Int32).toInt = 0 from rfl) hM41 h
    · replace h := it_f c7 h
      refine ok_f (mt (c_le ty40 (show (0 : Int32).toInt = 0 from rfl)).mp c7) ?_
      exact o_ri (show (1 : Int32).toInt = 1 from rfl) hM41 h
  by_cases c8 : (J7 this 13) = 0
  · replace h := it_t c8 h
    refine ok_t ((c_eq tv8 (show (0 : Int32).toInt = 0 from rfl)).mpr c8) ?_
    refine ok_b (o_rdS hM7 wthis.1 (wthis.2.1.1)) ?_
    refine ok_s ?_
    replace h := ob h; obtain ⟨zv46, ezv46, h⟩ := h
    obtain ⟨v46, ev46, tv46⟩ := o_ldI hM7 wthis.2.1.2 rfl (t_add (show (8359 : Int32).toInt = 8359 from rfl) tp1) ezv46
    refine ok_b ev46 ?_
    exact Jk9 _ _ tv46 _ _ hM7 h
  · replace h := it_f c8 h
    refine ok_f (mt (c_eq tv8 (show (0 : Int32).toInt = 0 from rfl)).mp c8) ?_
    obtain ⟨v48, ev48, tv48⟩ := o_rdI (k := 9) hM7 wthis.1
    refine ok_b ev48 ?_
    exact Jk9 _ _ tv48 _ _ hM7 h

set_option maxHeartbeats 4000000 in
set_option maxRecDepth 100000 in
theorem h_X12_lacksText {E : Em} {M : Mm} {J : Jm} (hM : Mre E M J) {this : Nat} (wthis : W12 E this) {p1 : Int32} {zp1 : Int} (tp1 : p1.toInt = zp1) {z : Int} (h : H_X12_lacksText this zp1 J = some z) : Ok (F_X12_lacksText this p1 M) (fun q => q.1.toInt = z ∧ Mre E q.2 J) := by
  unfold H_X12_lacksText at h
  unfold F_X12_lacksText
  refine ok_b (o_isO hM wthis.1) ?_
  replace h := ob h; obtain ⟨zv3, ezv3, h⟩ := h
  obtain ⟨⟨v3, M1⟩, eM1, tv3, hM1⟩ := h_X12_is hM wthis tp1 (show (0 : Int32).toInt = 0 from rfl) (show (7 : Int32).toInt = 7 from rfl) ezv3
  refine ok_b eM1 ?_
  by_cases c1 : zv3 = 0
  · replace h := it_t c1 h
    refine ok_t ((c_eq tv3 (show (0 : Int32).toInt = 0 from rfl)).mpr c1) ?_
    exact o_ri0 (show ((-1) : Int32).toInt = (-1) from rfl) hM1 h
  · replace h := it_f c1 h
    refine ok_f (mt (c_eq tv3 (show (0 : Int32).toInt = 0 from rfl)).mp c1) ?_
    refine ok_b (o_rdS hM1 wthis.1 (wthis.2.2.2.2.2.2.2.2.2.1.1)) ?_
    refine ok_s ?_
    replace h := ob h; obtain ⟨zv6, ezv6, h⟩ := h
    obtain ⟨v6, ev6, tv6⟩ := o_ldI hM1 wthis.2.2.2.2.2.2.2.2.2.1.2 rfl tp1 ezv6
    refine ok_b ev6 ?_
    by_cases c2 : zv6 = 0
    · replace h := it_t c2 h
      refine ok_t ((c_eq tv6 (show (0 : Int32).toInt = 0 from rfl)).mpr c2) ?_
      exact o_ri0 (show ((-11) : Int32).toInt = (-11) from rfl) hM1 h
    · replace h := it_f c2 h
      refine ok_f (mt (c_eq tv6 (show (0 : Int32).toInt = 0 from rfl)).mp c2) ?_
      refine ok_b (o_rdS hM1 wthis.1 (wthis.2.2.2.2.2.2.2.2.2.1.1)) ?_
      refine ok_s ?_
      replace h := ob h; obtain ⟨zv10, ezv10, h⟩ := h
      obtain ⟨v10, ev10, tv10⟩ := o_ldI hM1 wthis.2.2.2.2.2.2.2.2.2.1.2 rfl tp1 ezv10
      refine ok_b ev10 ?_
      by_cases c3 : zv10 = 2
      · replace h := it_t c3 h
        refine ok_t ((c_eq tv10 (show (2 : Int32).toInt = 2 from rfl)).mpr c3) ?_
        refine ok_b (o_rdS hM1 wthis.1 (wthis.2.2.2.2.2.2.2.2.2.2.2.2.2.2.1.1)) ?_
        refine ok_s ?_
        replace h := ob h; obtain ⟨zv14, ezv14, h⟩ := h
        obtain ⟨v14, ev14, tv14⟩ := o_ldI hM1 wthis.2.2.2.2.2.2.2.2.2.2.2.2.2.2.1.2 rfl tp1 ezv14
        refine ok_b ev14 ?_
        by_cases c4 : zv14 = 0
        · replace h := it_t c4 h
          refine ok_t ((c_eq tv14 (show (0 : Int32).toInt = 0 from rfl)).mpr c4) ?_
          exact o_ri0 (show (0 : Int32).toInt = 0 from rfl) hM1 h
        · replace h := it_f c4 h
          refine ok_f (mt (c_eq tv14 (show (0 : Int32).toInt = 0 from rfl)).mp c4) ?_
          exact o_ri0 (show ((-12) : Int32).toInt = (-12) from rfl) hM1 h
      · replace h := it_f c3 h
        refine ok_f (mt (c_eq tv10 (show (2 : Int32).toInt = 2 from rfl)).mp c3) ?_
        exact o_ri0 (show ((-12) : Int32).toInt = (-12) from rfl) hM1 h

set_option maxHeartbeats 4000000 in
set_option maxRecDepth 100000 in
theorem h_X12_bring_L12 {E : Em} {J1 : Jm}   (x0 : Nat) (wx0 : W12 E x0) (x1 : Int32) (zx1 : Int) (tx1 : x1.toInt = zx1) : ∀ (fu : Nat), ∀ (x2 : Int32) (zx2 : Int), x2.toInt = zx2 → ∀ (M0 : Mm) (J0 : Jm), Mre E M0 J0 → H_X12_bring_L12 x0 zx1 fu zx2 J0 = some J1 → Ok (F_X12_bring_L12 x0 x1 fu x2 M0) (fun q => Mre E q J1) := by
  intro fu
  induction fu with
  | zero =>
    intro x2 zx2 tx2 M0 J0 hM0 h
    rw [H_X12_bring_L12] at h
    cases h
  | succ n5 ih =>
    intro x2 zx2 tx2 M0 J0 hM0 h
    rw [H_X12_bring_L12] at h
    rw [F_X12_bring_L12]
    refine ok_b (o_rdS hM0 wx0.1 (wx0.2.2.2.2.2.2.2.2.2.2.2.2.2.2.2.1.1)) ?_
    refine ok_s ?_
    replace h := ob h; obtain ⟨zv7, ezv7, h⟩ := h
    obtain ⟨v7, ev7, tv7⟩ := o_ldI hM0 wx0.2.2.2.2.2.2.2.2.2.2.2.2.2.2.2.1.2 rfl tx1 ezv7
    refine ok_b ev7 ?_
    by_cases c1 : zv7 ≤ zx2
    · replace h := it_t c1 h
      refine ok_t ((c_le tv7 tx2).mpr c1) ?_
      exact o_rv hM0 h
    · replace h := it_f c1 h
      refine ok_f (mt (c_le tv7 tx2).mp c1) ?_
      refine ok_b (o_rdS hM0 wx0.1 (wx0.2.2.2.1.1)) ?_
      refine ok_b (o_rdS hM0 wx0.1 (wx0.2.2.2.2.2.2.2.2.2.2.2.2.2.2.2.2.1.1)) ?_
      refine ok_s ?_
      replace h := ob h; obtain ⟨zv12, ezv12, h⟩ := h
      obtain ⟨v12, ev12, tv12⟩ := o_ldI hM0 wx0.2.2.2.2.2.2.2.2.2.2.2.2.2.2.2.2.1.2 rfl (t_add (t_mul (show (80 : Int32).toInt = 80 from rfl) tx1) tx2) ezv12
      refine ok_b ev12 ?_
      refine ok_s ?_
      replace h := ob h; obtain ⟨J14, eJ14, h⟩ := h
      obtain ⟨M14, eM14, hM14⟩ := o_stI hM0 wx0.2.2.2.1.2 rfl tx2 tv12 eJ14
      refine ok_b eM14 ?_
      exact ih _ _ (t_add tx2 (show (1 : Int32).toInt = 1 from rfl)) _ _ hM14 h
set_option maxHeartbeats 4000000 in
set_option maxRecDepth 100000 in
theorem h_X12_bring {E : Em} {M : Mm} {J : Jm} (hM : Mre E M J) {this : Nat} (wthis : W12 E this) {p1 : Int32} {zp1 : Int} (tp1 : p1.toInt = zp1) {J1 : Jm} (h : H_X12_bring this zp1 J = some J1) : Ok (F_X12_bring this p1 M) (fun q => Mre E q J1) := by
  unfold H_X12_bring at h
  unfold F_X12_bring
  refine ok_b (o_rdS hM wthis.1 (wthis.2.2.2.2.2.2.2.2.2.2.2.2.2.2.2.1.1)) ?_
  refine ok_s ?_
  replace h := ob h; obtain ⟨zv2, ezv2, h⟩ := h
  obtain ⟨v2, ev2, tv2⟩ := o_ldI hM wthis.2.2.2.2.2.2.2.2.2.2.2.2.2.2.2.1.2 rfl tp1 ezv2
  refine ok_b ev2 ?_
  replace h := nv_e h; obtain ⟨J4, eJ4, h⟩ := h
  obtain ⟨M4, eM4, hM4⟩ := o_wrI (k := 9) hM wthis.1 tv2 eJ4
  refine ok_b eM4 ?_
  refine h_X12_bring_L12   _ wthis _ _ tp1 _ _ _ (show (0 : Int32).toInt = 0 from rfl) _ _ hM4 h

set_option maxHeartbeats 4000000 in
set_option maxRecDepth 100000 in
theorem h_X12_fault {E : Em} {M : Mm} {J : Jm} (hM : Mre E M J) {this : Nat} (wthis : W12 E this) {p1 : Int32} {zp1 : Int} (tp1 : p1.toInt = zp1) {z : Int} {J1 : Jm} (h : H_X12_fault this zp1 J = some (z, J1)) : Ok (F_X12_fault this p1 M) (fun q => q.1.toInt = z ∧ Mre E q.2 J1) := by
  unfold H_X12_fault at h
  unfold F_X12_fault
  refine ok_b (o_isO hM wthis.1) ?_
  replace h := ob h; obtain ⟨zv3, ezv3, h⟩ := h
  obtain ⟨⟨v3, M1⟩, eM1, tv3, hM1⟩ := h_X12_lacksText hM wthis tp1 ezv3
  refine ok_b eM1 ?_
  by_cases c1 : zv3 = 0
  · replace h := it_t c1 h
    refine ok_t ((c_eq tv3 (show (0 : Int32).toInt = 0 from rfl)).mpr c1) ?_
    refine ok_b (o_isO hM1 wthis.1) ?_
    replace h := ob h; obtain ⟨J5, eJ5, h⟩ := h
    obtain ⟨M5, eM5, hM5⟩ := h_X12_bring hM1 wthis tp1 eJ5
    refine ok_b eM5 ?_
    refine ok_b (o_isO hM5 wthis.1) ?_
    replace h := ob h; obtain ⟨⟨zv9, J7⟩, ezv9, h⟩ := h
    obtain ⟨⟨v9, M7⟩, eM7, tv9, hM7⟩ := h_X12_goesOrder hM5 wthis (show ((-1) : Int32).toInt = (-1) from rfl) (show ((-1) : Int32).toInt = (-1) from rfl) ezv9
    refine ok_b eM7 ?_
    by_cases c2 : zv9 = 0
    · replace h := it_t c2 h
      refine ok_t ((c_eq tv9 (show (0 : Int32).toInt = 0 from rfl)).mpr c2) ?_
      obtain ⟨v11, ev11, tv11⟩ := o_rdI (k := 12) hM7 wthis.1
      refine ok_b ev11 ?_
      exact o_ri tv11 hM7 h
    · replace h := it_f c2 h
      refine ok_f (mt (c_eq tv9 (show (0 : Int32).toInt = 0 from rfl)).mp c2) ?_
      exact o_ri (show ((-4) : Int32).toInt = (-4) from rfl) hM7 h
  · replace h := it_f c1 h
    refine ok_f (mt (c_eq tv3 (show (0 : Int32).toInt = 0 from rfl)).mp c1) ?_
    refine ok_b (o_isO hM1 wthis.1) ?_
    replace h := ob h; obtain ⟨zv14, ezv14, h⟩ := h
    obtain ⟨⟨v14, M12⟩, eM12, tv14, hM12⟩ := h_X12_lacksText hM1 wthis tp1 ezv14
    refine ok_b eM12 ?_
    exact o_ri tv14 hM12 h

set_option maxHeartbeats 4000000 in
set_option maxRecDepth 100000 in
theorem h_X12_order_L81 {E : Em} {z : Int} {J1 : Jm}   (x0 : Nat) (wx0 : W12 E x0) (x2 : Int32) (zx2 : Int) (tx2 : x2.toInt = zx2) : ∀ (fu : Nat), ∀ (x3 : Int32) (zx3 : Int), x3.toInt = zx3 → ∀ (M0 : Mm) (J0 : Jm), Mre E M0 J0 → H_X12_order_L81 x0 zx2 fu zx3 J0 = some (z, J1) → Ok (F_X12_order_L81 x0 x2 fu x3 M0) (fun q => q.1.toInt = z ∧ Mre E q.2 J1) := by
  intro fu
  induction fu with
  | zero =>
    intro x3 zx3 tx3 M0 J0 hM0 h
    rw [H_X12_order_L81] at h
    cases h
  | succ n23 ih =>
    intro x3 zx3 tx3 M0 J0 hM0 h
    rw [H_X12_order_L81] at h
    rw [F_X12_order_L81]
    obtain ⟨v24, ev24, tv24⟩ := o_rdI (k := 9) hM0 wx0.1
    refine ok_b ev24 ?_
    by_cases c5 : (J0 x0 9) ≤ zx3
    · replace h := it_t c5 h
      refine ok_t ((c_le tv24 tx3).mpr c5) ?_
      refine ok_b (o_rdS hM0 wx0.1 (wx0.2.1.1)) ?_
      refine ok_s ?_
      replace h := ob h; obtain ⟨zv27, ezv27, h⟩ := h
      obtain ⟨v27, ev27, tv27⟩ := o_ldI hM0 wx0.2.1.2 rfl (show (4 : Int32).toInt = 4 from rfl) ezv27
      refine ok_b ev27 ?_
      replace h := ob h; obtain ⟨J29, eJ29, h⟩ := h
      obtain ⟨M29, eM29, hM29⟩ := o_stI hM0 wx0.2.1.2 rfl (show (4 : Int32).toInt = 4 from rfl) (t_add tv27 (show (1 : Int32).toInt = 1 from rfl)) eJ29
      refine ok_b eM29 ?_
      exact o_ri tx2 hM29 h
    · replace h := it_f c5 h
      refine ok_f (mt (c_le tv24 tx3).mp c5) ?_
      refine ok_b (o_rdS hM0 wx0.1 (wx0.2.1.1)) ?_
      refine ok_b (o_rdS hM0 wx0.1 (wx0.2.2.2.1.1)) ?_
      refine ok_s ?_
      replace h := ob h; obtain ⟨zv32, ezv32, h⟩ := h
      obtain ⟨v32, ev32, tv32⟩ := o_ldI hM0 wx0.2.2.2.1.2 rfl tx3 ezv32
      refine ok_b ev32 ?_
      refine ok_s ?_
      replace h := ob h; obtain ⟨J34, eJ34, h⟩ := h
      obtain ⟨M34, eM34, hM34⟩ := o_stI hM0 wx0.2.1.2 rfl (t_add (t_add (show (7559 : Int32).toInt = 7559 from rfl) (t_mul (show (80 : Int32).toInt = 80 from rfl) tx2)) tx3) tv32 eJ34
      refine ok_b eM34 ?_
      exact ih _ _ (t_add tx3 (show (1 : Int32).toInt = 1 from rfl)) _ _ hM34 h
set_option maxHeartbeats 4000000 in
set_option maxRecDepth 100000 in
theorem h_X12_order {E : Em} {M : Mm} {J : Jm} (hM : Mre E M J) {this : Nat} (wthis : W12 E this) {p1 : Int32} {zp1 : Int} (tp1 : p1.toInt = zp1) {z : Int} {J1 : Jm} (h : H_X12_order this zp1 J = some (z, J1)) : Ok (F_X12_order this p1 M) (fun q => q.1.toInt = z ∧ Mre E q.2 J1) := by
  unfold H_X12_order at h
  unfold F_X12_order
  refine ok_b (o_isO hM wthis.1) ?_
  replace h := ob h; obtain ⟨zv3, ezv3, h⟩ := h
  obtain ⟨⟨v3, M1⟩, eM1, tv3, hM1⟩ := h_X12_is hM wthis tp1 (show (0 : Int32).toInt = 0 from rfl) (show (7 : Int32).toInt = 7 from rfl) ezv3
  refine ok_b eM1 ?_
  by_cases c1 : zv3 = 0
  · replace h := it_t c1 h
    refine ok_t ((c_eq tv3 (show (0 : Int32).toInt = 0 from rfl)).mpr c1) ?_
    exact o_ri (show ((-1) : Int32).toInt = (-1) from rfl) hM1 h
  · replace h := it_f c1 h
    refine ok_f (mt (c_eq tv3 (show (0 : Int32).toInt = 0 from rfl)).mp c1) ?_
    refine ok_b (o_rdS hM1 wthis.1 (wthis.2.1.1)) ?_
    refine ok_s ?_
    replace h := ob h; obtain ⟨zv6, ezv6, h⟩ := h
    obtain ⟨v6, ev6, tv6⟩ := o_ldI hM1 wthis.2.1.2 rfl (show (4 : Int32).toInt = 4 from rfl) ezv6
    refine ok_b ev6 ?_
    by_cases c2 : zv6 = 10
    · replace h := it_t c2 h
      refine ok_t ((c_eq tv6 (show (10 : Int32).toInt = 10 from rfl)).mpr c2) ?_
      exact o_ri (show ((-2) : Int32).toInt = (-2) from rfl) hM1 h
    · replace h := it_f c2 h
      refine ok_f (mt (c_eq tv6 (show (10 : Int32).toInt = 10 from rfl)).mp c2) ?_
      refine ok_b (o_isO hM1 wthis.1) ?_
      replace h := ob h; obtain ⟨zv11, ezv11, h⟩ := h
      obtain ⟨⟨v11, M9⟩, eM9, tv11, hM9⟩ := h_X12_lacksText hM1 wthis tp1 ezv11
      refine ok_b eM9 ?_
      by_cases c3 : zv11 = 0
      · replace h := it_t c3 h
        refine ok_t ((c_eq tv11 (show (0 : Int32).toInt = 0 from rfl)).mpr c3) ?_
        refine ok_b (o_isO hM9 wthis.1) ?_
        replace h := ob h; obtain ⟨J13, eJ13, h⟩ := h
        obtain ⟨M13, eM13, hM13⟩ := h_X12_bring hM9 wthis tp1 eJ13
        refine ok_b eM13 ?_
        refine ok_b (o_isO hM13 wthis.1) ?_
        replace h := ob h; obtain ⟨⟨zv17, J15⟩, ezv17, h⟩ := h
        obtain ⟨⟨v17, M15⟩, eM15, tv17, hM15⟩ := h_X12_goesOrder hM13 wthis (show ((-1) : Int32).toInt = (-1) from rfl) (show ((-1) : Int32).toInt = (-1) from rfl) ezv17
        refine ok_b eM15 ?_
        by_cases c4 : zv17 = 0
        · replace h := it_t c4 h
          refine ok_t ((c_eq tv17 (show (0 : Int32).toInt = 0 from rfl)).mpr c4) ?_
          obtain ⟨v36, ev36, tv36⟩ := o_rdI (k := 12) hM15 wthis.1
          refine ok_b ev36 ?_
          exact o_ri (t_sub (show ((-100) : Int32).toInt = (-100) from rfl) tv36) hM15 h
        · replace h := it_f c4 h
          refine ok_f (mt (c_eq tv17 (show (0 : Int32).toInt = 0 from rfl)).mp c4) ?_
          refine ok_b (o_rdS hM15 wthis.1 (wthis.2.1.1)) ?_
          obtain ⟨v20, ev20, tv20⟩ := o_rdI (k := 9) hM15 wthis.1
          refine ok_b ev20 ?_
          refine ok_s ?_
          replace h := ob h; obtain ⟨J21, eJ21, h⟩ := h
          obtain ⟨M21, eM21, hM21⟩ := o_stI hM15 wthis.2.1.2 rfl (t_add (show (8359 : Int32).toInt = 8359 from rfl) tv6) tv20 eJ21
          refine ok_b eM21 ?_
          refine h_X12_order_L81   _ wthis _ _ tv6 _ _ _ (show (0 : Int32).toInt = 0 from rfl) _ _ hM21 h
      · replace h := it_f c3 h
        refine ok_f (mt (c_eq tv11 (show (0 : Int32).toInt = 0 from rfl)).mp c3) ?_
        refine ok_b (o_isO hM9 wthis.1) ?_
        replace h := ob h; obtain ⟨zv39, ezv39, h⟩ := h
        obtain ⟨⟨v39, M37⟩, eM37, tv39, hM37⟩ := h_X12_lacksText hM9 wthis tp1 ezv39
        refine ok_b eM37 ?_
        exact o_ri tv39 hM37 h

set_option maxHeartbeats 4000000 in
set_option maxRecDepth 100000 in
theorem h_X12_letter {E : Em} {M : Mm} {J : Jm} (hM : Mre E M J) {this : Nat} (wthis : W12 E this) {p1 : Int32} {zp1 : Int} (tp1 : p1.toInt = zp1) {p2 : Int32} {zp2 : Int} (tp2 : p2.toInt = zp2) {z : Int} {J1 : Jm} (h : H_X12_letter this zp1 zp2 J = some (z, J1)) : Ok (F_X12_letter this p1 p2 M) (fun q => q.1.toInt = z ∧ Mre E q.2 J1) := by
  unfold H_X12_letter at h
  unfold F_X12_letter
  refine ok_b (o_isO hM wthis.1) ?_
  replace h := ob h; obtain ⟨zv3, ezv3, h⟩ := h
  obtain ⟨⟨v3, M1⟩, eM1, tv3, hM1⟩ := h_X12_isGlider hM wthis tp1 ezv3
  refine ok_b eM1 ?_
  by_cases c1 : zv3 = 0
  · replace h := it_t c1 h
    refine ok_t ((c_eq tv3 (show (0 : Int32).toInt = 0 from rfl)).mpr c1) ?_
    exact o_ri (show ((-1) : Int32).toInt = (-1) from rfl) hM1 h
  · replace h := it_f c1 h
    refine ok_f (mt (c_eq tv3 (show (0 : Int32).toInt = 0 from rfl)).mp c1) ?_
    refine ok_b (o_rdS hM1 wthis.1 (wthis.2.1.1)) ?_
    refine ok_s ?_
    replace h := ob h; obtain ⟨zv6, ezv6, h⟩ := h
    obtain ⟨v6, ev6, tv6⟩ := o_ldI hM1 wthis.2.1.2 rfl (show (4 : Int32).toInt = 4 from rfl) ezv6
    refine ok_b ev6 ?_
    refine ok_b (o_isO hM1 wthis.1) ?_
    replace h := ob h; obtain ⟨zv10, ezv10, h⟩ := h
    obtain ⟨⟨v10, M8⟩, eM8, tv10, hM8⟩ := h_X12_is hM1 wthis tp2 (show (0 : Int32).toInt = 0 from rfl) (t_sub tv6 (show (1 : Int32).toInt = 1 from rfl)) ezv10
    refine ok_b eM8 ?_
    by_cases c2 : zv10 = 0
    · replace h := it_t c2 h
      refine ok_t ((c_eq tv10 (show (0 : Int32).toInt = 0 from rfl)).mpr c2) ?_
      exact o_ri (show ((-1) : Int32).toInt = (-1) from rfl) hM8 h
    · replace h := it_f c2 h
      refine ok_f (mt (c_eq tv10 (show (0 : Int32).toInt = 0 from rfl)).mp c2) ?_
      refine ok_b (o_rdS hM8 wthis.1 (wthis.2.1.1)) ?_
      refine ok_s ?_
      replace h := ob h; obtain ⟨zv13, ezv13, h⟩ := h
      obtain ⟨v13, ev13, tv13⟩ := o_ldI hM8 wthis.2.1.2 rfl (show (3 : Int32).toInt = 3 from rfl) ezv13
      refine ok_b ev13 ?_
      by_cases c3 : zv13 = 60
      · replace h := it_t c3 h
        refine ok_t ((c_eq tv13 (show (60 : Int32).toInt = 60 from rfl)).mpr c3) ?_
        exact o_ri (show ((-2) : Int32).toInt = (-2) from rfl) hM8 h
      · replace h := it_f c3 h
        refine ok_f (mt (c_eq tv13 (show (60 : Int32).toInt = 60 from rfl)).mp c3) ?_
        refine ok_b (o_rdS hM8 wthis.1 (wthis.2.1.1)) ?_
        refine ok_s ?_
        replace h := ob h; obtain ⟨J17, eJ17, h⟩ := h
        obtain ⟨M17, eM17, hM17⟩ := o_stI hM8 wthis.2.1.2 rfl (t_add (show (3710 : Int32).toInt = 3710 from rfl) tv13) tp1 eJ17
        refine ok_b eM17 ?_
        refine ok_b (o_rdS hM17 wthis.1 (wthis.2.1.1)) ?_
        refine ok_s ?_
        replace h := ob h; obtain ⟨J20, eJ20, h⟩ := h
        obtain ⟨M20, eM20, hM20⟩ := o_stI hM17 wthis.2.1.2 rfl (t_add (show (3770 : Int32).toInt = 3770 from rfl) tv13) tp2 eJ20
        refine ok_b eM20 ?_
        refine ok_b (o_rdS hM20 wthis.1 (wthis.2.1.1)) ?_
        refine ok_b (o_rdS hM20 wthis.1 (wthis.2.1.1)) ?_
        refine ok_s ?_
        replace h := ob h; obtain ⟨zv24, ezv24, h⟩ := h
        obtain ⟨v24, ev24, tv24⟩ := o_ldI hM20 wthis.2.1.2 rfl (show (1 : Int32).toInt = 1 from rfl) ezv24
        refine ok_b ev24 ?_
        refine ok_s ?_
        replace h := ob h; obtain ⟨J26, eJ26, h⟩ := h
        obtain ⟨M26, eM26, hM26⟩ := o_stI hM20 wthis.2.1.2 rfl (t_add (show (3830 : Int32).toInt = 3830 from rfl) tv13) tv24 eJ26
        refine ok_b eM26 ?_
        refine ok_b (o_rdS hM26 wthis.1 (wthis.2.1.1)) ?_
        refine ok_s ?_
        replace h := ob h; obtain ⟨J29, eJ29, h⟩ := h
        obtain ⟨M29, eM29, hM29⟩ := o_stI hM26 wthis.2.1.2 rfl (t_add (show (3890 : Int32).toInt = 3890 from rfl) tv13) (show (0 : Int32).toInt = 0 from rfl) eJ29
        refine ok_b eM29 ?_
        refine ok_b (o_rdS hM29 wthis.1 (wthis.2.1.1)) ?_
        refine ok_s ?_
        replace h := ob h; obtain ⟨zv32, ezv32, h⟩ := h
        obtain ⟨v32, ev32, tv32⟩ := o_ldI hM29 wthis.2.1.2 rfl (show (3 : Int32).toInt = 3 from rfl) ezv32
        refine ok_b ev32 ?_
        replace h := ob h; obtain ⟨J34, eJ34, h⟩ := h
        obtain ⟨M34, eM34, hM34⟩ := o_stI hM29 wthis.2.1.2 rfl (show (3 : Int32).toInt = 3 from rfl) (t_add tv32 (show (1 : Int32).toInt = 1 from rfl)) eJ34
        refine ok_b eM34 ?_
        refine ok_b (o_rdS hM34 wthis.1 (wthis.2.1.1)) ?_
        refine ok_s ?_
        replace h := ob h; obtain ⟨zv36, ezv36, h⟩ := h
        obtain ⟨v36, ev36, tv36⟩ := o_ldI hM34 wthis.2.1.2 rfl (show (3 : Int32).toInt = 3 from rfl) ezv36
        refine ok_b ev36 ?_
        exact o_ri tv36 hM34 h

set_option maxHeartbeats 4000000 in
set_option maxRecDepth 100000 in
theorem h_X12_waiting_L14 {E : Em} {z : Int} (J : Jm)  (x0 : Nat) (wx0 : W12 E x0) (x1 : Int32) (zx1 : Int) (tx1 : x1.toInt = zx1) : ∀ (fu : Nat), ∀ (x2 : Int32) (zx2 : Int), x2.toInt = zx2 → ∀ (x3 : Int32) (zx3 : Int), x3.toInt = zx3 → ∀ (M0 : Mm), Mre E M0 J → H_X12_waiting_L14 x0 zx1 J fu zx2 zx3 = some z → Ok (F_X12_waiting_L14 x0 x1 fu x2 x3 M0) (fun q => q.1.toInt = z ∧ Mre E q.2 J) := by
  intro fu
  induction fu with
  | zero =>
    intro x2 zx2 tx2 x3 zx3 tx3 M0 hM0 h
    rw [H_X12_waiting_L14] at h
    cases h
  | succ n5 ih =>
    intro x2 zx2 tx2 x3 zx3 tx3 M0 hM0 h
    rw [H_X12_waiting_L14] at h
    rw [F_X12_waiting_L14]
    refine ok_b (o_rdS hM0 wx0.1 (wx0.2.1.1)) ?_
    refine ok_s ?_
    replace h := ob h; obtain ⟨zv7, ezv7, h⟩ := h
    obtain ⟨v7, ev7, tv7⟩ := o_ldI hM0 wx0.2.1.2 rfl (show (3 : Int32).toInt = 3 from rfl) ezv7
    refine ok_b ev7 ?_
    by_cases c2 : zv7 ≤ zx3
    · replace h := it_t c2 h
      refine ok_t ((c_le tv7 tx3).mpr c2) ?_
      exact o_ri0 tx2 hM0 h
    · replace h := it_f c2 h
      refine ok_f (mt (c_le tv7 tx3).mp c2) ?_
      refine ok_b (o_rdS hM0 wx0.1 (wx0.2.1.1)) ?_
      refine ok_s ?_
      replace h := ob h; obtain ⟨zv11, ezv11, h⟩ := h
      obtain ⟨v11, ev11, tv11⟩ := o_ldI hM0 wx0.2.1.2 rfl (t_add (show (3710 : Int32).toInt = 3710 from rfl) tx3) ezv11
      refine ok_b ev11 ?_
      by_cases c3 : zv11 = zx1
      · replace h := it_t c3 h
        refine ok_t ((c_eq tv11 tx1).mpr c3) ?_
        refine ok_b (o_rdS hM0 wx0.1 (wx0.2.1.1)) ?_
        refine ok_s ?_
        replace h := ob h; obtain ⟨zv15, ezv15, h⟩ := h
        obtain ⟨v15, ev15, tv15⟩ := o_ldI hM0 wx0.2.1.2 rfl (t_add (show (3890 : Int32).toInt = 3890 from rfl) tx3) ezv15
        refine ok_b ev15 ?_
        replace h := nv_e h; obtain ⟨zv17, ezv17, h⟩ := h
        obtain ⟨v17, evv17⟩ : ∃ v : Int32, v = (if v15 = 0 then 1 else 0) := ⟨_, rfl⟩
        have tv17 : v17.toInt = zv17 := by rw [evv17, ezv17]; exact (t_ite (c_eq tv15 (show (0 : Int32).toInt = 0 from rfl)) (show (1 : Int32).toInt = 1 from rfl) (show (0 : Int32).toInt = 0 from rfl))
        refine ok_nv evv17 ?_
        exact ih _ _ (t_add tx2 tv17) _ _ (t_add tx3 (show (1 : Int32).toInt = 1 from rfl)) _ hM0 h
      · replace h := it_f c3 h
        refine ok_f (mt (c_eq tv11 tx1).mp c3) ?_
        exact ih _ _ (t_add tx2 (show (0 : Int32).toInt = 0 from rfl)) _ _ (t_add tx3 (show (1 : Int32).toInt = 1 from rfl)) _ hM0 h
set_option maxHeartbeats 4000000 in
set_option maxRecDepth 100000 in
theorem h_X12_waiting {E : Em} {M : Mm} {J : Jm} (hM : Mre E M J) {this : Nat} (wthis : W12 E this) {p1 : Int32} {zp1 : Int} (tp1 : p1.toInt = zp1) {z : Int} (h : H_X12_waiting this zp1 J = some z) : Ok (F_X12_waiting this p1 M) (fun q => q.1.toInt = z ∧ Mre E q.2 J) := by
  unfold H_X12_waiting at h
  unfold F_X12_waiting
  refine ok_b (o_isO hM wthis.1) ?_
  replace h := ob h; obtain ⟨zv3, ezv3, h⟩ := h
  obtain ⟨⟨v3, M1⟩, eM1, tv3, hM1⟩ := h_X12_isGlider hM wthis tp1 ezv3
  refine ok_b eM1 ?_
  by_cases c1 : zv3 = 0
  · replace h := it_t c1 h
    refine ok_t ((c_eq tv3 (show (0 : Int32).toInt = 0 from rfl)).mpr c1) ?_
    exact o_ri0 (show ((-1) : Int32).toInt = (-1) from rfl) hM1 h
  · replace h := it_f c1 h
    refine ok_f (mt (c_eq tv3 (show (0 : Int32).toInt = 0 from rfl)).mp c1) ?_
    refine h_X12_waiting_L14 _  _ wthis _ _ tp1 _ _ _ (show (0 : Int32).toInt = 0 from rfl) _ _ (show (0 : Int32).toInt = 0 from rfl) _ hM1 h

set_option maxHeartbeats 4000000 in
set_option maxRecDepth 100000 in
theorem h_X12_deaf {E : Em} {M : Mm} {J : Jm} (hM : Mre E M J) {this : Nat} (wthis : W12 E this) {p1 : Int32} {zp1 : Int} (tp1 : p1.toInt = zp1) {p2 : Int32} {zp2 : Int} (tp2 : p2.toInt = zp2) {z : Int} {J1 : Jm} (h : H_X12_deaf this zp1 zp2 J = some (z, J1)) : Ok (F_X12_deaf this p1 p2 M) (fun q => q.1.toInt = z ∧ Mre E q.2 J1) := by
  unfold H_X12_deaf at h
  unfold F_X12_deaf
  refine ok_b (o_isO hM wthis.1) ?_
  replace h := ob h; obtain ⟨zv3, ezv3, h⟩ := h
  obtain ⟨⟨v3, M1⟩, eM1, tv3, hM1⟩ := h_X12_is hM wthis tp1 (show (0 : Int32).toInt = 0 from rfl) (show (400 : Int32).toInt = 400 from rfl) ezv3
  refine ok_b eM1 ?_
  by_cases c1 : zv3 = 0
  · replace h := it_t c1 h
    refine ok_t ((c_eq tv3 (show (0 : Int32).toInt = 0 from rfl)).mpr c1) ?_
    exact o_ri (show ((-1) : Int32).toInt = (-1) from rfl) hM1 h
  · replace h := it_f c1 h
    refine ok_f (mt (c_eq tv3 (show (0 : Int32).toInt = 0 from rfl)).mp c1) ?_
    refine ok_b (o_rdS hM1 wthis.1 (wthis.2.1.1)) ?_
    refine ok_s ?_
    replace h := ob h; obtain ⟨zv6, ezv6, h⟩ := h
    obtain ⟨v6, ev6, tv6⟩ := o_ldI hM1 wthis.2.1.2 rfl (t_add (show (3950 : Int32).toInt = 3950 from rfl) tp1) ezv6
    refine ok_b ev6 ?_
    refine ok_b (o_rdS hM1 wthis.1 (wthis.2.1.1)) ?_
    replace h := nv_e h; obtain ⟨zv9, ezv9, h⟩ := h
    obtain ⟨v9, evv9⟩ : ∃ v : Int32, v = (if p2 = 0 then 0 else 1) := ⟨_, rfl⟩
    have tv9 : v9.toInt = zv9 := by rw [evv9, ezv9]; exact (t_ite (c_eq tp2 (show (0 : Int32).toInt = 0 from rfl)) (show (0 : Int32).toInt = 0 from rfl) (show (1 : Int32).toInt = 1 from rfl))
    refine ok_nv evv9 ?_
    refine ok_s ?_
    replace h := ob h; obtain ⟨J11, eJ11, h⟩ := h
    obtain ⟨M11, eM11, hM11⟩ := o_stI hM1 wthis.2.1.2 rfl (t_add (show (3950 : Int32).toInt = 3950 from rfl) tp1) tv9 eJ11
    refine ok_b eM11 ?_
    refine ok_b (o_rdS hM11 wthis.1 (wthis.2.1.1)) ?_
    refine ok_s ?_
    replace h := ob h; obtain ⟨zv14, ezv14, h⟩ := h
    obtain ⟨v14, ev14, tv14⟩ := o_ldI hM11 wthis.2.1.2 rfl (t_add (show (3950 : Int32).toInt = 3950 from rfl) tp1) ezv14
    refine ok_b ev14 ?_
    by_cases c2 : zv6 = zv14
    · replace h := it_t c2 h
      refine ok_t ((c_eq tv6 tv14).mpr c2) ?_
      exact o_ri (show (0 : Int32).toInt = 0 from rfl) hM11 h
    · replace h := it_f c2 h
      refine ok_f (mt (c_eq tv6 tv14).mp c2) ?_
      exact o_ri (show (1 : Int32).toInt = 1 from rfl) hM11 h

set_option maxHeartbeats 4000000 in
set_option maxRecDepth 100000 in
theorem h_X12_rule {E : Em} {M : Mm} {J : Jm} (hM : Mre E M J) {this : Nat} (wthis : W12 E this) {p1 : Int32} {zp1 : Int} (tp1 : p1.toInt = zp1) {z : Int} {J1 : Jm} (h : H_X12_rule this zp1 J = some (z, J1)) : Ok (F_X12_rule this p1 M) (fun q => q.1.toInt = z ∧ Mre E q.2 J1) := by
  unfold H_X12_rule at h
  unfold F_X12_rule
  refine ok_b (o_isO hM wthis.1) ?_
  replace h := ob h; obtain ⟨zv3, ezv3, h⟩ := h
  obtain ⟨⟨v3, M1⟩, eM1, tv3, hM1⟩ := h_X12_isGlider hM wthis tp1 ezv3
  refine ok_b eM1 ?_
  by_cases c1 : zv3 = 0
  · replace h := it_t c1 h
    refine ok_t ((c_eq tv3 (show (0 : Int32).toInt = 0 from rfl)).mpr c1) ?_
    exact o_ri (show ((-1) : Int32).toInt = (-1) from rfl) hM1 h
  · replace h := it_f c1 h
    refine ok_f (mt (c_eq tv3 (show (0 : Int32).toInt = 0 from rfl)).mp c1) ?_
    refine ok_b (o_isO hM1 wthis.1) ?_
    replace h := ob h; obtain ⟨zv7, ezv7, h⟩ := h
    obtain ⟨⟨v7, M5⟩, eM5, tv7, hM5⟩ := h_X12_isUp hM1 wthis tp1 ezv7
    refine ok_b eM5 ?_
    by_cases c2 : zv7 = 0
    · replace h := it_t c2 h
      refine ok_t ((c_eq tv7 (show (0 : Int32).toInt = 0 from rfl)).mpr c2) ?_
      exact o_ri (show ((-3) : Int32).toInt = (-3) from rfl) hM5 h
    · replace h := it_f c2 h
      refine ok_f (mt (c_eq tv7 (show (0 : Int32).toInt = 0 from rfl)).mp c2) ?_
      refine ok_b (o_rdS hM5 wthis.1 (wthis.2.1.1)) ?_
      refine ok_s ?_
      replace h := ob h; obtain ⟨zv10, ezv10, h⟩ := h
      obtain ⟨v10, ev10, tv10⟩ := o_ldI hM5 wthis.2.1.2 rfl (t_add (show (2226 : Int32).toInt = 2226 from rfl) tp1) ezv10
      refine ok_b ev10 ?_
      by_cases c3 : 0 ≤ zv10
      · replace h := it_t c3 h
        refine ok_t ((c_le (show (0 : Int32).toInt = 0 from rfl) tv10).mpr c3) ?_
        refine ok_b (o_rdS hM5 wthis.1 (wthis.2.1.1)) ?_
        refine ok_s ?_
        replace h := ob h; obtain ⟨zv14, ezv14, h⟩ := h
        obtain ⟨v14, ev14, tv14⟩ := o_ldI hM5 wthis.2.1.2 rfl (t_add (show (2226 : Int32).toInt = 2226 from rfl) tp1) ezv14
        refine ok_b ev14 ?_
        refine ok_b (o_isO hM5 wthis.1) ?_
        replace h := ob h; obtain ⟨⟨zv18, J16⟩, ezv18, h⟩ := h
        obtain ⟨⟨v18, M16⟩, eM16, tv18, hM16⟩ := h_X12_goesOrder hM5 wthis tv14 tp1 ezv18
        refine ok_b eM16 ?_
        by_cases c4 : zv18 = 0
        · replace h := it_t c4 h
          refine ok_t ((c_eq tv18 (show (0 : Int32).toInt = 0 from rfl)).mpr c4) ?_
          exact o_ri (show ((-4) : Int32).toInt = (-4) from rfl) hM16 h
        · replace h := it_f c4 h
          refine ok_f (mt (c_eq tv18 (show (0 : Int32).toInt = 0 from rfl)).mp c4) ?_
          obtain ⟨v20, ev20, tv20⟩ := o_rdI (k := 16) hM16 wthis.1
          refine ok_b ev20 ?_
          exact o_ri tv20 hM16 h
      · replace h := it_f c3 h
        refine ok_f (mt (c_le (show (0 : Int32).toInt = 0 from rfl) tv10).mp c3) ?_
        exact o_ri (show ((-3) : Int32).toInt = (-3) from rfl) hM5 h

set_option maxHeartbeats 4000000 in
set_option maxRecDepth 100000 in
theorem h_X12_hears_L63 {E : Em} {J1 : Jm}   (x0 : Nat) (wx0 : W12 E x0) (x1 : Int32) (zx1 : Int) (tx1 : x1.toInt = zx1) : ∀ (fu : Nat), ∀ (x2 : Int32) (zx2 : Int), x2.toInt = zx2 → ∀ (M0 : Mm) (J0 : Jm), Mre E M0 J0 → H_X12_hears_L63 x0 zx1 fu zx2 J0 = some J1 → Ok (F_X12_hears_L63 x0 x1 fu x2 M0) (fun q => Mre E q J1) := by
  intro fu
  induction fu with
  | zero =>
    intro x2 zx2 tx2 M0 J0 hM0 h
    rw [H_X12_hears_L63] at h
    cases h
  | succ n19 ih =>
    intro x2 zx2 tx2 M0 J0 hM0 h
    rw [H_X12_hears_L63] at h
    rw [F_X12_hears_L63]
    refine ok_b (o_rdS hM0 wx0.1 (wx0.2.1.1)) ?_
    refine ok_s ?_
    replace h := ob h; obtain ⟨zv21, ezv21, h⟩ := h
    obtain ⟨v21, ev21, tv21⟩ := o_ldI hM0 wx0.2.1.2 rfl (show (3 : Int32).toInt = 3 from rfl) ezv21
    refine ok_b ev21 ?_
    by_cases c1 : zv21 ≤ zx2
    · replace h := it_t c1 h
      refine ok_t ((c_le tv21 tx2).mpr c1) ?_
      exact o_rv hM0 h
    · replace h := it_f c1 h
      refine ok_f (mt (c_le tv21 tx2).mp c1) ?_
      refine ok_b (o_rdS hM0 wx0.1 (wx0.2.1.1)) ?_
      refine ok_s ?_
      replace h := ob h; obtain ⟨zv25, ezv25, h⟩ := h
      obtain ⟨v25, ev25, tv25⟩ := o_ldI hM0 wx0.2.1.2 rfl (t_add (show (3710 : Int32).toInt = 3710 from rfl) tx2) ezv25
      refine ok_b ev25 ?_
      by_cases c2 : zv25 = zx1
      · replace h := it_t c2 h
        refine ok_t ((c_eq tv25 tx1).mpr c2) ?_
        refine ok_b (o_rdS hM0 wx0.1 (wx0.2.1.1)) ?_
        refine ok_s ?_
        replace h := ob h; obtain ⟨zv29, ezv29, h⟩ := h
        obtain ⟨v29, ev29, tv29⟩ := o_ldI hM0 wx0.2.1.2 rfl (t_add (show (3890 : Int32).toInt = 3890 from rfl) tx2) ezv29
        refine ok_b ev29 ?_
        by_cases c3 : zv29 = 1
        · replace h := it_t c3 h
          refine ok_t ((c_eq tv29 (show (1 : Int32).toInt = 1 from rfl)).mpr c3) ?_
          exact ih _ _ (t_add tx2 (show (1 : Int32).toInt = 1 from rfl)) _ _ hM0 h
        · replace h := it_f c3 h
          refine ok_f (mt (c_eq tv29 (show (1 : Int32).toInt = 1 from rfl)).mp c3) ?_
          refine ok_b (o_rdS hM0 wx0.1 (wx0.2.1.1)) ?_
          refine ok_s ?_
          replace h := ob h; obtain ⟨zv33, ezv33, h⟩ := h
          obtain ⟨v33, ev33, tv33⟩ := o_ldI hM0 wx0.2.1.2 rfl (t_add (show (3830 : Int32).toInt = 3830 from rfl) tx2) ezv33
          refine ok_b ev33 ?_
          refine ok_b (o_rdS hM0 wx0.1 (wx0.2.1.1)) ?_
          refine ok_s ?_
          replace h := ob h; obtain ⟨zv36, ezv36, h⟩ := h
          obtain ⟨v36, ev36, tv36⟩ := o_ldI hM0 wx0.2.1.2 rfl (show (1 : Int32).toInt = 1 from rfl) ezv36
          refine ok_b ev36 ?_
          by_cases c4 : zv33 < zv36
          · replace h := it_t c4 h
            refine ok_t ((c_lt tv33 tv36).mpr c4) ?_
            refine ok_b (o_rdS hM0 wx0.1 (wx0.2.1.1)) ?_
            refine ok_s ?_
            replace h := ob h; obtain ⟨J40, eJ40, h⟩ := h
            obtain ⟨M40, eM40, hM40⟩ := o_stI hM0 wx0.2.1.2 rfl (t_add (show (3890 : Int32).toInt = 3890 from rfl) tx2) (show (1 : Int32).toInt = 1 from rfl) eJ40
            refine ok_b eM40 ?_
            refine ok_b (o_rdS hM40 wx0.1 (wx0.2.1.1)) ?_
            refine ok_b (o_rdS hM40 wx0.1 (wx0.2.1.1)) ?_
            refine ok_s ?_
            replace h := ob h; obtain ⟨zv44, ezv44, h⟩ := h
            obtain ⟨v44, ev44, tv44⟩ := o_ldI hM40 wx0.2.1.2 rfl (t_add (show (3770 : Int32).toInt = 3770 from rfl) tx2) ezv44
            refine ok_b ev44 ?_
            refine ok_s ?_
            replace h := ob h; obtain ⟨J46, eJ46, h⟩ := h
            obtain ⟨M46, eM46, hM46⟩ := o_stI hM40 wx0.2.1.2 rfl (t_add (show (2226 : Int32).toInt = 2226 from rfl) tx1) tv44 eJ46
            refine ok_b eM46 ?_
            exact ih _ _ (t_add tx2 (show (1 : Int32).toInt = 1 from rfl)) _ _ hM46 h
          · replace h := it_f c4 h
            refine ok_f (mt (c_lt tv33 tv36).mp c4) ?_
            exact ih _ _ (t_add tx2 (show (1 : Int32).toInt = 1 from rfl)) _ _ hM0 h
      · replace h := it_f c2 h
        refine ok_f (mt (c_eq tv25 tx1).mp c2) ?_
        exact ih _ _ (t_add tx2 (show (1 : Int32).toInt = 1 from rfl)) _ _ hM0 h
set_option maxHeartbeats 4000000 in
set_option maxRecDepth 100000 in
theorem h_X12_hears {E : Em} {M : Mm} {J : Jm} (hM : Mre E M J) {this : Nat} (wthis : W12 E this) {p1 : Int32} {zp1 : Int} (tp1 : p1.toInt = zp1) {J1 : Jm} (h : H_X12_hears this zp1 J = some J1) : Ok (F_X12_hears this p1 M) (fun q => Mre E q J1) := by
  unfold H_X12_hears at h
  unfold F_X12_hears
  refine ok_b (o_rdS hM wthis.1 (wthis.2.1.1)) ?_
  refine ok_b (o_rdS hM wthis.1 (wthis.2.1.1)) ?_
  refine ok_s ?_
  replace h := ob h; obtain ⟨zv3, ezv3, h⟩ := h
  obtain ⟨v3, ev3, tv3⟩ := o_ldI hM wthis.2.1.2 rfl (show (1 : Int32).toInt = 1 from rfl) ezv3
  refine ok_b ev3 ?_
  refine ok_s ?_
  replace h := ob h; obtain ⟨J5, eJ5, h⟩ := h
  obtain ⟨M5, eM5, hM5⟩ := o_stI hM wthis.2.1.2 rfl (t_add (show (2234 : Int32).toInt = 2234 from rfl) tp1) tv3 eJ5
  refine ok_b eM5 ?_
  refine ok_b (o_rdS hM5 wthis.1 (wthis.2.1.1)) ?_
  refine ok_b (o_rdS hM5 wthis.1 (wthis.2.1.1)) ?_
  refine ok_s ?_
  replace h := ob h; obtain ⟨zv9, ezv9, h⟩ := h
  obtain ⟨v9, ev9, tv9⟩ := o_ldI hM5 wthis.2.1.2 rfl (show (1 : Int32).toInt = 1 from rfl) ezv9
  refine ok_b ev9 ?_
  refine ok_b (o_rdS hM5 wthis.1 (wthis.2.1.1)) ?_
  refine ok_s ?_
  replace h := ob h; obtain ⟨zv12, ezv12, h⟩ := h
  obtain ⟨v12, ev12, tv12⟩ := o_ldI hM5 wthis.2.1.2 rfl (t_add (show (2178 : Int32).toInt = 2178 from rfl) tp1) ezv12
  refine ok_b ev12 ?_
  refine ok_b (o_rdS hM5 wthis.1 (wthis.2.1.1)) ?_
  refine ok_s ?_
  replace h := ob h; obtain ⟨zv15, ezv15, h⟩ := h
  obtain ⟨v15, ev15, tv15⟩ := o_ldI hM5 wthis.2.1.2 rfl (t_add (show (2186 : Int32).toInt = 2186 from rfl) tp1) ezv15
  refine ok_b ev15 ?_
  refine ok_s ?_
  replace h := ob h; obtain ⟨J17, eJ17, h⟩ := h
  obtain ⟨M17, eM17, hM17⟩ := o_stI hM5 wthis.2.1.2 rfl (t_add (t_add (show (4351 : Int32).toInt = 4351 from rfl) (t_mul (show (401 : Int32).toInt = 401 from rfl) tp1)) tv9) (t_add (t_mul (show (8 : Int32).toInt = 8 from rfl) tv12) tv15) eJ17
  refine ok_b eM17 ?_
  refine h_X12_hears_L63   _ wthis _ _ tp1 _ _ _ (show (0 : Int32).toInt = 0 from rfl) _ _ hM17 h

set_option maxHeartbeats 4000000 in
set_option maxRecDepth 100000 in
theorem h_X12_cut {E : Em} {M : Mm} {J : Jm} (hM : Mre E M J) {this : Nat} (wthis : W12 E this) {p1 : Int32} {zp1 : Int} (tp1 : p1.toInt = zp1) {p2 : Int32} {zp2 : Int} (tp2 : p2.toInt = zp2) {z : Int} (h : H_X12_cut this zp1 zp2 = some z) : Ok (F_X12_cut this p1 p2 M) (fun q => q.1.toInt = z ∧ Mre E q.2 J) := by
  unfold H_X12_cut at h
  unfold F_X12_cut
  by_cases c1 : zp1 ≤ zp2
  · replace h := it_t c1 h
    refine ok_t ((c_le tp1 tp2).mpr c1) ?_
    by_cases c2 : (wr (-zp2)) ≤ zp1
    · replace h := it_t c2 h
      refine ok_t ((c_le (t_neg tp2) tp1).mpr c2) ?_
      exact o_ri0 tp1 hM h
    · replace h := it_f c2 h
      refine ok_f (mt (c_le (t_neg tp2) tp1).mp c2) ?_
      exact o_ri0 (t_neg tp2) hM h
  · replace h := it_f c1 h
    refine ok_f (mt (c_le tp1 tp2).mp c1) ?_
    exact o_ri0 tp2 hM h

set_option maxHeartbeats 4000000 in
set_option maxRecDepth 100000 in
theorem h_X12_acts {E : Em} {M : Mm} {J : Jm} (hM : Mre E M J) {this : Nat} (wthis : W12 E this) {p1 : Int32} {zp1 : Int} (tp1 : p1.toInt = zp1) {z : Int} {J1 : Jm} (h : H_X12_acts this zp1 J = some (z, J1)) : Ok (F_X12_acts this p1 M) (fun q => q.1.toInt = z ∧ Mre E q.2 J1) := by
  unfold H_X12_acts at h
  unfold F_X12_acts
  refine ok_b (o_rdS hM wthis.1 (wthis.2.1.1)) ?_
  refine ok_s ?_
  replace h := ob h; obtain ⟨zv2, ezv2, h⟩ := h
  obtain ⟨v2, ev2, tv2⟩ := o_ldI hM wthis.2.1.2 rfl (t_add (show (2226 : Int32).toInt = 2226 from rfl) tp1) ezv2
  refine ok_b ev2 ?_
  by_cases c1 : zv2 < 0
  · replace h := it_t c1 h
    refine ok_t ((c_lt tv2 (show (0 : Int32).toInt = 0 from rfl)).mpr c1) ?_
    exact o_ri (show (0 : Int32).toInt = 0 from rfl) hM h
  · replace h := it_f c1 h
    refine ok_f (mt (c_lt tv2 (show (0 : Int32).toInt = 0 from rfl)).mp c1) ?_
    refine ok_b (o_rdS hM wthis.1 (wthis.2.1.1)) ?_
    refine ok_s ?_
    replace h := ob h; obtain ⟨zv6, ezv6, h⟩ := h
    obtain ⟨v6, ev6, tv6⟩ := o_ldI hM wthis.2.1.2 rfl (t_add (show (2226 : Int32).toInt = 2226 from rfl) tp1) ezv6
    refine ok_b ev6 ?_
    refine ok_b (o_isO hM wthis.1) ?_
    replace h := ob h; obtain ⟨⟨zv10, J8⟩, ezv10, h⟩ := h
    obtain ⟨⟨v10, M8⟩, eM8, tv10, hM8⟩ := h_X12_goesOrder hM wthis tv6 tp1 ezv10
    refine ok_b eM8 ?_
    by_cases c2 : zv10 = 0
    · replace h := it_t c2 h
      refine ok_t ((c_eq tv10 (show (0 : Int32).toInt = 0 from rfl)).mpr c2) ?_
      exact o_ri (show (0 : Int32).toInt = 0 from rfl) hM8 h
    · replace h := it_f c2 h
      refine ok_f (mt (c_eq tv10 (show (0 : Int32).toInt = 0 from rfl)).mp c2) ?_
      obtain ⟨v12, ev12, tv12⟩ := o_rdI (k := 16) hM8 wthis.1
      refine ok_b ev12 ?_
      by_cases c3 : (J8 this 16) < 0
      · replace h := it_t c3 h
        refine ok_t ((c_lt tv12 (show (0 : Int32).toInt = 0 from rfl)).mpr c3) ?_
        exact o_ri (show (0 : Int32).toInt = 0 from rfl) hM8 h
      · replace h := it_f c3 h
        refine ok_f (mt (c_lt tv12 (show (0 : Int32).toInt = 0 from rfl)).mp c3) ?_
        obtain ⟨v14, ev14, tv14⟩ := o_rdI (k := 17) hM8 wthis.1
        refine ok_b ev14 ?_
        by_cases c4 : (J8 this 17) = 117
        · replace h := it_t c4 h
          refine ok_t ((c_eq tv14 (show (117 : Int32).toInt = 117 from rfl)).mpr c4) ?_
          exact o_ri (show (0 : Int32).toInt = 0 from rfl) hM8 h
        · replace h := it_f c4 h
          refine ok_f (mt (c_eq tv14 (show (117 : Int32).toInt = 117 from rfl)).mp c4) ?_
          obtain ⟨v16, ev16, tv16⟩ := o_rdI (k := 20) hM8 wthis.1
          refine ok_b ev16 ?_
          refine ok_b (o_isO hM8 wthis.1) ?_
          replace h := ob h; obtain ⟨zv19, ezv19, h⟩ := h
          obtain ⟨⟨v19, M17⟩, eM17, tv19, hM17⟩ := h_X12_layerFor hM8 wthis tp1 tv16 ezv19
          refine ok_b eM17 ?_
          refine ok_b (o_rdS hM17 wthis.1 (wthis.2.1.1)) ?_
          refine ok_s ?_
          replace h := ob h; obtain ⟨zv21, ezv21, h⟩ := h
          obtain ⟨v21, ev21, tv21⟩ := o_ldI hM17 wthis.2.1.2 rfl (t_add (show (2194 : Int32).toInt = 2194 from rfl) tp1) ezv21
          refine ok_b ev21 ?_
          refine ok_b (o_isO hM17 wthis.1) ?_
          replace h := ob h; obtain ⟨zv25, ezv25, h⟩ := h
          obtain ⟨⟨v25, M23⟩, eM23, tv25, hM23⟩ := h_X12_cost hM17 wthis tp1 tv19 ezv25
          refine ok_b eM23 ?_
          by_cases c5 : zv25 ≤ zv21
          · replace h := it_t c5 h
            refine ok_t ((c_le tv25 tv21).mpr c5) ?_
            obtain ⟨v27, ev27, tv27⟩ := o_rdI (k := 17) hM23 wthis.1
            refine ok_b ev27 ?_
            replace h := jp_e h; obtain ⟨k28h, ek28h, h⟩ := h
            refine ok_jp (fun k28 ek28 => ?_)
            have Jk28 : ∀ (s29 : Int32) (zs29 : Int), s29.toInt = zs29 → ∀ (M30 : Mm) (J30 : Jm), Mre E M30 J30 → k28h zs29 J30 = some (z, J1) → Ok (k28 s29 M30) (fun q => q.1.toInt = z ∧ Mre E q.2 J1) := by
              intro s29 zs29 ts29 M30 J30 hM30 h
              rw [ek28]
              rw [ek28h] at h
              obtain ⟨v31, ev31, tv31⟩ := o_rdI (k := 17) hM30 wthis.1
              refine ok_b ev31 ?_
              replace h := jp_e h; obtain ⟨k32h, ek32h, h⟩ := h
              refine ok_jp (fun k32 ek32 => ?_)
              have Jk32 : ∀ (s33 : Int32) (zs33 : Int), s33.toInt = zs33 → ∀ (M34 : Mm) (J34 : Jm), Mre E M34 J34 → k32h zs33 J34 = some (z, J1) → Ok (k32 s33 M34) (fun q => q.1.toInt = z ∧ Mre E q.2 J1) := by
                intro s33 zs33 ts33 M34 J34 hM34 h
                rw [ek32]
                rw [ek32h] at h
                refine ok_b (o_isO hM34 wthis.1) ?_
                replace h := ob h; obtain ⟨⟨zv37, J35⟩, ezv37, h⟩ := h
                obtain ⟨⟨v37, M35⟩, eM35, tv37, hM35⟩ := h_X12_dives hM34 wthis tp1 tv19 ts29 ts33 ezv37
                refine ok_b eM35 ?_
                exact o_ri (show (1 : Int32).toInt = 1 from rfl) hM35 h
              by_cases c6 : (J30 this 17) = 115
              · replace h := it_t c6 h
                refine ok_t ((c_eq tv31 (show (115 : Int32).toInt = 115 from rfl)).mpr c6) ?_
                exact Jk32 _ _ (show (0 : Int32).toInt = 0 from rfl) _ _ hM30 h
              · replace h := it_f c6 h
                refine ok_f (mt (c_eq tv31 (show (115 : Int32).toInt = 115 from rfl)).mp c6) ?_
                obtain ⟨v40, ev40, tv40⟩ := o_rdI (k := 19) hM30 wthis.1
                refine ok_b ev40 ?_
                refine ok_b (o_rdS hM30 wthis.1 (wthis.2.1.1)) ?_
                refine ok_s ?_
                replace h := ob h; obtain ⟨zv42, ezv42, h⟩ := h
                obtain ⟨v42, ev42, tv42⟩ := o_ldI hM30 wthis.2.1.2 rfl (t_add (show (2186 : Int32).toInt = 2186 from rfl) tp1) ezv42
                refine ok_b ev42 ?_
                refine ok_b (o_isO hM30 wthis.1) ?_
                replace h := ob h; obtain ⟨zv46, ezv46, h⟩ := h
                obtain ⟨⟨v46, M44⟩, eM44, tv46, hM44⟩ := h_X12_goes hM30 wthis tp1 ezv46
                refine ok_b eM44 ?_
                refine ok_b (o_isO hM44 wthis.1) ?_
                replace h := ob h; obtain ⟨zv49, ezv49, h⟩ := h
                obtain ⟨⟨v49, M47⟩, eM47, tv49, hM47⟩ := h_X12_abs hM44 wthis ts29 ezv49
                refine ok_b eM47 ?_
                refine ok_b (o_isO hM47 wthis.1) ?_
                replace h := ob h; obtain ⟨zv52, ezv52, h⟩ := h
                obtain ⟨⟨v52, M50⟩, eM50, tv52, hM50⟩ := h_X12_cut hM47 wthis (t_sub tv40 tv42) (t_sub tv46 tv49) ezv52
                refine ok_b eM50 ?_
                exact Jk32 _ _ tv52 _ _ hM50 h
            by_cases c7 : (J8 this 17) = 115
            · replace h := it_t c7 h
              refine ok_t ((c_eq tv27 (show (115 : Int32).toInt = 115 from rfl)).mpr c7) ?_
              exact Jk28 _ _ (show (0 : Int32).toInt = 0 from rfl) _ _ hM23 h
            · replace h := it_f c7 h
              refine ok_f (mt (c_eq tv27 (show (115 : Int32).toInt = 115 from rfl)).mp c7) ?_
              obtain ⟨v55, ev55, tv55⟩ := o_rdI (k := 18) hM23 wthis.1
              refine ok_b ev55 ?_
              refine ok_b (o_rdS hM23 wthis.1 (wthis.2.1.1)) ?_
              refine ok_s ?_
              replace h := ob h; obtain ⟨zv57, ezv57, h⟩ := h
              obtain ⟨v57, ev57, tv57⟩ := o_ldI hM23 wthis.2.1.2 rfl (t_add (show (2178 : Int32).toInt = 2178 from rfl) tp1) ezv57
              refine ok_b ev57 ?_
              refine ok_b (o_isO hM23 wthis.1) ?_
              replace h := ob h; obtain ⟨zv61, ezv61, h⟩ := h
              obtain ⟨⟨v61, M59⟩, eM59, tv61, hM59⟩ := h_X12_goes hM23 wthis tp1 ezv61
              refine ok_b eM59 ?_
              refine ok_b (o_isO hM59 wthis.1) ?_
              replace h := ob h; obtain ⟨zv64, ezv64, h⟩ := h
              obtain ⟨⟨v64, M62⟩, eM62, tv64, hM62⟩ := h_X12_cut hM59 wthis (t_sub tv55 tv57) tv61 ezv64
              refine ok_b eM62 ?_
              exact Jk28 _ _ tv64 _ _ hM62 h
          · replace h := it_f c5 h
            refine ok_f (mt (c_le tv25 tv21).mp c5) ?_
            exact o_ri (show (0 : Int32).toInt = 0 from rfl) hM23 h

set_option maxHeartbeats 4000000 in
set_option maxRecDepth 100000 in
theorem h_X12_goTime_L4 {E : Em} {z : Int} {J1 : Jm}  (k51 : Mm → Option (Int32 × Mm)) (k51h : Jm → Option (Int × Jm)) (hk51 : ∀ (M9 : Mm) (J9 : Jm), Mre E M9 J9 → k51h J9 = some (z, J1) → Ok (k51 M9) (fun q => q.1.toInt = z ∧ Mre E q.2 J1)) (x0 : Nat) (wx0 : W12 E x0) (x1 : Int32) (zx1 : Int) (tx1 : x1.toInt = zx1) : ∀ (fu : Nat), ∀ (x2 : Int32) (zx2 : Int), x2.toInt = zx2 → ∀ (M0 : Mm) (J0 : Jm), Mre E M0 J0 → H_X12_goTime_L4 k51h x0 zx1 fu zx2 J0 = some (z, J1) → Ok (F_X12_goTime_L4 k51 x0 x1 fu x2 M0) (fun q => q.1.toInt = z ∧ Mre E q.2 J1) := by
  intro fu
  induction fu with
  | zero =>
    intro x2 zx2 tx2 M0 J0 hM0 h
    rw [H_X12_goTime_L4] at h
    cases h
  | succ n1 ih =>
    intro x2 zx2 tx2 M0 J0 hM0 h
    rw [H_X12_goTime_L4] at h
    rw [F_X12_goTime_L4]
    refine ok_b (o_rdS hM0 wx0.1 (wx0.2.1.1)) ?_
    refine ok_s ?_
    replace h := ob h; obtain ⟨zv3, ezv3, h⟩ := h
    obtain ⟨v3, ev3, tv3⟩ := o_ldI hM0 wx0.2.1.2 rfl (show (0 : Int32).toInt = 0 from rfl) ezv3
    refine ok_b ev3 ?_
    by_cases c1 : zv3 ≤ zx2
    · replace h := it_t c1 h
      refine ok_t ((c_le tv3 tx2).mpr c1) ?_
      exact hk51 _ _ hM0 h
    · replace h := it_f c1 h
      refine ok_f (mt (c_le tv3 tx2).mp c1) ?_
      refine ok_b (o_isO hM0 wx0.1) ?_
      replace h := ob h; obtain ⟨zv8, ezv8, h⟩ := h
      obtain ⟨⟨v8, M6⟩, eM6, tv8, hM6⟩ := h_X12_isUp hM0 wx0 tx2 ezv8
      refine ok_b eM6 ?_
      by_cases c2 : zv8 = 0
      · replace h := it_t c2 h
        refine ok_t ((c_eq tv8 (show (0 : Int32).toInt = 0 from rfl)).mpr c2) ?_
        exact ih _ _ (t_add tx2 (show (1 : Int32).toInt = 1 from rfl)) _ _ hM6 h
      · replace h := it_f c2 h
        refine ok_f (mt (c_eq tv8 (show (0 : Int32).toInt = 0 from rfl)).mp c2) ?_
        refine ok_b (o_rdS hM6 wx0.1 (wx0.2.1.1)) ?_
        refine ok_b (o_rdS hM6 wx0.1 (wx0.2.1.1)) ?_
        refine ok_s ?_
        replace h := ob h; obtain ⟨zv12, ezv12, h⟩ := h
        obtain ⟨v12, ev12, tv12⟩ := o_ldI hM6 wx0.2.1.2 rfl (show (1 : Int32).toInt = 1 from rfl) ezv12
        refine ok_b ev12 ?_
        refine ok_s ?_
        replace h := ob h; obtain ⟨zv14, ezv14, h⟩ := h
        obtain ⟨v14, ev14, tv14⟩ := o_ldI hM6 wx0.2.1.2 rfl (t_add (show (3950 : Int32).toInt = 3950 from rfl) tv12) ezv14
        refine ok_b ev14 ?_
        by_cases c3 : zv14 = 0
        · replace h := it_t c3 h
          refine ok_t ((c_eq tv14 (show (0 : Int32).toInt = 0 from rfl)).mpr c3) ?_
          refine ok_b (o_isO hM6 wx0.1) ?_
          replace h := ob h; obtain ⟨J17, eJ17, h⟩ := h
          obtain ⟨M17, eM17, hM17⟩ := h_X12_hears hM6 wx0 tx2 eJ17
          refine ok_b eM17 ?_
          exact ih _ _ (t_add tx2 (show (1 : Int32).toInt = 1 from rfl)) _ _ hM17 h
        · replace h := it_f c3 h
          refine ok_f (mt (c_eq tv14 (show (0 : Int32).toInt = 0 from rfl)).mp c3) ?_
          exact ih _ _ (t_add tx2 (show (1 : Int32).toInt = 1 from rfl)) _ _ hM6 h
set_option maxHeartbeats 4000000 in
set_option maxRecDepth 100000 in
theorem h_X12_goTime_L53 {E : Em} {z : Int} {J1 : Jm}  (k93 : Int32 → Mm → Option (Int32 × Mm)) (k93h : Int → Jm → Option (Int × Jm)) (hk93 : ∀ (y0 : Int32) (zy0 : Int), y0.toInt = zy0 → ∀ (M9 : Mm) (J9 : Jm), Mre E M9 J9 → k93h zy0 J9 = some (z, J1) → Ok (k93 y0 M9) (fun q => q.1.toInt = z ∧ Mre E q.2 J1)) (x0 : Nat) (wx0 : W12 E x0) : ∀ (fu : Nat), ∀ (x1 : Int32) (zx1 : Int), x1.toInt = zx1 → ∀ (x2 : Int32) (zx2 : Int), x2.toInt = zx2 → ∀ (M0 : Mm) (J0 : Jm), Mre E M0 J0 → H_X12_goTime_L53 k93h x0 fu zx1 zx2 J0 = some (z, J1) → Ok (F_X12_goTime_L53 k93 x0 fu x1 x2 M0) (fun q => q.1.toInt = z ∧ Mre E q.2 J1) := by
  intro fu
  induction fu with
  | zero =>
    intro x1 zx1 tx1 x2 zx2 tx2 M0 J0 hM0 h
    rw [H_X12_goTime_L53] at h
    cases h
  | succ n20 ih =>
    intro x1 zx1 tx1 x2 zx2 tx2 M0 J0 hM0 h
    rw [H_X12_goTime_L53] at h
    rw [F_X12_goTime_L53]
    refine ok_b (o_rdS hM0 wx0.1 (wx0.2.1.1)) ?_
    refine ok_s ?_
    replace h := ob h; obtain ⟨zv22, ezv22, h⟩ := h
    obtain ⟨v22, ev22, tv22⟩ := o_ldI hM0 wx0.2.1.2 rfl (show (0 : Int32).toInt = 0 from rfl) ezv22
    refine ok_b ev22 ?_
    by_cases c4 : zv22 ≤ zx2
    · replace h := it_t c4 h
      refine ok_t ((c_le tv22 tx2).mpr c4) ?_
      exact hk93 _ _ tx1 _ _ hM0 h
    · replace h := it_f c4 h
      refine ok_f (mt (c_le tv22 tx2).mp c4) ?_
      refine ok_b (o_isO hM0 wx0.1) ?_
      replace h := ob h; obtain ⟨zv27, ezv27, h⟩ := h
      obtain ⟨⟨v27, M25⟩, eM25, tv27, hM25⟩ := h_X12_isUp hM0 wx0 tx2 ezv27
      refine ok_b eM25 ?_
      by_cases c5 : zv27 = 0
      · replace h := it_t c5 h
        refine ok_t ((c_eq tv27 (show (0 : Int32).toInt = 0 from rfl)).mpr c5) ?_
        exact ih _ _ (t_add tx1 (show (0 : Int32).toInt = 0 from rfl)) _ _ (t_add tx2 (show (1 : Int32).toInt = 1 from rfl)) _ _ hM25 h
      · replace h := it_f c5 h
        refine ok_f (mt (c_eq tv27 (show (0 : Int32).toInt = 0 from rfl)).mp c5) ?_
        refine ok_b (o_isO hM25 wx0.1) ?_
        replace h := ob h; obtain ⟨⟨zv31, J29⟩, ezv31, h⟩ := h
        obtain ⟨⟨v31, M29⟩, eM29, tv31, hM29⟩ := h_X12_acts hM25 wx0 tx2 ezv31
        refine ok_b eM29 ?_
        replace h := nv_e h; obtain ⟨zv32, ezv32, h⟩ := h
        obtain ⟨v32, evv32⟩ : ∃ v : Int32, v = (if v31 = 0 then 0 else 1) := ⟨_, rfl⟩
        have tv32 : v32.toInt = zv32 := by rw [evv32, ezv32]; exact (t_ite (c_eq tv31 (show (0 : Int32).toInt = 0 from rfl)) (show (0 : Int32).toInt = 0 from rfl) (show (1 : Int32).toInt = 1 from rfl))
        refine ok_nv evv32 ?_
        exact ih _ _ (t_add tx1 tv32) _ _ (t_add tx2 (show (1 : Int32).toInt = 1 from rfl)) _ _ hM29 h
set_option maxHeartbeats 4000000 in
set_option maxRecDepth 100000 in
theorem h_X12_goTime_L95 {E : Em} {z : Int} {J1 : Jm}   (x0 : Nat) (wx0 : W12 E x0) (x1 : Int32) (zx1 : Int) (tx1 : x1.toInt = zx1) : ∀ (fu : Nat), ∀ (x2 : Int32) (zx2 : Int), x2.toInt = zx2 → ∀ (M0 : Mm) (J0 : Jm), Mre E M0 J0 → H_X12_goTime_L95 x0 zx1 fu zx2 J0 = some (z, J1) → Ok (F_X12_goTime_L95 x0 x1 fu x2 M0) (fun q => q.1.toInt = z ∧ Mre E q.2 J1) := by
  intro fu
  induction fu with
  | zero =>
    intro x2 zx2 tx2 M0 J0 hM0 h
    rw [H_X12_goTime_L95] at h
    cases h
  | succ n37 ih =>
    intro x2 zx2 tx2 M0 J0 hM0 h
    rw [H_X12_goTime_L95] at h
    rw [F_X12_goTime_L95]
    by_cases c6 : 80 ≤ zx2
    · replace h := it_t c6 h
      refine ok_t ((c_le (show (80 : Int32).toInt = 80 from rfl) tx2).mpr c6) ?_
      refine ok_b (o_rdS hM0 wx0.1 (wx0.2.1.1)) ?_
      refine ok_s ?_
      replace h := ob h; obtain ⟨zv40, ezv40, h⟩ := h
      obtain ⟨v40, ev40, tv40⟩ := o_ldI hM0 wx0.2.1.2 rfl (show (1 : Int32).toInt = 1 from rfl) ezv40
      refine ok_b ev40 ?_
      replace h := ob h; obtain ⟨J42, eJ42, h⟩ := h
      obtain ⟨M42, eM42, hM42⟩ := o_stI hM0 wx0.2.1.2 rfl (show (1 : Int32).toInt = 1 from rfl) (t_add tv40 (show (1 : Int32).toInt = 1 from rfl)) eJ42
      refine ok_b eM42 ?_
      exact o_ri tx1 hM42 h
    · replace h := it_f c6 h
      refine ok_f (mt (c_le (show (80 : Int32).toInt = 80 from rfl) tx2).mp c6) ?_
      refine ok_b (o_rdS hM0 wx0.1 (wx0.2.1.1)) ?_
      refine ok_s ?_
      replace h := ob h; obtain ⟨zv44, ezv44, h⟩ := h
      obtain ⟨v44, ev44, tv44⟩ := o_ldI hM0 wx0.2.1.2 rfl (t_add (show (10 : Int32).toInt = 10 from rfl) tx2) ezv44
      refine ok_b ev44 ?_
      by_cases c7 : zv44 ≤ 0
      · replace h := it_t c7 h
        refine ok_t ((c_le tv44 (show (0 : Int32).toInt = 0 from rfl)).mpr c7) ?_
        exact ih _ _ (t_add tx2 (show (1 : Int32).toInt = 1 from rfl)) _ _ hM0 h
      · replace h := it_f c7 h
        refine ok_f (mt (c_le tv44 (show (0 : Int32).toInt = 0 from rfl)).mp c7) ?_
        refine ok_b (o_rdS hM0 wx0.1 (wx0.2.1.1)) ?_
        refine ok_s ?_
        replace h := ob h; obtain ⟨zv48, ezv48, h⟩ := h
        obtain ⟨v48, ev48, tv48⟩ := o_ldI hM0 wx0.2.1.2 rfl (t_add (show (170 : Int32).toInt = 170 from rfl) tx2) ezv48
        refine ok_b ev48 ?_
        by_cases c8 : 99 ≤ zv48
        · replace h := it_t c8 h
          refine ok_t ((c_le (show (99 : Int32).toInt = 99 from rfl) tv48).mpr c8) ?_
          exact ih _ _ (t_add tx2 (show (1 : Int32).toInt = 1 from rfl)) _ _ hM0 h
        · replace h := it_f c8 h
          refine ok_f (mt (c_le (show (99 : Int32).toInt = 99 from rfl) tv48).mp c8) ?_
          refine ok_b (o_rdS hM0 wx0.1 (wx0.2.1.1)) ?_
          refine ok_s ?_
          replace h := ob h; obtain ⟨zv52, ezv52, h⟩ := h
          obtain ⟨v52, ev52, tv52⟩ := o_ldI hM0 wx0.2.1.2 rfl (t_add (show (170 : Int32).toInt = 170 from rfl) tx2) ezv52
          refine ok_b ev52 ?_
          replace h := ob h; obtain ⟨J54, eJ54, h⟩ := h
          obtain ⟨M54, eM54, hM54⟩ := o_stI hM0 wx0.2.1.2 rfl (t_add (show (170 : Int32).toInt = 170 from rfl) tx2) (t_add tv52 (show (1 : Int32).toInt = 1 from rfl)) eJ54
          refine ok_b eM54 ?_
          exact ih _ _ (t_add tx2 (show (1 : Int32).toInt = 1 from rfl)) _ _ hM54 h
set_option maxHeartbeats 4000000 in
set_option maxRecDepth 100000 in
theorem h_X12_goTime {E : Em} {M : Mm} {J : Jm} (hM : Mre E M J) {this : Nat} (wthis : W12 E this) {z : Int} {J1 : Jm} (h : H_X12_goTime this J = some (z, J1)) : Ok (F_X12_goTime this M) (fun q => q.1.toInt = z ∧ Mre E q.2 J1) := by
  unfold H_X12_goTime at h
  unfold F_X12_goTime
  refine h_X12_goTime_L4  _ _ ?_ _ wthis _ _ (show (0 : Int32).toInt = 0 from rfl) _ _ _ (show (0 : Int32).toInt = 0 from rfl) _ _ hM h
  intro M19 J19 hM19 h
  refine h_X12_goTime_L53  _ _ ?_ _ wthis _ _ _ (show (0 : Int32).toInt = 0 from rfl) _ _ (show (0 : Int32).toInt = 0 from rfl) _ _ hM19 h
  intro y35 zy35 ty35 M36 J36 hM36 h
  refine h_X12_goTime_L95   _ wthis _ _ ty35 _ _ _ (show (0 : Int32).toInt = 0 from rfl) _ _ hM36 h

set_option maxHeartbeats 4000000 in
set_option maxRecDepth 100000 in
theorem h_X12_times_L34 {E : Em} {z : Int} {J1 : Jm}   (x0 : Nat) (wx0 : W12 E x0) (x1 : Int32) (zx1 : Int) (tx1 : x1.toInt = zx1) : ∀ (fu : Nat), ∀ (x2 : Int32) (zx2 : Int), x2.toInt = zx2 → ∀ (x3 : Int32) (zx3 : Int), x3.toInt = zx3 → ∀ (M0 : Mm) (J0 : Jm), Mre E M0 J0 → H_X12_times_L34 x0 zx1 fu zx2 zx3 J0 = some (z, J1) → Ok (F_X12_times_L34 x0 x1 fu x2 x3 M0) (fun q => q.1.toInt = z ∧ Mre E q.2 J1) := by
  intro fu
  induction fu with
  | zero =>
    intro x2 zx2 tx2 x3 zx3 tx3 M0 J0 hM0 h
    rw [H_X12_times_L34] at h
    cases h
  | succ n9 ih =>
    intro x2 zx2 tx2 x3 zx3 tx3 M0 J0 hM0 h
    rw [H_X12_times_L34] at h
    rw [F_X12_times_L34]
    by_cases c3 : zx1 ≤ zx3
    · replace h := it_t c3 h
      refine ok_t ((c_le tx1 tx3).mpr c3) ?_
      exact o_ri tx2 hM0 h
    · replace h := it_f c3 h
      refine ok_f (mt (c_le tx1 tx3).mp c3) ?_
      refine ok_b (o_isO hM0 wx0.1) ?_
      replace h := ob h; obtain ⟨⟨zv13, J11⟩, ezv13, h⟩ := h
      obtain ⟨⟨v13, M11⟩, eM11, tv13, hM11⟩ := h_X12_goTime hM0 wx0 ezv13
      refine ok_b eM11 ?_
      exact ih _ _ (t_add tx2 tv13) _ _ (t_add tx3 (show (1 : Int32).toInt = 1 from rfl)) _ _ hM11 h
set_option maxHeartbeats 4000000 in
set_option maxRecDepth 100000 in
theorem h_X12_times {E : Em} {M : Mm} {J : Jm} (hM : Mre E M J) {this : Nat} (wthis : W12 E this) {p1 : Int32} {zp1 : Int} (tp1 : p1.toInt = zp1) {z : Int} {J1 : Jm} (h : H_X12_times this zp1 J = some (z, J1)) : Ok (F_X12_times this p1 M) (fun q => q.1.toInt = z ∧ Mre E q.2 J1) := by
  unfold H_X12_times at h
  unfold F_X12_times
  refine ok_b (o_isO hM wthis.1) ?_
  replace h := ob h; obtain ⟨zv3, ezv3, h⟩ := h
  obtain ⟨⟨v3, M1⟩, eM1, tv3, hM1⟩ := h_X12_is hM wthis tp1 (show (1 : Int32).toInt = 1 from rfl) (show (40 : Int32).toInt = 40 from rfl) ezv3
  refine ok_b eM1 ?_
  by_cases c1 : zv3 = 0
  · replace h := it_t c1 h
    refine ok_t ((c_eq tv3 (show (0 : Int32).toInt = 0 from rfl)).mpr c1) ?_
    exact o_ri (show ((-1) : Int32).toInt = (-1) from rfl) hM1 h
  · replace h := it_f c1 h
    refine ok_f (mt (c_eq tv3 (show (0 : Int32).toInt = 0 from rfl)).mp c1) ?_
    refine ok_b (o_rdS hM1 wthis.1 (wthis.2.1.1)) ?_
    refine ok_s ?_
    replace h := ob h; obtain ⟨zv6, ezv6, h⟩ := h
    obtain ⟨v6, ev6, tv6⟩ := o_ldI hM1 wthis.2.1.2 rfl (show (1 : Int32).toInt = 1 from rfl) ezv6
    refine ok_b ev6 ?_
    by_cases c2 : (wr (zv6 + zp1)) ≤ 400
    · replace h := it_t c2 h
      refine ok_t ((c_le (t_add tv6 tp1) (show (400 : Int32).toInt = 400 from rfl)).mpr c2) ?_
      refine h_X12_times_L34   _ wthis _ _ tp1 _ _ _ (show (0 : Int32).toInt = 0 from rfl) _ _ (show (0 : Int32).toInt = 0 from rfl) _ _ hM1 h
    · replace h := it_f c2 h
      refine ok_f (mt (c_le (t_add tv6 tp1) (show (400 : Int32).toInt = 400 from rfl)).mp c2) ?_
      exact o_ri (show ((-2) : Int32).toInt = (-2) from rfl) hM1 h

set_option maxHeartbeats 4000000 in
set_option maxRecDepth 100000 in
theorem h_X12_known_L24 {E : Em} {z : Int} (J : Jm)  (x0 : Nat) (wx0 : W12 E x0) (x1 : Int32) (zx1 : Int) (tx1 : x1.toInt = zx1) : ∀ (fu : Nat), ∀ (x3 : Int32) (zx3 : Int), x3.toInt = zx3 → ∀ (M0 : Mm), Mre E M0 J → H_X12_known_L24 x0 zx1 J fu zx3 = some z → Ok (F_X12_known_L24 x0 x1 fu x3 M0) (fun q => q.1.toInt = z ∧ Mre E q.2 J) := by
  intro fu
  induction fu with
  | zero =>
    intro x3 zx3 tx3 M0 hM0 h
    rw [H_X12_known_L24] at h
    cases h
  | succ n9 ih =>
    intro x3 zx3 tx3 M0 hM0 h
    rw [H_X12_known_L24] at h
    rw [F_X12_known_L24]
    by_cases c3 : zx3 < 0
    · replace h := it_t c3 h
      refine ok_t ((c_lt tx3 (show (0 : Int32).toInt = 0 from rfl)).mpr c3) ?_
      exact o_ri0 (show ((-4) : Int32).toInt = (-4) from rfl) hM0 h
    · replace h := it_f c3 h
      refine ok_f (mt (c_lt tx3 (show (0 : Int32).toInt = 0 from rfl)).mp c3) ?_
      refine ok_b (o_rdS hM0 wx0.1 (wx0.2.1.1)) ?_
      refine ok_s ?_
      replace h := ob h; obtain ⟨zv12, ezv12, h⟩ := h
      obtain ⟨v12, ev12, tv12⟩ := o_ldI hM0 wx0.2.1.2 rfl (t_add (t_add (show (4351 : Int32).toInt = 4351 from rfl) (t_mul (show (401 : Int32).toInt = 401 from rfl) tx1)) tx3) ezv12
      refine ok_b ev12 ?_
      by_cases c4 : zv12 < 0
      · replace h := it_t c4 h
        refine ok_t ((c_lt tv12 (show (0 : Int32).toInt = 0 from rfl)).mpr c4) ?_
        exact ih _ _ (t_add tx3 (show ((-1) : Int32).toInt = (-1) from rfl)) _ hM0 h
      · replace h := it_f c4 h
        refine ok_f (mt (c_lt tv12 (show (0 : Int32).toInt = 0 from rfl)).mp c4) ?_
        refine ok_b (o_rdS hM0 wx0.1 (wx0.2.1.1)) ?_
        refine ok_s ?_
        replace h := ob h; obtain ⟨zv16, ezv16, h⟩ := h
        obtain ⟨v16, ev16, tv16⟩ := o_ldI hM0 wx0.2.1.2 rfl (t_add (t_add (show (4351 : Int32).toInt = 4351 from rfl) (t_mul (show (401 : Int32).toInt = 401 from rfl) tx1)) tx3) ezv16
        refine ok_b ev16 ?_
        exact o_ri0 tv16 hM0 h
set_option maxHeartbeats 4000000 in
set_option maxRecDepth 100000 in
theorem h_X12_known {E : Em} {M : Mm} {J : Jm} (hM : Mre E M J) {this : Nat} (wthis : W12 E this) {p1 : Int32} {zp1 : Int} (tp1 : p1.toInt = zp1) {p2 : Int32} {zp2 : Int} (tp2 : p2.toInt = zp2) {z : Int} (h : H_X12_known this zp1 zp2 J = some z) : Ok (F_X12_known this p1 p2 M) (fun q => q.1.toInt = z ∧ Mre E q.2 J) := by
  unfold H_X12_known at h
  unfold F_X12_known
  refine ok_b (o_isO hM wthis.1) ?_
  replace h := ob h; obtain ⟨zv3, ezv3, h⟩ := h
  obtain ⟨⟨v3, M1⟩, eM1, tv3, hM1⟩ := h_X12_isGlider hM wthis tp1 ezv3
  refine ok_b eM1 ?_
  by_cases c1 : zv3 = 0
  · replace h := it_t c1 h
    refine ok_t ((c_eq tv3 (show (0 : Int32).toInt = 0 from rfl)).mpr c1) ?_
    exact o_ri0 (show ((-1) : Int32).toInt = (-1) from rfl) hM1 h
  · replace h := it_f c1 h
    refine ok_f (mt (c_eq tv3 (show (0 : Int32).toInt = 0 from rfl)).mp c1) ?_
    refine ok_b (o_isO hM1 wthis.1) ?_
    replace h := ob h; obtain ⟨zv7, ezv7, h⟩ := h
    obtain ⟨⟨v7, M5⟩, eM5, tv7, hM5⟩ := h_X12_is hM1 wthis tp2 (show (0 : Int32).toInt = 0 from rfl) (show (400 : Int32).toInt = 400 from rfl) ezv7
    refine ok_b eM5 ?_
    by_cases c2 : zv7 = 0
    · replace h := it_t c2 h
      refine ok_t ((c_eq tv7 (show (0 : Int32).toInt = 0 from rfl)).mpr c2) ?_
      exact o_ri0 (show ((-1) : Int32).toInt = (-1) from rfl) hM5 h
    · replace h := it_f c2 h
      refine ok_f (mt (c_eq tv7 (show (0 : Int32).toInt = 0 from rfl)).mp c2) ?_
      refine h_X12_known_L24 _  _ wthis _ _ tp1 _ _ _ tp2 _ hM5 h

set_option maxHeartbeats 4000000 in
set_option maxRecDepth 100000 in
theorem h_X12_clean {E : Em} {M : Mm} {J : Jm} (hM : Mre E M J) {this : Nat} (wthis : W12 E this) {p1 : Int32} {zp1 : Int} (tp1 : p1.toInt = zp1) {p2 : Int32} {zp2 : Int} (tp2 : p2.toInt = zp2) {z : Int} {J1 : Jm} (h : H_X12_clean this zp1 zp2 J = some (z, J1)) : Ok (F_X12_clean this p1 p2 M) (fun q => q.1.toInt = z ∧ Mre E q.2 J1) := by
  unfold H_X12_clean at h
  unfold F_X12_clean
  refine ok_b (o_isO hM wthis.1) ?_
  replace h := ob h; obtain ⟨zv3, ezv3, h⟩ := h
  obtain ⟨⟨v3, M1⟩, eM1, tv3, hM1⟩ := h_X12_isGlider hM wthis tp1 ezv3
  refine ok_b eM1 ?_
  by_cases c1 : zv3 = 0
  · replace h := it_t c1 h
    refine ok_t ((c_eq tv3 (show (0 : Int32).toInt = 0 from rfl)).mpr c1) ?_
    exact o_ri (show ((-1) : Int32).toInt = (-1) from rfl) hM1 h
  · replace h := it_f c1 h
    refine ok_f (mt (c_eq tv3 (show (0 : Int32).toInt = 0 from rfl)).mp c1) ?_
    refine ok_b (o_isO hM1 wthis.1) ?_
    replace h := ob h; obtain ⟨zv7, ezv7, h⟩ := h
    obtain ⟨⟨v7, M5⟩, eM5, tv7, hM5⟩ := h_X12_is hM1 wthis tp2 (show ((-2000) : Int32).toInt = (-2000) from rfl) (show (2000 : Int32).toInt = 2000 from rfl) ezv7
    refine ok_b eM5 ?_
    by_cases c2 : zv7 = 0
    · replace h := it_t c2 h
      refine ok_t ((c_eq tv7 (show (0 : Int32).toInt = 0 from rfl)).mpr c2) ?_
      exact o_ri (show ((-1) : Int32).toInt = (-1) from rfl) hM5 h
    · replace h := it_f c2 h
      refine ok_f (mt (c_eq tv7 (show (0 : Int32).toInt = 0 from rfl)).mp c2) ?_
      refine ok_b (o_rdS hM5 wthis.1 (wthis.2.1.1)) ?_
      refine ok_s ?_
      replace h := ob h; obtain ⟨zv10, ezv10, h⟩ := h
      obtain ⟨v10, ev10, tv10⟩ := o_ldI hM5 wthis.2.1.2 rfl (show (5 : Int32).toInt = 5 from rfl) ezv10
      refine ok_b ev10 ?_
      by_cases c3 : zv10 = 60
      · replace h := it_t c3 h
        refine ok_t ((c_eq tv10 (show (60 : Int32).toInt = 60 from rfl)).mpr c3) ?_
        exact o_ri (show ((-2) : Int32).toInt = (-2) from rfl) hM5 h
      · replace h := it_f c3 h
        refine ok_f (mt (c_eq tv10 (show (60 : Int32).toInt = 60 from rfl)).mp c3) ?_
        refine ok_b (o_rdS hM5 wthis.1 (wthis.2.1.1)) ?_
        refine ok_s ?_
        replace h := ob h; obtain ⟨J14, eJ14, h⟩ := h
        obtain ⟨M14, eM14, hM14⟩ := o_stI hM5 wthis.2.1.2 rfl (t_add (show (3470 : Int32).toInt = 3470 from rfl) tv10) tp1 eJ14
        refine ok_b eM14 ?_
        refine ok_b (o_rdS hM14 wthis.1 (wthis.2.1.1)) ?_
        refine ok_s ?_
        replace h := ob h; obtain ⟨J17, eJ17, h⟩ := h
        obtain ⟨M17, eM17, hM17⟩ := o_stI hM14 wthis.2.1.2 rfl (t_add (show (3530 : Int32).toInt = 3530 from rfl) tv10) tp2 eJ17
        refine ok_b eM17 ?_
        refine ok_b (o_rdS hM17 wthis.1 (wthis.2.1.1)) ?_
        refine ok_b (o_rdS hM17 wthis.1 (wthis.2.1.1)) ?_
        refine ok_s ?_
        replace h := ob h; obtain ⟨zv21, ezv21, h⟩ := h
        obtain ⟨v21, ev21, tv21⟩ := o_ldI hM17 wthis.2.1.2 rfl (t_add (show (2218 : Int32).toInt = 2218 from rfl) tp1) ezv21
        refine ok_b ev21 ?_
        refine ok_s ?_
        replace h := ob h; obtain ⟨J23, eJ23, h⟩ := h
        obtain ⟨M23, eM23, hM23⟩ := o_stI hM17 wthis.2.1.2 rfl (t_add (show (3590 : Int32).toInt = 3590 from rfl) tv10) tv21 eJ23
        refine ok_b eM23 ?_
        refine ok_b (o_rdS hM23 wthis.1 (wthis.2.1.1)) ?_
        refine ok_b (o_rdS hM23 wthis.1 (wthis.2.1.1)) ?_
        refine ok_s ?_
        replace h := ob h; obtain ⟨zv27, ezv27, h⟩ := h
        obtain ⟨v27, ev27, tv27⟩ := o_ldI hM23 wthis.2.1.2 rfl (show (2 : Int32).toInt = 2 from rfl) ezv27
        refine ok_b ev27 ?_
        refine ok_s ?_
        replace h := ob h; obtain ⟨J29, eJ29, h⟩ := h
        obtain ⟨M29, eM29, hM29⟩ := o_stI hM23 wthis.2.1.2 rfl (t_add (show (3650 : Int32).toInt = 3650 from rfl) tv10) tv27 eJ29
        refine ok_b eM29 ?_
        refine ok_b (o_rdS hM29 wthis.1 (wthis.2.1.1)) ?_
        refine ok_s ?_
        replace h := ob h; obtain ⟨J32, eJ32, h⟩ := h
        obtain ⟨M32, eM32, hM32⟩ := o_stI hM29 wthis.2.1.2 rfl (t_add (show (2218 : Int32).toInt = 2218 from rfl) tp1) (show (0 : Int32).toInt = 0 from rfl) eJ32
        refine ok_b eM32 ?_
        refine ok_b (o_rdS hM32 wthis.1 (wthis.2.1.1)) ?_
        refine ok_s ?_
        replace h := ob h; obtain ⟨zv35, ezv35, h⟩ := h
        obtain ⟨v35, ev35, tv35⟩ := o_ldI hM32 wthis.2.1.2 rfl (show (5 : Int32).toInt = 5 from rfl) ezv35
        refine ok_b ev35 ?_
        replace h := ob h; obtain ⟨J37, eJ37, h⟩ := h
        obtain ⟨M37, eM37, hM37⟩ := o_stI hM32 wthis.2.1.2 rfl (show (5 : Int32).toInt = 5 from rfl) (t_add tv35 (show (1 : Int32).toInt = 1 from rfl)) eJ37
        refine ok_b eM37 ?_
        refine ok_b (o_rdS hM37 wthis.1 (wthis.2.1.1)) ?_
        refine ok_s ?_
        replace h := ob h; obtain ⟨zv39, ezv39, h⟩ := h
        obtain ⟨v39, ev39, tv39⟩ := o_ldI hM37 wthis.2.1.2 rfl (show (5 : Int32).toInt = 5 from rfl) ezv39
        refine ok_b ev39 ?_
        exact o_ri tv39 hM37 h

set_option maxHeartbeats 4000000 in
set_option maxRecDepth 100000 in
theorem h_X12_isReading {E : Em} {M : Mm} {J : Jm} (hM : Mre E M J) {this : Nat} (wthis : W12 E this) {p1 : Int32} {zp1 : Int} (tp1 : p1.toInt = zp1) {z : Int} (h : H_X12_isReading this zp1 J = some z) : Ok (F_X12_isReading this p1 M) (fun q => q.1.toInt = z ∧ Mre E q.2 J) := by
  unfold H_X12_isReading at h
  unfold F_X12_isReading
  refine ok_b (o_rdS hM wthis.1 (wthis.2.1.1)) ?_
  refine ok_s ?_
  replace h := ob h; obtain ⟨zv2, ezv2, h⟩ := h
  obtain ⟨v2, ev2, tv2⟩ := o_ldI hM wthis.2.1.2 rfl (show (2 : Int32).toInt = 2 from rfl) ezv2
  refine ok_b ev2 ?_
  refine ok_b (o_isO hM wthis.1) ?_
  replace h := ob h; obtain ⟨zv6, ezv6, h⟩ := h
  obtain ⟨⟨v6, M4⟩, eM4, tv6, hM4⟩ := h_X12_is hM wthis tp1 (show (0 : Int32).toInt = 0 from rfl) (t_sub tv2 (show (1 : Int32).toInt = 1 from rfl)) ezv6
  refine ok_b eM4 ?_
  replace h := ob h; obtain ⟨_, hz1, h⟩ := h
  refine ok_b (o_ckZ tv6 (jZ_e hz1)) ?_
  exact o_ri0 tv6 hM4 h

set_option maxHeartbeats 4000000 in
set_option maxRecDepth 100000 in
theorem h_X12_reading {E : Em} {M : Mm} {J : Jm} (hM : Mre E M J) {this : Nat} (wthis : W12 E this) {p1 : Int32} {zp1 : Int} (tp1 : p1.toInt = zp1) {p2 : Int32} {zp2 : Int} (tp2 : p2.toInt = zp2) {z : Int} (h : H_X12_reading this zp1 zp2 J = some z) : Ok (F_X12_reading this p1 p2 M) (fun q => q.1.toInt = z ∧ Mre E q.2 J) := by
  unfold H_X12_reading at h
  unfold F_X12_reading
  refine ok_b (o_isO hM wthis.1) ?_
  replace h := ob h; obtain ⟨zv3, ezv3, h⟩ := h
  obtain ⟨⟨v3, M1⟩, eM1, tv3, hM1⟩ := h_X12_isReading hM wthis tp1 ezv3
  refine ok_b eM1 ?_
  by_cases c1 : zv3 = 0
  · replace h := it_t c1 h
    refine ok_t ((c_eq tv3 (show (0 : Int32).toInt = 0 from rfl)).mpr c1) ?_
    exact o_ri0 (show ((-1) : Int32).toInt = (-1) from rfl) hM1 h
  · replace h := it_f c1 h
    refine ok_f (mt (c_eq tv3 (show (0 : Int32).toInt = 0 from rfl)).mp c1) ?_
    refine ok_b (o_isO hM1 wthis.1) ?_
    replace h := ob h; obtain ⟨zv7, ezv7, h⟩ := h
    obtain ⟨⟨v7, M5⟩, eM5, tv7, hM5⟩ := h_X12_is hM1 wthis tp2 (show (0 : Int32).toInt = 0 from rfl) (show (4 : Int32).toInt = 4 from rfl) ezv7
    refine ok_b eM5 ?_
    by_cases c2 : zv7 = 0
    · replace h := it_t c2 h
      refine ok_t ((c_eq tv7 (show (0 : Int32).toInt = 0 from rfl)).mpr c2) ?_
      exact o_ri0 (show ((-1) : Int32).toInt = (-1) from rfl) hM5 h
    · replace h := it_f c2 h
      refine ok_f (mt (c_eq tv7 (show (0 : Int32).toInt = 0 from rfl)).mp c2) ?_
      by_cases c3 : zp2 = 0
      · replace h := it_t c3 h
        refine ok_t ((c_eq tp2 (show (0 : Int32).toInt = 0 from rfl)).mpr c3) ?_
        refine ok_b (o_rdS hM5 wthis.1 (wthis.2.1.1)) ?_
        refine ok_s ?_
        replace h := ob h; obtain ⟨zv26, ezv26, h⟩ := h
        obtain ⟨v26, ev26, tv26⟩ := o_ldI hM5 wthis.2.1.2 rfl (t_add (show (2270 : Int32).toInt = 2270 from rfl) tp1) ezv26
        refine ok_b ev26 ?_
        exact o_ri0 tv26 hM5 h
      · replace h := it_f c3 h
        refine ok_f (mt (c_eq tp2 (show (0 : Int32).toInt = 0 from rfl)).mp c3) ?_
        by_cases c4 : zp2 = 1
        · replace h := it_t c4 h
          refine ok_t ((c_eq tp2 (show (1 : Int32).toInt = 1 from rfl)).mpr c4) ?_
          refine ok_b (o_rdS hM5 wthis.1 (wthis.2.1.1)) ?_
          refine ok_s ?_
          replace h := ob h; obtain ⟨zv23, ezv23, h⟩ := h
          obtain ⟨v23, ev23, tv23⟩ := o_ldI hM5 wthis.2.1.2 rfl (t_add (show (2470 : Int32).toInt = 2470 from rfl) tp1) ezv23
          refine ok_b ev23 ?_
          exact o_ri0 tv23 hM5 h
        · replace h := it_f c4 h
          refine ok_f (mt (c_eq tp2 (show (1 : Int32).toInt = 1 from rfl)).mp c4) ?_
          by_cases c5 : zp2 = 2
          · replace h := it_t c5 h
            refine ok_t ((c_eq tp2 (show (2 : Int32).toInt = 2 from rfl)).mpr c5) ?_
            refine ok_b (o_rdS hM5 wthis.1 (wthis.2.1.1)) ?_
            refine ok_s ?_
            replace h := ob h; obtain ⟨zv20, ezv20, h⟩ := h
            obtain ⟨v20, ev20, tv20⟩ := o_ldI hM5 wthis.2.1.2 rfl (t_add (show (2670 : Int32).toInt = 2670 from rfl) tp1) ezv20
            refine ok_b ev20 ?_
            exact o_ri0 tv20 hM5 h
          · replace h := it_f c5 h
            refine ok_f (mt (c_eq tp2 (show (2 : Int32).toInt = 2 from rfl)).mp c5) ?_
            by_cases c6 : zp2 = 3
            · replace h := it_t c6 h
              refine ok_t ((c_eq tp2 (show (3 : Int32).toInt = 3 from rfl)).mpr c6) ?_
              refine ok_b (o_rdS hM5 wthis.1 (wthis.2.1.1)) ?_
              refine ok_s ?_
              replace h := ob h; obtain ⟨zv17, ezv17, h⟩ := h
              obtain ⟨v17, ev17, tv17⟩ := o_ldI hM5 wthis.2.1.2 rfl (t_add (show (2870 : Int32).toInt = 2870 from rfl) tp1) ezv17
              refine ok_b ev17 ?_
              exact o_ri0 tv17 hM5 h
            · replace h := it_f c6 h
              refine ok_f (mt (c_eq tp2 (show (3 : Int32).toInt = 3 from rfl)).mp c6) ?_
              refine ok_b (o_rdS hM5 wthis.1 (wthis.2.1.1)) ?_
              refine ok_s ?_
              replace h := ob h; obtain ⟨zv14, ezv14, h⟩ := h
              obtain ⟨v14, ev14, tv14⟩ := o_ldI hM5 wthis.2.1.2 rfl (t_add (show (3070 : Int32).toInt = 3070 from rfl) tp1) ezv14
              refine ok_b ev14 ?_
              exact o_ri0 tv14 hM5 h

set_option maxHeartbeats 4000000 in
set_option maxRecDepth 100000 in
theorem h_X12_rightOf_L2 {E : Em} {z : Int} (J : Jm) (k101 : Mm → Option (Int32 × Mm)) (k101h : Option Int) (hk101 : ∀ (M9 : Mm), Mre E M9 J → k101h = some z → Ok (k101 M9) (fun q => q.1.toInt = z ∧ Mre E q.2 J)) (k49 : Int32 → Mm → Option (Int32 × Mm)) (k49h : Int → Option Int) (hk49 : ∀ (y0 : Int32) (zy0 : Int), y0.toInt = zy0 → ∀ (M9 : Mm), Mre E M9 J → k49h zy0 = some z → Ok (k49 y0 M9) (fun q => q.1.toInt = z ∧ Mre E q.2 J)) (x0 : Nat) (wx0 : W12 E x0) (x1 : Int32) (zx1 : Int) (tx1 : x1.toInt = zx1) : ∀ (fu : Nat), ∀ (x2 : Int32) (zx2 : Int), x2.toInt = zx2 → ∀ (M0 : Mm), Mre E M0 J → H_X12_rightOf_L2 k101h k49h x0 zx1 J fu zx2 = some z → Ok (F_X12_rightOf_L2 k101 k49 x0 x1 fu x2 M0) (fun q => q.1.toInt = z ∧ Mre E q.2 J) := by
  intro fu
  induction fu with
  | zero =>
    intro x2 zx2 tx2 M0 hM0 h
    rw [H_X12_rightOf_L2] at h
    cases h
  | succ n1 ih =>
    intro x2 zx2 tx2 M0 hM0 h
    rw [H_X12_rightOf_L2] at h
    rw [F_X12_rightOf_L2]
    refine ok_b (o_rdS hM0 wx0.1 (wx0.2.1.1)) ?_
    refine ok_s ?_
    replace h := ob h; obtain ⟨zv3, ezv3, h⟩ := h
    obtain ⟨v3, ev3, tv3⟩ := o_ldI hM0 wx0.2.1.2 rfl (show (5 : Int32).toInt = 5 from rfl) ezv3
    refine ok_b ev3 ?_
    by_cases c1 : zv3 ≤ zx2
    · replace h := it_t c1 h
      refine ok_t ((c_le tv3 tx2).mpr c1) ?_
      exact hk101 _ hM0 h
    · replace h := it_f c1 h
      refine ok_f (mt (c_le tv3 tx2).mp c1) ?_
      refine ok_b (o_rdS hM0 wx0.1 (wx0.2.1.1)) ?_
      refine ok_s ?_
      replace h := ob h; obtain ⟨zv7, ezv7, h⟩ := h
      obtain ⟨v7, ev7, tv7⟩ := o_ldI hM0 wx0.2.1.2 rfl (t_add (show (3470 : Int32).toInt = 3470 from rfl) tx2) ezv7
      refine ok_b ev7 ?_
      refine ok_b (o_rdS hM0 wx0.1 (wx0.2.1.1)) ?_
      refine ok_s ?_
      replace h := ob h; obtain ⟨zv10, ezv10, h⟩ := h
      obtain ⟨v10, ev10, tv10⟩ := o_ldI hM0 wx0.2.1.2 rfl (t_add (show (2270 : Int32).toInt = 2270 from rfl) tx1) ezv10
      refine ok_b ev10 ?_
      by_cases c2 : zv7 = zv10
      · replace h := it_t c2 h
        refine ok_t ((c_eq tv7 tv10).mpr c2) ?_
        refine ok_b (o_rdS hM0 wx0.1 (wx0.2.1.1)) ?_
        refine ok_s ?_
        replace h := ob h; obtain ⟨zv14, ezv14, h⟩ := h
        obtain ⟨v14, ev14, tv14⟩ := o_ldI hM0 wx0.2.1.2 rfl (t_add (show (3650 : Int32).toInt = 3650 from rfl) tx2) ezv14
        refine ok_b ev14 ?_
        by_cases c3 : zv14 ≤ zx1
        · replace h := it_t c3 h
          refine ok_t ((c_le tv14 tx1).mpr c3) ?_
          exact ih _ _ (t_add tx2 (show (1 : Int32).toInt = 1 from rfl)) _ hM0 h
        · replace h := it_f c3 h
          refine ok_f (mt (c_le tv14 tx1).mp c3) ?_
          exact hk49 _ _ tx2 _ hM0 h
      · replace h := it_f c2 h
        refine ok_f (mt (c_eq tv7 tv10).mp c2) ?_
        exact ih _ _ (t_add tx2 (show (1 : Int32).toInt = 1 from rfl)) _ hM0 h
set_option maxHeartbeats 4000000 in
set_option maxRecDepth 100000 in
theorem h_X12_rightOf {E : Em} {M : Mm} {J : Jm} (hM : Mre E M J) {this : Nat} (wthis : W12 E this) {p1 : Int32} {zp1 : Int} (tp1 : p1.toInt = zp1) {z : Int} (h : H_X12_rightOf this zp1 J = some z) : Ok (F_X12_rightOf this p1 M) (fun q => q.1.toInt = z ∧ Mre E q.2 J) := by
  unfold H_X12_rightOf at h
  unfold F_X12_rightOf
  refine h_X12_rightOf_L2 _ _ _ ?_ _ _ ?_ _ wthis _ _ tp1 _ _ _ (show (0 : Int32).toInt = 0 from rfl) _ hM h
  intro M17 hM17 h
  refine ok_b (o_rdS hM17 wthis.1 (wthis.2.1.1)) ?_
  refine ok_s ?_
  replace h := ob h; obtain ⟨zv19, ezv19, h⟩ := h
  obtain ⟨v19, ev19, tv19⟩ := o_ldI hM17 wthis.2.1.2 rfl (t_add (show (3270 : Int32).toInt = 3270 from rfl) tp1) ezv19
  refine ok_b ev19 ?_
  refine ok_b (o_rdS hM17 wthis.1 (wthis.2.1.1)) ?_
  refine ok_s ?_
  replace h := ob h; obtain ⟨zv22, ezv22, h⟩ := h
  obtain ⟨v22, ev22, tv22⟩ := o_ldI hM17 wthis.2.1.2 rfl (t_add (show (3070 : Int32).toInt = 3070 from rfl) tp1) ezv22
  refine ok_b ev22 ?_
  exact o_ri0 (t_sub tv19 (t_mul (show (3 : Int32).toInt = 3 from rfl) tv22)) hM17 h
  intro y24 zy24 ty24 M25 hM25 h
  refine ok_b (o_rdS hM25 wthis.1 (wthis.2.1.1)) ?_
  refine ok_s ?_
  replace h := ob h; obtain ⟨zv27, ezv27, h⟩ := h
  obtain ⟨v27, ev27, tv27⟩ := o_ldI hM25 wthis.2.1.2 rfl (t_add (show (3270 : Int32).toInt = 3270 from rfl) tp1) ezv27
  refine ok_b ev27 ?_
  refine ok_b (o_rdS hM25 wthis.1 (wthis.2.1.1)) ?_
  refine ok_s ?_
  replace h := ob h; obtain ⟨zv30, ezv30, h⟩ := h
  obtain ⟨v30, ev30, tv30⟩ := o_ldI hM25 wthis.2.1.2 rfl (t_add (show (3530 : Int32).toInt = 3530 from rfl) ty24) ezv30
  refine ok_b ev30 ?_
  refine ok_b (o_rdS hM25 wthis.1 (wthis.2.1.1)) ?_
  refine ok_s ?_
  replace h := ob h; obtain ⟨zv33, ezv33, h⟩ := h
  obtain ⟨v33, ev33, tv33⟩ := o_ldI hM25 wthis.2.1.2 rfl (t_add (show (3070 : Int32).toInt = 3070 from rfl) tp1) ezv33
  refine ok_b ev33 ?_
  refine ok_b (o_rdS hM25 wthis.1 (wthis.2.1.1)) ?_
  refine ok_s ?_
  replace h := ob h; obtain ⟨zv36, ezv36, h⟩ := h
  obtain ⟨v36, ev36, tv36⟩ := o_ldI hM25 wthis.2.1.2 rfl (t_add (show (3590 : Int32).toInt = 3590 from rfl) ty24) ezv36
  refine ok_b ev36 ?_
  replace h := ob h; obtain ⟨zv38, ezv38, h⟩ := h
  obtain ⟨v38, ev38, tv38⟩ := o_dvI (t_mul tv30 (t_add tv33 (show (1 : Int32).toInt = 1 from rfl))) tv36 ezv38
  refine ok_b ev38 ?_
  exact o_ri0 (t_sub tv27 tv38) hM25 h

set_option maxHeartbeats 4000000 in
set_option maxRecDepth 100000 in
theorem h_X12_read {E : Em} {M : Mm} {J : Jm} (hM : Mre E M J) {this : Nat} (wthis : W12 E this) {p1 : Int32} {zp1 : Int} (tp1 : p1.toInt = zp1) {p2 : Int32} {zp2 : Int} (tp2 : p2.toInt = zp2) {z : Int} {J1 : Jm} (h : H_X12_read this zp1 zp2 J = some (z, J1)) : Ok (F_X12_read this p1 p2 M) (fun q => q.1.toInt = z ∧ Mre E q.2 J1) := by
  unfold H_X12_read at h
  unfold F_X12_read
  refine ok_b (o_isO hM wthis.1) ?_
  replace h := ob h; obtain ⟨zv3, ezv3, h⟩ := h
  obtain ⟨⟨v3, M1⟩, eM1, tv3, hM1⟩ := h_X12_isReading hM wthis tp1 ezv3
  refine ok_b eM1 ?_
  replace h := nv_e h; obtain ⟨zv4, ezv4, h⟩ := h
  obtain ⟨v4, evv4⟩ : ∃ v : Int32, v = (if v3 = 0 then 1 else 0) := ⟨_, rfl⟩
  have tv4 : v4.toInt = zv4 := by rw [evv4, ezv4]; exact (t_ite (c_eq tv3 (show (0 : Int32).toInt = 0 from rfl)) (show (1 : Int32).toInt = 1 from rfl) (show (0 : Int32).toInt = 0 from rfl))
  refine ok_nv evv4 ?_
  replace h := nv_e h; obtain ⟨J6, eJ6, h⟩ := h
  obtain ⟨M6, eM6, hM6⟩ := o_wrI (k := 0) hM1 wthis.1 tv4 eJ6
  refine ok_b eM6 ?_
  obtain ⟨v7, ev7, tv7⟩ := o_rdI (k := 0) hM6 wthis.1
  refine ok_b ev7 ?_
  by_cases c1 : (J6 this 0) ≤ 0
  · replace h := it_t c1 h
    refine ok_t ((c_le tv7 (show (0 : Int32).toInt = 0 from rfl)).mpr c1) ?_
    by_cases c2 : zp2 = 0
    · replace h := it_t c2 h
      refine ok_t ((c_eq tp2 (show (0 : Int32).toInt = 0 from rfl)).mpr c2) ?_
      refine ok_b (o_rdS hM6 wthis.1 (wthis.2.1.1)) ?_
      refine ok_s ?_
      replace h := ob h; obtain ⟨zv11, ezv11, h⟩ := h
      obtain ⟨v11, ev11, tv11⟩ := o_ldI hM6 wthis.2.1.2 rfl (t_add (show (3270 : Int32).toInt = 3270 from rfl) tp1) ezv11
      refine ok_b ev11 ?_
      exact o_ril (t_l64 tv11) hM6 h
    · replace h := it_f c2 h
      refine ok_f (mt (c_eq tp2 (show (0 : Int32).toInt = 0 from rfl)).mp c2) ?_
      refine ok_b (o_isO hM6 wthis.1) ?_
      replace h := ob h; obtain ⟨zv15, ezv15, h⟩ := h
      obtain ⟨⟨v15, M13⟩, eM13, tv15, hM13⟩ := h_X12_rightOf hM6 wthis tp1 ezv15
      refine ok_b eM13 ?_
      exact o_ril (t_l64 tv15) hM13 h
  · replace h := it_f c1 h
    refine ok_f (mt (c_le tv7 (show (0 : Int32).toInt = 0 from rfl)).mp c1) ?_
    exact o_ril (show (0 : Int64).toInt = 0 from rfl) hM6 h

set_option maxHeartbeats 4000000 in
set_option maxRecDepth 100000 in
theorem h_X12_endBy {E : Em} {M : Mm} {J : Jm} (hM : Mre E M J) {this : Nat} (wthis : W12 E this) {p1 : Int32} {zp1 : Int} (tp1 : p1.toInt = zp1) {p2 : Int32} {zp2 : Int} (tp2 : p2.toInt = zp2) {p3 : Int32} {zp3 : Int} (tp3 : p3.toInt = zp3) {p4 : Int32} {zp4 : Int} (tp4 : p4.toInt = zp4) {J1 : Jm} (h : H_X12_endBy this zp1 zp2 zp3 zp4 J = some J1) : Ok (F_X12_endBy this p1 p2 p3 p4 M) (fun q => Mre E q J1) := by
  unfold H_X12_endBy at h
  unfold F_X12_endBy
  refine ok_b (o_rdS hM wthis.1 (wthis.2.1.1)) ?_
  refine ok_s ?_
  replace h := ob h; obtain ⟨zv2, ezv2, h⟩ := h
  obtain ⟨v2, ev2, tv2⟩ := o_ldI hM wthis.2.1.2 rfl (t_add (show (2178 : Int32).toInt = 2178 from rfl) tp1) ezv2
  refine ok_b ev2 ?_
  replace h := nv_e h; obtain ⟨J4, eJ4, h⟩ := h
  obtain ⟨M4, eM4, hM4⟩ := o_wrI (k := 4) hM wthis.1 tv2 eJ4
  refine ok_b eM4 ?_
  refine ok_b (o_rdS hM4 wthis.1 (wthis.2.1.1)) ?_
  refine ok_s ?_
  replace h := ob h; obtain ⟨zv6, ezv6, h⟩ := h
  obtain ⟨v6, ev6, tv6⟩ := o_ldI hM4 wthis.2.1.2 rfl (t_add (show (2186 : Int32).toInt = 2186 from rfl) tp1) ezv6
  refine ok_b ev6 ?_
  replace h := nv_e h; obtain ⟨J8, eJ8, h⟩ := h
  obtain ⟨M8, eM8, hM8⟩ := o_wrI (k := 5) hM4 wthis.1 tv6 eJ8
  refine ok_b eM8 ?_
  refine ok_b (o_isO hM8 wthis.1) ?_
  replace h := ob h; obtain ⟨J9, eJ9, h⟩ := h
  obtain ⟨M9, eM9, hM9⟩ := h_X12_sink hM8 wthis tp2 (show (1 : Int32).toInt = 1 from rfl) eJ9
  refine ok_b eM9 ?_
  refine ok_b (o_isO hM9 wthis.1) ?_
  replace h := ob h; obtain ⟨J11, eJ11, h⟩ := h
  obtain ⟨M11, eM11, hM11⟩ := h_X12_steps hM9 wthis tp3 tp4 eJ11
  refine ok_b eM11 ?_
  exact o_rv hM11 h

set_option maxHeartbeats 4000000 in
set_option maxRecDepth 100000 in
theorem h_X12_findEnds_L72 {E : Em} {J1 : Jm}  (k171 : Mm → Option Mm) (k171h : Jm → Option Jm) (hk171 : ∀ (M9 : Mm) (J9 : Jm), Mre E M9 J9 → k171h J9 = some J1 → Ok (k171 M9) (fun q => Mre E q J1)) (x0 : Nat) (wx0 : W12 E x0) (x1 : Int32) (zx1 : Int) (tx1 : x1.toInt = zx1) (x2 : Int32) (zx2 : Int) (tx2 : x2.toInt = zx2) : ∀ (fu : Nat), ∀ (x3 : Int32) (zx3 : Int), x3.toInt = zx3 → ∀ (M0 : Mm) (J0 : Jm), Mre E M0 J0 → H_X12_findEnds_L72 k171h x0 zx1 zx2 fu zx3 J0 = some J1 → Ok (F_X12_findEnds_L72 k171 x0 x1 x2 fu x3 M0) (fun q => Mre E q J1) := by
  intro fu
  induction fu with
  | zero =>
    intro x3 zx3 tx3 M0 J0 hM0 h
    rw [H_X12_findEnds_L72] at h
    cases h
  | succ n27 ih =>
    intro x3 zx3 tx3 M0 J0 hM0 h
    rw [H_X12_findEnds_L72] at h
    rw [F_X12_findEnds_L72]
    by_cases c5 : 81 ≤ zx3
    · replace h := it_t c5 h
      refine ok_t ((c_le (show (81 : Int32).toInt = 81 from rfl) tx3).mpr c5) ?_
      exact hk171 _ _ hM0 h
    · replace h := it_f c5 h
      refine ok_f (mt (c_le (show (81 : Int32).toInt = 81 from rfl) tx3).mp c5) ?_
      refine ok_b (o_rdS hM0 wx0.1 (wx0.2.2.2.2.2.1.1)) ?_
      obtain ⟨v30, ev30, tv30⟩ := o_rdI (k := 26) hM0 wx0.1
      refine ok_b ev30 ?_
      refine ok_s ?_
      replace h := ob h; obtain ⟨J31, eJ31, h⟩ := h
      obtain ⟨M31, eM31, hM31⟩ := o_stI hM0 wx0.2.2.2.2.2.1.2 rfl (t_add (t_mul (show (81 : Int32).toInt = 81 from rfl) tv30) tx3) (show ((-1) : Int32).toInt = (-1) from rfl) eJ31
      refine ok_b eM31 ?_
      replace h := ob h; obtain ⟨zv33, ezv33, h⟩ := h
      obtain ⟨v33, ev33, tv33⟩ := o_dvI tx3 (show (9 : Int32).toInt = 9 from rfl) ezv33
      refine ok_b ev33 ?_
      replace h := ob h; obtain ⟨zv34, ezv34, h⟩ := h
      obtain ⟨v34, ev34, tv34⟩ := o_rmI tx3 (show (9 : Int32).toInt = 9 from rfl) ezv34
      refine ok_b ev34 ?_
      refine ok_b (o_isO hM31 wx0.1) ?_
      replace h := ob h; obtain ⟨zv37, ezv37, h⟩ := h
      obtain ⟨⟨v37, M35⟩, eM35, tv37, hM35⟩ := h_X12_isHeading hM31 wx0 tx2 (t_sub tv33 (show (4 : Int32).toInt = 4 from rfl)) (t_sub tv34 (show (4 : Int32).toInt = 4 from rfl)) ezv37
      refine ok_b eM35 ?_
      by_cases c6 : zv37 = 0
      · replace h := it_t c6 h
        refine ok_t ((c_eq tv37 (show (0 : Int32).toInt = 0 from rfl)).mpr c6) ?_
        exact ih _ _ (t_add tx3 (show (1 : Int32).toInt = 1 from rfl)) _ _ hM35 h
      · replace h := it_f c6 h
        refine ok_f (mt (c_eq tv37 (show (0 : Int32).toInt = 0 from rfl)).mp c6) ?_
        refine ok_b (o_isO hM35 wx0.1) ?_
        replace h := ob h; obtain ⟨zv41, ezv41, h⟩ := h
        obtain ⟨⟨v41, M39⟩, eM39, tv41, hM39⟩ := h_X12_layerFor hM35 wx0 tx2 tx1 ezv41
        refine ok_b eM39 ?_
        replace h := ob h; obtain ⟨zv42, ezv42, h⟩ := h
        obtain ⟨v42, ev42, tv42⟩ := o_dvI tx3 (show (9 : Int32).toInt = 9 from rfl) ezv42
        refine ok_b ev42 ?_
        replace h := ob h; obtain ⟨zv43, ezv43, h⟩ := h
        obtain ⟨v43, ev43, tv43⟩ := o_rmI tx3 (show (9 : Int32).toInt = 9 from rfl) ezv43
        refine ok_b ev43 ?_
        refine ok_b (o_isO hM39 wx0.1) ?_
        replace h := ob h; obtain ⟨J44, eJ44, h⟩ := h
        obtain ⟨M44, eM44, hM44⟩ := h_X12_endBy hM39 wx0 tx2 tv41 (t_sub tv42 (show (4 : Int32).toInt = 4 from rfl)) (t_sub tv43 (show (4 : Int32).toInt = 4 from rfl)) eJ44
        refine ok_b eM44 ?_
        refine ok_b (o_rdS hM44 wx0.1 (wx0.2.2.2.2.2.1.1)) ?_
        obtain ⟨v47, ev47, tv47⟩ := o_rdI (k := 26) hM44 wx0.1
        refine ok_b ev47 ?_
        obtain ⟨v48, ev48, tv48⟩ := o_rdI (k := 4) hM44 wx0.1
        refine ok_b ev48 ?_
        obtain ⟨v49, ev49, tv49⟩ := o_rdI (k := 5) hM44 wx0.1
        refine ok_b ev49 ?_
        refine ok_s ?_
        replace h := ob h; obtain ⟨J50, eJ50, h⟩ := h
        obtain ⟨M50, eM50, hM50⟩ := o_stI hM44 wx0.2.2.2.2.2.1.2 rfl (t_add (t_mul (show (81 : Int32).toInt = 81 from rfl) tv47) tx3) (t_add (t_mul (show (8 : Int32).toInt = 8 from rfl) tv48) tv49) eJ50
        refine ok_b eM50 ?_
        exact ih _ _ (t_add tx3 (show (1 : Int32).toInt = 1 from rfl)) _ _ hM50 h
set_option maxHeartbeats 4000000 in
set_option maxRecDepth 100000 in
theorem h_X12_findEnds_L7 {E : Em} {J1 : Jm}   (x0 : Nat) (wx0 : W12 E x0) (x1 : Int32) (zx1 : Int) (tx1 : x1.toInt = zx1) : ∀ (fu : Nat), ∀ (x2 : Int32) (zx2 : Int), x2.toInt = zx2 → ∀ (M0 : Mm) (J0 : Jm), Mre E M0 J0 → H_X12_findEnds_L7 x0 zx1 fu zx2 J0 = some J1 → Ok (F_X12_findEnds_L7 x0 x1 fu x2 M0) (fun q => Mre E q J1) := by
  intro fu
  induction fu with
  | zero =>
    intro x2 zx2 tx2 M0 J0 hM0 h
    rw [H_X12_findEnds_L7] at h
    cases h
  | succ n2 ih =>
    intro x2 zx2 tx2 M0 J0 hM0 h
    rw [H_X12_findEnds_L7] at h
    rw [F_X12_findEnds_L7]
    refine ok_b (o_rdS hM0 wx0.1 (wx0.2.1.1)) ?_
    refine ok_s ?_
    replace h := ob h; obtain ⟨zv4, ezv4, h⟩ := h
    obtain ⟨v4, ev4, tv4⟩ := o_ldI hM0 wx0.2.1.2 rfl (show (0 : Int32).toInt = 0 from rfl) ezv4
    refine ok_b ev4 ?_
    by_cases c1 : zv4 ≤ zx2
    · replace h := it_t c1 h
      refine ok_t ((c_le tv4 tx2).mpr c1) ?_
      exact o_rv hM0 h
    · replace h := it_f c1 h
      refine ok_f (mt (c_le tv4 tx2).mp c1) ?_
      obtain ⟨v7, ev7, tv7⟩ := o_rdI (k := 26) hM0 wx0.1
      refine ok_b ev7 ?_
      by_cases c2 : 3 ≤ (J0 x0 26)
      · replace h := it_t c2 h
        refine ok_t ((c_le (show (3 : Int32).toInt = 3 from rfl) tv7).mpr c2) ?_
        exact o_rv hM0 h
      · replace h := it_f c2 h
        refine ok_f (mt (c_le (show (3 : Int32).toInt = 3 from rfl) tv7).mp c2) ?_
        refine ok_b (o_isO hM0 wx0.1) ?_
        replace h := ob h; obtain ⟨zv11, ezv11, h⟩ := h
        obtain ⟨⟨v11, M9⟩, eM9, tv11, hM9⟩ := h_X12_isUp hM0 wx0 tx2 ezv11
        refine ok_b eM9 ?_
        by_cases c3 : zv11 = 0
        · replace h := it_t c3 h
          refine ok_t ((c_eq tv11 (show (0 : Int32).toInt = 0 from rfl)).mpr c3) ?_
          exact ih _ _ (t_add tx2 (show (1 : Int32).toInt = 1 from rfl)) _ _ hM9 h
        · replace h := it_f c3 h
          refine ok_f (mt (c_eq tv11 (show (0 : Int32).toInt = 0 from rfl)).mp c3) ?_
          refine ok_b (o_rdS hM9 wx0.1 (wx0.2.1.1)) ?_
          refine ok_s ?_
          replace h := ob h; obtain ⟨zv14, ezv14, h⟩ := h
          obtain ⟨v14, ev14, tv14⟩ := o_ldI hM9 wx0.2.1.2 rfl (t_add (show (2194 : Int32).toInt = 2194 from rfl) tx2) ezv14
          refine ok_b ev14 ?_
          refine ok_b (o_isO hM9 wx0.1) ?_
          replace h := ob h; obtain ⟨zv18, ezv18, h⟩ := h
          obtain ⟨⟨v18, M16⟩, eM16, tv18, hM16⟩ := h_X12_layerFor hM9 wx0 tx2 tx1 ezv18
          refine ok_b eM16 ?_
          refine ok_b (o_isO hM16 wx0.1) ?_
          replace h := ob h; obtain ⟨zv21, ezv21, h⟩ := h
          obtain ⟨⟨v21, M19⟩, eM19, tv21, hM19⟩ := h_X12_cost hM16 wx0 tx2 tv18 ezv21
          refine ok_b eM19 ?_
          by_cases c4 : zv21 ≤ zv14
          · replace h := it_t c4 h
            refine ok_t ((c_le tv21 tv14).mpr c4) ?_
            refine ok_b (o_rdS hM19 wx0.1 (wx0.2.2.2.2.1.1)) ?_
            obtain ⟨v24, ev24, tv24⟩ := o_rdI (k := 26) hM19 wx0.1
            refine ok_b ev24 ?_
            refine ok_s ?_
            replace h := ob h; obtain ⟨J25, eJ25, h⟩ := h
            obtain ⟨M25, eM25, hM25⟩ := o_stI hM19 wx0.2.2.2.2.1.2 rfl tv24 tx2 eJ25
            refine ok_b eM25 ?_
            refine h_X12_findEnds_L72  _ _ ?_ _ wx0 _ _ tx1 _ _ tx2 _ _ _ (show (0 : Int32).toInt = 0 from rfl) _ _ hM25 h
            intro M52 J52 hM52 h
            obtain ⟨v53, ev53, tv53⟩ := o_rdI (k := 26) hM52 wx0.1
            refine ok_b ev53 ?_
            replace h := nv_e h; obtain ⟨J54, eJ54, h⟩ := h
            obtain ⟨M54, eM54, hM54⟩ := o_wrI (k := 26) hM52 wx0.1 (t_add tv53 (show (1 : Int32).toInt = 1 from rfl)) eJ54
            refine ok_b eM54 ?_
            exact ih _ _ (t_add tx2 (show (1 : Int32).toInt = 1 from rfl)) _ _ hM54 h
          · replace h := it_f c4 h
            refine ok_f (mt (c_le tv21 tv14).mp c4) ?_
            exact ih _ _ (t_add tx2 (show (1 : Int32).toInt = 1 from rfl)) _ _ hM19 h
set_option maxHeartbeats 4000000 in
set_option maxRecDepth 100000 in
theorem h_X12_findEnds {E : Em} {M : Mm} {J : Jm} (hM : Mre E M J) {this : Nat} (wthis : W12 E this) {p1 : Int32} {zp1 : Int} (tp1 : p1.toInt = zp1) {J1 : Jm} (h : H_X12_findEnds this zp1 J = some J1) : Ok (F_X12_findEnds this p1 M) (fun q => Mre E q J1) := by
  unfold H_X12_findEnds at h
  unfold F_X12_findEnds
  replace h := nv_e h; obtain ⟨J1, eJ1, h⟩ := h
  obtain ⟨M1, eM1, hM1⟩ := o_wrI (k := 26) hM wthis.1 (show (0 : Int32).toInt = 0 from rfl) eJ1
  refine ok_b eM1 ?_
  refine h_X12_findEnds_L7   _ wthis _ _ tp1 _ _ _ (show (0 : Int32).toInt = 0 from rfl) _ _ hM1 h

set_option maxHeartbeats 4000000 in
set_option maxRecDepth 100000 in
theorem h_X12_raise {E : Em} {M : Mm} {J : Jm} (hM : Mre E M J) {this : Nat} (wthis : W12 E this) {p1 : Int32} {zp1 : Int} (tp1 : p1.toInt = zp1) {p2 : Int32} {zp2 : Int} (tp2 : p2.toInt = zp2) {z : Int} {J1 : Jm} (h : H_X12_raise this zp1 zp2 J = some (z, J1)) : Ok (F_X12_raise this p1 p2 M) (fun q => q.1.toInt = z ∧ Mre E q.2 J1) := by
  unfold H_X12_raise at h
  unfold F_X12_raise
  refine ok_b (o_rdS hM wthis.1 (wthis.2.2.2.2.2.2.2.2.1.1)) ?_
  refine ok_s ?_
  replace h := ob h; obtain ⟨zv2, ezv2, h⟩ := h
  obtain ⟨v2, ev2, tv2⟩ := o_ldI hM wthis.2.2.2.2.2.2.2.2.1.2 rfl tp1 ezv2
  refine ok_b ev2 ?_
  by_cases c1 : zv2 < zp2
  · replace h := it_t c1 h
    refine ok_t ((c_lt tv2 tp2).mpr c1) ?_
    refine ok_b (o_rdS hM wthis.1 (wthis.2.2.2.2.2.2.2.2.1.1)) ?_
    refine ok_s ?_
    replace h := ob h; obtain ⟨zv6, ezv6, h⟩ := h
    obtain ⟨v6, ev6, tv6⟩ := o_ldI hM wthis.2.2.2.2.2.2.2.2.1.2 rfl tp1 ezv6
    refine ok_b ev6 ?_
    refine ok_b (o_rdS hM wthis.1 (wthis.2.2.2.2.2.2.2.2.1.1)) ?_
    refine ok_s ?_
    replace h := ob h; obtain ⟨J9, eJ9, h⟩ := h
    obtain ⟨M9, eM9, hM9⟩ := o_stI hM wthis.2.2.2.2.2.2.2.2.1.2 rfl tp1 tp2 eJ9
    refine ok_b eM9 ?_
    exact o_ri (t_sub tp2 tv6) hM9 h
  · replace h := it_f c1 h
    refine ok_f (mt (c_lt tv2 tp2).mp c1) ?_
    exact o_ri (show (0 : Int32).toInt = 0 from rfl) hM h

set_option maxHeartbeats 4000000 in
set_option maxRecDepth 100000 in
theorem h_X12_gainAt_L18 {E : Em} {z : Int} {J1 : Jm}   (x0 : Nat) (wx0 : W12 E x0) (x1 : Int32) (zx1 : Int) (tx1 : x1.toInt = zx1) : ∀ (fu : Nat), ∀ (x2 : Int32) (zx2 : Int), x2.toInt = zx2 → ∀ (x3 : Int32) (zx3 : Int), x3.toInt = zx3 → ∀ (M0 : Mm) (J0 : Jm), Mre E M0 J0 → H_X12_gainAt_L18 x0 zx1 fu zx2 zx3 J0 = some (z, J1) → Ok (F_X12_gainAt_L18 x0 x1 fu x2 x3 M0) (fun q => q.1.toInt = z ∧ Mre E q.2 J1) := by
  intro fu
  induction fu with
  | zero =>
    intro x2 zx2 tx2 x3 zx3 tx3 M0 J0 hM0 h
    rw [H_X12_gainAt_L18] at h
    cases h
  | succ n7 ih =>
    intro x2 zx2 tx2 x3 zx3 tx3 M0 J0 hM0 h
    rw [H_X12_gainAt_L18] at h
    rw [F_X12_gainAt_L18]
    by_cases c1 : 4 ≤ zx3
    · replace h := it_t c1 h
      refine ok_t ((c_le (show (4 : Int32).toInt = 4 from rfl) tx3).mpr c1) ?_
      exact o_ri tx2 hM0 h
    · replace h := it_f c1 h
      refine ok_f (mt (c_le (show (4 : Int32).toInt = 4 from rfl) tx3).mp c1) ?_
      refine ok_b (o_isO hM0 wx0.1) ?_
      replace h := ob h; obtain ⟨zv11, ezv11, h⟩ := h
      obtain ⟨⟨v11, M9⟩, eM9, tv11, hM9⟩ := h_X12_besideOf hM0 wx0 tx1 tx3 ezv11
      refine ok_b eM9 ?_
      by_cases c2 : zv11 < 0
      · replace h := it_t c2 h
        refine ok_t ((c_lt tv11 (show (0 : Int32).toInt = 0 from rfl)).mpr c2) ?_
        exact ih _ _ tx2 _ _ (t_add tx3 (show (1 : Int32).toInt = 1 from rfl)) _ _ hM9 h
      · replace h := it_f c2 h
        refine ok_f (mt (c_lt tv11 (show (0 : Int32).toInt = 0 from rfl)).mp c2) ?_
        refine ok_b (o_isO hM9 wx0.1) ?_
        replace h := ob h; obtain ⟨zv15, ezv15, h⟩ := h
        obtain ⟨⟨v15, M13⟩, eM13, tv15, hM13⟩ := h_X12_besideOf hM9 wx0 tx1 tx3 ezv15
        refine ok_b eM13 ?_
        refine ok_b (o_rdS hM13 wx0.1 (wx0.2.1.1)) ?_
        refine ok_b (o_isO hM13 wx0.1) ?_
        replace h := ob h; obtain ⟨zv19, ezv19, h⟩ := h
        obtain ⟨⟨v19, M17⟩, eM17, tv19, hM17⟩ := h_X12_besideOf hM13 wx0 tx1 tx3 ezv19
        refine ok_b eM17 ?_
        refine ok_s ?_
        replace h := ob h; obtain ⟨zv20, ezv20, h⟩ := h
        obtain ⟨v20, ev20, tv20⟩ := o_ldI hM17 wx0.2.1.2 rfl (t_add (show (170 : Int32).toInt = 170 from rfl) tv19) ezv20
        refine ok_b ev20 ?_
        replace h := ob h; obtain ⟨zv22, ezv22, h⟩ := h
        obtain ⟨v22, ev22, tv22⟩ := o_dvI (t_add tv20 (show (1 : Int32).toInt = 1 from rfl)) (show (2 : Int32).toInt = 2 from rfl) ezv22
        refine ok_b ev22 ?_
        refine ok_b (o_isO hM17 wx0.1) ?_
        replace h := ob h; obtain ⟨⟨zv25, J23⟩, ezv25, h⟩ := h
        obtain ⟨⟨v25, M23⟩, eM23, tv25, hM23⟩ := h_X12_raise hM17 wx0 tv15 tv22 ezv25
        refine ok_b eM23 ?_
        exact ih _ _ (t_add tx2 tv25) _ _ (t_add tx3 (show (1 : Int32).toInt = 1 from rfl)) _ _ hM23 h
set_option maxHeartbeats 4000000 in
set_option maxRecDepth 100000 in
theorem h_X12_gainAt {E : Em} {M : Mm} {J : Jm} (hM : Mre E M J) {this : Nat} (wthis : W12 E this) {p1 : Int32} {zp1 : Int} (tp1 : p1.toInt = zp1) {z : Int} {J1 : Jm} (h : H_X12_gainAt this zp1 J = some (z, J1)) : Ok (F_X12_gainAt this p1 M) (fun q => q.1.toInt = z ∧ Mre E q.2 J1) := by
  unfold H_X12_gainAt at h
  unfold F_X12_gainAt
  refine ok_b (o_rdS hM wthis.1 (wthis.2.1.1)) ?_
  refine ok_s ?_
  replace h := ob h; obtain ⟨zv2, ezv2, h⟩ := h
  obtain ⟨v2, ev2, tv2⟩ := o_ldI hM wthis.2.1.2 rfl (t_add (show (170 : Int32).toInt = 170 from rfl) tp1) ezv2
  refine ok_b ev2 ?_
  refine ok_b (o_isO hM wthis.1) ?_
  replace h := ob h; obtain ⟨⟨zv6, J4⟩, ezv6, h⟩ := h
  obtain ⟨⟨v6, M4⟩, eM4, tv6, hM4⟩ := h_X12_raise hM wthis tp1 tv2 ezv6
  refine ok_b eM4 ?_
  refine h_X12_gainAt_L18   _ wthis _ _ tp1 _ _ _ tv6 _ _ (show (0 : Int32).toInt = 0 from rfl) _ _ hM4 h

set_option maxHeartbeats 4000000 in
set_option maxRecDepth 100000 in
theorem h_X12_clearAt_L9 {E : Em} {J1 : Jm}   (x0 : Nat) (wx0 : W12 E x0) (x1 : Int32) (zx1 : Int) (tx1 : x1.toInt = zx1) : ∀ (fu : Nat), ∀ (x2 : Int32) (zx2 : Int), x2.toInt = zx2 → ∀ (M0 : Mm) (J0 : Jm), Mre E M0 J0 → H_X12_clearAt_L9 x0 zx1 fu zx2 J0 = some J1 → Ok (F_X12_clearAt_L9 x0 x1 fu x2 M0) (fun q => Mre E q J1) := by
  intro fu
  induction fu with
  | zero =>
    intro x2 zx2 tx2 M0 J0 hM0 h
    rw [H_X12_clearAt_L9] at h
    cases h
  | succ n4 ih =>
    intro x2 zx2 tx2 M0 J0 hM0 h
    rw [H_X12_clearAt_L9] at h
    rw [F_X12_clearAt_L9]
    by_cases c1 : 4 ≤ zx2
    · replace h := it_t c1 h
      refine ok_t ((c_le (show (4 : Int32).toInt = 4 from rfl) tx2).mpr c1) ?_
      exact o_rv hM0 h
    · replace h := it_f c1 h
      refine ok_f (mt (c_le (show (4 : Int32).toInt = 4 from rfl) tx2).mp c1) ?_
      refine ok_b (o_isO hM0 wx0.1) ?_
      replace h := ob h; obtain ⟨zv8, ezv8, h⟩ := h
      obtain ⟨⟨v8, M6⟩, eM6, tv8, hM6⟩ := h_X12_besideOf hM0 wx0 tx1 tx2 ezv8
      refine ok_b eM6 ?_
      by_cases c2 : zv8 < 0
      · replace h := it_t c2 h
        refine ok_t ((c_lt tv8 (show (0 : Int32).toInt = 0 from rfl)).mpr c2) ?_
        exact ih _ _ (t_add tx2 (show (1 : Int32).toInt = 1 from rfl)) _ _ hM6 h
      · replace h := it_f c2 h
        refine ok_f (mt (c_lt tv8 (show (0 : Int32).toInt = 0 from rfl)).mp c2) ?_
        refine ok_b (o_rdS hM6 wx0.1 (wx0.2.2.2.2.2.2.2.2.1.1)) ?_
        refine ok_b (o_isO hM6 wx0.1) ?_
        replace h := ob h; obtain ⟨zv13, ezv13, h⟩ := h
        obtain ⟨⟨v13, M11⟩, eM11, tv13, hM11⟩ := h_X12_besideOf hM6 wx0 tx1 tx2 ezv13
        refine ok_b eM11 ?_
        refine ok_s ?_
        replace h := ob h; obtain ⟨J14, eJ14, h⟩ := h
        obtain ⟨M14, eM14, hM14⟩ := o_stI hM11 wx0.2.2.2.2.2.2.2.2.1.2 rfl tv13 (show (0 : Int32).toInt = 0 from rfl) eJ14
        refine ok_b eM14 ?_
        exact ih _ _ (t_add tx2 (show (1 : Int32).toInt = 1 from rfl)) _ _ hM14 h
set_option maxHeartbeats 4000000 in
set_option maxRecDepth 100000 in
theorem h_X12_clearAt {E : Em} {M : Mm} {J : Jm} (hM : Mre E M J) {this : Nat} (wthis : W12 E this) {p1 : Int32} {zp1 : Int} (tp1 : p1.toInt = zp1) {J1 : Jm} (h : H_X12_clearAt this zp1 J = some J1) : Ok (F_X12_clearAt this p1 M) (fun q => Mre E q J1) := by
  unfold H_X12_clearAt at h
  unfold F_X12_clearAt
  refine ok_b (o_rdS hM wthis.1 (wthis.2.2.2.2.2.2.2.2.1.1)) ?_
  refine ok_s ?_
  replace h := ob h; obtain ⟨J2, eJ2, h⟩ := h
  obtain ⟨M2, eM2, hM2⟩ := o_stI hM wthis.2.2.2.2.2.2.2.2.1.2 rfl tp1 (show (0 : Int32).toInt = 0 from rfl) eJ2
  refine ok_b eM2 ?_
  refine h_X12_clearAt_L9   _ wthis _ _ tp1 _ _ _ (show (0 : Int32).toInt = 0 from rfl) _ _ hM2 h

set_option maxHeartbeats 4000000 in
set_option maxRecDepth 100000 in
theorem h_X12_gainOf_L4 {E : Em} {z : Int} {J1 : Jm}  (k41 : Int32 → Mm → Option (Int32 × Mm)) (k41h : Int → Jm → Option (Int × Jm)) (hk41 : ∀ (y0 : Int32) (zy0 : Int), y0.toInt = zy0 → ∀ (M9 : Mm) (J9 : Jm), Mre E M9 J9 → k41h zy0 J9 = some (z, J1) → Ok (k41 y0 M9) (fun q => q.1.toInt = z ∧ Mre E q.2 J1)) (x0 : Nat) (wx0 : W12 E x0) : ∀ (fu : Nat), ∀ (x1 : Int32) (zx1 : Int), x1.toInt = zx1 → ∀ (x2 : Int32) (zx2 : Int), x2.toInt = zx2 → ∀ (M0 : Mm) (J0 : Jm), Mre E M0 J0 → H_X12_gainOf_L4 k41h x0 fu zx1 zx2 J0 = some (z, J1) → Ok (F_X12_gainOf_L4 k41 x0 fu x1 x2 M0) (fun q => q.1.toInt = z ∧ Mre E q.2 J1) := by
  intro fu
  induction fu with
  | zero =>
    intro x1 zx1 tx1 x2 zx2 tx2 M0 J0 hM0 h
    rw [H_X12_gainOf_L4] at h
    cases h
  | succ n1 ih =>
    intro x1 zx1 tx1 x2 zx2 tx2 M0 J0 hM0 h
    rw [H_X12_gainOf_L4] at h
    rw [F_X12_gainOf_L4]
    obtain ⟨v2, ev2, tv2⟩ := o_rdI (k := 26) hM0 wx0.1
    refine ok_b ev2 ?_
    by_cases c1 : (J0 x0 26) ≤ zx2
    · replace h := it_t c1 h
      refine ok_t ((c_le tv2 tx2).mpr c1) ?_
      exact hk41 _ _ tx1 _ _ hM0 h
    · replace h := it_f c1 h
      refine ok_f (mt (c_le tv2 tx2).mp c1) ?_
      refine ok_b (o_rdS hM0 wx0.1 (wx0.2.2.2.2.2.1.1)) ?_
      refine ok_b (o_rdS hM0 wx0.1 (wx0.2.2.2.2.2.2.1.1)) ?_
      refine ok_s ?_
      replace h := ob h; obtain ⟨zv6, ezv6, h⟩ := h
      obtain ⟨v6, ev6, tv6⟩ := o_ldI hM0 wx0.2.2.2.2.2.2.1.2 rfl tx2 ezv6
      refine ok_b ev6 ?_
      refine ok_s ?_
      replace h := ob h; obtain ⟨zv8, ezv8, h⟩ := h
      obtain ⟨v8, ev8, tv8⟩ := o_ldI hM0 wx0.2.2.2.2.2.1.2 rfl (t_add (t_mul (show (81 : Int32).toInt = 81 from rfl) tx2) tv6) ezv8
      refine ok_b ev8 ?_
      refine ok_b (o_isO hM0 wx0.1) ?_
      replace h := ob h; obtain ⟨⟨zv12, J10⟩, ezv12, h⟩ := h
      obtain ⟨⟨v12, M10⟩, eM10, tv12, hM10⟩ := h_X12_gainAt hM0 wx0 tv8 ezv12
      refine ok_b eM10 ?_
      exact ih _ _ (t_add tx1 tv12) _ _ (t_add tx2 (show (1 : Int32).toInt = 1 from rfl)) _ _ hM10 h
set_option maxHeartbeats 4000000 in
set_option maxRecDepth 100000 in
theorem h_X12_gainOf_L43 {E : Em} {z : Int} {J1 : Jm}   (x0 : Nat) (wx0 : W12 E x0) (x1 : Int32) (zx1 : Int) (tx1 : x1.toInt = zx1) : ∀ (fu : Nat), ∀ (x2 : Int32) (zx2 : Int), x2.toInt = zx2 → ∀ (M0 : Mm) (J0 : Jm), Mre E M0 J0 → H_X12_gainOf_L43 x0 zx1 fu zx2 J0 = some (z, J1) → Ok (F_X12_gainOf_L43 x0 x1 fu x2 M0) (fun q => q.1.toInt = z ∧ Mre E q.2 J1) := by
  intro fu
  induction fu with
  | zero =>
    intro x2 zx2 tx2 M0 J0 hM0 h
    rw [H_X12_gainOf_L43] at h
    cases h
  | succ n15 ih =>
    intro x2 zx2 tx2 M0 J0 hM0 h
    rw [H_X12_gainOf_L43] at h
    rw [F_X12_gainOf_L43]
    obtain ⟨v16, ev16, tv16⟩ := o_rdI (k := 26) hM0 wx0.1
    refine ok_b ev16 ?_
    by_cases c2 : (J0 x0 26) ≤ zx2
    · replace h := it_t c2 h
      refine ok_t ((c_le tv16 tx2).mpr c2) ?_
      exact o_ri tx1 hM0 h
    · replace h := it_f c2 h
      refine ok_f (mt (c_le tv16 tx2).mp c2) ?_
      refine ok_b (o_rdS hM0 wx0.1 (wx0.2.2.2.2.2.1.1)) ?_
      refine ok_b (o_rdS hM0 wx0.1 (wx0.2.2.2.2.2.2.1.1)) ?_
      refine ok_s ?_
      replace h := ob h; obtain ⟨zv20, ezv20, h⟩ := h
      obtain ⟨v20, ev20, tv20⟩ := o_ldI hM0 wx0.2.2.2.2.2.2.1.2 rfl tx2 ezv20
      refine ok_b ev20 ?_
      refine ok_s ?_
      replace h := ob h; obtain ⟨zv22, ezv22, h⟩ := h
      obtain ⟨v22, ev22, tv22⟩ := o_ldI hM0 wx0.2.2.2.2.2.1.2 rfl (t_add (t_mul (show (81 : Int32).toInt = 81 from rfl) tx2) tv20) ezv22
      refine ok_b ev22 ?_
      refine ok_b (o_isO hM0 wx0.1) ?_
      replace h := ob h; obtain ⟨J24, eJ24, h⟩ := h
      obtain ⟨M24, eM24, hM24⟩ := h_X12_clearAt hM0 wx0 tv22 eJ24
      refine ok_b eM24 ?_
      exact ih _ _ (t_add tx2 (show (1 : Int32).toInt = 1 from rfl)) _ _ hM24 h
set_option maxHeartbeats 4000000 in
set_option maxRecDepth 100000 in
theorem h_X12_gainOf {E : Em} {M : Mm} {J : Jm} (hM : Mre E M J) {this : Nat} (wthis : W12 E this) {z : Int} {J1 : Jm} (h : H_X12_gainOf this J = some (z, J1)) : Ok (F_X12_gainOf this M) (fun q => q.1.toInt = z ∧ Mre E q.2 J1) := by
  unfold H_X12_gainOf at h
  unfold F_X12_gainOf
  refine h_X12_gainOf_L4  _ _ ?_ _ wthis _ _ _ (show (0 : Int32).toInt = 0 from rfl) _ _ (show (0 : Int32).toInt = 0 from rfl) _ _ hM h
  intro y13 zy13 ty13 M14 J14 hM14 h
  refine h_X12_gainOf_L43   _ wthis _ _ ty13 _ _ _ (show (0 : Int32).toInt = 0 from rfl) _ _ hM14 h

set_option maxHeartbeats 4000000 in
set_option maxRecDepth 100000 in
theorem h_X12_isApart_L27 {E : Em} {z : Int} (J : Jm)  (x0 : Nat) (wx0 : W12 E x0) (x1 : Int32) (zx1 : Int) (tx1 : x1.toInt = zx1) : ∀ (fu : Nat), ∀ (x2 : Int32) (zx2 : Int), x2.toInt = zx2 → ∀ (x3 : Int32) (zx3 : Int), x3.toInt = zx3 → ∀ (M0 : Mm), Mre E M0 J → H_X12_isApart_L27 x0 zx1 J fu zx2 zx3 = some z → Ok (F_X12_isApart_L27 x0 x1 fu x2 x3 M0) (fun q => q.1.toInt = z ∧ Mre E q.2 J) := by
  intro fu
  induction fu with
  | zero =>
    intro x2 zx2 tx2 x3 zx3 tx3 M0 hM0 h
    rw [H_X12_isApart_L27] at h
    cases h
  | succ n9 ih =>
    intro x2 zx2 tx2 x3 zx3 tx3 M0 hM0 h
    rw [H_X12_isApart_L27] at h
    rw [F_X12_isApart_L27]
    by_cases c1 : zx1 ≤ zx3
    · replace h := it_t c1 h
      refine ok_t ((c_le tx1 tx3).mpr c1) ?_
      replace h := ob h; obtain ⟨_, hz2, h⟩ := h
      refine ok_b (o_ckZ tx2 (jZ_e hz2)) ?_
      exact o_ri0 tx2 hM0 h
    · replace h := it_f c1 h
      refine ok_f (mt (c_le tx1 tx3).mp c1) ?_
      by_cases c3 : zx2 = 0
      · replace h := it_t c3 h
        refine ok_t ((c_eq tx2 (show (0 : Int32).toInt = 0 from rfl)).mpr c3) ?_
        exact ih _ _ (show (0 : Int32).toInt = 0 from rfl) _ _ (t_add tx3 (show (1 : Int32).toInt = 1 from rfl)) _ hM0 h
      · replace h := it_f c3 h
        refine ok_f (mt (c_eq tx2 (show (0 : Int32).toInt = 0 from rfl)).mp c3) ?_
        refine ok_b (o_rdS hM0 wx0.1 (wx0.2.2.2.2.2.1.1)) ?_
        refine ok_b (o_rdS hM0 wx0.1 (wx0.2.2.2.2.2.2.1.1)) ?_
        refine ok_s ?_
        replace h := ob h; obtain ⟨zv14, ezv14, h⟩ := h
        obtain ⟨v14, ev14, tv14⟩ := o_ldI hM0 wx0.2.2.2.2.2.2.1.2 rfl tx3 ezv14
        refine ok_b ev14 ?_
        refine ok_s ?_
        replace h := ob h; obtain ⟨zv16, ezv16, h⟩ := h
        obtain ⟨v16, ev16, tv16⟩ := o_ldI hM0 wx0.2.2.2.2.2.1.2 rfl (t_add (t_mul (show (81 : Int32).toInt = 81 from rfl) tx3) tv14) ezv16
        refine ok_b ev16 ?_
        refine ok_b (o_rdS hM0 wx0.1 (wx0.2.2.2.2.2.1.1)) ?_
        refine ok_b (o_rdS hM0 wx0.1 (wx0.2.2.2.2.2.2.1.1)) ?_
        refine ok_s ?_
        replace h := ob h; obtain ⟨zv20, ezv20, h⟩ := h
        obtain ⟨v20, ev20, tv20⟩ := o_ldI hM0 wx0.2.2.2.2.2.2.1.2 rfl tx1 ezv20
        refine ok_b ev20 ?_
        refine ok_s ?_
        replace h := ob h; obtain ⟨zv22, ezv22, h⟩ := h
        obtain ⟨v22, ev22, tv22⟩ := o_ldI hM0 wx0.2.2.2.2.2.1.2 rfl (t_add (t_mul (show (81 : Int32).toInt = 81 from rfl) tx1) tv20) ezv22
        refine ok_b ev22 ?_
        replace h := nv_e h; obtain ⟨zv24, ezv24, h⟩ := h
        obtain ⟨v24, evv24⟩ : ∃ v : Int32, v = (if v16 = v22 then 0 else 1) := ⟨_, rfl⟩
        have tv24 : v24.toInt = zv24 := by rw [evv24, ezv24]; exact (t_ite (c_eq tv16 tv22) (show (0 : Int32).toInt = 0 from rfl) (show (1 : Int32).toInt = 1 from rfl))
        refine ok_nv evv24 ?_
        exact ih _ _ tv24 _ _ (t_add tx3 (show (1 : Int32).toInt = 1 from rfl)) _ hM0 h
set_option maxHeartbeats 4000000 in
set_option maxRecDepth 100000 in
theorem h_X12_isApart {E : Em} {M : Mm} {J : Jm} (hM : Mre E M J) {this : Nat} (wthis : W12 E this) {p1 : Int32} {zp1 : Int} (tp1 : p1.toInt = zp1) {z : Int} (h : H_X12_isApart this zp1 J = some z) : Ok (F_X12_isApart this p1 M) (fun q => q.1.toInt = z ∧ Mre E q.2 J) := by
  unfold H_X12_isApart at h
  unfold F_X12_isApart
  refine ok_b (o_rdS hM wthis.1 (wthis.2.2.2.2.2.1.1)) ?_
  refine ok_b (o_rdS hM wthis.1 (wthis.2.2.2.2.2.2.1.1)) ?_
  refine ok_s ?_
  replace h := ob h; obtain ⟨zv3, ezv3, h⟩ := h
  obtain ⟨v3, ev3, tv3⟩ := o_ldI hM wthis.2.2.2.2.2.2.1.2 rfl tp1 ezv3
  refine ok_b ev3 ?_
  refine ok_s ?_
  replace h := ob h; obtain ⟨zv5, ezv5, h⟩ := h
  obtain ⟨v5, ev5, tv5⟩ := o_ldI hM wthis.2.2.2.2.2.1.2 rfl (t_add (t_mul (show (81 : Int32).toInt = 81 from rfl) tp1) tv3) ezv5
  refine ok_b ev5 ?_
  replace h := nv_e h; obtain ⟨zv7, ezv7, h⟩ := h
  obtain ⟨v7, evv7⟩ : ∃ v : Int32, v = (if v5 < 0 then 0 else 1) := ⟨_, rfl⟩
  have tv7 : v7.toInt = zv7 := by rw [evv7, ezv7]; exact (t_ite (c_lt tv5 (show (0 : Int32).toInt = 0 from rfl)) (show (0 : Int32).toInt = 0 from rfl) (show (1 : Int32).toInt = 1 from rfl))
  refine ok_nv evv7 ?_
  refine h_X12_isApart_L27 _  _ wthis _ _ tp1 _ _ _ tv7 _ _ (show (0 : Int32).toInt = 0 from rfl) _ hM h

set_option maxHeartbeats 4000000 in
set_option maxRecDepth 100000 in
theorem h_X12_findPlan_L122 {E : Em} {z : Int} {J1 : Jm}  (k151 : Mm → Option (Int32 × Mm)) (k151h : Jm → Option (Int × Jm)) (hk151 : ∀ (M9 : Mm) (J9 : Jm), Mre E M9 J9 → k151h J9 = some (z, J1) → Ok (k151 M9) (fun q => q.1.toInt = z ∧ Mre E q.2 J1)) (x0 : Nat) (wx0 : W12 E x0) (x2 : Int32) (zx2 : Int) (tx2 : x2.toInt = zx2) : ∀ (fu : Nat), ∀ (x4 : Int32) (zx4 : Int), x4.toInt = zx4 → ∀ (M0 : Mm) (J0 : Jm), Mre E M0 J0 → H_X12_findPlan_L122 k151h x0 zx2 fu zx4 J0 = some (z, J1) → Ok (F_X12_findPlan_L122 k151 x0 x2 fu x4 M0) (fun q => q.1.toInt = z ∧ Mre E q.2 J1) := by
  intro fu
  induction fu with
  | zero =>
    intro x4 zx4 tx4 M0 J0 hM0 h
    rw [H_X12_findPlan_L122] at h
    cases h
  | succ n31 ih =>
    intro x4 zx4 tx4 M0 J0 hM0 h
    rw [H_X12_findPlan_L122] at h
    rw [F_X12_findPlan_L122]
    obtain ⟨v32, ev32, tv32⟩ := o_rdI (k := 26) hM0 wx0.1
    refine ok_b ev32 ?_
    by_cases c7 : (J0 x0 26) ≤ zx4
    · replace h := it_t c7 h
      refine ok_t ((c_le tv32 tx4).mpr c7) ?_
      exact hk151 _ _ hM0 h
    · replace h := it_f c7 h
      refine ok_f (mt (c_le tv32 tx4).mp c7) ?_
      refine ok_b (o_rdS hM0 wx0.1 (wx0.2.2.2.2.2.2.2.1.1)) ?_
      refine ok_b (o_rdS hM0 wx0.1 (wx0.2.2.2.2.2.2.1.1)) ?_
      refine ok_s ?_
      replace h := ob h; obtain ⟨zv36, ezv36, h⟩ := h
      obtain ⟨v36, ev36, tv36⟩ := o_ldI hM0 wx0.2.2.2.2.2.2.1.2 rfl tx4 ezv36
      refine ok_b ev36 ?_
      refine ok_s ?_
      replace h := ob h; obtain ⟨J38, eJ38, h⟩ := h
      obtain ⟨M38, eM38, hM38⟩ := o_stI hM0 wx0.2.2.2.2.2.2.2.1.2 rfl tx4 tv36 eJ38
      refine ok_b eM38 ?_
      exact ih _ _ (t_add tx4 (show (1 : Int32).toInt = 1 from rfl)) _ _ hM38 h
set_option maxHeartbeats 4000000 in
set_option maxRecDepth 100000 in
theorem h_X12_findPlan_L33 {E : Em} {z : Int} {J1 : Jm}  (k154 : Mm → Option (Int32 × Mm)) (k154h : Jm → Option (Int × Jm)) (hk154 : ∀ (M9 : Mm) (J9 : Jm), Mre E M9 J9 → k154h J9 = some (z, J1) → Ok (k154 M9) (fun q => q.1.toInt = z ∧ Mre E q.2 J1)) (x0 : Nat) (wx0 : W12 E x0) : ∀ (fu : Nat), ∀ (x2 : Int32) (zx2 : Int), x2.toInt = zx2 → ∀ (M0 : Mm) (J0 : Jm), Mre E M0 J0 → H_X12_findPlan_L33 k154h x0 fu zx2 J0 = some (z, J1) → Ok (F_X12_findPlan_L33 k154 x0 fu x2 M0) (fun q => q.1.toInt = z ∧ Mre E q.2 J1) := by
  intro fu
  induction fu with
  | zero =>
    intro x2 zx2 tx2 M0 J0 hM0 h
    rw [H_X12_findPlan_L33] at h
    cases h
  | succ n9 ih =>
    intro x2 zx2 tx2 M0 J0 hM0 h
    rw [H_X12_findPlan_L33] at h
    rw [F_X12_findPlan_L33]
    by_cases c2 : zx2 < 0
    · replace h := it_t c2 h
      refine ok_t ((c_lt tx2 (show (0 : Int32).toInt = 0 from rfl)).mpr c2) ?_
      exact hk154 _ _ hM0 h
    · replace h := it_f c2 h
      refine ok_f (mt (c_lt tx2 (show (0 : Int32).toInt = 0 from rfl)).mp c2) ?_
      refine ok_b (o_rdS hM0 wx0.1 (wx0.2.2.2.2.2.2.1.1)) ?_
      refine ok_s ?_
      replace h := ob h; obtain ⟨zv12, ezv12, h⟩ := h
      obtain ⟨v12, ev12, tv12⟩ := o_ldI hM0 wx0.2.2.2.2.2.2.1.2 rfl tx2 ezv12
      refine ok_b ev12 ?_
      replace h := ob h; obtain ⟨J14, eJ14, h⟩ := h
      obtain ⟨M14, eM14, hM14⟩ := o_stI hM0 wx0.2.2.2.2.2.2.1.2 rfl tx2 (t_add tv12 (show (1 : Int32).toInt = 1 from rfl)) eJ14
      refine ok_b eM14 ?_
      refine ok_b (o_rdS hM14 wx0.1 (wx0.2.2.2.2.2.2.1.1)) ?_
      refine ok_s ?_
      replace h := ob h; obtain ⟨zv16, ezv16, h⟩ := h
      obtain ⟨v16, ev16, tv16⟩ := o_ldI hM14 wx0.2.2.2.2.2.2.1.2 rfl tx2 ezv16
      refine ok_b ev16 ?_
      by_cases c3 : zv16 ≤ 80
      · replace h := it_t c3 h
        refine ok_t ((c_le tv16 (show (80 : Int32).toInt = 80 from rfl)).mpr c3) ?_
        refine ok_b (o_isO hM14 wx0.1) ?_
        replace h := ob h; obtain ⟨zv21, ezv21, h⟩ := h
        obtain ⟨⟨v21, M19⟩, eM19, tv21, hM19⟩ := h_X12_isApart hM14 wx0 tx2 ezv21
        refine ok_b eM19 ?_
        by_cases c4 : zv21 = 0
        · replace h := it_t c4 h
          refine ok_t ((c_eq tv21 (show (0 : Int32).toInt = 0 from rfl)).mpr c4) ?_
          exact ih _ _ tx2 _ _ hM19 h
        · replace h := it_f c4 h
          refine ok_f (mt (c_eq tv21 (show (0 : Int32).toInt = 0 from rfl)).mp c4) ?_
          obtain ⟨v23, ev23, tv23⟩ := o_rdI (k := 26) hM19 wx0.1
          refine ok_b ev23 ?_
          by_cases c5 : (wr ((J14 x0 26) - 1)) ≤ zx2
          · replace h := it_t c5 h
            refine ok_t ((c_le (t_sub tv23 (show (1 : Int32).toInt = 1 from rfl)) tx2).mpr c5) ?_
            refine ok_b (o_isO hM19 wx0.1) ?_
            replace h := ob h; obtain ⟨⟨zv27, J25⟩, ezv27, h⟩ := h
            obtain ⟨⟨v27, M25⟩, eM25, tv27, hM25⟩ := h_X12_gainOf hM19 wx0 ezv27
            refine ok_b eM25 ?_
            obtain ⟨v28, ev28, tv28⟩ := o_rdI (k := 27) hM25 wx0.1
            refine ok_b ev28 ?_
            by_cases c6 : (J25 x0 27) < zv27
            · replace h := it_t c6 h
              refine ok_t ((c_lt tv28 tv27).mpr c6) ?_
              replace h := nv_e h; obtain ⟨J30, eJ30, h⟩ := h
              obtain ⟨M30, eM30, hM30⟩ := o_wrI (k := 27) hM25 wx0.1 tv27 eJ30
              refine ok_b eM30 ?_
              refine h_X12_findPlan_L122  _ _ ?_ _ wx0 _ _ tx2 _ _ _ (show (0 : Int32).toInt = 0 from rfl) _ _ hM30 h
              intro M40 J40 hM40 h
              exact ih _ _ tx2 _ _ hM40 h
            · replace h := it_f c6 h
              refine ok_f (mt (c_lt tv28 tv27).mp c6) ?_
              exact ih _ _ tx2 _ _ hM25 h
          · replace h := it_f c5 h
            refine ok_f (mt (c_le (t_sub tv23 (show (1 : Int32).toInt = 1 from rfl)) tx2).mp c5) ?_
            refine ok_b (o_rdS hM19 wx0.1 (wx0.2.2.2.2.2.2.1.1)) ?_
            refine ok_s ?_
            replace h := ob h; obtain ⟨J42, eJ42, h⟩ := h
            obtain ⟨M42, eM42, hM42⟩ := o_stI hM19 wx0.2.2.2.2.2.2.1.2 rfl (t_add tx2 (show (1 : Int32).toInt = 1 from rfl)) (show ((-1) : Int32).toInt = (-1) from rfl) eJ42
            refine ok_b eM42 ?_
            exact ih _ _ (t_add tx2 (show (1 : Int32).toInt = 1 from rfl)) _ _ hM42 h
      · replace h := it_f c3 h
        refine ok_f (mt (c_le tv16 (show (80 : Int32).toInt = 80 from rfl)).mp c3) ?_
        exact ih _ _ (t_add tx2 (show ((-1) : Int32).toInt = (-1) from rfl)) _ _ hM14 h
set_option maxHeartbeats 4000000 in
set_option maxRecDepth 100000 in
theorem h_X12_findPlan {E : Em} {M : Mm} {J : Jm} (hM : Mre E M J) {this : Nat} (wthis : W12 E this) {p1 : Int32} {zp1 : Int} (tp1 : p1.toInt = zp1) {z : Int} {J1 : Jm} (h : H_X12_findPlan this zp1 J = some (z, J1)) : Ok (F_X12_findPlan this p1 M) (fun q => q.1.toInt = z ∧ Mre E q.2 J1) := by
  unfold H_X12_findPlan at h
  unfold F_X12_findPlan
  refine ok_b (o_isO hM wthis.1) ?_
  replace h := ob h; obtain ⟨J1, eJ1, h⟩ := h
  obtain ⟨M1, eM1, hM1⟩ := h_X12_findEnds hM wthis tp1 eJ1
  refine ok_b eM1 ?_
  replace h := nv_e h; obtain ⟨J3, eJ3, h⟩ := h
  obtain ⟨M3, eM3, hM3⟩ := o_wrI (k := 27) hM1 wthis.1 (show ((-1) : Int32).toInt = (-1) from rfl) eJ3
  refine ok_b eM3 ?_
  obtain ⟨v4, ev4, tv4⟩ := o_rdI (k := 26) hM3 wthis.1
  refine ok_b ev4 ?_
  by_cases c1 : (J3 this 26) = 0
  · replace h := it_t c1 h
    refine ok_t ((c_eq tv4 (show (0 : Int32).toInt = 0 from rfl)).mpr c1) ?_
    replace h := nv_e h; obtain ⟨J47, eJ47, h⟩ := h
    obtain ⟨M47, eM47, hM47⟩ := o_wrI (k := 27) hM3 wthis.1 (show (0 : Int32).toInt = 0 from rfl) eJ47
    refine ok_b eM47 ?_
    exact o_ri (show (1 : Int32).toInt = 1 from rfl) hM47 h
  · replace h := it_f c1 h
    refine ok_f (mt (c_eq tv4 (show (0 : Int32).toInt = 0 from rfl)).mp c1) ?_
    refine ok_b (o_rdS hM3 wthis.1 (wthis.2.2.2.2.2.2.1.1)) ?_
    refine ok_s ?_
    replace h := ob h; obtain ⟨J7, eJ7, h⟩ := h
    obtain ⟨M7, eM7, hM7⟩ := o_stI hM3 wthis.2.2.2.2.2.2.1.2 rfl (show (0 : Int32).toInt = 0 from rfl) (show ((-1) : Int32).toInt = (-1) from rfl) eJ7
    refine ok_b eM7 ?_
    refine h_X12_findPlan_L33  _ _ ?_ _ wthis _ _ _ (show (0 : Int32).toInt = 0 from rfl) _ _ hM7 h
    intro M44 J44 hM44 h
    obtain ⟨v45, ev45, tv45⟩ := o_rdI (k := 27) hM44 wthis.1
    refine ok_b ev45 ?_
    by_cases c8 : (J44 this 27) < 0
    · replace h := it_t c8 h
      refine ok_t ((c_lt tv45 (show (0 : Int32).toInt = 0 from rfl)).mpr c8) ?_
      exact o_ri (show (0 : Int32).toInt = 0 from rfl) hM44 h
    · replace h := it_f c8 h
      refine ok_f (mt (c_lt tv45 (show (0 : Int32).toInt = 0 from rfl)).mp c8) ?_
      exact o_ri (show (1 : Int32).toInt = 1 from rfl) hM44 h
