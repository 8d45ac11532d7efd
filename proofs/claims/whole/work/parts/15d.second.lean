set_option maxHeartbeats 4000000 in
set_option maxRecDepth 100000 in
theorem h_X12_stream {E : Em} {M : Mm} {J : Jm} (hM : Mre E M J) {this : Nat} (wthis : W12 E this) {p1 : Int32} {zp1 : Int} (tp1 : p1.toInt = zp1) {p2 : Int32} {zp2 : Int} (tp2 : p2.toInt = zp2) {p3 : Int32} {zp3 : Int} (tp3 : p3.toInt = zp3) {p4 : Int32} {zp4 : Int} (tp4 : p4.toInt = zp4) {p5 : Int32} {zp5 : Int} (tp5 : p5.toInt = zp5) {p6 : Int32} {zp6 : Int} (tp6 : p6.toInt = zp6) {z : Int} {J1 : Jm} (h : H_X12_stream this zp1 zp2 zp3 zp4 zp5 zp6 J = some (z, J1)) : Ok (F_X12_stream this p1 p2 p3 p4 p5 p6 M) (fun q => q.1.toInt = z ∧ Mre E q.2 J1) := by
  unfold H_X12_stream at h
  unfold F_X12_stream
  refine ok_b (o_isO hM wthis.1) ?_
  replace h := ob h; obtain ⟨zv3, ezv3, h⟩ := h
  obtain ⟨⟨v3, M1⟩, eM1, tv3, hM1⟩ := h_X12_isCell hM wthis tp1 tp2 ezv3
  refine ok_b eM1 ?_
  by_cases c1 : zv3 = 0
  · replace h := it_t c1 h
    refine ok_t ((c_eq tv3 (show (0 : Int32).toInt = 0 from rfl)).mpr c1) ?_
    exact o_ri (show ((-1) : Int32).toInt = (-1) from rfl) hM1 h
  · replace h := it_f c1 h
    refine ok_f (mt (c_eq tv3 (show (0 : Int32).toInt = 0 from rfl)).mp c1) ?_
    refine ok_b (o_isO hM1 wthis.1) ?_
    replace h := ob h; obtain ⟨zv7, ezv7, h⟩ := h
    obtain ⟨⟨v7, M5⟩, eM5, tv7, hM5⟩ := h_X12_is hM1 wthis tp3 (show (0 : Int32).toInt = 0 from rfl) (show (3 : Int32).toInt = 3 from rfl) ezv7
    refine ok_b eM5 ?_
    by_cases c2 : zv7 = 0
    · replace h := it_t c2 h
      refine ok_t ((c_eq tv7 (show (0 : Int32).toInt = 0 from rfl)).mpr c2) ?_
      exact o_ri (show ((-1) : Int32).toInt = (-1) from rfl) hM5 h
    · replace h := it_f c2 h
      refine ok_f (mt (c_eq tv7 (show (0 : Int32).toInt = 0 from rfl)).mp c2) ?_
      refine ok_b (o_isO hM5 wthis.1) ?_
      replace h := ob h; obtain ⟨zv11, ezv11, h⟩ := h
      obtain ⟨⟨v11, M9⟩, eM9, tv11, hM9⟩ := h_X12_is hM5 wthis tp4 (show ((-2) : Int32).toInt = (-2) from rfl) (show (2 : Int32).toInt = 2 from rfl) ezv11
      refine ok_b eM9 ?_
      by_cases c3 : zv11 = 0
      · replace h := it_t c3 h
        refine ok_t ((c_eq tv11 (show (0 : Int32).toInt = 0 from rfl)).mpr c3) ?_
        exact o_ri (show ((-1) : Int32).toInt = (-1) from rfl) hM9 h
      · replace h := it_f c3 h
        refine ok_f (mt (c_eq tv11 (show (0 : Int32).toInt = 0 from rfl)).mp c3) ?_
        refine ok_b (o_isO hM9 wthis.1) ?_
        replace h := ob h; obtain ⟨zv15, ezv15, h⟩ := h
        obtain ⟨⟨v15, M13⟩, eM13, tv15, hM13⟩ := h_X12_is hM9 wthis tp5 (show ((-2) : Int32).toInt = (-2) from rfl) (show (2 : Int32).toInt = 2 from rfl) ezv15
        refine ok_b eM13 ?_
        by_cases c4 : zv15 = 0
        · replace h := it_t c4 h
          refine ok_t ((c_eq tv15 (show (0 : Int32).toInt = 0 from rfl)).mpr c4) ?_
          exact o_ri (show ((-1) : Int32).toInt = (-1) from rfl) hM13 h
        · replace h := it_f c4 h
          refine ok_f (mt (c_eq tv15 (show (0 : Int32).toInt = 0 from rfl)).mp c4) ?_
          refine ok_b (o_rdS hM13 wthis.1 (wthis.2.1.1)) ?_
          replace h := nv_e h; obtain ⟨zv18, ezv18, h⟩ := h
          obtain ⟨v18, evv18⟩ : ∃ v : Int32, v = (if p6 = 0 then 250 else 890) := ⟨_, rfl⟩
          have tv18 : v18.toInt = zv18 := by rw [evv18, ezv18]; exact (t_ite (c_eq tp6 (show (0 : Int32).toInt = 0 from rfl)) (show (250 : Int32).toInt = 250 from rfl) (show (890 : Int32).toInt = 890 from rfl))
          refine ok_nv evv18 ?_
          refine ok_s ?_
          replace h := ob h; obtain ⟨J20, eJ20, h⟩ := h
          obtain ⟨M20, eM20, hM20⟩ := o_stI hM13 wthis.2.1.2 rfl (t_add tv18 (t_add (t_mul (show (4 : Int32).toInt = 4 from rfl) (t_add (t_mul (show (8 : Int32).toInt = 8 from rfl) tp1) tp2)) tp3)) tp4 eJ20
          refine ok_b eM20 ?_
          refine ok_b (o_rdS hM20 wthis.1 (wthis.2.1.1)) ?_
          replace h := nv_e h; obtain ⟨zv23, ezv23, h⟩ := h
          obtain ⟨v23, evv23⟩ : ∃ v : Int32, v = (if p6 = 0 then 570 else 1210) := ⟨_, rfl⟩
          have tv23 : v23.toInt = zv23 := by rw [evv23, ezv23]; exact (t_ite (c_eq tp6 (show (0 : Int32).toInt = 0 from rfl)) (show (570 : Int32).toInt = 570 from rfl) (show (1210 : Int32).toInt = 1210 from rfl))
          refine ok_nv evv23 ?_
          refine ok_s ?_
          replace h := ob h; obtain ⟨J25, eJ25, h⟩ := h
          obtain ⟨M25, eM25, hM25⟩ := o_stI hM20 wthis.2.1.2 rfl (t_add tv23 (t_add (t_mul (show (4 : Int32).toInt = 4 from rfl) (t_add (t_mul (show (8 : Int32).toInt = 8 from rfl) tp1) tp2)) tp3)) tp5 eJ25
          refine ok_b eM25 ?_
          exact o_ri (show (0 : Int32).toInt = 0 from rfl) hM25 h

set_option maxHeartbeats 4000000 in
set_option maxRecDepth 100000 in
theorem h_X12_salt {E : Em} {M : Mm} {J : Jm} (hM : Mre E M J) {this : Nat} (wthis : W12 E this) {p1 : Int32} {zp1 : Int} (tp1 : p1.toInt = zp1) {p2 : Int32} {zp2 : Int} (tp2 : p2.toInt = zp2) {p3 : Int32} {zp3 : Int} (tp3 : p3.toInt = zp3) {p4 : Int32} {zp4 : Int} (tp4 : p4.toInt = zp4) {z : Int} {J1 : Jm} (h : H_X12_salt this zp1 zp2 zp3 zp4 J = some (z, J1)) : Ok (F_X12_salt this p1 p2 p3 p4 M) (fun q => q.1.toInt = z ∧ Mre E q.2 J1) := by
  unfold H_X12_salt at h
  unfold F_X12_salt
  refine ok_b (o_isO hM wthis.1) ?_
  replace h := ob h; obtain ⟨zv3, ezv3, h⟩ := h
  obtain ⟨⟨v3, M1⟩, eM1, tv3, hM1⟩ := h_X12_isCell hM wthis tp1 tp2 ezv3
  refine ok_b eM1 ?_
  by_cases c1 : zv3 = 0
  · replace h := it_t c1 h
    refine ok_t ((c_eq tv3 (show (0 : Int32).toInt = 0 from rfl)).mpr c1) ?_
    exact o_ri (show ((-1) : Int32).toInt = (-1) from rfl) hM1 h
  · replace h := it_f c1 h
    refine ok_f (mt (c_eq tv3 (show (0 : Int32).toInt = 0 from rfl)).mp c1) ?_
    refine ok_b (o_isO hM1 wthis.1) ?_
    replace h := ob h; obtain ⟨zv7, ezv7, h⟩ := h
    obtain ⟨⟨v7, M5⟩, eM5, tv7, hM5⟩ := h_X12_is hM1 wthis tp3 (show (0 : Int32).toInt = 0 from rfl) (show (3 : Int32).toInt = 3 from rfl) ezv7
    refine ok_b eM5 ?_
    by_cases c2 : zv7 = 0
    · replace h := it_t c2 h
      refine ok_t ((c_eq tv7 (show (0 : Int32).toInt = 0 from rfl)).mpr c2) ?_
      exact o_ri (show ((-1) : Int32).toInt = (-1) from rfl) hM5 h
    · replace h := it_f c2 h
      refine ok_f (mt (c_eq tv7 (show (0 : Int32).toInt = 0 from rfl)).mp c2) ?_
      refine ok_b (o_isO hM5 wthis.1) ?_
      replace h := ob h; obtain ⟨zv11, ezv11, h⟩ := h
      obtain ⟨⟨v11, M9⟩, eM9, tv11, hM9⟩ := h_X12_is hM5 wthis tp4 (show (0 : Int32).toInt = 0 from rfl) (show (1001 : Int32).toInt = 1001 from rfl) ezv11
      refine ok_b eM9 ?_
      by_cases c3 : zv11 = 0
      · replace h := it_t c3 h
        refine ok_t ((c_eq tv11 (show (0 : Int32).toInt = 0 from rfl)).mpr c3) ?_
        exact o_ri (show ((-1) : Int32).toInt = (-1) from rfl) hM9 h
      · replace h := it_f c3 h
        refine ok_f (mt (c_eq tv11 (show (0 : Int32).toInt = 0 from rfl)).mp c3) ?_
        replace h := nv_e h; obtain ⟨zv13, ezv13, h⟩ := h
        obtain ⟨v13, evv13⟩ : ∃ v : Int32, v = (if 1000 ≤ p4 then 1850 else 1530) := ⟨_, rfl⟩
        have tv13 : v13.toInt = zv13 := by rw [evv13, ezv13]; exact (t_ite (c_le (show (1000 : Int32).toInt = 1000 from rfl) tp4) (show (1850 : Int32).toInt = 1850 from rfl) (show (1530 : Int32).toInt = 1530 from rfl))
        refine ok_nv evv13 ?_
        replace h := nv_e h; obtain ⟨zv15, ezv15, h⟩ := h
        obtain ⟨v15, evv15⟩ : ∃ v : Int32, v = (if 1000 ≤ p4 then (1001 - p4) else p4) := ⟨_, rfl⟩
        have tv15 : v15.toInt = zv15 := by rw [evv15, ezv15]; exact (t_ite (c_le (show (1000 : Int32).toInt = 1000 from rfl) tp4) (t_sub (show (1001 : Int32).toInt = 1001 from rfl) tp4) tp4)
        refine ok_nv evv15 ?_
        refine ok_b (o_rdS hM9 wthis.1 (wthis.2.1.1)) ?_
        refine ok_s ?_
        replace h := ob h; obtain ⟨zv18, ezv18, h⟩ := h
        obtain ⟨v18, ev18, tv18⟩ := o_ldI hM9 wthis.2.1.2 rfl (t_add (t_add tv13 (t_mul (show (4 : Int32).toInt = 4 from rfl) (t_add (t_mul (show (8 : Int32).toInt = 8 from rfl) tp1) tp2))) tp3) ezv18
        refine ok_b ev18 ?_
        refine ok_b (o_rdS hM9 wthis.1 (wthis.2.1.1)) ?_
        refine ok_s ?_
        replace h := ob h; obtain ⟨J21, eJ21, h⟩ := h
        obtain ⟨M21, eM21, hM21⟩ := o_stI hM9 wthis.2.1.2 rfl (t_add (t_add tv13 (t_mul (show (4 : Int32).toInt = 4 from rfl) (t_add (t_mul (show (8 : Int32).toInt = 8 from rfl) tp1) tp2))) tp3) tv15 eJ21
        refine ok_b eM21 ?_
        by_cases c4 : zv18 = zv15
        · replace h := it_t c4 h
          refine ok_t ((c_eq tv18 tv15).mpr c4) ?_
          exact o_ri (show (0 : Int32).toInt = 0 from rfl) hM21 h
        · replace h := it_f c4 h
          refine ok_f (mt (c_eq tv18 tv15).mp c4) ?_
          exact o_ri (show (1 : Int32).toInt = 1 from rfl) hM21 h

set_option maxHeartbeats 4000000 in
set_option maxRecDepth 100000 in
theorem h_X12_cell {E : Em} {M : Mm} {J : Jm} (hM : Mre E M J) {this : Nat} (wthis : W12 E this) {p1 : Int32} {zp1 : Int} (tp1 : p1.toInt = zp1) {p2 : Int32} {zp2 : Int} (tp2 : p2.toInt = zp2) {p3 : Int32} {zp3 : Int} (tp3 : p3.toInt = zp3) {p4 : Int32} {zp4 : Int} (tp4 : p4.toInt = zp4) {z : Int} (h : H_X12_cell this zp1 zp2 zp3 zp4 J = some z) : Ok (F_X12_cell this p1 p2 p3 p4 M) (fun q => q.1.toInt = z ∧ Mre E q.2 J) := by
  unfold H_X12_cell at h
  unfold F_X12_cell
  refine ok_b (o_isO hM wthis.1) ?_
  replace h := ob h; obtain ⟨zv3, ezv3, h⟩ := h
  obtain ⟨⟨v3, M1⟩, eM1, tv3, hM1⟩ := h_X12_isCell hM wthis tp1 tp2 ezv3
  refine ok_b eM1 ?_
  by_cases c1 : zv3 = 0
  · replace h := it_t c1 h
    refine ok_t ((c_eq tv3 (show (0 : Int32).toInt = 0 from rfl)).mpr c1) ?_
    exact o_ri0 (show ((-1) : Int32).toInt = (-1) from rfl) hM1 h
  · replace h := it_f c1 h
    refine ok_f (mt (c_eq tv3 (show (0 : Int32).toInt = 0 from rfl)).mp c1) ?_
    refine ok_b (o_isO hM1 wthis.1) ?_
    replace h := ob h; obtain ⟨zv7, ezv7, h⟩ := h
    obtain ⟨⟨v7, M5⟩, eM5, tv7, hM5⟩ := h_X12_is hM1 wthis tp4 (show (0 : Int32).toInt = 0 from rfl) (show (8 : Int32).toInt = 8 from rfl) ezv7
    refine ok_b eM5 ?_
    by_cases c2 : zv7 = 0
    · replace h := it_t c2 h
      refine ok_t ((c_eq tv7 (show (0 : Int32).toInt = 0 from rfl)).mpr c2) ?_
      exact o_ri0 (show ((-1) : Int32).toInt = (-1) from rfl) hM5 h
    · replace h := it_f c2 h
      refine ok_f (mt (c_eq tv7 (show (0 : Int32).toInt = 0 from rfl)).mp c2) ?_
      replace h := jp_e h; obtain ⟨k9h, ek9h, h⟩ := h
      refine ok_jp (fun k9 ek9 => ?_)
      have Jk9 : ∀ (M10 : Mm), Mre E M10 J → k9h = some z → Ok (k9 M10) (fun q => q.1.toInt = z ∧ Mre E q.2 J) := by
        intro M10 hM10 h
        rw [ek9]
        rw [ek9h] at h
        by_cases c3 : zp4 = 0
        · replace h := it_t c3 h
          refine ok_t ((c_eq tp4 (show (0 : Int32).toInt = 0 from rfl)).mpr c3) ?_
          refine ok_b (o_rdS hM10 wthis.1 (wthis.2.1.1)) ?_
          refine ok_s ?_
          replace h := ob h; obtain ⟨zv13, ezv13, h⟩ := h
          obtain ⟨v13, ev13, tv13⟩ := o_ldI hM10 wthis.2.1.2 rfl (t_add (show (10 : Int32).toInt = 10 from rfl) (t_add (t_mul (show (8 : Int32).toInt = 8 from rfl) tp1) tp2)) ezv13
          refine ok_b ev13 ?_
          exact o_ri0 tv13 hM10 h
        · replace h := it_f c3 h
          refine ok_f (mt (c_eq tp4 (show (0 : Int32).toInt = 0 from rfl)).mp c3) ?_
          by_cases c4 : zp4 = 1
          · replace h := it_t c4 h
            refine ok_t ((c_eq tp4 (show (1 : Int32).toInt = 1 from rfl)).mpr c4) ?_
            refine ok_b (o_rdS hM10 wthis.1 (wthis.2.1.1)) ?_
            refine ok_s ?_
            replace h := ob h; obtain ⟨zv17, ezv17, h⟩ := h
            obtain ⟨v17, ev17, tv17⟩ := o_ldI hM10 wthis.2.1.2 rfl (t_add (show (90 : Int32).toInt = 90 from rfl) (t_add (t_mul (show (8 : Int32).toInt = 8 from rfl) tp1) tp2)) ezv17
            refine ok_b ev17 ?_
            exact o_ri0 tv17 hM10 h
          · replace h := it_f c4 h
            refine ok_f (mt (c_eq tp4 (show (1 : Int32).toInt = 1 from rfl)).mp c4) ?_
            by_cases c5 : zp4 = 2
            · replace h := it_t c5 h
              refine ok_t ((c_eq tp4 (show (2 : Int32).toInt = 2 from rfl)).mpr c5) ?_
              refine ok_b (o_rdS hM10 wthis.1 (wthis.2.1.1)) ?_
              refine ok_s ?_
              replace h := ob h; obtain ⟨zv21, ezv21, h⟩ := h
              obtain ⟨v21, ev21, tv21⟩ := o_ldI hM10 wthis.2.1.2 rfl (t_add (show (170 : Int32).toInt = 170 from rfl) (t_add (t_mul (show (8 : Int32).toInt = 8 from rfl) tp1) tp2)) ezv21
              refine ok_b ev21 ?_
              exact o_ri0 tv21 hM10 h
            · replace h := it_f c5 h
              refine ok_f (mt (c_eq tp4 (show (2 : Int32).toInt = 2 from rfl)).mp c5) ?_
              by_cases c6 : zp4 = 3
              · replace h := it_t c6 h
                refine ok_t ((c_eq tp4 (show (3 : Int32).toInt = 3 from rfl)).mpr c6) ?_
                refine ok_b (o_rdS hM10 wthis.1 (wthis.2.1.1)) ?_
                refine ok_s ?_
                replace h := ob h; obtain ⟨zv25, ezv25, h⟩ := h
                obtain ⟨v25, ev25, tv25⟩ := o_ldI hM10 wthis.2.1.2 rfl (t_add (t_add (show (250 : Int32).toInt = 250 from rfl) (t_mul (show (4 : Int32).toInt = 4 from rfl) (t_add (t_mul (show (8 : Int32).toInt = 8 from rfl) tp1) tp2))) tp3) ezv25
                refine ok_b ev25 ?_
                exact o_ri0 tv25 hM10 h
              · replace h := it_f c6 h
                refine ok_f (mt (c_eq tp4 (show (3 : Int32).toInt = 3 from rfl)).mp c6) ?_
                by_cases c7 : zp4 = 4
                · replace h := it_t c7 h
                  refine ok_t ((c_eq tp4 (show (4 : Int32).toInt = 4 from rfl)).mpr c7) ?_
                  refine ok_b (o_rdS hM10 wthis.1 (wthis.2.1.1)) ?_
                  refine ok_s ?_
                  replace h := ob h; obtain ⟨zv29, ezv29, h⟩ := h
                  obtain ⟨v29, ev29, tv29⟩ := o_ldI hM10 wthis.2.1.2 rfl (t_add (t_add (show (570 : Int32).toInt = 570 from rfl) (t_mul (show (4 : Int32).toInt = 4 from rfl) (t_add (t_mul (show (8 : Int32).toInt = 8 from rfl) tp1) tp2))) tp3) ezv29
                  refine ok_b ev29 ?_
                  exact o_ri0 tv29 hM10 h
                · replace h := it_f c7 h
                  refine ok_f (mt (c_eq tp4 (show (4 : Int32).toInt = 4 from rfl)).mp c7) ?_
                  by_cases c8 : zp4 = 5
                  · replace h := it_t c8 h
                    refine ok_t ((c_eq tp4 (show (5 : Int32).toInt = 5 from rfl)).mpr c8) ?_
                    refine ok_b (o_rdS hM10 wthis.1 (wthis.2.1.1)) ?_
                    refine ok_s ?_
                    replace h := ob h; obtain ⟨zv33, ezv33, h⟩ := h
                    obtain ⟨v33, ev33, tv33⟩ := o_ldI hM10 wthis.2.1.2 rfl (t_add (t_add (show (890 : Int32).toInt = 890 from rfl) (t_mul (show (4 : Int32).toInt = 4 from rfl) (t_add (t_mul (show (8 : Int32).toInt = 8 from rfl) tp1) tp2))) tp3) ezv33
                    refine ok_b ev33 ?_
                    exact o_ri0 tv33 hM10 h
                  · replace h := it_f c8 h
                    refine ok_f (mt (c_eq tp4 (show (5 : Int32).toInt = 5 from rfl)).mp c8) ?_
                    by_cases c9 : zp4 = 6
                    · replace h := it_t c9 h
                      refine ok_t ((c_eq tp4 (show (6 : Int32).toInt = 6 from rfl)).mpr c9) ?_
                      refine ok_b (o_rdS hM10 wthis.1 (wthis.2.1.1)) ?_
                      refine ok_s ?_
                      replace h := ob h; obtain ⟨zv37, ezv37, h⟩ := h
                      obtain ⟨v37, ev37, tv37⟩ := o_ldI hM10 wthis.2.1.2 rfl (t_add (t_add (show (1210 : Int32).toInt = 1210 from rfl) (t_mul (show (4 : Int32).toInt = 4 from rfl) (t_add (t_mul (show (8 : Int32).toInt = 8 from rfl) tp1) tp2))) tp3) ezv37
                      refine ok_b ev37 ?_
                      exact o_ri0 tv37 hM10 h
                    · replace h := it_f c9 h
                      refine ok_f (mt (c_eq tp4 (show (6 : Int32).toInt = 6 from rfl)).mp c9) ?_
                      by_cases c10 : zp4 = 7
                      · replace h := it_t c10 h
                        refine ok_t ((c_eq tp4 (show (7 : Int32).toInt = 7 from rfl)).mpr c10) ?_
                        refine ok_b (o_rdS hM10 wthis.1 (wthis.2.1.1)) ?_
                        refine ok_s ?_
                        replace h := ob h; obtain ⟨zv41, ezv41, h⟩ := h
                        obtain ⟨v41, ev41, tv41⟩ := o_ldI hM10 wthis.2.1.2 rfl (t_add (t_add (show (1530 : Int32).toInt = 1530 from rfl) (t_mul (show (4 : Int32).toInt = 4 from rfl) (t_add (t_mul (show (8 : Int32).toInt = 8 from rfl) tp1) tp2))) tp3) ezv41
                        refine ok_b ev41 ?_
                        exact o_ri0 tv41 hM10 h
                      · replace h := it_f c10 h
                        refine ok_f (mt (c_eq tp4 (show (7 : Int32).toInt = 7 from rfl)).mp c10) ?_
                        refine ok_b (o_rdS hM10 wthis.1 (wthis.2.1.1)) ?_
                        refine ok_s ?_
                        replace h := ob h; obtain ⟨zv44, ezv44, h⟩ := h
                        obtain ⟨v44, ev44, tv44⟩ := o_ldI hM10 wthis.2.1.2 rfl (t_add (t_add (show (1850 : Int32).toInt = 1850 from rfl) (t_mul (show (4 : Int32).toInt = 4 from rfl) (t_add (t_mul (show (8 : Int32).toInt = 8 from rfl) tp1) tp2))) tp3) ezv44
                        refine ok_b ev44 ?_
                        exact o_ri0 tv44 hM10 h
      by_cases c11 : zp4 ≤ 2
      · replace h := it_t c11 h
        refine ok_t ((c_le tp4 (show (2 : Int32).toInt = 2 from rfl)).mpr c11) ?_
        exact Jk9 _ hM5 h
      · replace h := it_f c11 h
        refine ok_f (mt (c_le tp4 (show (2 : Int32).toInt = 2 from rfl)).mp c11) ?_
        refine ok_b (o_isO hM5 wthis.1) ?_
        replace h := ob h; obtain ⟨zv50, ezv50, h⟩ := h
        obtain ⟨⟨v50, M48⟩, eM48, tv50, hM48⟩ := h_X12_is hM5 wthis tp3 (show (0 : Int32).toInt = 0 from rfl) (show (3 : Int32).toInt = 3 from rfl) ezv50
        refine ok_b eM48 ?_
        by_cases c12 : zv50 = 0
        · replace h := it_t c12 h
          refine ok_t ((c_eq tv50 (show (0 : Int32).toInt = 0 from rfl)).mpr c12) ?_
          exact o_ri0 (show ((-1) : Int32).toInt = (-1) from rfl) hM48 h
        · replace h := it_f c12 h
          refine ok_f (mt (c_eq tv50 (show (0 : Int32).toInt = 0 from rfl)).mp c12) ?_
          exact Jk9 _ hM48 h

set_option maxHeartbeats 4000000 in
set_option maxRecDepth 100000 in
theorem h_X12_isGlider {E : Em} {M : Mm} {J : Jm} (hM : Mre E M J) {this : Nat} (wthis : W12 E this) {p1 : Int32} {zp1 : Int} (tp1 : p1.toInt = zp1) {z : Int} (h : H_X12_isGlider this zp1 J = some z) : Ok (F_X12_isGlider this p1 M) (fun q => q.1.toInt = z ∧ Mre E q.2 J) := by
  unfold H_X12_isGlider at h
  unfold F_X12_isGlider
  refine ok_b (o_rdS hM wthis.1 (wthis.2.1.1)) ?_
  refine ok_s ?_
  replace h := ob h; obtain ⟨zv2, ezv2, h⟩ := h
  obtain ⟨v2, ev2, tv2⟩ := o_ldI hM wthis.2.1.2 rfl (show (0 : Int32).toInt = 0 from rfl) ezv2
  refine ok_b ev2 ?_
  refine ok_b (o_isO hM wthis.1) ?_
  replace h := ob h; obtain ⟨zv6, ezv6, h⟩ := h
  obtain ⟨⟨v6, M4⟩, eM4, tv6, hM4⟩ := h_X12_is hM wthis tp1 (show (0 : Int32).toInt = 0 from rfl) (t_sub tv2 (show (1 : Int32).toInt = 1 from rfl)) ezv6
  refine ok_b eM4 ?_
  replace h := ob h; obtain ⟨_, hz1, h⟩ := h
  refine ok_b (o_ckZ tv6 (jZ_e hz1)) ?_
  exact o_ri0 tv6 hM4 h

set_option maxHeartbeats 4000000 in
set_option maxRecDepth 100000 in
theorem h_X12_isUp {E : Em} {M : Mm} {J : Jm} (hM : Mre E M J) {this : Nat} (wthis : W12 E this) {p1 : Int32} {zp1 : Int} (tp1 : p1.toInt = zp1) {z : Int} (h : H_X12_isUp this zp1 J = some z) : Ok (F_X12_isUp this p1 M) (fun q => q.1.toInt = z ∧ Mre E q.2 J) := by
  unfold H_X12_isUp at h
  unfold F_X12_isUp
  refine ok_b (o_rdS hM wthis.1 (wthis.2.1.1)) ?_
  refine ok_s ?_
  replace h := ob h; obtain ⟨zv2, ezv2, h⟩ := h
  obtain ⟨v2, ev2, tv2⟩ := o_ldI hM wthis.2.1.2 rfl (t_add (show (2202 : Int32).toInt = 2202 from rfl) tp1) ezv2
  refine ok_b ev2 ?_
  by_cases c1 : zv2 = 0
  · replace h := it_t c1 h
    refine ok_t ((c_eq tv2 (show (0 : Int32).toInt = 0 from rfl)).mpr c1) ?_
    exact o_ri0 (show (1 : Int32).toInt = 1 from rfl) hM h
  · replace h := it_f c1 h
    refine ok_f (mt (c_eq tv2 (show (0 : Int32).toInt = 0 from rfl)).mp c1) ?_
    exact o_ri0 (show (0 : Int32).toInt = 0 from rfl) hM h

set_option maxHeartbeats 4000000 in
set_option maxRecDepth 100000 in
theorem h_X12_sinks {E : Em} {M : Mm} {J : Jm} (hM : Mre E M J) {this : Nat} (wthis : W12 E this) {p1 : Int32} {zp1 : Int} (tp1 : p1.toInt = zp1) {z : Int} (h : H_X12_sinks this zp1 J = some z) : Ok (F_X12_sinks this p1 M) (fun q => q.1.toInt = z ∧ Mre E q.2 J) := by
  unfold H_X12_sinks at h
  unfold F_X12_sinks
  refine ok_b (o_rdS hM wthis.1 (wthis.2.1.1)) ?_
  refine ok_s ?_
  replace h := ob h; obtain ⟨zv2, ezv2, h⟩ := h
  obtain ⟨v2, ev2, tv2⟩ := o_ldI hM wthis.2.1.2 rfl (t_add (show (2170 : Int32).toInt = 2170 from rfl) tp1) ezv2
  refine ok_b ev2 ?_
  by_cases c1 : zv2 = 0
  · replace h := it_t c1 h
    refine ok_t ((c_eq tv2 (show (0 : Int32).toInt = 0 from rfl)).mpr c1) ?_
    exact o_ri0 (show (2 : Int32).toInt = 2 from rfl) hM h
  · replace h := it_f c1 h
    refine ok_f (mt (c_eq tv2 (show (0 : Int32).toInt = 0 from rfl)).mp c1) ?_
    refine ok_b (o_rdS hM wthis.1 (wthis.2.1.1)) ?_
    refine ok_s ?_
    replace h := ob h; obtain ⟨zv6, ezv6, h⟩ := h
    obtain ⟨v6, ev6, tv6⟩ := o_ldI hM wthis.2.1.2 rfl (t_add (show (2170 : Int32).toInt = 2170 from rfl) tp1) ezv6
    refine ok_b ev6 ?_
    by_cases c2 : zv6 = 2
    · replace h := it_t c2 h
      refine ok_t ((c_eq tv6 (show (2 : Int32).toInt = 2 from rfl)).mpr c2) ?_
      exact o_ri0 (show (3 : Int32).toInt = 3 from rfl) hM h
    · replace h := it_f c2 h
      refine ok_f (mt (c_eq tv6 (show (2 : Int32).toInt = 2 from rfl)).mp c2) ?_
      exact o_ri0 (show (1 : Int32).toInt = 1 from rfl) hM h

set_option maxHeartbeats 4000000 in
set_option maxRecDepth 100000 in
theorem h_X12_goes {E : Em} {M : Mm} {J : Jm} (hM : Mre E M J) {this : Nat} (wthis : W12 E this) {p1 : Int32} {zp1 : Int} (tp1 : p1.toInt = zp1) {z : Int} (h : H_X12_goes this zp1 J = some z) : Ok (F_X12_goes this p1 M) (fun q => q.1.toInt = z ∧ Mre E q.2 J) := by
  unfold H_X12_goes at h
  unfold F_X12_goes
  refine ok_b (o_rdS hM wthis.1 (wthis.2.1.1)) ?_
  refine ok_s ?_
  replace h := ob h; obtain ⟨zv2, ezv2, h⟩ := h
  obtain ⟨v2, ev2, tv2⟩ := o_ldI hM wthis.2.1.2 rfl (t_add (show (2170 : Int32).toInt = 2170 from rfl) tp1) ezv2
  refine ok_b ev2 ?_
  by_cases c1 : zv2 = 0
  · replace h := it_t c1 h
    refine ok_t ((c_eq tv2 (show (0 : Int32).toInt = 0 from rfl)).mpr c1) ?_
    exact o_ri0 (show (2 : Int32).toInt = 2 from rfl) hM h
  · replace h := it_f c1 h
    refine ok_f (mt (c_eq tv2 (show (0 : Int32).toInt = 0 from rfl)).mp c1) ?_
    refine ok_b (o_rdS hM wthis.1 (wthis.2.1.1)) ?_
    refine ok_s ?_
    replace h := ob h; obtain ⟨zv6, ezv6, h⟩ := h
    obtain ⟨v6, ev6, tv6⟩ := o_ldI hM wthis.2.1.2 rfl (t_add (show (2170 : Int32).toInt = 2170 from rfl) tp1) ezv6
    refine ok_b ev6 ?_
    by_cases c2 : zv6 = 1
    · replace h := it_t c2 h
      refine ok_t ((c_eq tv6 (show (1 : Int32).toInt = 1 from rfl)).mpr c2) ?_
      exact o_ri0 (show (3 : Int32).toInt = 3 from rfl) hM h
    · replace h := it_f c2 h
      refine ok_f (mt (c_eq tv6 (show (1 : Int32).toInt = 1 from rfl)).mp c2) ?_
      refine ok_b (o_rdS hM wthis.1 (wthis.2.1.1)) ?_
      refine ok_s ?_
      replace h := ob h; obtain ⟨zv10, ezv10, h⟩ := h
      obtain ⟨v10, ev10, tv10⟩ := o_ldI hM wthis.2.1.2 rfl (t_add (show (2170 : Int32).toInt = 2170 from rfl) tp1) ezv10
      refine ok_b ev10 ?_
      by_cases c3 : zv10 = 2
      · replace h := it_t c3 h
        refine ok_t ((c_eq tv10 (show (2 : Int32).toInt = 2 from rfl)).mpr c3) ?_
        exact o_ri0 (show (1 : Int32).toInt = 1 from rfl) hM h
      · replace h := it_f c3 h
        refine ok_f (mt (c_eq tv10 (show (2 : Int32).toInt = 2 from rfl)).mp c3) ?_
        exact o_ri0 (show (4 : Int32).toInt = 4 from rfl) hM h

set_option maxHeartbeats 4000000 in
set_option maxRecDepth 100000 in
theorem h_X12_dry {E : Em} {M : Mm} {J : Jm} (hM : Mre E M J) {this : Nat} (wthis : W12 E this) {p1 : Int32} {zp1 : Int} (tp1 : p1.toInt = zp1) {p2 : Int32} {zp2 : Int} (tp2 : p2.toInt = zp2) {z : Int} (h : H_X12_dry this zp1 zp2 = some z) : Ok (F_X12_dry this p1 p2 M) (fun q => q.1.toInt = z ∧ Mre E q.2 J) := by
  unfold H_X12_dry at h
  unfold F_X12_dry
  by_cases c1 : zp1 = 0
  · replace h := it_t c1 h
    refine ok_t ((c_eq tp1 (show (0 : Int32).toInt = 0 from rfl)).mpr c1) ?_
    exact o_ri0 (t_add (show (4 : Int32).toInt = 4 from rfl) (t_mul (show (2 : Int32).toInt = 2 from rfl) tp2)) hM h
  · replace h := it_f c1 h
    refine ok_f (mt (c_eq tp1 (show (0 : Int32).toInt = 0 from rfl)).mp c1) ?_
    by_cases c2 : zp1 = 1
    · replace h := it_t c2 h
      refine ok_t ((c_eq tp1 (show (1 : Int32).toInt = 1 from rfl)).mpr c2) ?_
      exact o_ri0 (t_add (show (2 : Int32).toInt = 2 from rfl) tp2) hM h
    · replace h := it_f c2 h
      refine ok_f (mt (c_eq tp1 (show (1 : Int32).toInt = 1 from rfl)).mp c2) ?_
      replace h := nv_e h; obtain ⟨zv3, ezv3, h⟩ := h
      obtain ⟨v3, evv3⟩ : ∃ v : Int32, v = (if p1 = 2 then (2 * p2) else p2) := ⟨_, rfl⟩
      have tv3 : v3.toInt = zv3 := by rw [evv3, ezv3]; exact (t_ite (c_eq tp1 (show (2 : Int32).toInt = 2 from rfl)) (t_mul (show (2 : Int32).toInt = 2 from rfl) tp2) tp2)
      refine ok_nv evv3 ?_
      exact o_ri0 (t_add (show (3 : Int32).toInt = 3 from rfl) tv3) hM h

set_option maxHeartbeats 4000000 in
set_option maxRecDepth 100000 in
theorem h_X12_cost {E : Em} {M : Mm} {J : Jm} (hM : Mre E M J) {this : Nat} (wthis : W12 E this) {p1 : Int32} {zp1 : Int} (tp1 : p1.toInt = zp1) {p2 : Int32} {zp2 : Int} (tp2 : p2.toInt = zp2) {z : Int} (h : H_X12_cost this zp1 zp2 J = some z) : Ok (F_X12_cost this p1 p2 M) (fun q => q.1.toInt = z ∧ Mre E q.2 J) := by
  unfold H_X12_cost at h
  unfold F_X12_cost
  refine ok_b (o_rdS hM wthis.1 (wthis.2.1.1)) ?_
  refine ok_s ?_
  replace h := ob h; obtain ⟨zv2, ezv2, h⟩ := h
  obtain ⟨v2, ev2, tv2⟩ := o_ldI hM wthis.2.1.2 rfl (t_add (show (2170 : Int32).toInt = 2170 from rfl) tp1) ezv2
  refine ok_b ev2 ?_
  refine ok_b (o_isO hM wthis.1) ?_
  replace h := ob h; obtain ⟨zv6, ezv6, h⟩ := h
  obtain ⟨⟨v6, M4⟩, eM4, tv6, hM4⟩ := h_X12_dry hM wthis tv2 tp2 ezv6
  refine ok_b eM4 ?_
  refine ok_b (o_rdS hM4 wthis.1 (wthis.2.1.1)) ?_
  refine ok_s ?_
  replace h := ob h; obtain ⟨zv8, ezv8, h⟩ := h
  obtain ⟨v8, ev8, tv8⟩ := o_ldI hM4 wthis.2.1.2 rfl (t_add (show (2210 : Int32).toInt = 2210 from rfl) tp1) ezv8
  refine ok_b ev8 ?_
  replace h := nv_e h; obtain ⟨zv10, ezv10, h⟩ := h
  obtain ⟨v10, evv10⟩ : ∃ v : Int32, v = (if v8 = 1 then 3 else 0) := ⟨_, rfl⟩
  have tv10 : v10.toInt = zv10 := by rw [evv10, ezv10]; exact (t_ite (c_eq tv8 (show (1 : Int32).toInt = 1 from rfl)) (show (3 : Int32).toInt = 3 from rfl) (show (0 : Int32).toInt = 0 from rfl))
  refine ok_nv evv10 ?_
  exact o_ri0 (t_add tv6 tv10) hM4 h

set_option maxHeartbeats 4000000 in
set_option maxRecDepth 100000 in
theorem h_X12_layerFor {E : Em} {M : Mm} {J : Jm} (hM : Mre E M J) {this : Nat} (wthis : W12 E this) {p1 : Int32} {zp1 : Int} (tp1 : p1.toInt = zp1) {p2 : Int32} {zp2 : Int} (tp2 : p2.toInt = zp2) {z : Int} (h : H_X12_layerFor this zp1 zp2 J = some z) : Ok (F_X12_layerFor this p1 p2 M) (fun q => q.1.toInt = z ∧ Mre E q.2 J) := by
  unfold H_X12_layerFor at h
  unfold F_X12_layerFor
  refine ok_b (o_isO hM wthis.1) ?_
  replace h := ob h; obtain ⟨zv3, ezv3, h⟩ := h
  obtain ⟨⟨v3, M1⟩, eM1, tv3, hM1⟩ := h_X12_sinks hM wthis tp1 ezv3
  refine ok_b eM1 ?_
  by_cases c1 : zv3 ≤ zp2
  · replace h := it_t c1 h
    refine ok_t ((c_le tv3 tp2).mpr c1) ?_
    refine ok_b (o_isO hM1 wthis.1) ?_
    replace h := ob h; obtain ⟨zv7, ezv7, h⟩ := h
    obtain ⟨⟨v7, M5⟩, eM5, tv7, hM5⟩ := h_X12_sinks hM1 wthis tp1 ezv7
    refine ok_b eM5 ?_
    exact o_ri0 tv7 hM5 h
  · replace h := it_f c1 h
    refine ok_f (mt (c_le tv3 tp2).mp c1) ?_
    exact o_ri0 tp2 hM1 h

set_option maxHeartbeats 4000000 in
set_option maxRecDepth 100000 in
theorem h_X12_glider {E : Em} {M : Mm} {J : Jm} (hM : Mre E M J) {this : Nat} (wthis : W12 E this) {p1 : Int32} {zp1 : Int} (tp1 : p1.toInt = zp1) {p2 : Int32} {zp2 : Int} (tp2 : p2.toInt = zp2) {p3 : Int32} {zp3 : Int} (tp3 : p3.toInt = zp3) {p4 : Int32} {zp4 : Int} (tp4 : p4.toInt = zp4) {z : Int} {J1 : Jm} (h : H_X12_glider this zp1 zp2 zp3 zp4 J = some (z, J1)) : Ok (F_X12_glider this p1 p2 p3 p4 M) (fun q => q.1.toInt = z ∧ Mre E q.2 J1) := by
  unfold H_X12_glider at h
  unfold F_X12_glider
  refine ok_b (o_isO hM wthis.1) ?_
  replace h := ob h; obtain ⟨zv3, ezv3, h⟩ := h
  obtain ⟨⟨v3, M1⟩, eM1, tv3, hM1⟩ := h_X12_is hM wthis tp1 (show (0 : Int32).toInt = 0 from rfl) (show (3 : Int32).toInt = 3 from rfl) ezv3
  refine ok_b eM1 ?_
  by_cases c1 : zv3 = 0
  · replace h := it_t c1 h
    refine ok_t ((c_eq tv3 (show (0 : Int32).toInt = 0 from rfl)).mpr c1) ?_
    exact o_ri (show ((-1) : Int32).toInt = (-1) from rfl) hM1 h
  · replace h := it_f c1 h
    refine ok_f (mt (c_eq tv3 (show (0 : Int32).toInt = 0 from rfl)).mp c1) ?_
    refine ok_b (o_isO hM1 wthis.1) ?_
    replace h := ob h; obtain ⟨zv7, ezv7, h⟩ := h
    obtain ⟨⟨v7, M5⟩, eM5, tv7, hM5⟩ := h_X12_isCell hM1 wthis tp2 tp3 ezv7
    refine ok_b eM5 ?_
    by_cases c2 : zv7 = 0
    · replace h := it_t c2 h
      refine ok_t ((c_eq tv7 (show (0 : Int32).toInt = 0 from rfl)).mpr c2) ?_
      exact o_ri (show ((-1) : Int32).toInt = (-1) from rfl) hM5 h
    · replace h := it_f c2 h
      refine ok_f (mt (c_eq tv7 (show (0 : Int32).toInt = 0 from rfl)).mp c2) ?_
      refine ok_b (o_isO hM5 wthis.1) ?_
      replace h := ob h; obtain ⟨zv11, ezv11, h⟩ := h
      obtain ⟨⟨v11, M9⟩, eM9, tv11, hM9⟩ := h_X12_is hM5 wthis tp4 (show (0 : Int32).toInt = 0 from rfl) (show (999 : Int32).toInt = 999 from rfl) ezv11
      refine ok_b eM9 ?_
      by_cases c3 : zv11 = 0
      · replace h := it_t c3 h
        refine ok_t ((c_eq tv11 (show (0 : Int32).toInt = 0 from rfl)).mpr c3) ?_
        exact o_ri (show ((-1) : Int32).toInt = (-1) from rfl) hM9 h
      · replace h := it_f c3 h
        refine ok_f (mt (c_eq tv11 (show (0 : Int32).toInt = 0 from rfl)).mp c3) ?_
        refine ok_b (o_rdS hM9 wthis.1 (wthis.2.1.1)) ?_
        refine ok_s ?_
        replace h := ob h; obtain ⟨zv14, ezv14, h⟩ := h
        obtain ⟨v14, ev14, tv14⟩ := o_ldI hM9 wthis.2.1.2 rfl (show (0 : Int32).toInt = 0 from rfl) ezv14
        refine ok_b ev14 ?_
        by_cases c4 : zv14 = 8
        · replace h := it_t c4 h
          refine ok_t ((c_eq tv14 (show (8 : Int32).toInt = 8 from rfl)).mpr c4) ?_
          exact o_ri (show ((-2) : Int32).toInt = (-2) from rfl) hM9 h
        · replace h := it_f c4 h
          refine ok_f (mt (c_eq tv14 (show (8 : Int32).toInt = 8 from rfl)).mp c4) ?_
          refine ok_b (o_isO hM9 wthis.1) ?_
          replace h := ob h; obtain ⟨zv19, ezv19, h⟩ := h
          obtain ⟨⟨v19, M17⟩, eM17, tv19, hM17⟩ := h_X12_isWater hM9 wthis tp2 tp3 ezv19
          refine ok_b eM17 ?_
          by_cases c5 : zv19 = 0
          · replace h := it_t c5 h
            refine ok_t ((c_eq tv19 (show (0 : Int32).toInt = 0 from rfl)).mpr c5) ?_
            exact o_ri (show ((-3) : Int32).toInt = (-3) from rfl) hM17 h
          · replace h := it_f c5 h
            refine ok_f (mt (c_eq tv19 (show (0 : Int32).toInt = 0 from rfl)).mp c5) ?_
            refine ok_b (o_rdS hM17 wthis.1 (wthis.2.1.1)) ?_
            refine ok_s ?_
            replace h := ob h; obtain ⟨J22, eJ22, h⟩ := h
            obtain ⟨M22, eM22, hM22⟩ := o_stI hM17 wthis.2.1.2 rfl (t_add (show (2170 : Int32).toInt = 2170 from rfl) tv14) tp1 eJ22
            refine ok_b eM22 ?_
            refine ok_b (o_rdS hM22 wthis.1 (wthis.2.1.1)) ?_
            refine ok_s ?_
            replace h := ob h; obtain ⟨J25, eJ25, h⟩ := h
            obtain ⟨M25, eM25, hM25⟩ := o_stI hM22 wthis.2.1.2 rfl (t_add (show (2178 : Int32).toInt = 2178 from rfl) tv14) tp2 eJ25
            refine ok_b eM25 ?_
            refine ok_b (o_rdS hM25 wthis.1 (wthis.2.1.1)) ?_
            refine ok_s ?_
            replace h := ob h; obtain ⟨J28, eJ28, h⟩ := h
            obtain ⟨M28, eM28, hM28⟩ := o_stI hM25 wthis.2.1.2 rfl (t_add (show (2186 : Int32).toInt = 2186 from rfl) tv14) tp3 eJ28
            refine ok_b eM28 ?_
            refine ok_b (o_rdS hM28 wthis.1 (wthis.2.1.1)) ?_
            refine ok_s ?_
            replace h := ob h; obtain ⟨J31, eJ31, h⟩ := h
            obtain ⟨M31, eM31, hM31⟩ := o_stI hM28 wthis.2.1.2 rfl (t_add (show (2194 : Int32).toInt = 2194 from rfl) tv14) tp4 eJ31
            refine ok_b eM31 ?_
            refine ok_b (o_rdS hM31 wthis.1 (wthis.2.1.1)) ?_
            refine ok_s ?_
            replace h := ob h; obtain ⟨J34, eJ34, h⟩ := h
            obtain ⟨M34, eM34, hM34⟩ := o_stI hM31 wthis.2.1.2 rfl (t_add (show (2226 : Int32).toInt = 2226 from rfl) tv14) (show ((-4) : Int32).toInt = (-4) from rfl) eJ34
            refine ok_b eM34 ?_
            refine ok_b (o_rdS hM34 wthis.1 (wthis.2.1.1)) ?_
            refine ok_s ?_
            replace h := ob h; obtain ⟨J37, eJ37, h⟩ := h
            obtain ⟨M37, eM37, hM37⟩ := o_stI hM34 wthis.2.1.2 rfl (t_add (show (2234 : Int32).toInt = 2234 from rfl) tv14) (show ((-4) : Int32).toInt = (-4) from rfl) eJ37
            refine ok_b eM37 ?_
            refine ok_b (o_rdS hM37 wthis.1 (wthis.2.1.1)) ?_
            refine ok_s ?_
            replace h := ob h; obtain ⟨J40, eJ40, h⟩ := h
            obtain ⟨M40, eM40, hM40⟩ := o_stI hM37 wthis.2.1.2 rfl (t_add (show (2250 : Int32).toInt = 2250 from rfl) tv14) (show ((-4) : Int32).toInt = (-4) from rfl) eJ40
            refine ok_b eM40 ?_
            refine ok_b (o_rdS hM40 wthis.1 (wthis.2.1.1)) ?_
            refine ok_s ?_
            replace h := ob h; obtain ⟨zv43, ezv43, h⟩ := h
            obtain ⟨v43, ev43, tv43⟩ := o_ldI hM40 wthis.2.1.2 rfl (show (0 : Int32).toInt = 0 from rfl) ezv43
            refine ok_b ev43 ?_
            replace h := ob h; obtain ⟨J45, eJ45, h⟩ := h
            obtain ⟨M45, eM45, hM45⟩ := o_stI hM40 wthis.2.1.2 rfl (show (0 : Int32).toInt = 0 from rfl) (t_add tv43 (show (1 : Int32).toInt = 1 from rfl)) eJ45
            refine ok_b eM45 ?_
            exact o_ri tv14 hM45 h

set_option maxHeartbeats 4000000 in
set_option maxRecDepth 100000 in
theorem h_X12_about {E : Em} {M : Mm} {J : Jm} (hM : Mre E M J) {this : Nat} (wthis : W12 E this) {p1 : Int32} {zp1 : Int} (tp1 : p1.toInt = zp1) {p2 : Int32} {zp2 : Int} (tp2 : p2.toInt = zp2) {z : Int} (h : H_X12_about this zp1 zp2 J = some z) : Ok (F_X12_about this p1 p2 M) (fun q => q.1.toInt = z ∧ Mre E q.2 J) := by
  unfold H_X12_about at h
  unfold F_X12_about
  refine ok_b (o_isO hM wthis.1) ?_
  replace h := ob h; obtain ⟨zv3, ezv3, h⟩ := h
  obtain ⟨⟨v3, M1⟩, eM1, tv3, hM1⟩ := h_X12_isGlider hM wthis tp1 ezv3
  refine ok_b eM1 ?_
  by_cases c1 : zv3 = 0
  · replace h := it_t c1 h
    refine ok_t ((c_eq tv3 (show (0 : Int32).toInt = 0 from rfl)).mpr c1) ?_
    exact o_ri0 (show ((-1) : Int32).toInt = (-1) from rfl) hM1 h
  · replace h := it_f c1 h
    refine ok_f (mt (c_eq tv3 (show (0 : Int32).toInt = 0 from rfl)).mp c1) ?_
    by_cases c2 : zp2 = 0
    · replace h := it_t c2 h
      refine ok_t ((c_eq tp2 (show (0 : Int32).toInt = 0 from rfl)).mpr c2) ?_
      refine ok_b (o_rdS hM1 wthis.1 (wthis.2.1.1)) ?_
      refine ok_s ?_
      replace h := ob h; obtain ⟨zv7, ezv7, h⟩ := h
      obtain ⟨v7, ev7, tv7⟩ := o_ldI hM1 wthis.2.1.2 rfl (t_add (show (2170 : Int32).toInt = 2170 from rfl) tp1) ezv7
      refine ok_b ev7 ?_
      exact o_ri0 tv7 hM1 h
    · replace h := it_f c2 h
      refine ok_f (mt (c_eq tp2 (show (0 : Int32).toInt = 0 from rfl)).mp c2) ?_
      by_cases c3 : zp2 = 1
      · replace h := it_t c3 h
        refine ok_t ((c_eq tp2 (show (1 : Int32).toInt = 1 from rfl)).mpr c3) ?_
        refine ok_b (o_rdS hM1 wthis.1 (wthis.2.1.1)) ?_
        refine ok_s ?_
        replace h := ob h; obtain ⟨zv11, ezv11, h⟩ := h
        obtain ⟨v11, ev11, tv11⟩ := o_ldI hM1 wthis.2.1.2 rfl (t_add (show (2178 : Int32).toInt = 2178 from rfl) tp1) ezv11
        refine ok_b ev11 ?_
        exact o_ri0 tv11 hM1 h
      · replace h := it_f c3 h
        refine ok_f (mt (c_eq tp2 (show (1 : Int32).toInt = 1 from rfl)).mp c3) ?_
        by_cases c4 : zp2 = 2
        · replace h := it_t c4 h
          refine ok_t ((c_eq tp2 (show (2 : Int32).toInt = 2 from rfl)).mpr c4) ?_
          refine ok_b (o_rdS hM1 wthis.1 (wthis.2.1.1)) ?_
          refine ok_s ?_
          replace h := ob h; obtain ⟨zv15, ezv15, h⟩ := h
          obtain ⟨v15, ev15, tv15⟩ := o_ldI hM1 wthis.2.1.2 rfl (t_add (show (2186 : Int32).toInt = 2186 from rfl) tp1) ezv15
          refine ok_b ev15 ?_
          exact o_ri0 tv15 hM1 h
        · replace h := it_f c4 h
          refine ok_f (mt (c_eq tp2 (show (2 : Int32).toInt = 2 from rfl)).mp c4) ?_
          by_cases c5 : zp2 = 3
          · replace h := it_t c5 h
            refine ok_t ((c_eq tp2 (show (3 : Int32).toInt = 3 from rfl)).mpr c5) ?_
            refine ok_b (o_rdS hM1 wthis.1 (wthis.2.1.1)) ?_
            refine ok_s ?_
            replace h := ob h; obtain ⟨zv19, ezv19, h⟩ := h
            obtain ⟨v19, ev19, tv19⟩ := o_ldI hM1 wthis.2.1.2 rfl (t_add (show (2194 : Int32).toInt = 2194 from rfl) tp1) ezv19
            refine ok_b ev19 ?_
            exact o_ri0 tv19 hM1 h
          · replace h := it_f c5 h
            refine ok_f (mt (c_eq tp2 (show (3 : Int32).toInt = 3 from rfl)).mp c5) ?_
            by_cases c6 : zp2 = 4
            · replace h := it_t c6 h
              refine ok_t ((c_eq tp2 (show (4 : Int32).toInt = 4 from rfl)).mpr c6) ?_
              refine ok_b (o_rdS hM1 wthis.1 (wthis.2.1.1)) ?_
              refine ok_s ?_
              replace h := ob h; obtain ⟨zv23, ezv23, h⟩ := h
              obtain ⟨v23, ev23, tv23⟩ := o_ldI hM1 wthis.2.1.2 rfl (t_add (show (2202 : Int32).toInt = 2202 from rfl) tp1) ezv23
              refine ok_b ev23 ?_
              exact o_ri0 tv23 hM1 h
            · replace h := it_f c6 h
              refine ok_f (mt (c_eq tp2 (show (4 : Int32).toInt = 4 from rfl)).mp c6) ?_
              by_cases c7 : zp2 = 5
              · replace h := it_t c7 h
                refine ok_t ((c_eq tp2 (show (5 : Int32).toInt = 5 from rfl)).mpr c7) ?_
                refine ok_b (o_rdS hM1 wthis.1 (wthis.2.1.1)) ?_
                refine ok_s ?_
                replace h := ob h; obtain ⟨zv27, ezv27, h⟩ := h
                obtain ⟨v27, ev27, tv27⟩ := o_ldI hM1 wthis.2.1.2 rfl (t_add (show (2210 : Int32).toInt = 2210 from rfl) tp1) ezv27
                refine ok_b ev27 ?_
                exact o_ri0 tv27 hM1 h
              · replace h := it_f c7 h
                refine ok_f (mt (c_eq tp2 (show (5 : Int32).toInt = 5 from rfl)).mp c7) ?_
                by_cases c8 : zp2 = 6
                · replace h := it_t c8 h
                  refine ok_t ((c_eq tp2 (show (6 : Int32).toInt = 6 from rfl)).mpr c8) ?_
                  refine ok_b (o_rdS hM1 wthis.1 (wthis.2.1.1)) ?_
                  refine ok_s ?_
                  replace h := ob h; obtain ⟨zv31, ezv31, h⟩ := h
                  obtain ⟨v31, ev31, tv31⟩ := o_ldI hM1 wthis.2.1.2 rfl (t_add (show (2218 : Int32).toInt = 2218 from rfl) tp1) ezv31
                  refine ok_b ev31 ?_
                  exact o_ri0 tv31 hM1 h
                · replace h := it_f c8 h
                  refine ok_f (mt (c_eq tp2 (show (6 : Int32).toInt = 6 from rfl)).mp c8) ?_
                  by_cases c9 : zp2 = 7
                  · replace h := it_t c9 h
                    refine ok_t ((c_eq tp2 (show (7 : Int32).toInt = 7 from rfl)).mpr c9) ?_
                    refine ok_b (o_rdS hM1 wthis.1 (wthis.2.1.1)) ?_
                    refine ok_s ?_
                    replace h := ob h; obtain ⟨zv35, ezv35, h⟩ := h
                    obtain ⟨v35, ev35, tv35⟩ := o_ldI hM1 wthis.2.1.2 rfl (t_add (show (2226 : Int32).toInt = 2226 from rfl) tp1) ezv35
                    refine ok_b ev35 ?_
                    exact o_ri0 tv35 hM1 h
                  · replace h := it_f c9 h
                    refine ok_f (mt (c_eq tp2 (show (7 : Int32).toInt = 7 from rfl)).mp c9) ?_
                    by_cases c10 : zp2 = 8
                    · replace h := it_t c10 h
                      refine ok_t ((c_eq tp2 (show (8 : Int32).toInt = 8 from rfl)).mpr c10) ?_
                      refine ok_b (o_rdS hM1 wthis.1 (wthis.2.1.1)) ?_
                      refine ok_s ?_
                      replace h := ob h; obtain ⟨zv39, ezv39, h⟩ := h
                      obtain ⟨v39, ev39, tv39⟩ := o_ldI hM1 wthis.2.1.2 rfl (t_add (show (2234 : Int32).toInt = 2234 from rfl) tp1) ezv39
                      refine ok_b ev39 ?_
                      exact o_ri0 tv39 hM1 h
                    · replace h := it_f c10 h
                      refine ok_f (mt (c_eq tp2 (show (8 : Int32).toInt = 8 from rfl)).mp c10) ?_
                      by_cases c11 : zp2 = 9
                      · replace h := it_t c11 h
                        refine ok_t ((c_eq tp2 (show (9 : Int32).toInt = 9 from rfl)).mpr c11) ?_
                        refine ok_b (o_rdS hM1 wthis.1 (wthis.2.1.1)) ?_
                        refine ok_s ?_
                        replace h := ob h; obtain ⟨zv43, ezv43, h⟩ := h
                        obtain ⟨v43, ev43, tv43⟩ := o_ldI hM1 wthis.2.1.2 rfl (t_add (show (2242 : Int32).toInt = 2242 from rfl) tp1) ezv43
                        refine ok_b ev43 ?_
                        exact o_ri0 tv43 hM1 h
                      · replace h := it_f c11 h
                        refine ok_f (mt (c_eq tp2 (show (9 : Int32).toInt = 9 from rfl)).mp c11) ?_
                        by_cases c12 : zp2 = 10
                        · replace h := it_t c12 h
                          refine ok_t ((c_eq tp2 (show (10 : Int32).toInt = 10 from rfl)).mpr c12) ?_
                          refine ok_b (o_rdS hM1 wthis.1 (wthis.2.1.1)) ?_
                          refine ok_s ?_
                          replace h := ob h; obtain ⟨zv47, ezv47, h⟩ := h
                          obtain ⟨v47, ev47, tv47⟩ := o_ldI hM1 wthis.2.1.2 rfl (t_add (show (2250 : Int32).toInt = 2250 from rfl) tp1) ezv47
                          refine ok_b ev47 ?_
                          exact o_ri0 tv47 hM1 h
                        · replace h := it_f c12 h
                          refine ok_f (mt (c_eq tp2 (show (10 : Int32).toInt = 10 from rfl)).mp c12) ?_
                          exact o_ri0 (show ((-1) : Int32).toInt = (-1) from rfl) hM1 h

set_option maxHeartbeats 4000000 in
set_option maxRecDepth 100000 in
theorem h_X12_can {E : Em} {M : Mm} {J : Jm} (hM : Mre E M J) {this : Nat} (wthis : W12 E this) {p1 : Int32} {zp1 : Int} (tp1 : p1.toInt = zp1) {p2 : Int32} {zp2 : Int} (tp2 : p2.toInt = zp2) {z : Int} (h : H_X12_can this zp1 zp2 J = some z) : Ok (F_X12_can this p1 p2 M) (fun q => q.1.toInt = z ∧ Mre E q.2 J) := by
  unfold H_X12_can at h
  unfold F_X12_can
  refine ok_b (o_isO hM wthis.1) ?_
  replace h := ob h; obtain ⟨zv3, ezv3, h⟩ := h
  obtain ⟨⟨v3, M1⟩, eM1, tv3, hM1⟩ := h_X12_isGlider hM wthis tp1 ezv3
  refine ok_b eM1 ?_
  by_cases c1 : zv3 = 0
  · replace h := it_t c1 h
    refine ok_t ((c_eq tv3 (show (0 : Int32).toInt = 0 from rfl)).mpr c1) ?_
    exact o_ri0 (show ((-1) : Int32).toInt = (-1) from rfl) hM1 h
  · replace h := it_f c1 h
    refine ok_f (mt (c_eq tv3 (show (0 : Int32).toInt = 0 from rfl)).mp c1) ?_
    refine ok_b (o_isO hM1 wthis.1) ?_
    replace h := ob h; obtain ⟨zv7, ezv7, h⟩ := h
    obtain ⟨⟨v7, M5⟩, eM5, tv7, hM5⟩ := h_X12_is hM1 wthis tp2 (show (0 : Int32).toInt = 0 from rfl) (show (5 : Int32).toInt = 5 from rfl) ezv7
    refine ok_b eM5 ?_
    by_cases c2 : zv7 = 0
    · replace h := it_t c2 h
      refine ok_t ((c_eq tv7 (show (0 : Int32).toInt = 0 from rfl)).mpr c2) ?_
      exact o_ri0 (show ((-1) : Int32).toInt = (-1) from rfl) hM5 h
    · replace h := it_f c2 h
      refine ok_f (mt (c_eq tv7 (show (0 : Int32).toInt = 0 from rfl)).mp c2) ?_
      by_cases c3 : zp2 = 0
      · replace h := it_t c3 h
        refine ok_t ((c_eq tp2 (show (0 : Int32).toInt = 0 from rfl)).mpr c3) ?_
        refine ok_b (o_isO hM5 wthis.1) ?_
        replace h := ob h; obtain ⟨zv23, ezv23, h⟩ := h
        obtain ⟨⟨v23, M21⟩, eM21, tv23, hM21⟩ := h_X12_sinks hM5 wthis tp1 ezv23
        refine ok_b eM21 ?_
        exact o_ri0 tv23 hM21 h
      · replace h := it_f c3 h
        refine ok_f (mt (c_eq tp2 (show (0 : Int32).toInt = 0 from rfl)).mp c3) ?_
        by_cases c4 : zp2 = 1
        · replace h := it_t c4 h
          refine ok_t ((c_eq tp2 (show (1 : Int32).toInt = 1 from rfl)).mpr c4) ?_
          refine ok_b (o_isO hM5 wthis.1) ?_
          replace h := ob h; obtain ⟨zv20, ezv20, h⟩ := h
          obtain ⟨⟨v20, M18⟩, eM18, tv20, hM18⟩ := h_X12_goes hM5 wthis tp1 ezv20
          refine ok_b eM18 ?_
          exact o_ri0 tv20 hM18 h
        · replace h := it_f c4 h
          refine ok_f (mt (c_eq tp2 (show (1 : Int32).toInt = 1 from rfl)).mp c4) ?_
          refine ok_b (o_isO hM5 wthis.1) ?_
          replace h := ob h; obtain ⟨zv13, ezv13, h⟩ := h
          obtain ⟨⟨v13, M11⟩, eM11, tv13, hM11⟩ := h_X12_sinks hM5 wthis tp1 ezv13
          refine ok_b eM11 ?_
          by_cases c5 : (wr (zp2 - 2)) ≤ zv13
          · replace h := it_t c5 h
            refine ok_t ((c_le (t_sub tp2 (show (2 : Int32).toInt = 2 from rfl)) tv13).mpr c5) ?_
            refine ok_b (o_isO hM11 wthis.1) ?_
            replace h := ob h; obtain ⟨zv17, ezv17, h⟩ := h
            obtain ⟨⟨v17, M15⟩, eM15, tv17, hM15⟩ := h_X12_cost hM11 wthis tp1 (t_sub tp2 (show (2 : Int32).toInt = 2 from rfl)) ezv17
            refine ok_b eM15 ?_
            exact o_ri0 tv17 hM15 h
          · replace h := it_f c5 h
            refine ok_f (mt (c_le (t_sub tp2 (show (2 : Int32).toInt = 2 from rfl)) tv13).mp c5) ?_
            exact o_ri0 (show ((-3) : Int32).toInt = (-3) from rfl) hM11 h

set_option maxHeartbeats 4000000 in
set_option maxRecDepth 100000 in
theorem h_X12_leak {E : Em} {M : Mm} {J : Jm} (hM : Mre E M J) {this : Nat} (wthis : W12 E this) {p1 : Int32} {zp1 : Int} (tp1 : p1.toInt = zp1) {p2 : Int32} {zp2 : Int} (tp2 : p2.toInt = zp2) {z : Int} {J1 : Jm} (h : H_X12_leak this zp1 zp2 J = some (z, J1)) : Ok (F_X12_leak this p1 p2 M) (fun q => q.1.toInt = z ∧ Mre E q.2 J1) := by
  unfold H_X12_leak at h
  unfold F_X12_leak
  refine ok_b (o_isO hM wthis.1) ?_
  replace h := ob h; obtain ⟨zv3, ezv3, h⟩ := h
  obtain ⟨⟨v3, M1⟩, eM1, tv3, hM1⟩ := h_X12_isGlider hM wthis tp1 ezv3
  refine ok_b eM1 ?_
  by_cases c1 : zv3 = 0
  · replace h := it_t c1 h
    refine ok_t ((c_eq tv3 (show (0 : Int32).toInt = 0 from rfl)).mpr c1) ?_
    exact o_ri (show ((-1) : Int32).toInt = (-1) from rfl) hM1 h
  · replace h := it_f c1 h
    refine ok_f (mt (c_eq tv3 (show (0 : Int32).toInt = 0 from rfl)).mp c1) ?_
    refine ok_b (o_rdS hM1 wthis.1 (wthis.2.1.1)) ?_
    refine ok_s ?_
    replace h := ob h; obtain ⟨zv6, ezv6, h⟩ := h
    obtain ⟨v6, ev6, tv6⟩ := o_ldI hM1 wthis.2.1.2 rfl (t_add (show (2210 : Int32).toInt = 2210 from rfl) tp1) ezv6
    refine ok_b ev6 ?_
    refine ok_b (o_rdS hM1 wthis.1 (wthis.2.1.1)) ?_
    replace h := nv_e h; obtain ⟨zv9, ezv9, h⟩ := h
    obtain ⟨v9, evv9⟩ : ∃ v : Int32, v = (if p2 = 0 then 0 else 1) := ⟨_, rfl⟩
    have tv9 : v9.toInt = zv9 := by rw [evv9, ezv9]; exact (t_ite (c_eq tp2 (show (0 : Int32).toInt = 0 from rfl)) (show (0 : Int32).toInt = 0 from rfl) (show (1 : Int32).toInt = 1 from rfl))
    refine ok_nv evv9 ?_
    refine ok_s ?_
    replace h := ob h; obtain ⟨J11, eJ11, h⟩ := h
    obtain ⟨M11, eM11, hM11⟩ := o_stI hM1 wthis.2.1.2 rfl (t_add (show (2210 : Int32).toInt = 2210 from rfl) tp1) tv9 eJ11
    refine ok_b eM11 ?_
    refine ok_b (o_rdS hM11 wthis.1 (wthis.2.1.1)) ?_
    refine ok_s ?_
    replace h := ob h; obtain ⟨zv14, ezv14, h⟩ := h
    obtain ⟨v14, ev14, tv14⟩ := o_ldI hM11 wthis.2.1.2 rfl (t_add (show (2210 : Int32).toInt = 2210 from rfl) tp1) ezv14
    refine ok_b ev14 ?_
    by_cases c2 : zv6 = zv14
    · replace h := it_t c2 h
      refine ok_t ((c_eq tv6 tv14).mpr c2) ?_
      exact o_ri (show (0 : Int32).toInt = 0 from rfl) hM11 h
    · replace h := it_f c2 h
      refine ok_f (mt (c_eq tv6 tv14).mp c2) ?_
      exact o_ri (show (1 : Int32).toInt = 1 from rfl) hM11 h

set_option maxHeartbeats 4000000 in
set_option maxRecDepth 100000 in
theorem h_X12_abs {E : Em} {M : Mm} {J : Jm} (hM : Mre E M J) {this : Nat} (wthis : W12 E this) {p1 : Int32} {zp1 : Int} (tp1 : p1.toInt = zp1) {z : Int} (h : H_X12_abs this zp1 = some z) : Ok (F_X12_abs this p1 M) (fun q => q.1.toInt = z ∧ Mre E q.2 J) := by
  unfold H_X12_abs at h
  unfold F_X12_abs
  by_cases c1 : 0 ≤ zp1
  · replace h := it_t c1 h
    refine ok_t ((c_le (show (0 : Int32).toInt = 0 from rfl) tp1).mpr c1) ?_
    exact o_ri0 tp1 hM h
  · replace h := it_f c1 h
    refine ok_f (mt (c_le (show (0 : Int32).toInt = 0 from rfl) tp1).mp c1) ?_
    exact o_ri0 (t_neg tp1) hM h

set_option maxHeartbeats 4000000 in
set_option maxRecDepth 100000 in
theorem h_X12_step {E : Em} {M : Mm} {J : Jm} (hM : Mre E M J) {this : Nat} (wthis : W12 E this) {p1 : Int32} {zp1 : Int} (tp1 : p1.toInt = zp1) {p2 : Int32} {zp2 : Int} (tp2 : p2.toInt = zp2) {J1 : Jm} (h : H_X12_step this zp1 zp2 J = some J1) : Ok (F_X12_step this p1 p2 M) (fun q => Mre E q J1) := by
  unfold H_X12_step at h
  unfold F_X12_step
  obtain ⟨v1, ev1, tv1⟩ := o_rdI (k := 4) hM wthis.1
  refine ok_b ev1 ?_
  obtain ⟨v2, ev2, tv2⟩ := o_rdI (k := 5) hM wthis.1
  refine ok_b ev2 ?_
  refine ok_b (o_isO hM wthis.1) ?_
  replace h := ob h; obtain ⟨zv5, ezv5, h⟩ := h
  obtain ⟨⟨v5, M3⟩, eM3, tv5, hM3⟩ := h_X12_isWater hM wthis (t_add tv1 tp1) (t_add tv2 tp2) ezv5
  refine ok_b eM3 ?_
  by_cases c1 : zv5 = 0
  · replace h := it_t c1 h
    refine ok_t ((c_eq tv5 (show (0 : Int32).toInt = 0 from rfl)).mpr c1) ?_
    exact o_rv hM3 h
  · replace h := it_f c1 h
    refine ok_f (mt (c_eq tv5 (show (0 : Int32).toInt = 0 from rfl)).mp c1) ?_
    obtain ⟨v7, ev7, tv7⟩ := o_rdI (k := 4) hM3 wthis.1
    refine ok_b ev7 ?_
    replace h := nv_e h; obtain ⟨J8, eJ8, h⟩ := h
    obtain ⟨M8, eM8, hM8⟩ := o_wrI (k := 4) hM3 wthis.1 (t_add tv7 tp1) eJ8
    refine ok_b eM8 ?_
    obtain ⟨v9, ev9, tv9⟩ := o_rdI (k := 5) hM8 wthis.1
    refine ok_b ev9 ?_
    replace h := nv_e h; obtain ⟨J10, eJ10, h⟩ := h
    obtain ⟨M10, eM10, hM10⟩ := o_wrI (k := 5) hM8 wthis.1 (t_add tv9 tp2) eJ10
    refine ok_b eM10 ?_
    exact o_rv hM10 h

set_option maxHeartbeats 4000000 in
set_option maxRecDepth 100000 in
theorem h_X12_steps_L2 {E : Em} {J1 : Jm}  (k31 : Mm → Option Mm) (k31h : Jm → Option Jm) (hk31 : ∀ (M9 : Mm) (J9 : Jm), Mre E M9 J9 → k31h J9 = some J1 → Ok (k31 M9) (fun q => Mre E q J1)) (x0 : Nat) (wx0 : W12 E x0) (x1 : Int32) (zx1 : Int) (tx1 : x1.toInt = zx1) (x2 : Int32) (zx2 : Int) (tx2 : x2.toInt = zx2) : ∀ (fu : Nat), ∀ (x3 : Int32) (zx3 : Int), x3.toInt = zx3 → ∀ (M0 : Mm) (J0 : Jm), Mre E M0 J0 → H_X12_steps_L2 k31h x0 zx1 zx2 fu zx3 J0 = some J1 → Ok (F_X12_steps_L2 k31 x0 x1 x2 fu x3 M0) (fun q => Mre E q J1) := by
  intro fu
  induction fu with
  | zero =>
    intro x3 zx3 tx3 M0 J0 hM0 h
    rw [H_X12_steps_L2] at h
    cases h
  | succ n1 ih =>
    intro x3 zx3 tx3 M0 J0 hM0 h
    rw [H_X12_steps_L2] at h
    rw [F_X12_steps_L2]
    refine ok_b (o_isO hM0 wx0.1) ?_
    replace h := ob h; obtain ⟨zv4, ezv4, h⟩ := h
    obtain ⟨⟨v4, M2⟩, eM2, tv4, hM2⟩ := h_X12_abs hM0 wx0 tx1 ezv4
    refine ok_b eM2 ?_
    by_cases c1 : zv4 ≤ zx3
    · replace h := it_t c1 h
      refine ok_t ((c_le tv4 tx3).mpr c1) ?_
      exact hk31 _ _ hM2 h
    · replace h := it_f c1 h
      refine ok_f (mt (c_le tv4 tx3).mp c1) ?_
      replace h := nv_e h; obtain ⟨zv6, ezv6, h⟩ := h
      obtain ⟨v6, evv6⟩ : ∃ v : Int32, v = (if 0 ≤ x1 then 1 else (-1)) := ⟨_, rfl⟩
      have tv6 : v6.toInt = zv6 := by rw [evv6, ezv6]; exact (t_ite (c_le (show (0 : Int32).toInt = 0 from rfl) tx1) (show (1 : Int32).toInt = 1 from rfl) (show ((-1) : Int32).toInt = (-1) from rfl))
      refine ok_nv evv6 ?_
      refine ok_b (o_isO hM2 wx0.1) ?_
      replace h := ob h; obtain ⟨J8, eJ8, h⟩ := h
      obtain ⟨M8, eM8, hM8⟩ := h_X12_step hM2 wx0 tv6 (show (0 : Int32).toInt = 0 from rfl) eJ8
      refine ok_b eM8 ?_
      exact ih _ _ (t_add tx3 (show (1 : Int32).toInt = 1 from rfl)) _ _ hM8 h
set_option maxHeartbeats 4000000 in
set_option maxRecDepth 100000 in
theorem h_X12_steps_L33 {E : Em} {J1 : Jm}   (x0 : Nat) (wx0 : W12 E x0) (x2 : Int32) (zx2 : Int) (tx2 : x2.toInt = zx2) : ∀ (fu : Nat), ∀ (x3 : Int32) (zx3 : Int), x3.toInt = zx3 → ∀ (M0 : Mm) (J0 : Jm), Mre E M0 J0 → H_X12_steps_L33 x0 zx2 fu zx3 J0 = some J1 → Ok (F_X12_steps_L33 x0 x2 fu x3 M0) (fun q => Mre E q J1) := by
  intro fu
  induction fu with
  | zero =>
    intro x3 zx3 tx3 M0 J0 hM0 h
    rw [H_X12_steps_L33] at h
    cases h
  | succ n12 ih =>
    intro x3 zx3 tx3 M0 J0 hM0 h
    rw [H_X12_steps_L33] at h
    rw [F_X12_steps_L33]
    refine ok_b (o_isO hM0 wx0.1) ?_
    replace h := ob h; obtain ⟨zv15, ezv15, h⟩ := h
    obtain ⟨⟨v15, M13⟩, eM13, tv15, hM13⟩ := h_X12_abs hM0 wx0 tx2 ezv15
    refine ok_b eM13 ?_
    by_cases c2 : zv15 ≤ zx3
    · replace h := it_t c2 h
      refine ok_t ((c_le tv15 tx3).mpr c2) ?_
      exact o_rv hM13 h
    · replace h := it_f c2 h
      refine ok_f (mt (c_le tv15 tx3).mp c2) ?_
      replace h := nv_e h; obtain ⟨zv17, ezv17, h⟩ := h
      obtain ⟨v17, evv17⟩ : ∃ v : Int32, v = (if 0 ≤ x2 then 1 else (-1)) := ⟨_, rfl⟩
      have tv17 : v17.toInt = zv17 := by rw [evv17, ezv17]; exact (t_ite (c_le (show (0 : Int32).toInt = 0 from rfl) tx2) (show (1 : Int32).toInt = 1 from rfl) (show ((-1) : Int32).toInt = (-1) from rfl))
      refine ok_nv evv17 ?_
      refine ok_b (o_isO hM13 wx0.1) ?_
      replace h := ob h; obtain ⟨J19, eJ19, h⟩ := h
      obtain ⟨M19, eM19, hM19⟩ := h_X12_step hM13 wx0 (show (0 : Int32).toInt = 0 from rfl) tv17 eJ19
      refine ok_b eM19 ?_
      exact ih _ _ (t_add tx3 (show (1 : Int32).toInt = 1 from rfl)) _ _ hM19 h
set_option maxHeartbeats 4000000 in
set_option maxRecDepth 100000 in
theorem h_X12_steps {E : Em} {M : Mm} {J : Jm} (hM : Mre E M J) {this : Nat} (wthis : W12 E this) {p1 : Int32} {zp1 : Int} (tp1 : p1.toInt = zp1) {p2 : Int32} {zp2 : Int} (tp2 : p2.toInt = zp2) {J1 : Jm} (h : H_X12_steps this zp1 zp2 J = some J1) : Ok (F_X12_steps this p1 p2 M) (fun q => Mre E q J1) := by
  unfold H_X12_steps at h
  unfold F_X12_steps
  refine h_X12_steps_L2  _ _ ?_ _ wthis _ _ tp1 _ _ tp2 _ _ _ (show (0 : Int32).toInt = 0 from rfl) _ _ hM h
  intro M11 J11 hM11 h
  refine h_X12_steps_L33   _ wthis _ _ tp2 _ _ _ (show (0 : Int32).toInt = 0 from rfl) _ _ hM11 h

set_option maxHeartbeats 4000000 in
set_option maxRecDepth 100000 in
theorem h_X12_isNet {E : Em} {M : Mm} {J : Jm} (hM : Mre E M J) {this : Nat} (wthis : W12 E this) {p1 : Int32} {zp1 : Int} (tp1 : p1.toInt = zp1) {z : Int} (h : H_X12_isNet this zp1 J = some z) : Ok (F_X12_isNet this p1 M) (fun q => q.1.toInt = z ∧ Mre E q.2 J) := by
  unfold H_X12_isNet at h
  unfold F_X12_isNet
  refine ok_b (o_rdS hM wthis.1 (wthis.2.1.1)) ?_
  obtain ⟨v2, ev2, tv2⟩ := o_rdI (k := 4) hM wthis.1
  refine ok_b ev2 ?_
  obtain ⟨v3, ev3, tv3⟩ := o_rdI (k := 5) hM wthis.1
  refine ok_b ev3 ?_
  refine ok_s ?_
  replace h := ob h; obtain ⟨zv4, ezv4, h⟩ := h
  obtain ⟨v4, ev4, tv4⟩ := o_ldI hM wthis.2.1.2 rfl (t_add (t_add (show (1850 : Int32).toInt = 1850 from rfl) (t_mul (show (4 : Int32).toInt = 4 from rfl) (t_add (t_mul (show (8 : Int32).toInt = 8 from rfl) tv2) tv3))) tp1) ezv4
  refine ok_b ev4 ?_
  by_cases c1 : zv4 = 1
  · replace h := it_t c1 h
    refine ok_t ((c_eq tv4 (show (1 : Int32).toInt = 1 from rfl)).mpr c1) ?_
    refine ok_b (o_rdS hM wthis.1 (wthis.2.1.1)) ?_
    obtain ⟨v8, ev8, tv8⟩ := o_rdI (k := 4) hM wthis.1
    refine ok_b ev8 ?_
    obtain ⟨v9, ev9, tv9⟩ := o_rdI (k := 5) hM wthis.1
    refine ok_b ev9 ?_
    refine ok_s ?_
    replace h := ob h; obtain ⟨zv10, ezv10, h⟩ := h
    obtain ⟨v10, ev10, tv10⟩ := o_ldI hM wthis.2.1.2 rfl (t_add (t_add (show (10 : Int32).toInt = 10 from rfl) (t_mul (show (8 : Int32).toInt = 8 from rfl) tv8)) tv9) ezv10
    refine ok_b ev10 ?_
    by_cases c2 : zv10 ≤ zp1
    · replace h := it_t c2 h
      refine ok_t ((c_le tv10 tp1).mpr c2) ?_
      exact o_ri0 (show (0 : Int32).toInt = 0 from rfl) hM h
    · replace h := it_f c2 h
      refine ok_f (mt (c_le tv10 tp1).mp c2) ?_
      exact o_ri0 (show (1 : Int32).toInt = 1 from rfl) hM h
  · replace h := it_f c1 h
    refine ok_f (mt (c_eq tv4 (show (1 : Int32).toInt = 1 from rfl)).mp c1) ?_
    exact o_ri0 (show (0 : Int32).toInt = 0 from rfl) hM h

set_option maxHeartbeats 4000000 in
set_option maxRecDepth 100000 in
theorem h_X12_sink_L12 {E : Em} {J1 : Jm}   (x0 : Nat) (wx0 : W12 E x0) (x1 : Int32) (zx1 : Int) (tx1 : x1.toInt = zx1) (x2 : Int32) (zx2 : Int) (tx2 : x2.toInt = zx2) : ∀ (fu : Nat), ∀ (x3 : Int32) (zx3 : Int), x3.toInt = zx3 → ∀ (M0 : Mm) (J0 : Jm), Mre E M0 J0 → H_X12_sink_L12 x0 zx1 zx2 fu zx3 J0 = some J1 → Ok (F_X12_sink_L12 x0 x1 x2 fu x3 M0) (fun q => Mre E q J1) := by
  intro fu
  induction fu with
  | zero =>
    intro x3 zx3 tx3 M0 J0 hM0 h
    rw [H_X12_sink_L12] at h
    cases h
  | succ n3 ih =>
    intro x3 zx3 tx3 M0 J0 hM0 h
    rw [H_X12_sink_L12] at h
    rw [F_X12_sink_L12]
    by_cases c1 : zx1 < zx3
    · replace h := it_t c1 h
      refine ok_t ((c_lt tx1 tx3).mpr c1) ?_
      exact o_rv hM0 h
    · replace h := it_f c1 h
      refine ok_f (mt (c_lt tx1 tx3).mp c1) ?_
      obtain ⟨v5, ev5, tv5⟩ := o_rdI (k := 7) hM0 wx0.1
      refine ok_b ev5 ?_
      by_cases c2 : (J0 x0 7) = 0
      · replace h := it_t c2 h
        refine ok_t ((c_eq tv5 (show (0 : Int32).toInt = 0 from rfl)).mpr c2) ?_
        obtain ⟨v7, ev7, tv7⟩ := o_rdI (k := 4) hM0 wx0.1
        refine ok_b ev7 ?_
        obtain ⟨v8, ev8, tv8⟩ := o_rdI (k := 5) hM0 wx0.1
        refine ok_b ev8 ?_
        refine ok_b (o_rdS hM0 wx0.1 (wx0.2.1.1)) ?_
        refine ok_s ?_
        replace h := ob h; obtain ⟨zv10, ezv10, h⟩ := h
        obtain ⟨v10, ev10, tv10⟩ := o_ldI hM0 wx0.2.1.2 rfl (t_add (show (10 : Int32).toInt = 10 from rfl) (t_add (t_mul (show (8 : Int32).toInt = 8 from rfl) tv7) tv8)) ezv10
        refine ok_b ev10 ?_
        by_cases c3 : zx3 < zv10
        · replace h := it_t c3 h
          refine ok_t ((c_lt tx3 tv10).mpr c3) ?_
          replace h := nv_e h; obtain ⟨J13, eJ13, h⟩ := h
          obtain ⟨M13, eM13, hM13⟩ := o_wrI (k := 6) hM0 wx0.1 tx3 eJ13
          refine ok_b eM13 ?_
          refine ok_b (o_rdS hM13 wx0.1 (wx0.2.1.1)) ?_
          replace h := nv_e h; obtain ⟨zv15, ezv15, h⟩ := h
          obtain ⟨v15, evv15⟩ : ∃ v : Int32, v = (if x2 = 0 then 250 else 890) := ⟨_, rfl⟩
          have tv15 : v15.toInt = zv15 := by rw [evv15, ezv15]; exact (t_ite (c_eq tx2 (show (0 : Int32).toInt = 0 from rfl)) (show (250 : Int32).toInt = 250 from rfl) (show (890 : Int32).toInt = 890 from rfl))
          refine ok_nv evv15 ?_
          refine ok_s ?_
          replace h := ob h; obtain ⟨zv17, ezv17, h⟩ := h
          obtain ⟨v17, ev17, tv17⟩ := o_ldI hM13 wx0.2.1.2 rfl (t_add (t_add tv15 (t_mul (show (4 : Int32).toInt = 4 from rfl) (t_add (t_mul (show (8 : Int32).toInt = 8 from rfl) tv7) tv8))) tx3) ezv17
          refine ok_b ev17 ?_
          refine ok_b (o_rdS hM13 wx0.1 (wx0.2.1.1)) ?_
          replace h := nv_e h; obtain ⟨zv20, ezv20, h⟩ := h
          obtain ⟨v20, evv20⟩ : ∃ v : Int32, v = (if x2 = 0 then 570 else 1210) := ⟨_, rfl⟩
          have tv20 : v20.toInt = zv20 := by rw [evv20, ezv20]; exact (t_ite (c_eq tx2 (show (0 : Int32).toInt = 0 from rfl)) (show (570 : Int32).toInt = 570 from rfl) (show (1210 : Int32).toInt = 1210 from rfl))
          refine ok_nv evv20 ?_
          refine ok_s ?_
          replace h := ob h; obtain ⟨zv22, ezv22, h⟩ := h
          obtain ⟨v22, ev22, tv22⟩ := o_ldI hM13 wx0.2.1.2 rfl (t_add (t_add tv20 (t_mul (show (4 : Int32).toInt = 4 from rfl) (t_add (t_mul (show (8 : Int32).toInt = 8 from rfl) tv7) tv8))) tx3) ezv22
          refine ok_b ev22 ?_
          refine ok_b (o_isO hM13 wx0.1) ?_
          replace h := ob h; obtain ⟨J24, eJ24, h⟩ := h
          obtain ⟨M24, eM24, hM24⟩ := h_X12_steps hM13 wx0 tv17 tv22 eJ24
          refine ok_b eM24 ?_
          by_cases c4 : zx2 = 0
          · replace h := it_t c4 h
            refine ok_t ((c_eq tx2 (show (0 : Int32).toInt = 0 from rfl)).mpr c4) ?_
            refine ok_b (o_isO hM24 wx0.1) ?_
            replace h := ob h; obtain ⟨zv30, ezv30, h⟩ := h
            obtain ⟨⟨v30, M28⟩, eM28, tv30, hM28⟩ := h_X12_isNet hM24 wx0 tx3 ezv30
            refine ok_b eM28 ?_
            replace h := nv_e h; obtain ⟨zv31, ezv31, h⟩ := h
            obtain ⟨v31, evv31⟩ : ∃ v : Int32, v = (if v30 = 0 then 0 else 1) := ⟨_, rfl⟩
            have tv31 : v31.toInt = zv31 := by rw [evv31, ezv31]; exact (t_ite (c_eq tv30 (show (0 : Int32).toInt = 0 from rfl)) (show (0 : Int32).toInt = 0 from rfl) (show (1 : Int32).toInt = 1 from rfl))
            refine ok_nv evv31 ?_
            replace h := ob h; obtain ⟨_, hzM33, h⟩ := h
            replace h := nv_e h; obtain ⟨J33, eJ33, h⟩ := h
            obtain ⟨M33, eM33, hM33⟩ := o_wrZ (k := 7) hM28 wx0.1 tv31 (jZ_e hzM33) eJ33
            refine ok_b eM33 ?_
            exact ih _ _ (t_add tx3 (show (1 : Int32).toInt = 1 from rfl)) _ _ hM33 h
          · replace h := it_f c4 h
            refine ok_f (mt (c_eq tx2 (show (0 : Int32).toInt = 0 from rfl)).mp c4) ?_
            replace h := nv_e h; obtain ⟨J27, eJ27, h⟩ := h
            obtain ⟨M27, eM27, hM27⟩ := o_wrZ (k := 7) hM24 wx0.1 (show (0 : Int32).toInt = 0 from rfl) (by decide) eJ27
            refine ok_b eM27 ?_
            exact ih _ _ (t_add tx3 (show (1 : Int32).toInt = 1 from rfl)) _ _ hM27 h
        · replace h := it_f c3 h
          refine ok_f (mt (c_lt tx3 tv10).mp c3) ?_
          exact o_rv hM0 h
      · replace h := it_f c2 h
        refine ok_f (mt (c_eq tv5 (show (0 : Int32).toInt = 0 from rfl)).mp c2) ?_
        exact o_rv hM0 h
set_option maxHeartbeats 4000000 in
set_option maxRecDepth 100000 in
theorem h_X12_sink {E : Em} {M : Mm} {J : Jm} (hM : Mre E M J) {this : Nat} (wthis : W12 E this) {p1 : Int32} {zp1 : Int} (tp1 : p1.toInt = zp1) {p2 : Int32} {zp2 : Int} (tp2 : p2.toInt = zp2) {J1 : Jm} (h : H_X12_sink this zp1 zp2 J = some J1) : Ok (F_X12_sink this p1 p2 M) (fun q => Mre E q J1) := by
  unfold H_X12_sink at h
  unfold F_X12_sink
  replace h := nv_e h; obtain ⟨J1, eJ1, h⟩ := h
  obtain ⟨M1, eM1, hM1⟩ := o_wrI (k := 6) hM wthis.1 (show (0 : Int32).toInt = 0 from rfl) eJ1
  refine ok_b eM1 ?_
  replace h := nv_e h; obtain ⟨J2, eJ2, h⟩ := h
  obtain ⟨M2, eM2, hM2⟩ := o_wrZ (k := 7) hM1 wthis.1 (show (0 : Int32).toInt = 0 from rfl) (by decide) eJ2
  refine ok_b eM2 ?_
  refine h_X12_sink_L12   _ wthis _ _ tp1 _ _ tp2 _ _ _ (show (0 : Int32).toInt = 0 from rfl) _ _ hM2 h

set_option maxHeartbeats 4000000 in
set_option maxRecDepth 100000 in
theorem h_X12_isHeading {E : Em} {M : Mm} {J : Jm} (hM : Mre E M J) {this : Nat} (wthis : W12 E this) {p1 : Int32} {zp1 : Int} (tp1 : p1.toInt = zp1) {p2 : Int32} {zp2 : Int} (tp2 : p2.toInt = zp2) {p3 : Int32} {zp3 : Int} (tp3 : p3.toInt = zp3) {z : Int} (h : H_X12_isHeading this zp1 zp2 zp3 J = some z) : Ok (F_X12_isHeading this p1 p2 p3 M) (fun q => q.1.toInt = z ∧ Mre E q.2 J) := by
  unfold H_X12_isHeading at h
  unfold F_X12_isHeading
  refine ok_b (o_isO hM wthis.1) ?_
  replace h := ob h; obtain ⟨zv3, ezv3, h⟩ := h
  obtain ⟨⟨v3, M1⟩, eM1, tv3, hM1⟩ := h_X12_is hM wthis tp2 (show ((-4) : Int32).toInt = (-4) from rfl) (show (4 : Int32).toInt = 4 from rfl) ezv3
  refine ok_b eM1 ?_
  by_cases c1 : zv3 = 0
  · replace h := it_t c1 h
    refine ok_t ((c_eq tv3 (show (0 : Int32).toInt = 0 from rfl)).mpr c1) ?_
    exact o_ri0 (show (0 : Int32).toInt = 0 from rfl) hM1 h
  · replace h := it_f c1 h
    refine ok_f (mt (c_eq tv3 (show (0 : Int32).toInt = 0 from rfl)).mp c1) ?_
    refine ok_b (o_isO hM1 wthis.1) ?_
    replace h := ob h; obtain ⟨zv7, ezv7, h⟩ := h
    obtain ⟨⟨v7, M5⟩, eM5, tv7, hM5⟩ := h_X12_is hM1 wthis tp3 (show ((-4) : Int32).toInt = (-4) from rfl) (show (4 : Int32).toInt = 4 from rfl) ezv7
    refine ok_b eM5 ?_
    by_cases c2 : zv7 = 0
    · replace h := it_t c2 h
      refine ok_t ((c_eq tv7 (show (0 : Int32).toInt = 0 from rfl)).mpr c2) ?_
      exact o_ri0 (show (0 : Int32).toInt = 0 from rfl) hM5 h
    · replace h := it_f c2 h
      refine ok_f (mt (c_eq tv7 (show (0 : Int32).toInt = 0 from rfl)).mp c2) ?_
      refine ok_b (o_isO hM5 wthis.1) ?_
      replace h := ob h; obtain ⟨zv11, ezv11, h⟩ := h
      obtain ⟨⟨v11, M9⟩, eM9, tv11, hM9⟩ := h_X12_abs hM5 wthis tp2 ezv11
      refine ok_b eM9 ?_
      refine ok_b (o_isO hM9 wthis.1) ?_
      replace h := ob h; obtain ⟨zv14, ezv14, h⟩ := h
      obtain ⟨⟨v14, M12⟩, eM12, tv14, hM12⟩ := h_X12_abs hM9 wthis tp3 ezv14
      refine ok_b eM12 ?_
      refine ok_b (o_isO hM12 wthis.1) ?_
      replace h := ob h; obtain ⟨zv17, ezv17, h⟩ := h
      obtain ⟨⟨v17, M15⟩, eM15, tv17, hM15⟩ := h_X12_goes hM12 wthis tp1 ezv17
      refine ok_b eM15 ?_
      by_cases c3 : zv17 < (wr (zv11 + zv14))
      · replace h := it_t c3 h
        refine ok_t ((c_lt tv17 (t_add tv11 tv14)).mpr c3) ?_
        exact o_ri0 (show (0 : Int32).toInt = 0 from rfl) hM15 h
      · replace h := it_f c3 h
        refine ok_f (mt (c_lt tv17 (t_add tv11 tv14)).mp c3) ?_
        exact o_ri0 (show (1 : Int32).toInt = 1 from rfl) hM15 h

set_option maxHeartbeats 4000000 in
set_option maxRecDepth 100000 in
theorem h_X12_besideOf {E : Em} {M : Mm} {J : Jm} (hM : Mre E M J) {this : Nat} (wthis : W12 E this) {p1 : Int32} {zp1 : Int} (tp1 : p1.toInt = zp1) {p2 : Int32} {zp2 : Int} (tp2 : p2.toInt = zp2) {z : Int} (h : H_X12_besideOf this zp1 zp2 = some z) : Ok (F_X12_besideOf this p1 p2 M) (fun q => q.1.toInt = z ∧ Mre E q.2 J) := by
  unfold H_X12_besideOf at h
  unfold F_X12_besideOf
  replace h := ob h; obtain ⟨zv1, ezv1, h⟩ := h
  obtain ⟨v1, ev1, tv1⟩ := o_dvI tp1 (show (8 : Int32).toInt = 8 from rfl) ezv1
  refine ok_b ev1 ?_
  replace h := nv_e h; obtain ⟨zv2, ezv2, h⟩ := h
  obtain ⟨v2, evv2⟩ : ∃ v : Int32, v = (if p2 = 0 then 1 else (if p2 = 2 then (-1) else 0)) := ⟨_, rfl⟩
  have tv2 : v2.toInt = zv2 := by rw [evv2, ezv2]; exact (t_ite (c_eq tp2 (show (0 : Int32).toInt = 0 from rfl)) (show (1 : Int32).toInt = 1 from rfl) (t_ite (c_eq tp2 (show (2 : Int32).toInt = 2 from rfl)) (show ((-1) : Int32).toInt = (-1) from rfl) (show (0 : Int32).toInt = 0 from rfl)))
  refine ok_nv evv2 ?_
  replace h := ob h; obtain ⟨zv4, ezv4, h⟩ := h
  obtain ⟨v4, ev4, tv4⟩ := o_rmI tp1 (show (8 : Int32).toInt = 8 from rfl) ezv4
  refine ok_b ev4 ?_
  replace h := nv_e h; obtain ⟨zv5, ezv5, h⟩ := h
  obtain ⟨v5, evv5⟩ : ∃ v : Int32, v = (if p2 = 1 then 1 else (if p2 = 3 then (-1) else 0)) := ⟨_, rfl⟩
  have tv5 : v5.toInt = zv5 := by rw [evv5, ezv5]; exact (t_ite (c_eq tp2 (show (1 : Int32).toInt = 1 from rfl)) (show (1 : Int32).toInt = 1 from rfl) (t_ite (c_eq tp2 (show (3 : Int32).toInt = 3 from rfl)) (show ((-1) : Int32).toInt = (-1) from rfl) (show (0 : Int32).toInt = 0 from rfl)))
  refine ok_nv evv5 ?_
  refine ok_b (o_isO hM wthis.1) ?_
  replace h := ob h; obtain ⟨zv9, ezv9, h⟩ := h
  obtain ⟨⟨v9, M7⟩, eM7, tv9, hM7⟩ := h_X12_isCell hM wthis (t_add tv1 tv2) (t_add tv4 tv5) ezv9
  refine ok_b eM7 ?_
  by_cases c1 : zv9 = 0
  · replace h := it_t c1 h
    refine ok_t ((c_eq tv9 (show (0 : Int32).toInt = 0 from rfl)).mpr c1) ?_
    exact o_ri0 (show ((-1) : Int32).toInt = (-1) from rfl) hM7 h
  · replace h := it_f c1 h
    refine ok_f (mt (c_eq tv9 (show (0 : Int32).toInt = 0 from rfl)).mp c1) ?_
    exact o_ri0 (t_add (t_mul (show (8 : Int32).toInt = 8 from rfl) (t_add tv1 tv2)) (t_add tv4 tv5)) hM7 h

set_option maxHeartbeats 4000000 in
set_option maxRecDepth 100000 in
theorem h_X12_measure_L230 {E : Em} {J1 : Jm}   (x0 : Nat) (wx0 : W12 E x0) (x2 : Int32) (zx2 : Int) (tx2 : x2.toInt = zx2) : ∀ (fu : Nat), ∀ (x6 : Int32) (zx6 : Int), x6.toInt = zx6 → ∀ (M0 : Mm) (J0 : Jm), Mre E M0 J0 → H_X12_measure_L230 x0 zx2 fu zx6 J0 = some J1 → Ok (F_X12_measure_L230 x0 x2 fu x6 M0) (fun q => Mre E q J1) := by
  intro fu
  induction fu with
  | zero =>
    intro x6 zx6 tx6 M0 J0 hM0 h
    rw [H_X12_measure_L230] at h
    cases h
  | succ n31 ih =>
    intro x6 zx6 tx6 M0 J0 hM0 h
    rw [H_X12_measure_L230] at h
    rw [F_X12_measure_L230]
    by_cases c1 : 4 ≤ zx6
    · replace h := it_t c1 h
      refine ok_t ((c_le (show (4 : Int32).toInt = 4 from rfl) tx6).mpr c1) ?_
      exact o_rv hM0 h
    · replace h := it_f c1 h
      refine ok_f (mt (c_le (show (4 : Int32).toInt = 4 from rfl) tx6).mp c1) ?_
      refine ok_b (o_isO hM0 wx0.1) ?_
      replace h := ob h; obtain ⟨zv35, ezv35, h⟩ := h
      obtain ⟨⟨v35, M33⟩, eM33, tv35, hM33⟩ := h_X12_besideOf hM0 wx0 tx2 tx6 ezv35
      refine ok_b eM33 ?_
      by_cases c2 : zv35 < 0
      · replace h := it_t c2 h
        refine ok_t ((c_lt tv35 (show (0 : Int32).toInt = 0 from rfl)).mpr c2) ?_
        exact ih _ _ (t_add tx6 (show (1 : Int32).toInt = 1 from rfl)) _ _ hM33 h
      · replace h := it_f c2 h
        refine ok_f (mt (c_lt tv35 (show (0 : Int32).toInt = 0 from rfl)).mp c2) ?_
        refine ok_b (o_rdS hM33 wx0.1 (wx0.2.1.1)) ?_
        refine ok_b (o_isO hM33 wx0.1) ?_
        replace h := ob h; obtain ⟨zv40, ezv40, h⟩ := h
        obtain ⟨⟨v40, M38⟩, eM38, tv40, hM38⟩ := h_X12_besideOf hM33 wx0 tx2 tx6 ezv40
        refine ok_b eM38 ?_
        refine ok_s ?_
        replace h := ob h; obtain ⟨zv41, ezv41, h⟩ := h
        obtain ⟨v41, ev41, tv41⟩ := o_ldI hM38 wx0.2.1.2 rfl (t_add (show (170 : Int32).toInt = 170 from rfl) tv40) ezv41
        refine ok_b ev41 ?_
        replace h := ob h; obtain ⟨zv43, ezv43, h⟩ := h
        obtain ⟨v43, ev43, tv43⟩ := o_dvI tv41 (show (2 : Int32).toInt = 2 from rfl) ezv43
        refine ok_b ev43 ?_
        replace h := ob h; obtain ⟨J44, eJ44, h⟩ := h
        obtain ⟨M44, eM44, hM44⟩ := o_stI hM38 wx0.2.1.2 rfl (t_add (show (170 : Int32).toInt = 170 from rfl) tv40) tv43 eJ44
        refine ok_b eM44 ?_
        exact ih _ _ (t_add tx6 (show (1 : Int32).toInt = 1 from rfl)) _ _ hM44 h
set_option maxHeartbeats 4000000 in
set_option maxRecDepth 100000 in
theorem h_X12_measure {E : Em} {M : Mm} {J : Jm} (hM : Mre E M J) {this : Nat} (wthis : W12 E this) {p1 : Int32} {zp1 : Int} (tp1 : p1.toInt = zp1) {J1 : Jm} (h : H_X12_measure this zp1 J = some J1) : Ok (F_X12_measure this p1 M) (fun q => Mre E q J1) := by
  unfold H_X12_measure at h
  unfold F_X12_measure
  obtain ⟨v1, ev1, tv1⟩ := o_rdI (k := 4) hM wthis.1
  refine ok_b ev1 ?_
  obtain ⟨v2, ev2, tv2⟩ := o_rdI (k := 5) hM wthis.1
  refine ok_b ev2 ?_
  obtain ⟨v3, ev3, tv3⟩ := o_rdI (k := 6) hM wthis.1
  refine ok_b ev3 ?_
  refine ok_b (o_rdS hM wthis.1 (wthis.2.1.1)) ?_
  refine ok_s ?_
  replace h := ob h; obtain ⟨zv5, ezv5, h⟩ := h
  obtain ⟨v5, ev5, tv5⟩ := o_ldI hM wthis.2.1.2 rfl (t_add (show (10 : Int32).toInt = 10 from rfl) (t_add (t_mul (show (8 : Int32).toInt = 8 from rfl) tv1) tv2)) ezv5
  refine ok_b ev5 ?_
  replace h := jp_e h; obtain ⟨k7h, ek7h, h⟩ := h
  refine ok_jp (fun k7 ek7 => ?_)
  have Jk7 : ∀ (s8 : Int32) (zs8 : Int), s8.toInt = zs8 → ∀ (M9 : Mm) (J9 : Jm), Mre E M9 J9 → k7h zs8 J9 = some J1 → Ok (k7 s8 M9) (fun q => Mre E q J1) := by
    intro s8 zs8 ts8 M9 J9 hM9 h
    rw [ek7]
    rw [ek7h] at h
    refine ok_b (o_rdS hM9 wthis.1 (wthis.2.1.1)) ?_
    refine ok_s ?_
    replace h := ob h; obtain ⟨zv11, ezv11, h⟩ := h
    obtain ⟨v11, ev11, tv11⟩ := o_ldI hM9 wthis.2.1.2 rfl (t_add (t_add (show (1530 : Int32).toInt = 1530 from rfl) (t_mul (show (4 : Int32).toInt = 4 from rfl) (t_add (t_mul (show (8 : Int32).toInt = 8 from rfl) tv1) tv2))) ts8) ezv11
    refine ok_b ev11 ?_
    refine ok_b (o_rdS hM9 wthis.1 (wthis.2.1.1)) ?_
    refine ok_s ?_
    replace h := ob h; obtain ⟨zv14, ezv14, h⟩ := h
    obtain ⟨v14, ev14, tv14⟩ := o_ldI hM9 wthis.2.1.2 rfl (t_add (show (2218 : Int32).toInt = 2218 from rfl) tp1) ezv14
    refine ok_b ev14 ?_
    refine ok_b (o_rdS hM9 wthis.1 (wthis.2.1.1)) ?_
    refine ok_s ?_
    replace h := ob h; obtain ⟨zv17, ezv17, h⟩ := h
    obtain ⟨v17, ev17, tv17⟩ := o_ldI hM9 wthis.2.1.2 rfl (show (2 : Int32).toInt = 2 from rfl) ezv17
    refine ok_b ev17 ?_
    replace h := jp_e h; obtain ⟨k19h, ek19h, h⟩ := h
    refine ok_jp (fun k19 ek19 => ?_)
    have Jk19 : ∀ (M20 : Mm) (J20 : Jm), Mre E M20 J20 → k19h J20 = some J1 → Ok (k19 M20) (fun q => Mre E q J1) := by
      intro M20 J20 hM20 h
      rw [ek19]
      rw [ek19h] at h
      refine ok_b (o_rdS hM20 wthis.1 (wthis.2.1.1)) ?_
      refine ok_s ?_
      replace h := ob h; obtain ⟨J22, eJ22, h⟩ := h
      obtain ⟨M22, eM22, hM22⟩ := o_stI hM20 wthis.2.1.2 rfl (t_add (show (2250 : Int32).toInt = 2250 from rfl) tp1) (t_add tv11 (t_mul (show (3 : Int32).toInt = 3 from rfl) tv14)) eJ22
      refine ok_b eM22 ?_
      refine ok_b (o_rdS hM22 wthis.1 (wthis.2.1.1)) ?_
      refine ok_s ?_
      replace h := ob h; obtain ⟨zv25, ezv25, h⟩ := h
      obtain ⟨v25, ev25, tv25⟩ := o_ldI hM22 wthis.2.1.2 rfl (t_add (show (2218 : Int32).toInt = 2218 from rfl) tp1) ezv25
      refine ok_b ev25 ?_
      replace h := ob h; obtain ⟨J27, eJ27, h⟩ := h
      obtain ⟨M27, eM27, hM27⟩ := o_stI hM22 wthis.2.1.2 rfl (t_add (show (2218 : Int32).toInt = 2218 from rfl) tp1) (t_add tv25 (show (1 : Int32).toInt = 1 from rfl)) eJ27
      refine ok_b eM27 ?_
      refine ok_b (o_rdS hM27 wthis.1 (wthis.2.1.1)) ?_
      refine ok_s ?_
      replace h := ob h; obtain ⟨J29, eJ29, h⟩ := h
      obtain ⟨M29, eM29, hM29⟩ := o_stI hM27 wthis.2.1.2 rfl (t_add (show (170 : Int32).toInt = 170 from rfl) (t_add (t_mul (show (8 : Int32).toInt = 8 from rfl) tv1) tv2)) (show (0 : Int32).toInt = 0 from rfl) eJ29
      refine ok_b eM29 ?_
      refine h_X12_measure_L230   _ wthis _ _ (t_add (t_mul (show (8 : Int32).toInt = 8 from rfl) tv1) tv2) _ _ _ (show (0 : Int32).toInt = 0 from rfl) _ _ hM29 h
    by_cases c3 : 200 ≤ zv17
    · replace h := it_t c3 h
      refine ok_t ((c_le (show (200 : Int32).toInt = 200 from rfl) tv17).mpr c3) ?_
      exact Jk19 _ _ hM9 h
    · replace h := it_f c3 h
      refine ok_f (mt (c_le (show (200 : Int32).toInt = 200 from rfl) tv17).mp c3) ?_
      refine ok_b (o_rdS hM9 wthis.1 (wthis.2.1.1)) ?_
      refine ok_s ?_
      replace h := ob h; obtain ⟨J48, eJ48, h⟩ := h
      obtain ⟨M48, eM48, hM48⟩ := o_stI hM9 wthis.2.1.2 rfl (t_add (show (2270 : Int32).toInt = 2270 from rfl) tv17) tp1 eJ48
      refine ok_b eM48 ?_
      refine ok_b (o_rdS hM48 wthis.1 (wthis.2.1.1)) ?_
      refine ok_b (o_rdS hM48 wthis.1 (wthis.2.1.1)) ?_
      refine ok_s ?_
      replace h := ob h; obtain ⟨zv52, ezv52, h⟩ := h
      obtain ⟨v52, ev52, tv52⟩ := o_ldI hM48 wthis.2.1.2 rfl (show (1 : Int32).toInt = 1 from rfl) ezv52
      refine ok_b ev52 ?_
      refine ok_s ?_
      replace h := ob h; obtain ⟨J54, eJ54, h⟩ := h
      obtain ⟨M54, eM54, hM54⟩ := o_stI hM48 wthis.2.1.2 rfl (t_add (show (2470 : Int32).toInt = 2470 from rfl) tv17) tv52 eJ54
      refine ok_b eM54 ?_
      refine ok_b (o_rdS hM54 wthis.1 (wthis.2.1.1)) ?_
      refine ok_s ?_
      replace h := ob h; obtain ⟨J57, eJ57, h⟩ := h
      obtain ⟨M57, eM57, hM57⟩ := o_stI hM54 wthis.2.1.2 rfl (t_add (show (2670 : Int32).toInt = 2670 from rfl) tv17) (t_add (t_mul (show (8 : Int32).toInt = 8 from rfl) tv1) tv2) eJ57
      refine ok_b eM57 ?_
      refine ok_b (o_rdS hM57 wthis.1 (wthis.2.1.1)) ?_
      refine ok_s ?_
      replace h := ob h; obtain ⟨J60, eJ60, h⟩ := h
      obtain ⟨M60, eM60, hM60⟩ := o_stI hM57 wthis.2.1.2 rfl (t_add (show (2870 : Int32).toInt = 2870 from rfl) tv17) ts8 eJ60
      refine ok_b eM60 ?_
      refine ok_b (o_rdS hM60 wthis.1 (wthis.2.1.1)) ?_
      refine ok_b (o_rdS hM60 wthis.1 (wthis.2.1.1)) ?_
      refine ok_s ?_
      replace h := ob h; obtain ⟨zv64, ezv64, h⟩ := h
      obtain ⟨v64, ev64, tv64⟩ := o_ldI hM60 wthis.2.1.2 rfl (t_add (show (2218 : Int32).toInt = 2218 from rfl) tp1) ezv64
      refine ok_b ev64 ?_
      refine ok_s ?_
      replace h := ob h; obtain ⟨J66, eJ66, h⟩ := h
      obtain ⟨M66, eM66, hM66⟩ := o_stI hM60 wthis.2.1.2 rfl (t_add (show (3070 : Int32).toInt = 3070 from rfl) tv17) tv64 eJ66
      refine ok_b eM66 ?_
      refine ok_b (o_rdS hM66 wthis.1 (wthis.2.1.1)) ?_
      refine ok_s ?_
      replace h := ob h; obtain ⟨J69, eJ69, h⟩ := h
      obtain ⟨M69, eM69, hM69⟩ := o_stI hM66 wthis.2.1.2 rfl (t_add (show (3270 : Int32).toInt = 3270 from rfl) tv17) (t_add tv11 (t_mul (show (3 : Int32).toInt = 3 from rfl) tv14)) eJ69
      refine ok_b eM69 ?_
      refine ok_b (o_rdS hM69 wthis.1 (wthis.2.1.1)) ?_
      refine ok_s ?_
      replace h := ob h; obtain ⟨zv72, ezv72, h⟩ := h
      obtain ⟨v72, ev72, tv72⟩ := o_ldI hM69 wthis.2.1.2 rfl (show (2 : Int32).toInt = 2 from rfl) ezv72
      refine ok_b ev72 ?_
      replace h := ob h; obtain ⟨J74, eJ74, h⟩ := h
      obtain ⟨M74, eM74, hM74⟩ := o_stI hM69 wthis.2.1.2 rfl (show (2 : Int32).toInt = 2 from rfl) (t_add tv72 (show (1 : Int32).toInt = 1 from rfl)) eJ74
      refine ok_b eM74 ?_
      exact Jk19 _ _ hM74 h
  by_cases c4 : zv5 ≤ (J this 6)
  · replace h := it_t c4 h
    refine ok_t ((c_le tv5 tv3).mpr c4) ?_
    refine ok_b (o_rdS hM wthis.1 (wthis.2.1.1)) ?_
    refine ok_s ?_
    replace h := ob h; obtain ⟨zv78, ezv78, h⟩ := h
    obtain ⟨v78, ev78, tv78⟩ := o_ldI hM wthis.2.1.2 rfl (t_add (show (10 : Int32).toInt = 10 from rfl) (t_add (t_mul (show (8 : Int32).toInt = 8 from rfl) tv1) tv2)) ezv78
    refine ok_b ev78 ?_
    exact Jk7 _ _ (t_sub tv78 (show (1 : Int32).toInt = 1 from rfl)) _ _ hM h
  · replace h := it_f c4 h
    refine ok_f (mt (c_le tv5 tv3).mp c4) ?_
    obtain ⟨v80, ev80, tv80⟩ := o_rdI (k := 6) hM wthis.1
    refine ok_b ev80 ?_
    exact Jk7 _ _ tv80 _ _ hM h

set_option maxHeartbeats 4000000 in
set_option maxRecDepth 100000 in
theorem h_X12_nearer {E : Em} {M : Mm} {J : Jm} (hM : Mre E M J) {this : Nat} (wthis : W12 E this) {p1 : Int32} {zp1 : Int} (tp1 : p1.toInt = zp1) {p2 : Int32} {zp2 : Int} (tp2 : p2.toInt = zp2) {p3 : Int32} {zp3 : Int} (tp3 : p3.toInt = zp3) {z : Int} (h : H_X12_nearer this zp1 zp2 zp3 = some z) : Ok (F_X12_nearer this p1 p2 p3 M) (fun q => q.1.toInt = z ∧ Mre E q.2 J) := by
  unfold H_X12_nearer at h
  unfold F_X12_nearer
  by_cases c1 : zp2 ≤ zp3
  · replace h := it_t c1 h
    refine ok_t ((c_le tp2 tp3).mpr c1) ?_
    by_cases c2 : zp3 ≤ zp2
    · replace h := it_t c2 h
      refine ok_t ((c_le tp3 tp2).mpr c2) ?_
      exact o_ri0 tp1 hM h
    · replace h := it_f c2 h
      refine ok_f (mt (c_le tp3 tp2).mp c2) ?_
      by_cases c3 : zp1 ≤ (-2)
      · replace h := it_t c3 h
        refine ok_t ((c_le tp1 (show ((-2) : Int32).toInt = (-2) from rfl)).mpr c3) ?_
        exact o_ri0 tp1 hM h
      · replace h := it_f c3 h
        refine ok_f (mt (c_le tp1 (show ((-2) : Int32).toInt = (-2) from rfl)).mp c3) ?_
        exact o_ri0 (t_sub tp1 (show (1 : Int32).toInt = 1 from rfl)) hM h
  · replace h := it_f c1 h
    refine ok_f (mt (c_le tp2 tp3).mp c1) ?_
    by_cases c4 : 2 ≤ zp1
    · replace h := it_t c4 h
      refine ok_t ((c_le (show (2 : Int32).toInt = 2 from rfl) tp1).mpr c4) ?_
      by_cases c5 : zp3 ≤ zp2
      · replace h := it_t c5 h
        refine ok_t ((c_le tp3 tp2).mpr c5) ?_
        exact o_ri0 tp1 hM h
      · replace h := it_f c5 h
        refine ok_f (mt (c_le tp3 tp2).mp c5) ?_
        by_cases c6 : zp1 ≤ (-2)
        · replace h := it_t c6 h
          refine ok_t ((c_le tp1 (show ((-2) : Int32).toInt = (-2) from rfl)).mpr c6) ?_
          exact o_ri0 tp1 hM h
        · replace h := it_f c6 h
          refine ok_f (mt (c_le tp1 (show ((-2) : Int32).toInt = (-2) from rfl)).mp c6) ?_
          exact o_ri0 (t_sub tp1 (show (1 : Int32).toInt = 1 from rfl)) hM h
    · replace h := it_f c4 h
      refine ok_f (mt (c_le (show (2 : Int32).toInt = 2 from rfl) tp1).mp c4) ?_
      exact o_ri0 (t_add tp1 (show (1 : Int32).toInt = 1 from rfl)) hM h

set_option maxHeartbeats 4000000 in
set_option maxRecDepth 100000 in
theorem h_X12_learn_L73 {E : Em} {J1 : Jm}  (k142 : Int32 → Int32 → Mm → Option Mm) (k142h : Int → Int → Jm → Option Jm) (hk142 : ∀ (y0 : Int32) (zy0 : Int), y0.toInt = zy0 → ∀ (y1 : Int32) (zy1 : Int), y1.toInt = zy1 → ∀ (M9 : Mm) (J9 : Jm), Mre E M9 J9 → k142h zy0 zy1 J9 = some J1 → Ok (k142 y0 y1 M9) (fun q => Mre E q J1)) (x0 : Nat) (wx0 : W12 E x0) (x1 : Int32) (zx1 : Int) (tx1 : x1.toInt = zx1) (x6 : Int32) (zx6 : Int) (tx6 : x6.toInt = zx6) (x7 : Int32) (zx7 : Int) (tx7 : x7.toInt = zx7) : ∀ (fu : Nat), ∀ (x8 : Int32) (zx8 : Int), x8.toInt = zx8 → ∀ (x9 : Int32) (zx9 : Int), x9.toInt = zx9 → ∀ (x10 : Int32) (zx10 : Int), x10.toInt = zx10 → ∀ (M0 : Mm) (J0 : Jm), Mre E M0 J0 → H_X12_learn_L73 k142h x0 zx1 zx6 zx7 fu zx8 zx9 zx10 J0 = some J1 → Ok (F_X12_learn_L73 k142 x0 x1 x6 x7 fu x8 x9 x10 M0) (fun q => Mre E q J1) := by
  intro fu
  induction fu with
  | zero =>
    intro x8 zx8 tx8 x9 zx9 tx9 x10 zx10 tx10 M0 J0 hM0 h
    rw [H_X12_learn_L73] at h
    cases h
  | succ n13 ih =>
    intro x8 zx8 tx8 x9 zx9 tx9 x10 zx10 tx10 M0 J0 hM0 h
    rw [H_X12_learn_L73] at h
    rw [F_X12_learn_L73]
    obtain ⟨v14, ev14, tv14⟩ := o_rdI (k := 6) hM0 wx0.1
    refine ok_b ev14 ?_
    by_cases c1 : (J0 x0 6) < zx10
    · replace h := it_t c1 h
      refine ok_t ((c_lt tv14 tx10).mpr c1) ?_
      exact hk142 _ _ tx8 _ _ tx9 _ _ hM0 h
    · replace h := it_f c1 h
      refine ok_f (mt (c_lt tv14 tx10).mp c1) ?_
      refine ok_b (o_rdS hM0 wx0.1 (wx0.2.1.1)) ?_
      refine ok_s ?_
      replace h := ob h; obtain ⟨zv17, ezv17, h⟩ := h
      obtain ⟨v17, ev17, tv17⟩ := o_ldI hM0 wx0.2.1.2 rfl (t_add (show (10 : Int32).toInt = 10 from rfl) tx1) ezv17
      refine ok_b ev17 ?_
      by_cases c2 : zv17 ≤ zx10
      · replace h := it_t c2 h
        refine ok_t ((c_le tv17 tx10).mpr c2) ?_
        exact hk142 _ _ tx8 _ _ tx9 _ _ hM0 h
      · replace h := it_f c2 h
        refine ok_f (mt (c_le tv17 tx10).mp c2) ?_
        refine ok_b (o_rdS hM0 wx0.1 (wx0.2.1.1)) ?_
        refine ok_s ?_
        replace h := ob h; obtain ⟨zv21, ezv21, h⟩ := h
        obtain ⟨v21, ev21, tv21⟩ := o_ldI hM0 wx0.2.1.2 rfl (t_add (t_add (show (890 : Int32).toInt = 890 from rfl) (t_mul (show (4 : Int32).toInt = 4 from rfl) tx1)) tx10) ezv21
        refine ok_b ev21 ?_
        refine ok_b (o_rdS hM0 wx0.1 (wx0.2.1.1)) ?_
        refine ok_s ?_
        replace h := ob h; obtain ⟨zv24, ezv24, h⟩ := h
        obtain ⟨v24, ev24, tv24⟩ := o_ldI hM0 wx0.2.1.2 rfl (t_add (t_add (show (1210 : Int32).toInt = 1210 from rfl) (t_mul (show (4 : Int32).toInt = 4 from rfl) tx1)) tx10) ezv24
        refine ok_b ev24 ?_
        exact ih _ _ (t_add tx8 tv21) _ _ (t_add tx9 tv24) _ _ (t_add tx10 (show (1 : Int32).toInt = 1 from rfl)) _ _ hM0 h
set_option maxHeartbeats 4000000 in
set_option maxRecDepth 100000 in
theorem h_X12_learn_L145 {E : Em} {J1 : Jm}   (x0 : Nat) (wx0 : W12 E x0) (x1 : Int32) (zx1 : Int) (tx1 : x1.toInt = zx1) (x6 : Int32) (zx6 : Int) (tx6 : x6.toInt = zx6) (x7 : Int32) (zx7 : Int) (tx7 : x7.toInt = zx7) (x8 : Int32) (zx8 : Int) (tx8 : x8.toInt = zx8) (x9 : Int32) (zx9 : Int) (tx9 : x9.toInt = zx9) : ∀ (fu : Nat), ∀ (x10 : Int32) (zx10 : Int), x10.toInt = zx10 → ∀ (M0 : Mm) (J0 : Jm), Mre E M0 J0 → H_X12_learn_L145 x0 zx1 zx6 zx7 zx8 zx9 fu zx10 J0 = some J1 → Ok (F_X12_learn_L145 x0 x1 x6 x7 x8 x9 fu x10 M0) (fun q => Mre E q J1) := by
  intro fu
  induction fu with
  | zero =>
    intro x10 zx10 tx10 M0 J0 hM0 h
    rw [H_X12_learn_L145] at h
    cases h
  | succ n29 ih =>
    intro x10 zx10 tx10 M0 J0 hM0 h
    rw [H_X12_learn_L145] at h
    rw [F_X12_learn_L145]
    obtain ⟨v30, ev30, tv30⟩ := o_rdI (k := 6) hM0 wx0.1
    refine ok_b ev30 ?_
    by_cases c3 : (J0 x0 6) < zx10
    · replace h := it_t c3 h
      refine ok_t ((c_lt tv30 tx10).mpr c3) ?_
      exact o_rv hM0 h
    · replace h := it_f c3 h
      refine ok_f (mt (c_lt tv30 tx10).mp c3) ?_
      refine ok_b (o_rdS hM0 wx0.1 (wx0.2.1.1)) ?_
      refine ok_s ?_
      replace h := ob h; obtain ⟨zv33, ezv33, h⟩ := h
      obtain ⟨v33, ev33, tv33⟩ := o_ldI hM0 wx0.2.1.2 rfl (t_add (show (10 : Int32).toInt = 10 from rfl) tx1) ezv33
      refine ok_b ev33 ?_
      by_cases c4 : zv33 ≤ zx10
      · replace h := it_t c4 h
        refine ok_t ((c_le tv33 tx10).mpr c4) ?_
        exact o_rv hM0 h
      · replace h := it_f c4 h
        refine ok_f (mt (c_le tv33 tx10).mp c4) ?_
        refine ok_b (o_rdS hM0 wx0.1 (wx0.2.1.1)) ?_
        refine ok_b (o_rdS hM0 wx0.1 (wx0.2.1.1)) ?_
        refine ok_s ?_
        replace h := ob h; obtain ⟨zv38, ezv38, h⟩ := h
        obtain ⟨v38, ev38, tv38⟩ := o_ldI hM0 wx0.2.1.2 rfl (t_add (t_add (show (890 : Int32).toInt = 890 from rfl) (t_mul (show (4 : Int32).toInt = 4 from rfl) tx1)) tx10) ezv38
        refine ok_b ev38 ?_
        refine ok_b (o_isO hM0 wx0.1) ?_
        replace h := ob h; obtain ⟨zv42, ezv42, h⟩ := h
        obtain ⟨⟨v42, M40⟩, eM40, tv42, hM40⟩ := h_X12_nearer hM0 wx0 tv38 tx6 tx8 ezv42
        refine ok_b eM40 ?_
        refine ok_s ?_
        replace h := ob h; obtain ⟨J43, eJ43, h⟩ := h
        obtain ⟨M43, eM43, hM43⟩ := o_stI hM40 wx0.2.1.2 rfl (t_add (t_add (show (890 : Int32).toInt = 890 from rfl) (t_mul (show (4 : Int32).toInt = 4 from rfl) tx1)) tx10) tv42 eJ43
        refine ok_b eM43 ?_
        refine ok_b (o_rdS hM43 wx0.1 (wx0.2.1.1)) ?_
        refine ok_b (o_rdS hM43 wx0.1 (wx0.2.1.1)) ?_
        refine ok_s ?_
        replace h := ob h; obtain ⟨zv47, ezv47, h⟩ := h
        obtain ⟨v47, ev47, tv47⟩ := o_ldI hM43 wx0.2.1.2 rfl (t_add (t_add (show (1210 : Int32).toInt = 1210 from rfl) (t_mul (show (4 : Int32).toInt = 4 from rfl) tx1)) tx10) ezv47
        refine ok_b ev47 ?_
        refine ok_b (o_isO hM43 wx0.1) ?_
        replace h := ob h; obtain ⟨zv51, ezv51, h⟩ := h
        obtain ⟨⟨v51, M49⟩, eM49, tv51, hM49⟩ := h_X12_nearer hM43 wx0 tv47 tx7 tx9 ezv51
        refine ok_b eM49 ?_
        refine ok_s ?_
        replace h := ob h; obtain ⟨J52, eJ52, h⟩ := h
        obtain ⟨M52, eM52, hM52⟩ := o_stI hM49 wx0.2.1.2 rfl (t_add (t_add (show (1210 : Int32).toInt = 1210 from rfl) (t_mul (show (4 : Int32).toInt = 4 from rfl) tx1)) tx10) tv51 eJ52
        refine ok_b eM52 ?_
        exact ih _ _ (t_add tx10 (show (1 : Int32).toInt = 1 from rfl)) _ _ hM52 h
set_option maxHeartbeats 4000000 in
set_option maxRecDepth 100000 in
theorem h_X12_learn {E : Em} {M : Mm} {J : Jm} (hM : Mre E M J) {this : Nat} (wthis : W12 E this) {p1 : Int32} {zp1 : Int} (tp1 : p1.toInt = zp1) {p2 : Int32} {zp2 : Int} (tp2 : p2.toInt = zp2) {p3 : Int32} {zp3 : Int} (tp3 : p3.toInt = zp3) {J1 : Jm} (h : H_X12_learn this zp1 zp2 zp3 J = some J1) : Ok (F_X12_learn this p1 p2 p3 M) (fun q => Mre E q J1) := by
  unfold H_X12_learn at h
  unfold F_X12_learn
  obtain ⟨v1, ev1, tv1⟩ := o_rdI (k := 4) hM wthis.1
  refine ok_b ev1 ?_
  obtain ⟨v2, ev2, tv2⟩ := o_rdI (k := 5) hM wthis.1
  refine ok_b ev2 ?_
  replace h := ob h; obtain ⟨zv3, ezv3, h⟩ := h
  obtain ⟨v3, ev3, tv3⟩ := o_dvI tp1 (show (8 : Int32).toInt = 8 from rfl) ezv3
  refine ok_b ev3 ?_
  replace h := nv_e h; obtain ⟨J4, eJ4, h⟩ := h
  obtain ⟨M4, eM4, hM4⟩ := o_wrI (k := 4) hM wthis.1 tv3 eJ4
  refine ok_b eM4 ?_
  replace h := ob h; obtain ⟨zv5, ezv5, h⟩ := h
  obtain ⟨v5, ev5, tv5⟩ := o_rmI tp1 (show (8 : Int32).toInt = 8 from rfl) ezv5
  refine ok_b ev5 ?_
  replace h := nv_e h; obtain ⟨J6, eJ6, h⟩ := h
  obtain ⟨M6, eM6, hM6⟩ := o_wrI (k := 5) hM4 wthis.1 tv5 eJ6
  refine ok_b eM6 ?_
  refine ok_b (o_isO hM6 wthis.1) ?_
  replace h := ob h; obtain ⟨J7, eJ7, h⟩ := h
  obtain ⟨M7, eM7, hM7⟩ := h_X12_steps hM6 wthis tp2 tp3 eJ7
  refine ok_b eM7 ?_
  obtain ⟨v9, ev9, tv9⟩ := o_rdI (k := 4) hM7 wthis.1
  refine ok_b ev9 ?_
  obtain ⟨v10, ev10, tv10⟩ := o_rdI (k := 5) hM7 wthis.1
  refine ok_b ev10 ?_
  replace h := nv_e h; obtain ⟨J11, eJ11, h⟩ := h
  obtain ⟨M11, eM11, hM11⟩ := o_wrI (k := 4) hM7 wthis.1 tv1 eJ11
  refine ok_b eM11 ?_
  replace h := nv_e h; obtain ⟨J12, eJ12, h⟩ := h
  obtain ⟨M12, eM12, hM12⟩ := o_wrI (k := 5) hM11 wthis.1 tv2 eJ12
  refine ok_b eM12 ?_
  refine h_X12_learn_L73  _ _ ?_ _ wthis _ _ tp1 _ _ (t_sub tv1 tv9) _ _ (t_sub tv2 tv10) _ _ _ (show (0 : Int32).toInt = 0 from rfl) _ _ (show (0 : Int32).toInt = 0 from rfl) _ _ (show (0 : Int32).toInt = 0 from rfl) _ _ hM12 h
  intro y26 zy26 ty26 y27 zy27 ty27 M28 J28 hM28 h
  refine h_X12_learn_L145   _ wthis _ _ tp1 _ _ (t_sub tv1 tv9) _ _ (t_sub tv2 tv10) _ _ ty26 _ _ ty27 _ _ _ (show (0 : Int32).toInt = 0 from rfl) _ _ hM28 h

set_option maxHeartbeats 4000000 in
set_option maxRecDepth 100000 in
theorem h_X12_dives {E : Em} {M : Mm} {J : Jm} (hM : Mre E M J) {this : Nat} (wthis : W12 E this) {p1 : Int32} {zp1 : Int} (tp1 : p1.toInt = zp1) {p2 : Int32} {zp2 : Int} (tp2 : p2.toInt = zp2) {p3 : Int32} {zp3 : Int} (tp3 : p3.toInt = zp3) {p4 : Int32} {zp4 : Int} (tp4 : p4.toInt = zp4) {z : Int} {J1 : Jm} (h : H_X12_dives this zp1 zp2 zp3 zp4 J = some (z, J1)) : Ok (F_X12_dives this p1 p2 p3 p4 M) (fun q => q.1.toInt = z ∧ Mre E q.2 J1) := by
  unfold H_X12_dives at h
  unfold F_X12_dives
  refine ok_b (o_rdS hM wthis.1 (wthis.2.1.1)) ?_
  refine ok_s ?_
  replace h := ob h; obtain ⟨zv2, ezv2, h⟩ := h
  obtain ⟨v2, ev2, tv2⟩ := o_ldI hM wthis.2.1.2 rfl (t_add (show (2178 : Int32).toInt = 2178 from rfl) tp1) ezv2
  refine ok_b ev2 ?_
  refine ok_b (o_rdS hM wthis.1 (wthis.2.1.1)) ?_
  refine ok_s ?_
  replace h := ob h; obtain ⟨zv5, ezv5, h⟩ := h
  obtain ⟨v5, ev5, tv5⟩ := o_ldI hM wthis.2.1.2 rfl (t_add (show (2186 : Int32).toInt = 2186 from rfl) tp1) ezv5
  refine ok_b ev5 ?_
  refine ok_b (o_rdS hM wthis.1 (wthis.2.1.1)) ?_
  refine ok_s ?_
  replace h := ob h; obtain ⟨zv8, ezv8, h⟩ := h
  obtain ⟨v8, ev8, tv8⟩ := o_ldI hM wthis.2.1.2 rfl (t_add (show (2194 : Int32).toInt = 2194 from rfl) tp1) ezv8
  refine ok_b ev8 ?_
  refine ok_b (o_isO hM wthis.1) ?_
  replace h := ob h; obtain ⟨zv12, ezv12, h⟩ := h
  obtain ⟨⟨v12, M10⟩, eM10, tv12, hM10⟩ := h_X12_cost hM wthis tp1 tp2 ezv12
  refine ok_b eM10 ?_
  replace h := ob h; obtain ⟨J13, eJ13, h⟩ := h
  obtain ⟨M13, eM13, hM13⟩ := o_stI hM10 wthis.2.1.2 rfl (t_add (show (2194 : Int32).toInt = 2194 from rfl) tp1) (t_sub tv8 tv12) eJ13
  refine ok_b eM13 ?_
  refine ok_b (o_rdS hM13 wthis.1 (wthis.2.1.1)) ?_
  refine ok_s ?_
  replace h := ob h; obtain ⟨zv15, ezv15, h⟩ := h
  obtain ⟨v15, ev15, tv15⟩ := o_ldI hM13 wthis.2.1.2 rfl (t_add (show (2242 : Int32).toInt = 2242 from rfl) tp1) ezv15
  refine ok_b ev15 ?_
  replace h := ob h; obtain ⟨J17, eJ17, h⟩ := h
  obtain ⟨M17, eM17, hM17⟩ := o_stI hM13 wthis.2.1.2 rfl (t_add (show (2242 : Int32).toInt = 2242 from rfl) tp1) (t_add tv15 (show (1 : Int32).toInt = 1 from rfl)) eJ17
  refine ok_b eM17 ?_
  refine ok_b (o_rdS hM17 wthis.1 (wthis.2.1.1)) ?_
  refine ok_s ?_
  replace h := ob h; obtain ⟨zv19, ezv19, h⟩ := h
  obtain ⟨v19, ev19, tv19⟩ := o_ldI hM17 wthis.2.1.2 rfl (t_add (show (2178 : Int32).toInt = 2178 from rfl) tp1) ezv19
  refine ok_b ev19 ?_
  replace h := nv_e h; obtain ⟨J21, eJ21, h⟩ := h
  obtain ⟨M21, eM21, hM21⟩ := o_wrI (k := 4) hM17 wthis.1 tv19 eJ21
  refine ok_b eM21 ?_
  refine ok_b (o_rdS hM21 wthis.1 (wthis.2.1.1)) ?_
  refine ok_s ?_
  replace h := ob h; obtain ⟨zv23, ezv23, h⟩ := h
  obtain ⟨v23, ev23, tv23⟩ := o_ldI hM21 wthis.2.1.2 rfl (t_add (show (2186 : Int32).toInt = 2186 from rfl) tp1) ezv23
  refine ok_b ev23 ?_
  replace h := nv_e h; obtain ⟨J25, eJ25, h⟩ := h
  obtain ⟨M25, eM25, hM25⟩ := o_wrI (k := 5) hM21 wthis.1 tv23 eJ25
  refine ok_b eM25 ?_
  refine ok_b (o_isO hM25 wthis.1) ?_
  replace h := ob h; obtain ⟨J26, eJ26, h⟩ := h
  obtain ⟨M26, eM26, hM26⟩ := h_X12_sink hM25 wthis tp2 (show (0 : Int32).toInt = 0 from rfl) eJ26
  refine ok_b eM26 ?_
  obtain ⟨v28, ev28, tv28⟩ := o_rdI (k := 7) hM26 wthis.1
  refine ok_b ev28 ?_
  replace h := jp_e h; obtain ⟨k29h, ek29h, h⟩ := h
  refine ok_jp (fun k29 ek29 => ?_)
  have Jk29 : ∀ (M30 : Mm) (J30 : Jm), Mre E M30 J30 → k29h J30 = some (z, J1) → Ok (k29 M30) (fun q => q.1.toInt = z ∧ Mre E q.2 J1) := by
    intro M30 J30 hM30 h
    rw [ek29]
    rw [ek29h] at h
    refine ok_b (o_rdS hM30 wthis.1 (wthis.2.1.1)) ?_
    obtain ⟨v32, ev32, tv32⟩ := o_rdI (k := 4) hM30 wthis.1
    refine ok_b ev32 ?_
    refine ok_s ?_
    replace h := ob h; obtain ⟨J33, eJ33, h⟩ := h
    obtain ⟨M33, eM33, hM33⟩ := o_stI hM30 wthis.2.1.2 rfl (t_add (show (2178 : Int32).toInt = 2178 from rfl) tp1) tv32 eJ33
    refine ok_b eM33 ?_
    refine ok_b (o_rdS hM33 wthis.1 (wthis.2.1.1)) ?_
    obtain ⟨v36, ev36, tv36⟩ := o_rdI (k := 5) hM33 wthis.1
    refine ok_b ev36 ?_
    refine ok_s ?_
    replace h := ob h; obtain ⟨J37, eJ37, h⟩ := h
    obtain ⟨M37, eM37, hM37⟩ := o_stI hM33 wthis.2.1.2 rfl (t_add (show (2186 : Int32).toInt = 2186 from rfl) tp1) tv36 eJ37
    refine ok_b eM37 ?_
    obtain ⟨v39, ev39, tv39⟩ := o_rdI (k := 7) hM37 wthis.1
    refine ok_b ev39 ?_
    by_cases c1 : (J37 this 7) = 0
    · replace h := it_t c1 h
      refine ok_t ((c_eq tv39 (show (0 : Int32).toInt = 0 from rfl)).mpr c1) ?_
      refine ok_b (o_rdS hM37 wthis.1 (wthis.2.1.1)) ?_
      obtain ⟨v42, ev42, tv42⟩ := o_rdI (k := 4) hM37 wthis.1
      refine ok_b ev42 ?_
      obtain ⟨v43, ev43, tv43⟩ := o_rdI (k := 5) hM37 wthis.1
      refine ok_b ev43 ?_
      refine ok_s ?_
      replace h := ob h; obtain ⟨zv44, ezv44, h⟩ := h
      obtain ⟨v44, ev44, tv44⟩ := o_ldI hM37 wthis.2.1.2 rfl (t_add (t_add (show (90 : Int32).toInt = 90 from rfl) (t_mul (show (8 : Int32).toInt = 8 from rfl) tv42)) tv43) ezv44
      refine ok_b ev44 ?_
      replace h := jp_e h; obtain ⟨k46h, ek46h, h⟩ := h
      refine ok_jp (fun k46 ek46 => ?_)
      have Jk46 : ∀ (M47 : Mm) (J47 : Jm), Mre E M47 J47 → k46h J47 = some (z, J1) → Ok (k46 M47) (fun q => q.1.toInt = z ∧ Mre E q.2 J1) := by
        intro M47 J47 hM47 h
        rw [ek46]
        rw [ek46h] at h
        refine ok_b (o_isO hM47 wthis.1) ?_
        replace h := ob h; obtain ⟨J48, eJ48, h⟩ := h
        obtain ⟨M48, eM48, hM48⟩ := h_X12_learn hM47 wthis (t_add (t_mul (show (8 : Int32).toInt = 8 from rfl) tv2) tv5) tp3 tp4 eJ48
        refine ok_b eM48 ?_
        obtain ⟨v50, ev50, tv50⟩ := o_rdI (k := 4) hM48 wthis.1
        refine ok_b ev50 ?_
        obtain ⟨v51, ev51, tv51⟩ := o_rdI (k := 5) hM48 wthis.1
        refine ok_b ev51 ?_
        exact o_ri (t_add (t_mul (show (8 : Int32).toInt = 8 from rfl) tv50) tv51) hM48 h
      by_cases c2 : zv44 = 1
      · replace h := it_t c2 h
        refine ok_t ((c_eq tv44 (show (1 : Int32).toInt = 1 from rfl)).mpr c2) ?_
        refine ok_b (o_rdS hM37 wthis.1 (wthis.2.1.1)) ?_
        refine ok_b (o_rdS hM37 wthis.1 (wthis.2.1.1)) ?_
        refine ok_s ?_
        replace h := ob h; obtain ⟨zv56, ezv56, h⟩ := h
        obtain ⟨v56, ev56, tv56⟩ := o_ldI hM37 wthis.2.1.2 rfl (t_add (show (2194 : Int32).toInt = 2194 from rfl) tp1) ezv56
        refine ok_b ev56 ?_
        by_cases c3 : zv56 ≤ 5
        · replace h := it_t c3 h
          refine ok_t ((c_le tv56 (show (5 : Int32).toInt = 5 from rfl)).mpr c3) ?_
          refine ok_s ?_
          replace h := ob h; obtain ⟨J59, eJ59, h⟩ := h
          obtain ⟨M59, eM59, hM59⟩ := o_stI hM37 wthis.2.1.2 rfl (t_add (show (2194 : Int32).toInt = 2194 from rfl) tp1) (show (0 : Int32).toInt = 0 from rfl) eJ59
          refine ok_b eM59 ?_
          exact Jk46 _ _ hM59 h
        · replace h := it_f c3 h
          refine ok_f (mt (c_le tv56 (show (5 : Int32).toInt = 5 from rfl)).mp c3) ?_
          refine ok_b (o_rdS hM37 wthis.1 (wthis.2.1.1)) ?_
          refine ok_s ?_
          replace h := ob h; obtain ⟨zv62, ezv62, h⟩ := h
          obtain ⟨v62, ev62, tv62⟩ := o_ldI hM37 wthis.2.1.2 rfl (t_add (show (2194 : Int32).toInt = 2194 from rfl) tp1) ezv62
          refine ok_b ev62 ?_
          refine ok_s ?_
          replace h := ob h; obtain ⟨J64, eJ64, h⟩ := h
          obtain ⟨M64, eM64, hM64⟩ := o_stI hM37 wthis.2.1.2 rfl (t_add (show (2194 : Int32).toInt = 2194 from rfl) tp1) (t_sub tv62 (show (5 : Int32).toInt = 5 from rfl)) eJ64
          refine ok_b eM64 ?_
          exact Jk46 _ _ hM64 h
      · replace h := it_f c2 h
        refine ok_f (mt (c_eq tv44 (show (1 : Int32).toInt = 1 from rfl)).mp c2) ?_
        exact Jk46 _ _ hM37 h
    · replace h := it_f c1 h
      refine ok_f (mt (c_eq tv39 (show (0 : Int32).toInt = 0 from rfl)).mp c1) ?_
      refine ok_b (o_rdS hM37 wthis.1 (wthis.2.1.1)) ?_
      refine ok_s ?_
      replace h := ob h; obtain ⟨J67, eJ67, h⟩ := h
      obtain ⟨M67, eM67, hM67⟩ := o_stI hM37 wthis.2.1.2 rfl (t_add (show (2202 : Int32).toInt = 2202 from rfl) tp1) (show (2 : Int32).toInt = 2 from rfl) eJ67
      refine ok_b eM67 ?_
      exact o_ri (show ((-5) : Int32).toInt = (-5) from rfl) hM67 h
  by_cases c4 : (J26 this 7) = 0
  · replace h := it_t c4 h
    refine ok_t ((c_eq tv28 (show (0 : Int32).toInt = 0 from rfl)).mpr c4) ?_
    refine ok_b (o_isO hM26 wthis.1) ?_
    replace h := ob h; obtain ⟨J71, eJ71, h⟩ := h
    obtain ⟨M71, eM71, hM71⟩ := h_X12_steps hM26 wthis tp3 tp4 eJ71
    refine ok_b eM71 ?_
    refine ok_b (o_isO hM71 wthis.1) ?_
    replace h := ob h; obtain ⟨J73, eJ73, h⟩ := h
    obtain ⟨M73, eM73, hM73⟩ := h_X12_measure hM71 wthis tp1 eJ73
    refine ok_b eM73 ?_
    exact Jk29 _ _ hM73 h
  · replace h := it_f c4 h
    refine ok_f (mt (c_eq tv28 (show (0 : Int32).toInt = 0 from rfl)).mp c4) ?_
    exact Jk29 _ _ hM26 h

set_option maxHeartbeats 4000000 in
set_option maxRecDepth 100000 in
theorem h_X12_dive {E : Em} {M : Mm} {J : Jm} (hM : Mre E M J) {this : Nat} (wthis : W12 E this) {p1 : Int32} {zp1 : Int} (tp1 : p1.toInt = zp1) {p2 : Int32} {zp2 : Int} (tp2 : p2.toInt = zp2) {p3 : Int32} {zp3 : Int} (tp3 : p3.toInt = zp3) {p4 : Int32} {zp4 : Int} (tp4 : p4.toInt = zp4) {z : Int} {J1 : Jm} (h : H_X12_dive this zp1 zp2 zp3 zp4 J = some (z, J1)) : Ok (F_X12_dive this p1 p2 p3 p4 M) (fun q => q.1.toInt = z ∧ Mre E q.2 J1) := by
  unfold H_X12_dive at h
  unfold F_X12_dive
  refine ok_b (o_isO hM wthis.1) ?_
  replace h := ob h; obtain ⟨zv3, ezv3, h⟩ := h
  obtain ⟨⟨v3, M1⟩, eM1, tv3, hM1⟩ := h_X12_isGlider hM wthis tp1 ezv3
  refine ok_b eM1 ?_
  by_cases c1 : zv3 = 0
  · replace h := it_t c1 h
    refine ok_t ((c_eq tv3 (show (0 : Int32).toInt = 0 from rfl)).mpr c1) ?_
    exact o_ri (show ((-1) : Int32).toInt = (-1) from rfl) hM1 h
  · replace h := it_f c1 h
    refine ok_f (mt (c_eq tv3 (show (0 : Int32).toInt = 0 from rfl)).mp c1) ?_
    refine ok_b (o_isO hM1 wthis.1) ?_
    replace h := ob h; obtain ⟨zv7, ezv7, h⟩ := h
    obtain ⟨⟨v7, M5⟩, eM5, tv7, hM5⟩ := h_X12_sinks hM1 wthis tp1 ezv7
    refine ok_b eM5 ?_
    refine ok_b (o_isO hM5 wthis.1) ?_
    replace h := ob h; obtain ⟨zv10, ezv10, h⟩ := h
    obtain ⟨⟨v10, M8⟩, eM8, tv10, hM8⟩ := h_X12_is hM5 wthis tp2 (show (0 : Int32).toInt = 0 from rfl) tv7 ezv10
    refine ok_b eM8 ?_
    by_cases c2 : zv10 = 0
    · replace h := it_t c2 h
      refine ok_t ((c_eq tv10 (show (0 : Int32).toInt = 0 from rfl)).mpr c2) ?_
      exact o_ri (show ((-1) : Int32).toInt = (-1) from rfl) hM8 h
    · replace h := it_f c2 h
      refine ok_f (mt (c_eq tv10 (show (0 : Int32).toInt = 0 from rfl)).mp c2) ?_
      refine ok_b (o_isO hM8 wthis.1) ?_
      replace h := ob h; obtain ⟨zv14, ezv14, h⟩ := h
      obtain ⟨⟨v14, M12⟩, eM12, tv14, hM12⟩ := h_X12_isHeading hM8 wthis tp1 tp3 tp4 ezv14
      refine ok_b eM12 ?_
      by_cases c3 : zv14 = 0
      · replace h := it_t c3 h
        refine ok_t ((c_eq tv14 (show (0 : Int32).toInt = 0 from rfl)).mpr c3) ?_
        exact o_ri (show ((-1) : Int32).toInt = (-1) from rfl) hM12 h
      · replace h := it_f c3 h
        refine ok_f (mt (c_eq tv14 (show (0 : Int32).toInt = 0 from rfl)).mp c3) ?_
        refine ok_b (o_isO hM12 wthis.1) ?_
        replace h := ob h; obtain ⟨zv18, ezv18, h⟩ := h
        obtain ⟨⟨v18, M16⟩, eM16, tv18, hM16⟩ := h_X12_isUp hM12 wthis tp1 ezv18
        refine ok_b eM16 ?_
        by_cases c4 : zv18 = 0
        · replace h := it_t c4 h
          refine ok_t ((c_eq tv18 (show (0 : Int32).toInt = 0 from rfl)).mpr c4) ?_
          exact o_ri (show ((-3) : Int32).toInt = (-3) from rfl) hM16 h
        · replace h := it_f c4 h
          refine ok_f (mt (c_eq tv18 (show (0 : Int32).toInt = 0 from rfl)).mp c4) ?_
          refine ok_b (o_rdS hM16 wthis.1 (wthis.2.1.1)) ?_
          refine ok_s ?_
          replace h := ob h; obtain ⟨zv21, ezv21, h⟩ := h
          obtain ⟨v21, ev21, tv21⟩ := o_ldI hM16 wthis.2.1.2 rfl (t_add (show (2194 : Int32).toInt = 2194 from rfl) tp1) ezv21
          refine ok_b ev21 ?_
          refine ok_b (o_isO hM16 wthis.1) ?_
          replace h := ob h; obtain ⟨zv25, ezv25, h⟩ := h
          obtain ⟨⟨v25, M23⟩, eM23, tv25, hM23⟩ := h_X12_cost hM16 wthis tp1 tp2 ezv25
          refine ok_b eM23 ?_
          by_cases c5 : zv25 ≤ zv21
          · replace h := it_t c5 h
            refine ok_t ((c_le tv25 tv21).mpr c5) ?_
            refine ok_b (o_isO hM23 wthis.1) ?_
            replace h := ob h; obtain ⟨⟨zv29, J27⟩, ezv29, h⟩ := h
            obtain ⟨⟨v29, M27⟩, eM27, tv29, hM27⟩ := h_X12_dives hM23 wthis tp1 tp2 tp3 tp4 ezv29
            refine ok_b eM27 ?_
            exact o_ri tv29 hM27 h
          · replace h := it_f c5 h
            refine ok_f (mt (c_le tv25 tv21).mp c5) ?_
            exact o_ri (show ((-3) : Int32).toInt = (-3) from rfl) hM23 h

set_option maxHeartbeats 4000000 in
set_option maxRecDepth 100000 in
theorem h_X12_at {E : Em} {M : Mm} {J : Jm} (hM : Mre E M J) {this : Nat} (wthis : W12 E this) {z : Int} (h : H_X12_at this J = some z) : Ok (F_X12_at this M) (fun q => q.1.toInt = z ∧ Mre E q.2 J) := by
  unfold H_X12_at at h
  unfold F_X12_at
  obtain ⟨v1, ev1, tv1⟩ := o_rdI (k := 12) hM wthis.1
  refine ok_b ev1 ?_
  obtain ⟨v2, ev2, tv2⟩ := o_rdI (k := 11) hM wthis.1
  refine ok_b ev2 ?_
  by_cases c1 : (J this 12) < (J this 11)
  · replace h := it_t c1 h
    refine ok_t ((c_lt tv1 tv2).mpr c1) ?_
    obtain ⟨v4, ev4, tv4⟩ := o_rdI (k := 13) hM wthis.1
    refine ok_b ev4 ?_
    by_cases c2 : (J this 13) = 0
    · replace h := it_t c2 h
      refine ok_t ((c_eq tv4 (show (0 : Int32).toInt = 0 from rfl)).mpr c2) ?_
      refine ok_b (o_rdS hM wthis.1 (wthis.2.1.1)) ?_
      obtain ⟨v7, ev7, tv7⟩ := o_rdI (k := 10) hM wthis.1
      refine ok_b ev7 ?_
      obtain ⟨v8, ev8, tv8⟩ := o_rdI (k := 12) hM wthis.1
      refine ok_b ev8 ?_
      refine ok_s ?_
      replace h := ob h; obtain ⟨zv9, ezv9, h⟩ := h
      obtain ⟨v9, ev9, tv9⟩ := o_ldI hM wthis.2.1.2 rfl (t_add tv7 tv8) ezv9
      refine ok_b ev9 ?_
      exact o_ri0 tv9 hM h
    · replace h := it_f c2 h
      refine ok_f (mt (c_eq tv4 (show (0 : Int32).toInt = 0 from rfl)).mp c2) ?_
      refine ok_b (o_rdS hM wthis.1 (wthis.2.2.2.1.1)) ?_
      obtain ⟨v12, ev12, tv12⟩ := o_rdI (k := 12) hM wthis.1
      refine ok_b ev12 ?_
      refine ok_s ?_
      replace h := ob h; obtain ⟨zv13, ezv13, h⟩ := h
      obtain ⟨v13, ev13, tv13⟩ := o_ldI hM wthis.2.2.2.1.2 rfl tv12 ezv13
      refine ok_b ev13 ?_
      exact o_ri0 tv13 hM h
  · replace h := it_f c1 h
    refine ok_f (mt (c_lt tv1 tv2).mp c1) ?_
    exact o_ri0 (show ((-1) : Int32).toInt = (-1) from rfl) hM h

set_option maxHeartbeats 4000000 in
set_option maxRecDepth 100000 in
theorem h_X12_takes {E : Em} {M : Mm} {J : Jm} (hM : Mre E M J) {this : Nat} (wthis : W12 E this) {p1 : Int32} {zp1 : Int} (tp1 : p1.toInt = zp1) {p2 : Int32} {zp2 : Int} (tp2 : p2.toInt = zp2) {z : Int} {J1 : Jm} (h : H_X12_takes this zp1 zp2 J = some (z, J1)) : Ok (F_X12_takes this p1 p2 M) (fun q => q.1.toInt = z ∧ Mre E q.2 J1) := by
  unfold H_X12_takes at h
  unfold F_X12_takes
  refine ok_b (o_isO hM wthis.1) ?_
  replace h := ob h; obtain ⟨zv3, ezv3, h⟩ := h
  obtain ⟨⟨v3, M1⟩, eM1, tv3, hM1⟩ := h_X12_at hM wthis ezv3
  refine ok_b eM1 ?_
  refine ok_b (o_isO hM1 wthis.1) ?_
  replace h := ob h; obtain ⟨zv6, ezv6, h⟩ := h
  obtain ⟨⟨v6, M4⟩, eM4, tv6, hM4⟩ := h_X12_is hM1 wthis tv3 (t_add (show (48 : Int32).toInt = 48 from rfl) tp1) (t_add (show (48 : Int32).toInt = 48 from rfl) tp2) ezv6
  refine ok_b eM4 ?_
  by_cases c1 : zv6 = 0
  · replace h := it_t c1 h
    refine ok_t ((c_eq tv6 (show (0 : Int32).toInt = 0 from rfl)).mpr c1) ?_
    exact o_ri (show (0 : Int32).toInt = 0 from rfl) hM4 h
  · replace h := it_f c1 h
    refine ok_f (mt (c_eq tv6 (show (0 : Int32).toInt = 0 from rfl)).mp c1) ?_
    refine ok_b (o_isO hM4 wthis.1) ?_
    replace h := ob h; obtain ⟨zv10, ezv10, h⟩ := h
    obtain ⟨⟨v10, M8⟩, eM8, tv10, hM8⟩ := h_X12_at hM4 wthis ezv10
    refine ok_b eM8 ?_
    replace h := nv_e h; obtain ⟨J11, eJ11, h⟩ := h
    obtain ⟨M11, eM11, hM11⟩ := o_wrI (k := 14) hM8 wthis.1 (t_sub tv10 (show (48 : Int32).toInt = 48 from rfl)) eJ11
    refine ok_b eM11 ?_
    obtain ⟨v12, ev12, tv12⟩ := o_rdI (k := 12) hM11 wthis.1
    refine ok_b ev12 ?_
    replace h := nv_e h; obtain ⟨J13, eJ13, h⟩ := h
    obtain ⟨M13, eM13, hM13⟩ := o_wrI (k := 12) hM11 wthis.1 (t_add tv12 (show (1 : Int32).toInt = 1 from rfl)) eJ13
    refine ok_b eM13 ?_
    exact o_ri (show (1 : Int32).toInt = 1 from rfl) hM13 h

set_option maxHeartbeats 4000000 in
set_option maxRecDepth 100000 in
theorem h_X12_isField {E : Em} {M : Mm} {J : Jm} (hM : Mre E M J) {this : Nat} (wthis : W12 E this) {p1 : Int32} {zp1 : Int} (tp1 : p1.toInt = zp1) {z : Int} (h : H_X12_isField this zp1 = some z) : Ok (F_X12_isField this p1 M) (fun q => q.1.toInt = z ∧ Mre E q.2 J) := by
  unfold H_X12_isField at h
  unfold F_X12_isField
  by_cases c1 : zp1 = 112
  · replace h := it_t c1 h
    refine ok_t ((c_eq tp1 (show (112 : Int32).toInt = 112 from rfl)).mpr c1) ?_
    exact o_ri0 (show (1 : Int32).toInt = 1 from rfl) hM h
  · replace h := it_f c1 h
    refine ok_f (mt (c_eq tp1 (show (112 : Int32).toInt = 112 from rfl)).mp c1) ?_
    by_cases c2 : zp1 = 120
    · replace h := it_t c2 h
      refine ok_t ((c_eq tp1 (show (120 : Int32).toInt = 120 from rfl)).mpr c2) ?_
      exact o_ri0 (show (1 : Int32).toInt = 1 from rfl) hM h
    · replace h := it_f c2 h
      refine ok_f (mt (c_eq tp1 (show (120 : Int32).toInt = 120 from rfl)).mp c2) ?_
      by_cases c3 : zp1 = 121
      · replace h := it_t c3 h
        refine ok_t ((c_eq tp1 (show (121 : Int32).toInt = 121 from rfl)).mpr c3) ?_
        exact o_ri0 (show (1 : Int32).toInt = 1 from rfl) hM h
      · replace h := it_f c3 h
        refine ok_f (mt (c_eq tp1 (show (121 : Int32).toInt = 121 from rfl)).mp c3) ?_
        by_cases c4 : zp1 = 108
        · replace h := it_t c4 h
          refine ok_t ((c_eq tp1 (show (108 : Int32).toInt = 108 from rfl)).mpr c4) ?_
          exact o_ri0 (show (1 : Int32).toInt = 1 from rfl) hM h
        · replace h := it_f c4 h
          refine ok_f (mt (c_eq tp1 (show (108 : Int32).toInt = 108 from rfl)).mp c4) ?_
          by_cases c5 : zp1 = 102
          · replace h := it_t c5 h
            refine ok_t ((c_eq tp1 (show (102 : Int32).toInt = 102 from rfl)).mpr c5) ?_
            exact o_ri0 (show (1 : Int32).toInt = 1 from rfl) hM h
          · replace h := it_f c5 h
            refine ok_f (mt (c_eq tp1 (show (102 : Int32).toInt = 102 from rfl)).mp c5) ?_
            by_cases c6 : zp1 = 104
            · replace h := it_t c6 h
              refine ok_t ((c_eq tp1 (show (104 : Int32).toInt = 104 from rfl)).mpr c6) ?_
              exact o_ri0 (show (1 : Int32).toInt = 1 from rfl) hM h
            · replace h := it_f c6 h
              refine ok_f (mt (c_eq tp1 (show (104 : Int32).toInt = 104 from rfl)).mp c6) ?_
              by_cases c7 : zp1 = 116
              · replace h := it_t c7 h
                refine ok_t ((c_eq tp1 (show (116 : Int32).toInt = 116 from rfl)).mpr c7) ?_
                exact o_ri0 (show (1 : Int32).toInt = 1 from rfl) hM h
              · replace h := it_f c7 h
                refine ok_f (mt (c_eq tp1 (show (116 : Int32).toInt = 116 from rfl)).mp c7) ?_
                by_cases c8 : zp1 = 115
                · replace h := it_t c8 h
                  refine ok_t ((c_eq tp1 (show (115 : Int32).toInt = 115 from rfl)).mpr c8) ?_
                  exact o_ri0 (show (1 : Int32).toInt = 1 from rfl) hM h
                · replace h := it_f c8 h
                  refine ok_f (mt (c_eq tp1 (show (115 : Int32).toInt = 115 from rfl)).mp c8) ?_
                  by_cases c9 : zp1 = 100
                  · replace h := it_t c9 h
                    refine ok_t ((c_eq tp1 (show (100 : Int32).toInt = 100 from rfl)).mpr c9) ?_
                    exact o_ri0 (show (1 : Int32).toInt = 1 from rfl) hM h
                  · replace h := it_f c9 h
                    refine ok_f (mt (c_eq tp1 (show (100 : Int32).toInt = 100 from rfl)).mp c9) ?_
                    exact o_ri0 (show (0 : Int32).toInt = 0 from rfl) hM h

set_option maxHeartbeats 4000000 in
set_option maxRecDepth 100000 in
theorem h_X12_fieldOf {E : Em} {M : Mm} {J : Jm} (hM : Mre E M J) {this : Nat} (wthis : W12 E this) {p1 : Int32} {zp1 : Int} (tp1 : p1.toInt = zp1) {p2 : Int32} {zp2 : Int} (tp2 : p2.toInt = zp2) {z : Int} (h : H_X12_fieldOf this zp1 zp2 J = some z) : Ok (F_X12_fieldOf this p1 p2 M) (fun q => q.1.toInt = z ∧ Mre E q.2 J) := by
  unfold H_X12_fieldOf at h
  unfold F_X12_fieldOf
  by_cases c1 : 0 ≤ zp2
  · replace h := it_t c1 h
    refine ok_t ((c_le (show (0 : Int32).toInt = 0 from rfl) tp2).mpr c1) ?_
    by_cases c2 : zp1 = 102
    · replace h := it_t c2 h
      refine ok_t ((c_eq tp1 (show (102 : Int32).toInt = 102 from rfl)).mpr c2) ?_
      refine ok_b (o_rdS hM wthis.1 (wthis.2.1.1)) ?_
      refine ok_s ?_
      replace h := ob h; obtain ⟨zv4, ezv4, h⟩ := h
      obtain ⟨v4, ev4, tv4⟩ := o_ldI hM wthis.2.1.2 rfl (t_add (show (2218 : Int32).toInt = 2218 from rfl) tp2) ezv4
      refine ok_b ev4 ?_
      exact o_ri0 tv4 hM h
    · replace h := it_f c2 h
      refine ok_f (mt (c_eq tp1 (show (102 : Int32).toInt = 102 from rfl)).mp c2) ?_
      by_cases c3 : zp1 = 104
      · replace h := it_t c3 h
        refine ok_t ((c_eq tp1 (show (104 : Int32).toInt = 104 from rfl)).mpr c3) ?_
        refine ok_b (o_rdS hM wthis.1 (wthis.2.1.1)) ?_
        refine ok_s ?_
        replace h := ob h; obtain ⟨zv8, ezv8, h⟩ := h
        obtain ⟨v8, ev8, tv8⟩ := o_ldI hM wthis.2.1.2 rfl (t_add (show (2234 : Int32).toInt = 2234 from rfl) tp2) ezv8
        refine ok_b ev8 ?_
        by_cases c4 : 0 ≤ zv8
        · replace h := it_t c4 h
          refine ok_t ((c_le (show (0 : Int32).toInt = 0 from rfl) tv8).mpr c4) ?_
          refine ok_b (o_rdS hM wthis.1 (wthis.2.1.1)) ?_
          refine ok_s ?_
          replace h := ob h; obtain ⟨zv12, ezv12, h⟩ := h
          obtain ⟨v12, ev12, tv12⟩ := o_ldI hM wthis.2.1.2 rfl (show (1 : Int32).toInt = 1 from rfl) ezv12
          refine ok_b ev12 ?_
          refine ok_b (o_rdS hM wthis.1 (wthis.2.1.1)) ?_
          refine ok_s ?_
          replace h := ob h; obtain ⟨zv15, ezv15, h⟩ := h
          obtain ⟨v15, ev15, tv15⟩ := o_ldI hM wthis.2.1.2 rfl (t_add (show (2234 : Int32).toInt = 2234 from rfl) tp2) ezv15
          refine ok_b ev15 ?_
          exact o_ri0 (t_sub tv12 tv15) hM h
        · replace h := it_f c4 h
          refine ok_f (mt (c_le (show (0 : Int32).toInt = 0 from rfl) tv8).mp c4) ?_
          refine ok_b (o_rdS hM wthis.1 (wthis.2.1.1)) ?_
          refine ok_s ?_
          replace h := ob h; obtain ⟨zv18, ezv18, h⟩ := h
          obtain ⟨v18, ev18, tv18⟩ := o_ldI hM wthis.2.1.2 rfl (show (1 : Int32).toInt = 1 from rfl) ezv18
          refine ok_b ev18 ?_
          exact o_ri0 tv18 hM h
      · replace h := it_f c3 h
        refine ok_f (mt (c_eq tp1 (show (104 : Int32).toInt = 104 from rfl)).mp c3) ?_
        by_cases c5 : zp1 = 108
        · replace h := it_t c5 h
          refine ok_t ((c_eq tp1 (show (108 : Int32).toInt = 108 from rfl)).mpr c5) ?_
          refine ok_b (o_rdS hM wthis.1 (wthis.2.1.1)) ?_
          refine ok_s ?_
          replace h := ob h; obtain ⟨zv22, ezv22, h⟩ := h
          obtain ⟨v22, ev22, tv22⟩ := o_ldI hM wthis.2.1.2 rfl (t_add (show (2210 : Int32).toInt = 2210 from rfl) tp2) ezv22
          refine ok_b ev22 ?_
          exact o_ri0 tv22 hM h
        · replace h := it_f c5 h
          refine ok_f (mt (c_eq tp1 (show (108 : Int32).toInt = 108 from rfl)).mp c5) ?_
          by_cases c6 : zp1 = 112
          · replace h := it_t c6 h
            refine ok_t ((c_eq tp1 (show (112 : Int32).toInt = 112 from rfl)).mpr c6) ?_
            refine ok_b (o_rdS hM wthis.1 (wthis.2.1.1)) ?_
            refine ok_s ?_
            replace h := ob h; obtain ⟨zv26, ezv26, h⟩ := h
            obtain ⟨v26, ev26, tv26⟩ := o_ldI hM wthis.2.1.2 rfl (t_add (show (2194 : Int32).toInt = 2194 from rfl) tp2) ezv26
            refine ok_b ev26 ?_
            exact o_ri0 tv26 hM h
          · replace h := it_f c6 h
            refine ok_f (mt (c_eq tp1 (show (112 : Int32).toInt = 112 from rfl)).mp c6) ?_
            by_cases c7 : zp1 = 115
            · replace h := it_t c7 h
              refine ok_t ((c_eq tp1 (show (115 : Int32).toInt = 115 from rfl)).mpr c7) ?_
              refine ok_b (o_rdS hM wthis.1 (wthis.2.1.1)) ?_
              refine ok_s ?_
              replace h := ob h; obtain ⟨zv30, ezv30, h⟩ := h
              obtain ⟨v30, ev30, tv30⟩ := o_ldI hM wthis.2.1.2 rfl (t_add (show (2250 : Int32).toInt = 2250 from rfl) tp2) ezv30
              refine ok_b ev30 ?_
              by_cases c8 : 0 ≤ zv30
              · replace h := it_t c8 h
                refine ok_t ((c_le (show (0 : Int32).toInt = 0 from rfl) tv30).mpr c8) ?_
                refine ok_b (o_rdS hM wthis.1 (wthis.2.1.1)) ?_
                refine ok_s ?_
                replace h := ob h; obtain ⟨zv34, ezv34, h⟩ := h
                obtain ⟨v34, ev34, tv34⟩ := o_ldI hM wthis.2.1.2 rfl (t_add (show (2250 : Int32).toInt = 2250 from rfl) tp2) ezv34
                refine ok_b ev34 ?_
                exact o_ri0 tv34 hM h
              · replace h := it_f c8 h
                refine ok_f (mt (c_le (show (0 : Int32).toInt = 0 from rfl) tv30).mp c8) ?_
                exact o_ri0 (show (0 : Int32).toInt = 0 from rfl) hM h
            · replace h := it_f c7 h
              refine ok_f (mt (c_eq tp1 (show (115 : Int32).toInt = 115 from rfl)).mp c7) ?_
              by_cases c9 : zp1 = 116
              · replace h := it_t c9 h
                refine ok_t ((c_eq tp1 (show (116 : Int32).toInt = 116 from rfl)).mpr c9) ?_
                refine ok_b (o_rdS hM wthis.1 (wthis.2.1.1)) ?_
                refine ok_s ?_
                replace h := ob h; obtain ⟨zv38, ezv38, h⟩ := h
                obtain ⟨v38, ev38, tv38⟩ := o_ldI hM wthis.2.1.2 rfl (show (1 : Int32).toInt = 1 from rfl) ezv38
                refine ok_b ev38 ?_
                replace h := ob h; obtain ⟨zv40, ezv40, h⟩ := h
                obtain ⟨v40, ev40, tv40⟩ := o_rmI tv38 (show (10 : Int32).toInt = 10 from rfl) ezv40
                refine ok_b ev40 ?_
                exact o_ri0 tv40 hM h
              · replace h := it_f c9 h
                refine ok_f (mt (c_eq tp1 (show (116 : Int32).toInt = 116 from rfl)).mp c9) ?_
                by_cases c10 : zp1 = 120
                · replace h := it_t c10 h
                  refine ok_t ((c_eq tp1 (show (120 : Int32).toInt = 120 from rfl)).mpr c10) ?_
                  refine ok_b (o_rdS hM wthis.1 (wthis.2.1.1)) ?_
                  refine ok_s ?_
                  replace h := ob h; obtain ⟨zv43, ezv43, h⟩ := h
                  obtain ⟨v43, ev43, tv43⟩ := o_ldI hM wthis.2.1.2 rfl (t_add (show (2178 : Int32).toInt = 2178 from rfl) tp2) ezv43
                  refine ok_b ev43 ?_
                  exact o_ri0 tv43 hM h
                · replace h := it_f c10 h
                  refine ok_f (mt (c_eq tp1 (show (120 : Int32).toInt = 120 from rfl)).mp c10) ?_
                  by_cases c11 : zp1 = 121
                  · replace h := it_t c11 h
                    refine ok_t ((c_eq tp1 (show (121 : Int32).toInt = 121 from rfl)).mpr c11) ?_
                    refine ok_b (o_rdS hM wthis.1 (wthis.2.1.1)) ?_
                    refine ok_s ?_
                    replace h := ob h; obtain ⟨zv47, ezv47, h⟩ := h
                    obtain ⟨v47, ev47, tv47⟩ := o_ldI hM wthis.2.1.2 rfl (t_add (show (2186 : Int32).toInt = 2186 from rfl) tp2) ezv47
                    refine ok_b ev47 ?_
                    exact o_ri0 tv47 hM h
                  · replace h := it_f c11 h
                    refine ok_f (mt (c_eq tp1 (show (121 : Int32).toInt = 121 from rfl)).mp c11) ?_
                    refine ok_b (o_rdS hM wthis.1 (wthis.2.1.1)) ?_
                    refine ok_b (o_rdS hM wthis.1 (wthis.2.1.1)) ?_
                    refine ok_s ?_
                    replace h := ob h; obtain ⟨zv51, ezv51, h⟩ := h
                    obtain ⟨v51, ev51, tv51⟩ := o_ldI hM wthis.2.1.2 rfl (t_add (show (2178 : Int32).toInt = 2178 from rfl) tp2) ezv51
                    refine ok_b ev51 ?_
                    refine ok_b (o_rdS hM wthis.1 (wthis.2.1.1)) ?_
                    refine ok_s ?_
                    replace h := ob h; obtain ⟨zv54, ezv54, h⟩ := h
                    obtain ⟨v54, ev54, tv54⟩ := o_ldI hM wthis.2.1.2 rfl (t_add (show (2186 : Int32).toInt = 2186 from rfl) tp2) ezv54
                    refine ok_b ev54 ?_
                    refine ok_s ?_
                    replace h := ob h; obtain ⟨zv56, ezv56, h⟩ := h
                    obtain ⟨v56, ev56, tv56⟩ := o_ldI hM wthis.2.1.2 rfl (t_add (t_add (show (10 : Int32).toInt = 10 from rfl) (t_mul (show (8 : Int32).toInt = 8 from rfl) tv51)) tv54) ezv56
                    refine ok_b ev56 ?_
                    exact o_ri0 tv56 hM h
  · replace h := it_f c1 h
    refine ok_f (mt (c_le (show (0 : Int32).toInt = 0 from rfl) tp2).mp c1) ?_
    exact o_ri0 (show (0 : Int32).toInt = 0 from rfl) hM h

set_option maxHeartbeats 4000000 in
set_option maxRecDepth 100000 in
theorem h_X12_takesCheck_L2 {E : Em} {z : Int} {J1 : Jm}  (k34 : Int32 → Mm → Option (Int32 × Mm)) (k34h : Int → Jm → Option (Int × Jm)) (hk34 : ∀ (y0 : Int32) (zy0 : Int), y0.toInt = zy0 → ∀ (M9 : Mm) (J9 : Jm), Mre E M9 J9 → k34h zy0 J9 = some (z, J1) → Ok (k34 y0 M9) (fun q => q.1.toInt = z ∧ Mre E q.2 J1)) (x0 : Nat) (wx0 : W12 E x0) (x1 : Int32) (zx1 : Int) (tx1 : x1.toInt = zx1) : ∀ (fu : Nat), ∀ (x2 : Int32) (zx2 : Int), x2.toInt = zx2 → ∀ (M0 : Mm) (J0 : Jm), Mre E M0 J0 → H_X12_takesCheck_L2 k34h x0 zx1 fu zx2 J0 = some (z, J1) → Ok (F_X12_takesCheck_L2 k34 x0 x1 fu x2 M0) (fun q => q.1.toInt = z ∧ Mre E q.2 J1) := by
  intro fu
  induction fu with
  | zero =>
    intro x2 zx2 tx2 M0 J0 hM0 h
    rw [H_X12_takesCheck_L2] at h
    cases h
  | succ n1 ih =>
    intro x2 zx2 tx2 M0 J0 hM0 h
    rw [H_X12_takesCheck_L2] at h
    rw [F_X12_takesCheck_L2]
    refine ok_b (o_isO hM0 wx0.1) ?_
    replace h := ob h; obtain ⟨zv4, ezv4, h⟩ := h
    obtain ⟨⟨v4, M2⟩, eM2, tv4, hM2⟩ := h_X12_at hM0 wx0 ezv4
    refine ok_b eM2 ?_
    by_cases c1 : zv4 = 33
    · replace h := it_t c1 h
      refine ok_t ((c_eq tv4 (show (33 : Int32).toInt = 33 from rfl)).mpr c1) ?_
      replace h := nv_e h; obtain ⟨zv6, ezv6, h⟩ := h
      obtain ⟨v6, evv6⟩ : ∃ v : Int32, v = (if x2 = 0 then 1 else 0) := ⟨_, rfl⟩
      have tv6 : v6.toInt = zv6 := by rw [evv6, ezv6]; exact (t_ite (c_eq tx2 (show (0 : Int32).toInt = 0 from rfl)) (show (1 : Int32).toInt = 1 from rfl) (show (0 : Int32).toInt = 0 from rfl))
      refine ok_nv evv6 ?_
      obtain ⟨v8, ev8, tv8⟩ := o_rdI (k := 12) hM2 wx0.1
      refine ok_b ev8 ?_
      replace h := nv_e h; obtain ⟨J9, eJ9, h⟩ := h
      obtain ⟨M9, eM9, hM9⟩ := o_wrI (k := 12) hM2 wx0.1 (t_add tv8 (show (1 : Int32).toInt = 1 from rfl)) eJ9
      refine ok_b eM9 ?_
      exact ih _ _ tv6 _ _ hM9 h
    · replace h := it_f c1 h
      refine ok_f (mt (c_eq tv4 (show (33 : Int32).toInt = 33 from rfl)).mp c1) ?_
      exact hk34 _ _ tx2 _ _ hM2 h
set_option maxHeartbeats 4000000 in
set_option maxRecDepth 100000 in
theorem h_X12_takesCheck_L127 {E : Em} {z : Int} {J1 : Jm}  (k184 : Int32 → Mm → Option (Int32 × Mm)) (k184h : Int → Jm → Option (Int × Jm)) (hk184 : ∀ (y0 : Int32) (zy0 : Int), y0.toInt = zy0 → ∀ (M9 : Mm) (J9 : Jm), Mre E M9 J9 → k184h zy0 J9 = some (z, J1) → Ok (k184 y0 M9) (fun q => q.1.toInt = z ∧ Mre E q.2 J1)) (x0 : Nat) (wx0 : W12 E x0) (x2 : Int32) (zx2 : Int) (tx2 : x2.toInt = zx2) (x4 : Int32) (zx4 : Int) (tx4 : x4.toInt = zx4) (x5 : Int32) (zx5 : Int) (tx5 : x5.toInt = zx5) : ∀ (fu : Nat), ∀ (x6 : Int32) (zx6 : Int), x6.toInt = zx6 → ∀ (x7 : Int32) (zx7 : Int), x7.toInt = zx7 → ∀ (M0 : Mm) (J0 : Jm), Mre E M0 J0 → H_X12_takesCheck_L127 k184h x0 zx2 zx4 zx5 fu zx6 zx7 J0 = some (z, J1) → Ok (F_X12_takesCheck_L127 k184 x0 x2 x4 x5 fu x6 x7 M0) (fun q => q.1.toInt = z ∧ Mre E q.2 J1) := by
  intro fu
  induction fu with
  | zero =>
    intro x6 zx6 tx6 x7 zx7 tx7 M0 J0 hM0 h
    rw [H_X12_takesCheck_L127] at h
    cases h
  | succ n37 ih =>
    intro x6 zx6 tx6 x7 zx7 tx7 M0 J0 hM0 h
    rw [H_X12_takesCheck_L127] at h
    rw [F_X12_takesCheck_L127]
    by_cases c4 : 3 ≤ zx7
    · replace h := it_t c4 h
      refine ok_t ((c_le (show (3 : Int32).toInt = 3 from rfl) tx7).mpr c4) ?_
      exact hk184 _ _ tx6 _ _ hM0 h
    · replace h := it_f c4 h
      refine ok_f (mt (c_le (show (3 : Int32).toInt = 3 from rfl) tx7).mp c4) ?_
      by_cases c5 : zx6 ≤ 0
      · replace h := it_t c5 h
        refine ok_t ((c_le tx6 (show (0 : Int32).toInt = 0 from rfl)).mpr c5) ?_
        exact hk184 _ _ tx6 _ _ hM0 h
      · replace h := it_f c5 h
        refine ok_f (mt (c_le tx6 (show (0 : Int32).toInt = 0 from rfl)).mp c5) ?_
        refine ok_b (o_isO hM0 wx0.1) ?_
        replace h := ob h; obtain ⟨zv42, ezv42, h⟩ := h
        obtain ⟨⟨v42, M40⟩, eM40, tv42, hM40⟩ := h_X12_at hM0 wx0 ezv42
        refine ok_b eM40 ?_
        refine ok_b (o_isO hM40 wx0.1) ?_
        replace h := ob h; obtain ⟨zv45, ezv45, h⟩ := h
        obtain ⟨⟨v45, M43⟩, eM43, tv45, hM43⟩ := h_X12_is hM40 wx0 tv42 (show (48 : Int32).toInt = 48 from rfl) (show (57 : Int32).toInt = 57 from rfl) ezv45
        refine ok_b eM43 ?_
        by_cases c6 : zv45 = 0
        · replace h := it_t c6 h
          refine ok_t ((c_eq tv45 (show (0 : Int32).toInt = 0 from rfl)).mpr c6) ?_
          exact hk184 _ _ tx6 _ _ hM43 h
        · replace h := it_f c6 h
          refine ok_f (mt (c_eq tv45 (show (0 : Int32).toInt = 0 from rfl)).mp c6) ?_
          refine ok_b (o_isO hM43 wx0.1) ?_
          replace h := ob h; obtain ⟨zv49, ezv49, h⟩ := h
          obtain ⟨⟨v49, M47⟩, eM47, tv49, hM47⟩ := h_X12_at hM43 wx0 ezv49
          refine ok_b eM47 ?_
          obtain ⟨v50, ev50, tv50⟩ := o_rdI (k := 12) hM47 wx0.1
          refine ok_b ev50 ?_
          replace h := nv_e h; obtain ⟨J51, eJ51, h⟩ := h
          obtain ⟨M51, eM51, hM51⟩ := o_wrI (k := 12) hM47 wx0.1 (t_add tv50 (show (1 : Int32).toInt = 1 from rfl)) eJ51
          refine ok_b eM51 ?_
          exact ih _ _ (t_sub (t_add (t_mul (show (10 : Int32).toInt = 10 from rfl) tx6) tv49) (show (48 : Int32).toInt = 48 from rfl)) _ _ (t_add tx7 (show (1 : Int32).toInt = 1 from rfl)) _ _ hM51 h
set_option maxHeartbeats 4000000 in
set_option maxRecDepth 100000 in
theorem h_X12_takesCheck {E : Em} {M : Mm} {J : Jm} (hM : Mre E M J) {this : Nat} (wthis : W12 E this) {p1 : Int32} {zp1 : Int} (tp1 : p1.toInt = zp1) {z : Int} {J1 : Jm} (h : H_X12_takesCheck this zp1 J = some (z, J1)) : Ok (F_X12_takesCheck this p1 M) (fun q => q.1.toInt = z ∧ Mre E q.2 J1) := by
  unfold H_X12_takesCheck at h
  unfold F_X12_takesCheck
  refine h_X12_takesCheck_L2  _ _ ?_ _ wthis _ _ tp1 _ _ _ (show (0 : Int32).toInt = 0 from rfl) _ _ hM h
  intro y11 zy11 ty11 M12 J12 hM12 h
  refine ok_b (o_isO hM12 wthis.1) ?_
  replace h := ob h; obtain ⟨zv15, ezv15, h⟩ := h
  obtain ⟨⟨v15, M13⟩, eM13, tv15, hM13⟩ := h_X12_at hM12 wthis ezv15
  refine ok_b eM13 ?_
  refine ok_b (o_isO hM13 wthis.1) ?_
  replace h := ob h; obtain ⟨zv18, ezv18, h⟩ := h
  obtain ⟨⟨v18, M16⟩, eM16, tv18, hM16⟩ := h_X12_isField hM13 wthis tv15 ezv18
  refine ok_b eM16 ?_
  by_cases c2 : zv18 = 0
  · replace h := it_t c2 h
    refine ok_t ((c_eq tv18 (show (0 : Int32).toInt = 0 from rfl)).mpr c2) ?_
    exact o_ri (show (0 : Int32).toInt = 0 from rfl) hM16 h
  · replace h := it_f c2 h
    refine ok_f (mt (c_eq tv18 (show (0 : Int32).toInt = 0 from rfl)).mp c2) ?_
    refine ok_b (o_isO hM16 wthis.1) ?_
    replace h := ob h; obtain ⟨zv22, ezv22, h⟩ := h
    obtain ⟨⟨v22, M20⟩, eM20, tv22, hM20⟩ := h_X12_fieldOf hM16 wthis tv15 tp1 ezv22
    refine ok_b eM20 ?_
    obtain ⟨v23, ev23, tv23⟩ := o_rdI (k := 12) hM20 wthis.1
    refine ok_b ev23 ?_
    replace h := nv_e h; obtain ⟨J24, eJ24, h⟩ := h
    obtain ⟨M24, eM24, hM24⟩ := o_wrI (k := 12) hM20 wthis.1 (t_add tv23 (show (1 : Int32).toInt = 1 from rfl)) eJ24
    refine ok_b eM24 ?_
    refine ok_b (o_isO hM24 wthis.1) ?_
    replace h := ob h; obtain ⟨zv27, ezv27, h⟩ := h
    obtain ⟨⟨v27, M25⟩, eM25, tv27, hM25⟩ := h_X12_at hM24 wthis ezv27
    refine ok_b eM25 ?_
    replace h := jp_e h; obtain ⟨k28h, ek28h, h⟩ := h
    refine ok_jp (fun k28 ek28 => ?_)
    have Jk28 : ∀ (M29 : Mm) (J29 : Jm), Mre E M29 J29 → k28h J29 = some (z, J1) → Ok (k28 M29) (fun q => q.1.toInt = z ∧ Mre E q.2 J1) := by
      intro M29 J29 hM29 h
      rw [ek28]
      rw [ek28h] at h
      obtain ⟨v30, ev30, tv30⟩ := o_rdI (k := 12) hM29 wthis.1
      refine ok_b ev30 ?_
      replace h := nv_e h; obtain ⟨J31, eJ31, h⟩ := h
      obtain ⟨M31, eM31, hM31⟩ := o_wrI (k := 12) hM29 wthis.1 (t_add tv30 (show (1 : Int32).toInt = 1 from rfl)) eJ31
      refine ok_b eM31 ?_
      refine ok_b (o_isO hM31 wthis.1) ?_
      replace h := ob h; obtain ⟨⟨zv34, J32⟩, ezv34, h⟩ := h
      obtain ⟨⟨v34, M32⟩, eM32, tv34, hM32⟩ := h_X12_takes hM31 wthis (show (0 : Int32).toInt = 0 from rfl) (show (9 : Int32).toInt = 9 from rfl) ezv34
      refine ok_b eM32 ?_
      by_cases c3 : zv34 = 0
      · replace h := it_t c3 h
        refine ok_t ((c_eq tv34 (show (0 : Int32).toInt = 0 from rfl)).mpr c3) ?_
        exact o_ri (show (0 : Int32).toInt = 0 from rfl) hM32 h
      · replace h := it_f c3 h
        refine ok_f (mt (c_eq tv34 (show (0 : Int32).toInt = 0 from rfl)).mp c3) ?_
        obtain ⟨v36, ev36, tv36⟩ := o_rdI (k := 14) hM32 wthis.1
        refine ok_b ev36 ?_
        refine h_X12_takesCheck_L127  _ _ ?_ _ wthis _ _ ty11 _ _ tv22 _ _ tv27 _ _ _ tv36 _ _ (show (1 : Int32).toInt = 1 from rfl) _ _ hM32 h
        intro y52 zy52 ty52 M53 J53 hM53 h
        replace h := nv_e h; obtain ⟨zv54, ezv54, h⟩ := h
        obtain ⟨v54, evv54⟩ : ∃ v : Int32, v = (if v27 = 60 then (if y52 ≤ v22 then 0 else 1) else (if v27 = 61 then (if v22 = y52 then 1 else 0) else (if v22 ≤ y52 then 0 else 1))) := ⟨_, rfl⟩
        have tv54 : v54.toInt = zv54 := by rw [evv54, ezv54]; exact (t_ite (c_eq tv27 (show (60 : Int32).toInt = 60 from rfl)) (t_ite (c_le ty52 tv22) (show (0 : Int32).toInt = 0 from rfl) (show (1 : Int32).toInt = 1 from rfl)) (t_ite (c_eq tv27 (show (61 : Int32).toInt = 61 from rfl)) (t_ite (c_eq tv22 ty52) (show (1 : Int32).toInt = 1 from rfl) (show (0 : Int32).toInt = 0 from rfl)) (t_ite (c_le tv22 ty52) (show (0 : Int32).toInt = 0 from rfl) (show (1 : Int32).toInt = 1 from rfl))))
        refine ok_nv evv54 ?_
        obtain ⟨v56, ev56, tv56⟩ := o_rdI (k := 15) hM53 wthis.1
        refine ok_b ev56 ?_
        replace h := nv_e h; obtain ⟨zv57, ezv57, h⟩ := h
        obtain ⟨v57, evv57⟩ : ∃ v : Int32, v = (if v56 = 0 then 0 else (if v54 = y11 then 0 else 1)) := ⟨_, rfl⟩
        have tv57 : v57.toInt = zv57 := by rw [evv57, ezv57]; exact (t_ite (c_eq tv56 (show (0 : Int32).toInt = 0 from rfl)) (show (0 : Int32).toInt = 0 from rfl) (t_ite (c_eq tv54 ty11) (show (0 : Int32).toInt = 0 from rfl) (show (1 : Int32).toInt = 1 from rfl)))
        refine ok_nv evv57 ?_
        replace h := ob h; obtain ⟨_, hzM59, h⟩ := h
        replace h := nv_e h; obtain ⟨J59, eJ59, h⟩ := h
        obtain ⟨M59, eM59, hM59⟩ := o_wrZ (k := 15) hM53 wthis.1 tv57 (jZ_e hzM59) eJ59
        refine ok_b eM59 ?_
        exact o_ri (show (1 : Int32).toInt = 1 from rfl) hM59 h
    by_cases c7 : zv27 = 60
    · replace h := it_t c7 h
      refine ok_t ((c_eq tv27 (show (60 : Int32).toInt = 60 from rfl)).mpr c7) ?_
      exact Jk28 _ _ hM25 h
    · replace h := it_f c7 h
      refine ok_f (mt (c_eq tv27 (show (60 : Int32).toInt = 60 from rfl)).mp c7) ?_
      by_cases c8 : zv27 = 61
      · replace h := it_t c8 h
        refine ok_t ((c_eq tv27 (show (61 : Int32).toInt = 61 from rfl)).mpr c8) ?_
        exact Jk28 _ _ hM25 h
      · replace h := it_f c8 h
        refine ok_f (mt (c_eq tv27 (show (61 : Int32).toInt = 61 from rfl)).mp c8) ?_
        by_cases c9 : zv27 = 62
        · replace h := it_t c9 h
          refine ok_t ((c_eq tv27 (show (62 : Int32).toInt = 62 from rfl)).mpr c9) ?_
          exact Jk28 _ _ hM25 h
        · replace h := it_f c9 h
          refine ok_f (mt (c_eq tv27 (show (62 : Int32).toInt = 62 from rfl)).mp c9) ?_
          exact o_ri (show (0 : Int32).toInt = 0 from rfl) hM25 h
