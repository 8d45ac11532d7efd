set_option maxHeartbeats 4000000 in
set_option maxRecDepth 100000 in
theorem h_X11_isLayer {E : Em} {M : Mm} {J : Jm} (hM : Mre E M J) {p1 : Int32} {zp1 : Int} (tp1 : p1.toInt = zp1) {z : Int} (h : H_X11_isLayer zp1 = some z) : Ok (F_X11_isLayer p1 M) (fun q => q.1.toInt = z ∧ Mre E q.2 J) := by
  unfold H_X11_isLayer at h
  unfold F_X11_isLayer
  by_cases c1 : zp1 < 0
  · replace h := it_t c1 h
    refine ok_t ((c_lt tp1 (show (0 : Int32).toInt = 0 from rfl)).mpr c1) ?_
    exact o_ri0 (show (0 : Int32).toInt = 0 from rfl) hM h
  · replace h := it_f c1 h
    refine ok_f (mt (c_lt tp1 (show (0 : Int32).toInt = 0 from rfl)).mp c1) ?_
    by_cases c2 : 4 ≤ zp1
    · replace h := it_t c2 h
      refine ok_t ((c_le (show (4 : Int32).toInt = 4 from rfl) tp1).mpr c2) ?_
      exact o_ri0 (show (0 : Int32).toInt = 0 from rfl) hM h
    · replace h := it_f c2 h
      refine ok_f (mt (c_le (show (4 : Int32).toInt = 4 from rfl) tp1).mp c2) ?_
      exact o_ri0 (show (1 : Int32).toInt = 1 from rfl) hM h

set_option maxHeartbeats 4000000 in
set_option maxRecDepth 100000 in
theorem h_X11_isStream {E : Em} {M : Mm} {J : Jm} (hM : Mre E M J) {p1 : Int32} {zp1 : Int} (tp1 : p1.toInt = zp1) {z : Int} (h : H_X11_isStream zp1 = some z) : Ok (F_X11_isStream p1 M) (fun q => q.1.toInt = z ∧ Mre E q.2 J) := by
  unfold H_X11_isStream at h
  unfold F_X11_isStream
  by_cases c1 : zp1 < (-2)
  · replace h := it_t c1 h
    refine ok_t ((c_lt tp1 (show ((-2) : Int32).toInt = (-2) from rfl)).mpr c1) ?_
    exact o_ri0 (show (0 : Int32).toInt = 0 from rfl) hM h
  · replace h := it_f c1 h
    refine ok_f (mt (c_lt tp1 (show ((-2) : Int32).toInt = (-2) from rfl)).mp c1) ?_
    by_cases c2 : 2 < zp1
    · replace h := it_t c2 h
      refine ok_t ((c_lt (show (2 : Int32).toInt = 2 from rfl) tp1).mpr c2) ?_
      exact o_ri0 (show (0 : Int32).toInt = 0 from rfl) hM h
    · replace h := it_f c2 h
      refine ok_f (mt (c_lt (show (2 : Int32).toInt = 2 from rfl) tp1).mp c2) ?_
      exact o_ri0 (show (1 : Int32).toInt = 1 from rfl) hM h

set_option maxHeartbeats 4000000 in
set_option maxRecDepth 100000 in
theorem h_X11_stream {E : Em} {M : Mm} {J : Jm} (hM : Mre E M J) {this : Nat} (wthis : W11 E this) {p1 : Int32} {zp1 : Int} (tp1 : p1.toInt = zp1) {p2 : Int32} {zp2 : Int} (tp2 : p2.toInt = zp2) {p3 : Int32} {zp3 : Int} (tp3 : p3.toInt = zp3) {p4 : Int32} {zp4 : Int} (tp4 : p4.toInt = zp4) {p5 : Int32} {zp5 : Int} (tp5 : p5.toInt = zp5) {p6 : Int32} {zp6 : Int} (tp6 : p6.toInt = zp6) {z : Int} {J1 : Jm} (h : H_X11_stream this zp1 zp2 zp3 zp4 zp5 zp6 J = some (z, J1)) : Ok (F_X11_stream this p1 p2 p3 p4 p5 p6 M) (fun q => q.1.toInt = z ∧ Mre E q.2 J1) := by
  unfold H_X11_stream at h
  unfold F_X11_stream
  replace h := ob h; obtain ⟨zv2, ezv2, h⟩ := h
  obtain ⟨⟨v2, M1⟩, eM1, tv2, hM1⟩ := h_X11_isCell hM tp1 tp2 ezv2
  refine ok_b eM1 ?_
  by_cases c1 : zv2 = 0
  · replace h := it_t c1 h
    refine ok_t ((c_eq tv2 (show (0 : Int32).toInt = 0 from rfl)).mpr c1) ?_
    exact o_ri (show ((-1) : Int32).toInt = (-1) from rfl) hM1 h
  · replace h := it_f c1 h
    refine ok_f (mt (c_eq tv2 (show (0 : Int32).toInt = 0 from rfl)).mp c1) ?_
    replace h := ob h; obtain ⟨zv5, ezv5, h⟩ := h
    obtain ⟨⟨v5, M4⟩, eM4, tv5, hM4⟩ := h_X11_isLayer hM1 tp3 ezv5
    refine ok_b eM4 ?_
    by_cases c2 : zv5 = 0
    · replace h := it_t c2 h
      refine ok_t ((c_eq tv5 (show (0 : Int32).toInt = 0 from rfl)).mpr c2) ?_
      exact o_ri (show ((-1) : Int32).toInt = (-1) from rfl) hM4 h
    · replace h := it_f c2 h
      refine ok_f (mt (c_eq tv5 (show (0 : Int32).toInt = 0 from rfl)).mp c2) ?_
      replace h := ob h; obtain ⟨zv8, ezv8, h⟩ := h
      obtain ⟨⟨v8, M7⟩, eM7, tv8, hM7⟩ := h_X11_isStream hM4 tp4 ezv8
      refine ok_b eM7 ?_
      by_cases c3 : zv8 = 0
      · replace h := it_t c3 h
        refine ok_t ((c_eq tv8 (show (0 : Int32).toInt = 0 from rfl)).mpr c3) ?_
        exact o_ri (show ((-1) : Int32).toInt = (-1) from rfl) hM7 h
      · replace h := it_f c3 h
        refine ok_f (mt (c_eq tv8 (show (0 : Int32).toInt = 0 from rfl)).mp c3) ?_
        replace h := ob h; obtain ⟨zv11, ezv11, h⟩ := h
        obtain ⟨⟨v11, M10⟩, eM10, tv11, hM10⟩ := h_X11_isStream hM7 tp5 ezv11
        refine ok_b eM10 ?_
        by_cases c4 : zv11 = 0
        · replace h := it_t c4 h
          refine ok_t ((c_eq tv11 (show (0 : Int32).toInt = 0 from rfl)).mpr c4) ?_
          exact o_ri (show ((-1) : Int32).toInt = (-1) from rfl) hM10 h
        · replace h := it_f c4 h
          refine ok_f (mt (c_eq tv11 (show (0 : Int32).toInt = 0 from rfl)).mp c4) ?_
          replace h := jp_e h; obtain ⟨k13h, ek13h, h⟩ := h
          refine ok_jp (fun k13 ek13 => ?_)
          have Jk13 : ∀ (s14 : Option Nat), (∀ q, s14 = some q → W9 E q) → ∀ (M15 : Mm) (J15 : Jm), Mre E M15 J15 → k13h s14 J15 = some (z, J1) → Ok (k13 s14 M15) (fun q => q.1.toInt = z ∧ Mre E q.2 J1) := by
            intro s14 ws14 M15 J15 hM15 h
            rw [ek13]
            rw [ek13h] at h
            replace h := ob h; obtain ⟨zv17, ezv17, h⟩ := h
            obtain ⟨⟨v17, M16⟩, eM16, tv17, hM16⟩ := h_X11_cellOf hM15 tp1 tp2 ezv17
            refine ok_b eM16 ?_
            replace h := ob h; obtain ⟨zv19, ezv19, h⟩ := h
            obtain ⟨⟨v19, M18⟩, eM18, tv19, hM18⟩ := h_X11_placeOf hM16 tv17 tp3 ezv19
            refine ok_b eM18 ?_
            replace h := ob h; obtain ⟨a20, ea20, h⟩ := h
            refine ok_b ea20 ?_
            refine ok_b (o_rdS hM18 (ws14 _ ea20).1 ((ws14 _ ea20).2.1.1)) ?_
            refine ok_s ?_
            replace h := ob h; obtain ⟨J22, eJ22, h⟩ := h
            obtain ⟨M22, eM22, hM22⟩ := o_stI hM18 ((ws14 _ ea20).2.1.2) rfl tv19 tp4 eJ22
            refine ok_b eM22 ?_
            refine ok_b (o_rdS hM22 (ws14 _ ea20).1 ((ws14 _ ea20).2.2.1)) ?_
            refine ok_s ?_
            replace h := ob h; obtain ⟨J25, eJ25, h⟩ := h
            obtain ⟨M25, eM25, hM25⟩ := o_stI hM22 ((ws14 _ ea20).2.2.2) rfl tv19 tp5 eJ25
            refine ok_b eM25 ?_
            exact o_ri (show (0 : Int32).toInt = 0 from rfl) hM25 h
          by_cases c5 : zp6 = 0
          · replace h := it_t c5 h
            refine ok_t ((c_eq tp6 (show (0 : Int32).toInt = 0 from rfl)).mpr c5) ?_
            refine ok_b (o_rdS hM10 wthis.1 (wthis.2.1.1)) ?_
            refine ok_s ?_
            refine ok_b (o_rdS hM10 wthis.2.1.2.1 (wthis.2.1.2.2.1.1)) ?_
            refine ok_s ?_
            refine ok_b (o_rdS hM10 wthis.2.1.2.2.1.2.1 (wthis.2.1.2.2.1.2.2.2.2.2.2.2.1.1)) ?_
            exact Jk13 _ (fun _ hq => by cases hq; exact wthis.2.1.2.2.1.2.2.2.2.2.2.2.1.2) _ _ hM10 h
          · replace h := it_f c5 h
            refine ok_f (mt (c_eq tp6 (show (0 : Int32).toInt = 0 from rfl)).mp c5) ?_
            refine ok_b (o_rdS hM10 wthis.1 (wthis.2.1.1)) ?_
            refine ok_s ?_
            refine ok_b (o_rdS hM10 wthis.2.1.2.1 (wthis.2.1.2.2.1.1)) ?_
            refine ok_s ?_
            refine ok_b (o_rdS hM10 wthis.2.1.2.2.1.2.1 (wthis.2.1.2.2.1.2.2.2.2.2.2.2.2.1)) ?_
            exact Jk13 _ (fun _ hq => by cases hq; exact wthis.2.1.2.2.1.2.2.2.2.2.2.2.2.2) _ _ hM10 h

set_option maxHeartbeats 4000000 in
set_option maxRecDepth 100000 in
theorem h_X11_salt {E : Em} {M : Mm} {J : Jm} (hM : Mre E M J) {this : Nat} (wthis : W11 E this) {p1 : Int32} {zp1 : Int} (tp1 : p1.toInt = zp1) {p2 : Int32} {zp2 : Int} (tp2 : p2.toInt = zp2) {p3 : Int32} {zp3 : Int} (tp3 : p3.toInt = zp3) {p4 : Int32} {zp4 : Int} (tp4 : p4.toInt = zp4) {z : Int} {J1 : Jm} (h : H_X11_salt E this zp1 zp2 zp3 zp4 J = some (z, J1)) : Ok (F_X11_salt this p1 p2 p3 p4 M) (fun q => q.1.toInt = z ∧ Mre E q.2 J1) := by
  unfold H_X11_salt at h
  unfold F_X11_salt
  replace h := ob h; obtain ⟨zv2, ezv2, h⟩ := h
  obtain ⟨⟨v2, M1⟩, eM1, tv2, hM1⟩ := h_X11_isCell hM tp1 tp2 ezv2
  refine ok_b eM1 ?_
  by_cases c1 : zv2 = 0
  · replace h := it_t c1 h
    refine ok_t ((c_eq tv2 (show (0 : Int32).toInt = 0 from rfl)).mpr c1) ?_
    exact o_ri (show ((-1) : Int32).toInt = (-1) from rfl) hM1 h
  · replace h := it_f c1 h
    refine ok_f (mt (c_eq tv2 (show (0 : Int32).toInt = 0 from rfl)).mp c1) ?_
    replace h := ob h; obtain ⟨zv5, ezv5, h⟩ := h
    obtain ⟨⟨v5, M4⟩, eM4, tv5, hM4⟩ := h_X11_isLayer hM1 tp3 ezv5
    refine ok_b eM4 ?_
    by_cases c2 : zv5 = 0
    · replace h := it_t c2 h
      refine ok_t ((c_eq tv5 (show (0 : Int32).toInt = 0 from rfl)).mpr c2) ?_
      exact o_ri (show ((-1) : Int32).toInt = (-1) from rfl) hM4 h
    · replace h := it_f c2 h
      refine ok_f (mt (c_eq tv5 (show (0 : Int32).toInt = 0 from rfl)).mp c2) ?_
      by_cases c3 : zp4 < 0
      · replace h := it_t c3 h
        refine ok_t ((c_lt tp4 (show (0 : Int32).toInt = 0 from rfl)).mpr c3) ?_
        exact o_ri (show ((-1) : Int32).toInt = (-1) from rfl) hM4 h
      · replace h := it_f c3 h
        refine ok_f (mt (c_lt tp4 (show (0 : Int32).toInt = 0 from rfl)).mp c3) ?_
        by_cases c4 : zp4 ≤ 1001
        · replace h := it_t c4 h
          refine ok_t ((c_le tp4 (show (1001 : Int32).toInt = 1001 from rfl)).mpr c4) ?_
          replace h := ob h; obtain ⟨zv10, ezv10, h⟩ := h
          obtain ⟨⟨v10, M9⟩, eM9, tv10, hM9⟩ := h_X11_cellOf hM4 tp1 tp2 ezv10
          refine ok_b eM9 ?_
          replace h := ob h; obtain ⟨zv12, ezv12, h⟩ := h
          obtain ⟨⟨v12, M11⟩, eM11, tv12, hM11⟩ := h_X11_placeOf hM9 tv10 tp3 ezv12
          refine ok_b eM11 ?_
          by_cases c5 : 999 < zp4
          · replace h := it_t c5 h
            refine ok_t ((c_lt (show (999 : Int32).toInt = 999 from rfl) tp4).mpr c5) ?_
            refine ok_b (o_rdS hM11 wthis.1 (wthis.2.1.1)) ?_
            refine ok_s ?_
            refine ok_b (o_rdS hM11 wthis.2.1.2.1 (wthis.2.1.2.2.1.1)) ?_
            refine ok_s ?_
            refine ok_b (o_rdS hM11 wthis.2.1.2.2.1.2.1 (wthis.2.1.2.2.1.2.2.2.2.2.2.1.1)) ?_
            replace h := nv_e h; obtain ⟨zv19, ezv19, h⟩ := h
            obtain ⟨v19, evv19⟩ : ∃ v : Int32, v = (if p4 = 1000 then 1 else 0) := ⟨_, rfl⟩
            have tv19 : v19.toInt = zv19 := by rw [evv19, ezv19]; exact (t_ite (c_eq tp4 (show (1000 : Int32).toInt = 1000 from rfl)) (show (1 : Int32).toInt = 1 from rfl) (show (0 : Int32).toInt = 0 from rfl))
            refine ok_nv evv19 ?_
            refine ok_s ?_
            replace h := ob h; obtain ⟨⟨zv23, J22⟩, ezv23, h⟩ := h
            obtain ⟨⟨v23, M22⟩, eM22, tv23, hM22⟩ := h_X11_changeAt hM11 (⟨by rw [wthis.2.1.2.2.1.2.2.2.2.2.2.1.2], by rw [wthis.2.1.2.2.1.2.2.2.2.2.2.1.2]; exact (by decide)⟩ : Wa E (this + 1 + 1 + 5)) tv12 tv19 ezv23
            refine ok_b eM22 ?_
            exact o_ri tv23 hM22 h
          · replace h := it_f c5 h
            refine ok_f (mt (c_lt (show (999 : Int32).toInt = 999 from rfl) tp4).mp c5) ?_
            refine ok_b (o_rdS hM11 wthis.1 (wthis.2.1.1)) ?_
            refine ok_s ?_
            refine ok_b (o_rdS hM11 wthis.2.1.2.1 (wthis.2.1.2.2.1.1)) ?_
            refine ok_s ?_
            refine ok_b (o_rdS hM11 wthis.2.1.2.2.1.2.1 (wthis.2.1.2.2.1.2.2.2.2.2.1.1)) ?_
            refine ok_s ?_
            replace h := ob h; obtain ⟨⟨zv32, J31⟩, ezv32, h⟩ := h
            obtain ⟨⟨v32, M31⟩, eM31, tv32, hM31⟩ := h_X11_changeAt hM11 (⟨by rw [wthis.2.1.2.2.1.2.2.2.2.2.1.2], by rw [wthis.2.1.2.2.1.2.2.2.2.2.1.2]; exact (by decide)⟩ : Wa E (this + 1 + 1 + 4)) tv12 tp4 ezv32
            refine ok_b eM31 ?_
            exact o_ri tv32 hM31 h
        · replace h := it_f c4 h
          refine ok_f (mt (c_le tp4 (show (1001 : Int32).toInt = 1001 from rfl)).mp c4) ?_
          exact o_ri (show ((-1) : Int32).toInt = (-1) from rfl) hM4 h

set_option maxHeartbeats 4000000 in
set_option maxRecDepth 100000 in
theorem h_X11_cell {E : Em} {M : Mm} {J : Jm} (hM : Mre E M J) {this : Nat} (wthis : W11 E this) {p1 : Int32} {zp1 : Int} (tp1 : p1.toInt = zp1) {p2 : Int32} {zp2 : Int} (tp2 : p2.toInt = zp2) {p3 : Int32} {zp3 : Int} (tp3 : p3.toInt = zp3) {p4 : Int32} {zp4 : Int} (tp4 : p4.toInt = zp4) {z : Int} (h : H_X11_cell E this zp1 zp2 zp3 zp4 J = some z) : Ok (F_X11_cell this p1 p2 p3 p4 M) (fun q => q.1.toInt = z ∧ Mre E q.2 J) := by
  unfold H_X11_cell at h
  unfold F_X11_cell
  replace h := ob h; obtain ⟨zv2, ezv2, h⟩ := h
  obtain ⟨⟨v2, M1⟩, eM1, tv2, hM1⟩ := h_X11_isCell hM tp1 tp2 ezv2
  refine ok_b eM1 ?_
  by_cases c1 : zv2 = 0
  · replace h := it_t c1 h
    refine ok_t ((c_eq tv2 (show (0 : Int32).toInt = 0 from rfl)).mpr c1) ?_
    exact o_ri0 (show ((-1) : Int32).toInt = (-1) from rfl) hM1 h
  · replace h := it_f c1 h
    refine ok_f (mt (c_eq tv2 (show (0 : Int32).toInt = 0 from rfl)).mp c1) ?_
    by_cases c2 : zp4 < 0
    · replace h := it_t c2 h
      refine ok_t ((c_lt tp4 (show (0 : Int32).toInt = 0 from rfl)).mpr c2) ?_
      exact o_ri0 (show ((-1) : Int32).toInt = (-1) from rfl) hM1 h
    · replace h := it_f c2 h
      refine ok_f (mt (c_lt tp4 (show (0 : Int32).toInt = 0 from rfl)).mp c2) ?_
      by_cases c3 : zp4 ≤ 8
      · replace h := it_t c3 h
        refine ok_t ((c_le tp4 (show (8 : Int32).toInt = 8 from rfl)).mpr c3) ?_
        replace h := ob h; obtain ⟨zv7, ezv7, h⟩ := h
        obtain ⟨⟨v7, M6⟩, eM6, tv7, hM6⟩ := h_X11_cellOf hM1 tp1 tp2 ezv7
        refine ok_b eM6 ?_
        by_cases c4 : 2 < zp4
        · replace h := it_t c4 h
          refine ok_t ((c_lt (show (2 : Int32).toInt = 2 from rfl) tp4).mpr c4) ?_
          replace h := ob h; obtain ⟨zv10, ezv10, h⟩ := h
          obtain ⟨⟨v10, M9⟩, eM9, tv10, hM9⟩ := h_X11_isLayer hM6 tp3 ezv10
          refine ok_b eM9 ?_
          by_cases c5 : zv10 = 0
          · replace h := it_t c5 h
            refine ok_t ((c_eq tv10 (show (0 : Int32).toInt = 0 from rfl)).mpr c5) ?_
            exact o_ri0 (show ((-1) : Int32).toInt = (-1) from rfl) hM9 h
          · replace h := it_f c5 h
            refine ok_f (mt (c_eq tv10 (show (0 : Int32).toInt = 0 from rfl)).mp c5) ?_
            refine ok_b (o_rdS hM9 wthis.1 (wthis.2.1.1)) ?_
            refine ok_s ?_
            refine ok_b (o_rdS hM9 wthis.2.1.2.1 (wthis.2.1.2.2.1.1)) ?_
            refine ok_s ?_
            refine ok_b (o_isO hM9 wthis.2.1.2.2.1.2.1) ?_
            replace h := ob h; obtain ⟨v18q, ev18q, h⟩ := h
            obtain ⟨⟨v18, M16⟩, eM16, tv18, hM16, wv18⟩ := h_X7_placeRow hM9 wthis.2.1.2.2.1.2 tp4 ev18q
            dsimp only at tv18 wv18
            subst tv18
            refine ok_b eM16 ?_
            replace h := ob h; obtain ⟨zv20, ezv20, h⟩ := h
            obtain ⟨⟨v20, M19⟩, eM19, tv20, hM19⟩ := h_X11_placeOf hM16 tv7 tp3 ezv20
            refine ok_b eM19 ?_
            replace h := ob h; obtain ⟨a22, ea22, h⟩ := h
            refine ok_b ea22 ?_
            replace h := ob h; obtain ⟨zv21, ezv21, h⟩ := h
            obtain ⟨v21, ev21, tv21⟩ := o_ldI hM19 (Wa.k (wv18 _ ea22)) rfl tv20 ezv21
            refine ok_b ev21 ?_
            exact o_ri0 tv21 hM19 h
        · replace h := it_f c4 h
          refine ok_f (mt (c_lt (show (2 : Int32).toInt = 2 from rfl) tp4).mp c4) ?_
          refine ok_b (o_rdS hM6 wthis.1 (wthis.2.1.1)) ?_
          refine ok_s ?_
          refine ok_b (o_rdS hM6 wthis.2.1.2.1 (wthis.2.1.2.2.1.1)) ?_
          refine ok_s ?_
          refine ok_b (o_isO hM6 wthis.2.1.2.2.1.2.1) ?_
          replace h := ob h; obtain ⟨v29q, ev29q, h⟩ := h
          obtain ⟨⟨v29, M27⟩, eM27, tv29, hM27, wv29⟩ := h_X7_cellRow hM6 wthis.2.1.2.2.1.2 tp4 ev29q
          dsimp only at tv29 wv29
          subst tv29
          refine ok_b eM27 ?_
          replace h := ob h; obtain ⟨a31, ea31, h⟩ := h
          refine ok_b ea31 ?_
          replace h := ob h; obtain ⟨zv30, ezv30, h⟩ := h
          obtain ⟨v30, ev30, tv30⟩ := o_ldI hM27 (Wa.k (wv29 _ ea31)) rfl tv7 ezv30
          refine ok_b ev30 ?_
          exact o_ri0 tv30 hM27 h
      · replace h := it_f c3 h
        refine ok_f (mt (c_le tp4 (show (8 : Int32).toInt = 8 from rfl)).mp c3) ?_
        exact o_ri0 (show ((-1) : Int32).toInt = (-1) from rfl) hM1 h

set_option maxHeartbeats 4000000 in
set_option maxRecDepth 100000 in
theorem h_X11_tellAbout {E : Em} {M : Mm} {J : Jm} (hM : Mre E M J) {p1 : Nat} (wp1 : W0 E p1) {p2 : Int32} {zp2 : Int} (tp2 : p2.toInt = zp2) {z : Int} (h : H_X11_tellAbout p1 zp2 J = some z) : Ok (F_X11_tellAbout p1 p2 M) (fun q => q.1.toInt = z ∧ Mre E q.2 J) := by
  unfold H_X11_tellAbout at h
  unfold F_X11_tellAbout
  by_cases c1 : zp2 = 0
  · replace h := it_t c1 h
    refine ok_t ((c_eq tp2 (show (0 : Int32).toInt = 0 from rfl)).mpr c1) ?_
    obtain ⟨v2, ev2, tv2⟩ := o_rdI (k := 0) hM wp1.1
    refine ok_b ev2 ?_
    exact o_ri0 tv2 hM h
  · replace h := it_f c1 h
    refine ok_f (mt (c_eq tp2 (show (0 : Int32).toInt = 0 from rfl)).mp c1) ?_
    by_cases c2 : zp2 = 1
    · replace h := it_t c2 h
      refine ok_t ((c_eq tp2 (show (1 : Int32).toInt = 1 from rfl)).mpr c2) ?_
      obtain ⟨v4, ev4, tv4⟩ := o_rdI (k := 1) hM wp1.1
      refine ok_b ev4 ?_
      replace h := ob h; obtain ⟨zv6, ezv6, h⟩ := h
      obtain ⟨⟨v6, M5⟩, eM5, tv6, hM5⟩ := h_X11_xOf hM tv4 ezv6
      refine ok_b eM5 ?_
      exact o_ri0 tv6 hM5 h
    · replace h := it_f c2 h
      refine ok_f (mt (c_eq tp2 (show (1 : Int32).toInt = 1 from rfl)).mp c2) ?_
      by_cases c3 : zp2 = 2
      · replace h := it_t c3 h
        refine ok_t ((c_eq tp2 (show (2 : Int32).toInt = 2 from rfl)).mpr c3) ?_
        obtain ⟨v8, ev8, tv8⟩ := o_rdI (k := 1) hM wp1.1
        refine ok_b ev8 ?_
        replace h := ob h; obtain ⟨zv10, ezv10, h⟩ := h
        obtain ⟨⟨v10, M9⟩, eM9, tv10, hM9⟩ := h_X11_yOf hM tv8 ezv10
        refine ok_b eM9 ?_
        exact o_ri0 tv10 hM9 h
      · replace h := it_f c3 h
        refine ok_f (mt (c_eq tp2 (show (2 : Int32).toInt = 2 from rfl)).mp c3) ?_
        by_cases c4 : zp2 = 3
        · replace h := it_t c4 h
          refine ok_t ((c_eq tp2 (show (3 : Int32).toInt = 3 from rfl)).mpr c4) ?_
          obtain ⟨v12, ev12, tv12⟩ := o_rdI (k := 2) hM wp1.1
          refine ok_b ev12 ?_
          exact o_ri0 tv12 hM h
        · replace h := it_f c4 h
          refine ok_f (mt (c_eq tp2 (show (3 : Int32).toInt = 3 from rfl)).mp c4) ?_
          by_cases c5 : zp2 = 4
          · replace h := it_t c5 h
            refine ok_t ((c_eq tp2 (show (4 : Int32).toInt = 4 from rfl)).mpr c5) ?_
            obtain ⟨v14, ev14, tv14⟩ := o_rdI (k := 3) hM wp1.1
            refine ok_b ev14 ?_
            exact o_ri0 tv14 hM h
          · replace h := it_f c5 h
            refine ok_f (mt (c_eq tp2 (show (4 : Int32).toInt = 4 from rfl)).mp c5) ?_
            by_cases c6 : zp2 = 5
            · replace h := it_t c6 h
              refine ok_t ((c_eq tp2 (show (5 : Int32).toInt = 5 from rfl)).mpr c6) ?_
              obtain ⟨v16, ev16, tv16⟩ := o_rdI (k := 4) hM wp1.1
              refine ok_b ev16 ?_
              by_cases c7 : (J p1 4) = 0
              · replace h := it_t c7 h
                refine ok_t ((c_eq tv16 (show (0 : Int32).toInt = 0 from rfl)).mpr c7) ?_
                exact o_ri0 (show (0 : Int32).toInt = 0 from rfl) hM h
              · replace h := it_f c7 h
                refine ok_f (mt (c_eq tv16 (show (0 : Int32).toInt = 0 from rfl)).mp c7) ?_
                exact o_ri0 (show (1 : Int32).toInt = 1 from rfl) hM h
            · replace h := it_f c6 h
              refine ok_f (mt (c_eq tp2 (show (5 : Int32).toInt = 5 from rfl)).mp c6) ?_
              by_cases c8 : zp2 = 6
              · replace h := it_t c8 h
                refine ok_t ((c_eq tp2 (show (6 : Int32).toInt = 6 from rfl)).mpr c8) ?_
                obtain ⟨v19, ev19, tv19⟩ := o_rdI (k := 5) hM wp1.1
                refine ok_b ev19 ?_
                exact o_ri0 tv19 hM h
              · replace h := it_f c8 h
                refine ok_f (mt (c_eq tp2 (show (6 : Int32).toInt = 6 from rfl)).mp c8) ?_
                by_cases c9 : zp2 = 7
                · replace h := it_t c9 h
                  refine ok_t ((c_eq tp2 (show (7 : Int32).toInt = 7 from rfl)).mpr c9) ?_
                  obtain ⟨v21, ev21, tv21⟩ := o_rdI (k := 6) hM wp1.1
                  refine ok_b ev21 ?_
                  exact o_ri0 tv21 hM h
                · replace h := it_f c9 h
                  refine ok_f (mt (c_eq tp2 (show (7 : Int32).toInt = 7 from rfl)).mp c9) ?_
                  by_cases c10 : zp2 = 8
                  · replace h := it_t c10 h
                    refine ok_t ((c_eq tp2 (show (8 : Int32).toInt = 8 from rfl)).mpr c10) ?_
                    obtain ⟨v23, ev23, tv23⟩ := o_rdI (k := 7) hM wp1.1
                    refine ok_b ev23 ?_
                    exact o_ri0 tv23 hM h
                  · replace h := it_f c10 h
                    refine ok_f (mt (c_eq tp2 (show (8 : Int32).toInt = 8 from rfl)).mp c10) ?_
                    by_cases c11 : zp2 = 9
                    · replace h := it_t c11 h
                      refine ok_t ((c_eq tp2 (show (9 : Int32).toInt = 9 from rfl)).mpr c11) ?_
                      obtain ⟨v25, ev25, tv25⟩ := o_rdI (k := 8) hM wp1.1
                      refine ok_b ev25 ?_
                      exact o_ri0 tv25 hM h
                    · replace h := it_f c11 h
                      refine ok_f (mt (c_eq tp2 (show (9 : Int32).toInt = 9 from rfl)).mp c11) ?_
                      by_cases c12 : zp2 = 10
                      · replace h := it_t c12 h
                        refine ok_t ((c_eq tp2 (show (10 : Int32).toInt = 10 from rfl)).mpr c12) ?_
                        obtain ⟨v27, ev27, tv27⟩ := o_rdI (k := 10) hM wp1.1
                        refine ok_b ev27 ?_
                        by_cases c13 : (J p1 10) = 0
                        · replace h := it_t c13 h
                          refine ok_t ((c_eq tv27 (show (0 : Int32).toInt = 0 from rfl)).mpr c13) ?_
                          exact o_ri0 (show ((-4) : Int32).toInt = (-4) from rfl) hM h
                        · replace h := it_f c13 h
                          refine ok_f (mt (c_eq tv27 (show (0 : Int32).toInt = 0 from rfl)).mp c13) ?_
                          obtain ⟨v29, ev29, tv29⟩ := o_rdI (k := 9) hM wp1.1
                          refine ok_b ev29 ?_
                          exact o_ri0 tv29 hM h
                      · replace h := it_f c12 h
                        refine ok_f (mt (c_eq tp2 (show (10 : Int32).toInt = 10 from rfl)).mp c12) ?_
                        exact o_ri0 (show ((-1) : Int32).toInt = (-1) from rfl) hM h

set_option maxHeartbeats 4000000 in
set_option maxRecDepth 100000 in
theorem h_X11_about {E : Em} {M : Mm} {J : Jm} (hM : Mre E M J) {this : Nat} (wthis : W11 E this) {p1 : Int32} {zp1 : Int} (tp1 : p1.toInt = zp1) {p2 : Int32} {zp2 : Int} (tp2 : p2.toInt = zp2) {z : Int} (h : H_X11_about E this zp1 zp2 J = some z) : Ok (F_X11_about this p1 p2 M) (fun q => q.1.toInt = z ∧ Mre E q.2 J) := by
  unfold H_X11_about at h
  unfold F_X11_about
  refine ok_b (o_rdS hM wthis.1 (wthis.2.1.1)) ?_
  refine ok_s ?_
  refine ok_b (o_isO hM wthis.2.1.2.1) ?_
  replace h := ob h; obtain ⟨v5q, ev5q, h⟩ := h
  obtain ⟨⟨v5, M3⟩, eM3, tv5, hM3, wv5⟩ := h_X10_gliderAt hM wthis.2.1.2 tp1 ev5q
  dsimp only at tv5 wv5
  subst tv5
  refine ok_b eM3 ?_
  rcases oq_c v5 with q1 | ⟨a6, q1⟩
  · replace h := oe_nx q1 h
    refine ok_on q1 ?_
    exact o_ri0 (show ((-1) : Int32).toInt = (-1) from rfl) hM3 h
  · replace h := oe_sx q1 h
    refine ok_os q1 ?_
    replace h := ob h; obtain ⟨zv8, ezv8, h⟩ := h
    obtain ⟨⟨v8, M7⟩, eM7, tv8, hM7⟩ := h_X11_tellAbout hM3 (wv5 _ q1) tp2 ezv8
    refine ok_b eM7 ?_
    exact o_ri0 tv8 hM7 h

set_option maxHeartbeats 4000000 in
set_option maxRecDepth 100000 in
theorem h_X11_can {E : Em} {M : Mm} {J : Jm} (hM : Mre E M J) {this : Nat} (wthis : W11 E this) {p1 : Int32} {zp1 : Int} (tp1 : p1.toInt = zp1) {p2 : Int32} {zp2 : Int} (tp2 : p2.toInt = zp2) {z : Int} (h : H_X11_can E this zp1 zp2 J = some z) : Ok (F_X11_can this p1 p2 M) (fun q => q.1.toInt = z ∧ Mre E q.2 J) := by
  unfold H_X11_can at h
  unfold F_X11_can
  refine ok_b (o_rdS hM wthis.1 (wthis.2.1.1)) ?_
  refine ok_s ?_
  refine ok_b (o_isO hM wthis.2.1.2.1) ?_
  replace h := ob h; obtain ⟨v5q, ev5q, h⟩ := h
  obtain ⟨⟨v5, M3⟩, eM3, tv5, hM3, wv5⟩ := h_X10_gliderAt hM wthis.2.1.2 tp1 ev5q
  dsimp only at tv5 wv5
  subst tv5
  refine ok_b eM3 ?_
  rcases oq_c v5 with q1 | ⟨a6, q1⟩
  · replace h := oe_nx q1 h
    refine ok_on q1 ?_
    exact o_ri0 (show ((-1) : Int32).toInt = (-1) from rfl) hM3 h
  · replace h := oe_sx q1 h
    refine ok_os q1 ?_
    by_cases c2 : zp2 < 0
    · replace h := it_t c2 h
      refine ok_t ((c_lt tp2 (show (0 : Int32).toInt = 0 from rfl)).mpr c2) ?_
      exact o_ri0 (show ((-1) : Int32).toInt = (-1) from rfl) hM3 h
    · replace h := it_f c2 h
      refine ok_f (mt (c_lt tp2 (show (0 : Int32).toInt = 0 from rfl)).mp c2) ?_
      by_cases c3 : zp2 ≤ 5
      · replace h := it_t c3 h
        refine ok_t ((c_le tp2 (show (5 : Int32).toInt = 5 from rfl)).mpr c3) ?_
        by_cases c4 : zp2 = 0
        · replace h := it_t c4 h
          refine ok_t ((c_eq tp2 (show (0 : Int32).toInt = 0 from rfl)).mpr c4) ?_
          refine ok_b (o_isO hM3 (wv5 _ q1).1) ?_
          replace h := ob h; obtain ⟨zv23, ezv23, h⟩ := h
          obtain ⟨⟨v23, M21⟩, eM21, tv23, hM21⟩ := h_X0_deepest hM3 (wv5 _ q1) ezv23
          refine ok_b eM21 ?_
          exact o_ri0 tv23 hM21 h
        · replace h := it_f c4 h
          refine ok_f (mt (c_eq tp2 (show (0 : Int32).toInt = 0 from rfl)).mp c4) ?_
          by_cases c5 : zp2 = 1
          · replace h := it_t c5 h
            refine ok_t ((c_eq tp2 (show (1 : Int32).toInt = 1 from rfl)).mpr c5) ?_
            refine ok_b (o_isO hM3 (wv5 _ q1).1) ?_
            replace h := ob h; obtain ⟨zv20, ezv20, h⟩ := h
            obtain ⟨⟨v20, M18⟩, eM18, tv20, hM18⟩ := h_X0_reach hM3 (wv5 _ q1) ezv20
            refine ok_b eM18 ?_
            exact o_ri0 tv20 hM18 h
          · replace h := it_f c5 h
            refine ok_f (mt (c_eq tp2 (show (1 : Int32).toInt = 1 from rfl)).mp c5) ?_
            refine ok_b (o_isO hM3 (wv5 _ q1).1) ?_
            replace h := ob h; obtain ⟨zv13, ezv13, h⟩ := h
            obtain ⟨⟨v13, M11⟩, eM11, tv13, hM11⟩ := h_X0_deepest hM3 (wv5 _ q1) ezv13
            refine ok_b eM11 ?_
            by_cases c6 : (wr (zp2 - 2)) ≤ zv13
            · replace h := it_t c6 h
              refine ok_t ((c_le (t_sub tp2 (show (2 : Int32).toInt = 2 from rfl)) tv13).mpr c6) ?_
              refine ok_b (o_isO hM11 (wv5 _ q1).1) ?_
              replace h := ob h; obtain ⟨zv17, ezv17, h⟩ := h
              obtain ⟨⟨v17, M15⟩, eM15, tv17, hM15⟩ := h_X0_costTo hM11 (wv5 _ q1) (t_sub tp2 (show (2 : Int32).toInt = 2 from rfl)) ezv17
              refine ok_b eM15 ?_
              exact o_ri0 tv17 hM15 h
            · replace h := it_f c6 h
              refine ok_f (mt (c_le (t_sub tp2 (show (2 : Int32).toInt = 2 from rfl)) tv13).mp c6) ?_
              exact o_ri0 (show ((-3) : Int32).toInt = (-3) from rfl) hM11 h
      · replace h := it_f c3 h
        refine ok_f (mt (c_le tp2 (show (5 : Int32).toInt = 5 from rfl)).mp c3) ?_
        exact o_ri0 (show ((-1) : Int32).toInt = (-1) from rfl) hM3 h

set_option maxHeartbeats 4000000 in
set_option maxRecDepth 100000 in
theorem h_X11_leak {E : Em} {M : Mm} {J : Jm} (hM : Mre E M J) {this : Nat} (wthis : W11 E this) {p1 : Int32} {zp1 : Int} (tp1 : p1.toInt = zp1) {p2 : Int32} {zp2 : Int} (tp2 : p2.toInt = zp2) {z : Int} {J1 : Jm} (h : H_X11_leak E this zp1 zp2 J = some (z, J1)) : Ok (F_X11_leak this p1 p2 M) (fun q => q.1.toInt = z ∧ Mre E q.2 J1) := by
  unfold H_X11_leak at h
  unfold F_X11_leak
  refine ok_b (o_rdS hM wthis.1 (wthis.2.1.1)) ?_
  refine ok_s ?_
  refine ok_b (o_isO hM wthis.2.1.2.1) ?_
  replace h := ob h; obtain ⟨v5q, ev5q, h⟩ := h
  obtain ⟨⟨v5, M3⟩, eM3, tv5, hM3, wv5⟩ := h_X10_gliderAt hM wthis.2.1.2 tp1 ev5q
  dsimp only at tv5 wv5
  subst tv5
  refine ok_b eM3 ?_
  rcases oq_c v5 with q1 | ⟨a6, q1⟩
  · replace h := oe_nx q1 h
    refine ok_on q1 ?_
    exact o_ri (show ((-1) : Int32).toInt = (-1) from rfl) hM3 h
  · replace h := oe_sx q1 h
    refine ok_os q1 ?_
    obtain ⟨v7, ev7, tv7⟩ := o_rdI (k := 4) hM3 (wv5 _ q1).1
    refine ok_b ev7 ?_
    replace h := ob h; obtain ⟨_, hzM8, h⟩ := h
    replace h := nv_e h; obtain ⟨J8, eJ8, h⟩ := h
    obtain ⟨M8, eM8, hM8⟩ := o_wrZ (k := 4) hM3 (wv5 _ q1).1 tp2 (jZ_e hzM8) eJ8
    refine ok_b eM8 ?_
    by_cases c2 : (J a6 4) = zp2
    · replace h := it_t c2 h
      refine ok_t ((c_eq tv7 tp2).mpr c2) ?_
      exact o_ri (show (0 : Int32).toInt = 0 from rfl) hM8 h
    · replace h := it_f c2 h
      refine ok_f (mt (c_eq tv7 tp2).mp c2) ?_
      exact o_ri (show (1 : Int32).toInt = 1 from rfl) hM8 h

set_option maxHeartbeats 4000000 in
set_option maxRecDepth 100000 in
theorem h_X11_dive {E : Em} {M : Mm} {J : Jm} (hM : Mre E M J) {this : Nat} (wthis : W11 E this) {p1 : Int32} {zp1 : Int} (tp1 : p1.toInt = zp1) {p2 : Int32} {zp2 : Int} (tp2 : p2.toInt = zp2) {p3 : Int32} {zp3 : Int} (tp3 : p3.toInt = zp3) {p4 : Int32} {zp4 : Int} (tp4 : p4.toInt = zp4) {z : Int} {J1 : Jm} (h : H_X11_dive E this zp1 zp2 zp3 zp4 J = some (z, J1)) : Ok (F_X11_dive this p1 p2 p3 p4 M) (fun q => q.1.toInt = z ∧ Mre E q.2 J1) := by
  unfold H_X11_dive at h
  unfold F_X11_dive
  refine ok_b (o_rdS hM wthis.1 (wthis.2.1.1)) ?_
  refine ok_s ?_
  refine ok_b (o_isO hM wthis.2.1.2.1) ?_
  replace h := ob h; obtain ⟨v5q, ev5q, h⟩ := h
  obtain ⟨⟨v5, M3⟩, eM3, tv5, hM3, wv5⟩ := h_X10_gliderAt hM wthis.2.1.2 tp1 ev5q
  dsimp only at tv5 wv5
  subst tv5
  refine ok_b eM3 ?_
  rcases oq_c v5 with q1 | ⟨a6, q1⟩
  · replace h := oe_nx q1 h
    refine ok_on q1 ?_
    exact o_ri (show ((-1) : Int32).toInt = (-1) from rfl) hM3 h
  · replace h := oe_sx q1 h
    refine ok_os q1 ?_
    refine ok_b (o_isO hM3 (wv5 _ q1).1) ?_
    replace h := ob h; obtain ⟨zv9, ezv9, h⟩ := h
    obtain ⟨⟨v9, M7⟩, eM7, tv9, hM7⟩ := h_X0_mayDive hM3 (wv5 _ q1) tp2 tp3 tp4 ezv9
    refine ok_b eM7 ?_
    by_cases c2 : zv9 = 0
    · replace h := it_t c2 h
      refine ok_t ((c_eq tv9 (show (0 : Int32).toInt = 0 from rfl)).mpr c2) ?_
      exact o_ri (show ((-1) : Int32).toInt = (-1) from rfl) hM7 h
    · replace h := it_f c2 h
      refine ok_f (mt (c_eq tv9 (show (0 : Int32).toInt = 0 from rfl)).mp c2) ?_
      obtain ⟨v11, ev11, tv11⟩ := o_rdI (k := 3) hM7 (wv5 _ q1).1
      refine ok_b ev11 ?_
      by_cases c3 : (J a6 3) = 0
      · replace h := it_t c3 h
        refine ok_t ((c_eq tv11 (show (0 : Int32).toInt = 0 from rfl)).mpr c3) ?_
        obtain ⟨v13, ev13, tv13⟩ := o_rdI (k := 2) hM7 (wv5 _ q1).1
        refine ok_b ev13 ?_
        refine ok_b (o_isO hM7 (wv5 _ q1).1) ?_
        replace h := ob h; obtain ⟨zv16, ezv16, h⟩ := h
        obtain ⟨⟨v16, M14⟩, eM14, tv16, hM14⟩ := h_X0_costTo hM7 (wv5 _ q1) tp2 ezv16
        refine ok_b eM14 ?_
        by_cases c4 : zv16 ≤ (J a6 2)
        · replace h := it_t c4 h
          refine ok_t ((c_le tv16 tv13).mpr c4) ?_
          refine ok_b (o_rdS hM14 wthis.1 (wthis.2.1.1)) ?_
          refine ok_s ?_
          refine ok_b (o_isO hM14 wthis.2.1.2.1) ?_
          replace h := ob h; obtain ⟨⟨zv22, J20⟩, ezv22, h⟩ := h
          obtain ⟨⟨v22, M20⟩, eM20, tv22, hM20⟩ := h_X10_descend hM14 wthis.2.1.2 (wv5 _ q1) tp2 tp3 tp4 ezv22
          refine ok_b eM20 ?_
          exact o_ri tv22 hM20 h
        · replace h := it_f c4 h
          refine ok_f (mt (c_le tv16 tv13).mp c4) ?_
          exact o_ri (show ((-3) : Int32).toInt = (-3) from rfl) hM14 h
      · replace h := it_f c3 h
        refine ok_f (mt (c_eq tv11 (show (0 : Int32).toInt = 0 from rfl)).mp c3) ?_
        exact o_ri (show ((-3) : Int32).toInt = (-3) from rfl) hM7 h

set_option maxHeartbeats 4000000 in
set_option maxRecDepth 100000 in
theorem h_X11_shelfAt {E : Em} {M : Mm} {J : Jm} (hM : Mre E M J) {this : Nat} (wthis : W11 E this) {p1 : Int32} {zp1 : Int} (tp1 : p1.toInt = zp1) {z : Option Nat} (h : H_X11_shelfAt E this zp1 = some z) : Ok (F_X11_shelfAt this p1 M) (fun q => q.1 = z ∧ Mre E q.2 J ∧ ∀ y, q.1 = some y → W8 E y) := by
  unfold H_X11_shelfAt at h
  unfold F_X11_shelfAt
  by_cases c1 : zp1 < 0
  · replace h := it_t c1 h
    refine ok_t ((c_lt tp1 (show (0 : Int32).toInt = 0 from rfl)).mpr c1) ?_
    exact o_rr0 hM h (fun _ hq => by cases hq)
  · replace h := it_f c1 h
    refine ok_f (mt (c_lt tp1 (show (0 : Int32).toInt = 0 from rfl)).mp c1) ?_
    by_cases c2 : 8 ≤ zp1
    · replace h := it_t c2 h
      refine ok_t ((c_le (show (8 : Int32).toInt = 8 from rfl) tp1).mpr c2) ?_
      exact o_rr0 hM h (fun _ hq => by cases hq)
    · replace h := it_f c2 h
      refine ok_f (mt (c_le (show (8 : Int32).toInt = 8 from rfl) tp1).mp c2) ?_
      refine ok_b (o_rdS hM wthis.1 (wthis.2.2.2.2.1.1)) ?_
      refine ok_s ?_
      replace h := ob h; obtain ⟨v4, ev4, h⟩ := h
      obtain ⟨fv4, wv4⟩ := o_ldR hM wthis.2.2.2.2.1.2.1 rfl tp1 ev4
      refine ok_b fv4 ?_
      exact o_rr0 hM h (fun y hy => wthis.2.2.2.2.1.2.2 _ y (wv4.trans hy))

set_option maxHeartbeats 4000000 in
set_option maxRecDepth 100000 in
theorem h_X11_letter {E : Em} {M : Mm} {J : Jm} (hM : Mre E M J) {this : Nat} (wthis : W11 E this) {p1 : Int32} {zp1 : Int} (tp1 : p1.toInt = zp1) {p2 : Int32} {zp2 : Int} (tp2 : p2.toInt = zp2) {z : Int} {J1 : Jm} (h : H_X11_letter E this zp1 zp2 J = some (z, J1)) : Ok (F_X11_letter this p1 p2 M) (fun q => q.1.toInt = z ∧ Mre E q.2 J1) := by
  unfold H_X11_letter at h
  unfold F_X11_letter
  refine ok_b (o_rdS hM wthis.1 (wthis.2.1.1)) ?_
  refine ok_s ?_
  refine ok_b (o_isO hM wthis.2.1.2.1) ?_
  replace h := ob h; obtain ⟨v5q, ev5q, h⟩ := h
  obtain ⟨⟨v5, M3⟩, eM3, tv5, hM3, wv5⟩ := h_X10_gliderAt hM wthis.2.1.2 tp1 ev5q
  dsimp only at tv5 wv5
  subst tv5
  refine ok_b eM3 ?_
  rcases oq_c v5 with q1 | ⟨a6, q1⟩
  · replace h := oe_nx q1 h
    refine ok_on q1 ?_
    exact o_ri (show ((-1) : Int32).toInt = (-1) from rfl) hM3 h
  · replace h := oe_sx q1 h
    refine ok_os q1 ?_
    by_cases c2 : zp2 < 0
    · replace h := it_t c2 h
      refine ok_t ((c_lt tp2 (show (0 : Int32).toInt = 0 from rfl)).mpr c2) ?_
      exact o_ri (show ((-1) : Int32).toInt = (-1) from rfl) hM3 h
    · replace h := it_f c2 h
      refine ok_f (mt (c_lt tp2 (show (0 : Int32).toInt = 0 from rfl)).mp c2) ?_
      refine ok_b (o_rdS hM3 wthis.1 (wthis.2.1.1)) ?_
      refine ok_s ?_
      obtain ⟨v10, ev10, tv10⟩ := o_rdI (k := 7) hM3 wthis.2.1.2.1
      refine ok_b ev10 ?_
      by_cases c3 : zp2 < (J (this + 1) 7)
      · replace h := it_t c3 h
        refine ok_t ((c_lt tp2 tv10).mpr c3) ?_
        refine ok_b (o_rdS hM3 wthis.1 (wthis.2.1.1)) ?_
        refine ok_s ?_
        refine ok_b (o_rdS hM3 wthis.2.1.2.1 (wthis.2.1.2.2.2.2.2.2.1.1)) ?_
        refine ok_s ?_
        obtain ⟨v16, ev16, tv16⟩ := o_rdI (k := 0) hM3 wthis.2.1.2.2.2.2.2.2.1.2.1
        refine ok_b ev16 ?_
        by_cases c4 : (J (this + 1 + 16) 0) < 60
        · replace h := it_t c4 h
          refine ok_t ((c_lt tv16 (show (60 : Int32).toInt = 60 from rfl)).mpr c4) ?_
          refine ok_b (o_rdS hM3 wthis.1 (wthis.2.1.1)) ?_
          refine ok_s ?_
          refine ok_b (o_rdS hM3 wthis.2.1.2.1 (wthis.2.1.2.2.2.2.2.2.1.1)) ?_
          refine ok_b (o_rdS hM3 wthis.1 (wthis.2.1.1)) ?_
          refine ok_s ?_
          obtain ⟨v23, ev23, tv23⟩ := o_rdI (k := 3) hM3 wthis.2.1.2.1
          refine ok_b ev23 ?_
          refine ok_s ?_
          refine ok_b (o_isO hM3 wthis.2.1.2.2.2.2.2.2.1.2.1) ?_
          replace h := ob h; obtain ⟨⟨zv27, J25⟩, ezv27, h⟩ := h
          obtain ⟨⟨v27, M25⟩, eM25, tv27, hM25⟩ := h_X1_send hM3 wthis.2.1.2.2.2.2.2.2.1.2 tp1 tp2 tv23 ezv27
          refine ok_b eM25 ?_
          exact o_ri tv27 hM25 h
        · replace h := it_f c4 h
          refine ok_f (mt (c_lt tv16 (show (60 : Int32).toInt = 60 from rfl)).mp c4) ?_
          exact o_ri (show ((-2) : Int32).toInt = (-2) from rfl) hM3 h
      · replace h := it_f c3 h
        refine ok_f (mt (c_lt tp2 tv10).mp c3) ?_
        exact o_ri (show ((-1) : Int32).toInt = (-1) from rfl) hM3 h

set_option maxHeartbeats 4000000 in
set_option maxRecDepth 100000 in
theorem h_X11_waiting {E : Em} {M : Mm} {J : Jm} (hM : Mre E M J) {this : Nat} (wthis : W11 E this) {p1 : Int32} {zp1 : Int} (tp1 : p1.toInt = zp1) {z : Int} (h : H_X11_waiting E this zp1 J = some z) : Ok (F_X11_waiting this p1 M) (fun q => q.1.toInt = z ∧ Mre E q.2 J) := by
  unfold H_X11_waiting at h
  unfold F_X11_waiting
  refine ok_b (o_rdS hM wthis.1 (wthis.2.1.1)) ?_
  refine ok_s ?_
  refine ok_b (o_isO hM wthis.2.1.2.1) ?_
  replace h := ob h; obtain ⟨v5q, ev5q, h⟩ := h
  obtain ⟨⟨v5, M3⟩, eM3, tv5, hM3, wv5⟩ := h_X10_gliderAt hM wthis.2.1.2 tp1 ev5q
  dsimp only at tv5 wv5
  subst tv5
  refine ok_b eM3 ?_
  rcases oq_c v5 with q1 | ⟨a6, q1⟩
  · replace h := oe_nx q1 h
    refine ok_on q1 ?_
    exact o_ri0 (show ((-1) : Int32).toInt = (-1) from rfl) hM3 h
  · replace h := oe_sx q1 h
    refine ok_os q1 ?_
    refine ok_b (o_rdS hM3 wthis.1 (wthis.2.1.1)) ?_
    refine ok_s ?_
    refine ok_b (o_rdS hM3 wthis.2.1.2.1 (wthis.2.1.2.2.2.2.2.2.1.1)) ?_
    refine ok_s ?_
    refine ok_b (o_isO hM3 wthis.2.1.2.2.2.2.2.2.1.2.1) ?_
    replace h := ob h; obtain ⟨zv13, ezv13, h⟩ := h
    obtain ⟨⟨v13, M11⟩, eM11, tv13, hM11⟩ := h_X1_unheardBy hM3 wthis.2.1.2.2.2.2.2.2.1.2 tp1 ezv13
    refine ok_b eM11 ?_
    exact o_ri0 tv13 hM11 h

set_option maxHeartbeats 4000000 in
set_option maxRecDepth 100000 in
theorem h_X11_deaf {E : Em} {M : Mm} {J : Jm} (hM : Mre E M J) {this : Nat} (wthis : W11 E this) {p1 : Int32} {zp1 : Int} (tp1 : p1.toInt = zp1) {p2 : Int32} {zp2 : Int} (tp2 : p2.toInt = zp2) {z : Int} {J1 : Jm} (h : H_X11_deaf E this zp1 zp2 J = some (z, J1)) : Ok (F_X11_deaf this p1 p2 M) (fun q => q.1.toInt = z ∧ Mre E q.2 J1) := by
  unfold H_X11_deaf at h
  unfold F_X11_deaf
  by_cases c1 : zp1 < 0
  · replace h := it_t c1 h
    refine ok_t ((c_lt tp1 (show (0 : Int32).toInt = 0 from rfl)).mpr c1) ?_
    exact o_ri (show ((-1) : Int32).toInt = (-1) from rfl) hM h
  · replace h := it_f c1 h
    refine ok_f (mt (c_lt tp1 (show (0 : Int32).toInt = 0 from rfl)).mp c1) ?_
    by_cases c2 : zp1 ≤ 400
    · replace h := it_t c2 h
      refine ok_t ((c_le tp1 (show (400 : Int32).toInt = 400 from rfl)).mpr c2) ?_
      refine ok_b (o_rdS hM wthis.1 (wthis.2.1.1)) ?_
      refine ok_s ?_
      refine ok_b (o_rdS hM wthis.2.1.2.1 (wthis.2.1.2.2.2.2.1.1)) ?_
      replace h := nv_e h; obtain ⟨zv6, ezv6, h⟩ := h
      obtain ⟨v6, evv6⟩ : ∃ v : Int32, v = (if p2 = 0 then 0 else 1) := ⟨_, rfl⟩
      have tv6 : v6.toInt = zv6 := by rw [evv6, ezv6]; exact (t_ite (c_eq tp2 (show (0 : Int32).toInt = 0 from rfl)) (show (0 : Int32).toInt = 0 from rfl) (show (1 : Int32).toInt = 1 from rfl))
      refine ok_nv evv6 ?_
      refine ok_s ?_
      replace h := ob h; obtain ⟨⟨zv10, J9⟩, ezv10, h⟩ := h
      obtain ⟨⟨v10, M9⟩, eM9, tv10, hM9⟩ := h_X11_changeAt hM (⟨by rw [wthis.2.1.2.2.2.2.1.2], by rw [wthis.2.1.2.2.2.2.1.2]; exact (by decide)⟩ : Wa E (this + 1 + 14)) tp1 tv6 ezv10
      refine ok_b eM9 ?_
      exact o_ri tv10 hM9 h
    · replace h := it_f c2 h
      refine ok_f (mt (c_le tp1 (show (400 : Int32).toInt = 400 from rfl)).mp c2) ?_
      exact o_ri (show ((-1) : Int32).toInt = (-1) from rfl) hM h

set_option maxHeartbeats 4000000 in
set_option maxRecDepth 100000 in
theorem h_X11_rule {E : Em} {M : Mm} {J : Jm} (hM : Mre E M J) {this : Nat} (wthis : W11 E this) {p1 : Int32} {zp1 : Int} (tp1 : p1.toInt = zp1) {z : Int} (h : H_X11_rule E this zp1 J = some z) : Ok (F_X11_rule this p1 M) (fun q => q.1.toInt = z ∧ Mre E q.2 J) := by
  unfold H_X11_rule at h
  unfold F_X11_rule
  refine ok_b (o_rdS hM wthis.1 (wthis.2.1.1)) ?_
  refine ok_s ?_
  refine ok_b (o_isO hM wthis.2.1.2.1) ?_
  replace h := ob h; obtain ⟨v5q, ev5q, h⟩ := h
  obtain ⟨⟨v5, M3⟩, eM3, tv5, hM3, wv5⟩ := h_X10_gliderAt hM wthis.2.1.2 tp1 ev5q
  dsimp only at tv5 wv5
  subst tv5
  refine ok_b eM3 ?_
  rcases oq_c v5 with q1 | ⟨a6, q1⟩
  · replace h := oe_nx q1 h
    refine ok_on q1 ?_
    exact o_ri0 (show ((-1) : Int32).toInt = (-1) from rfl) hM3 h
  · replace h := oe_sx q1 h
    refine ok_os q1 ?_
    refine ok_b (o_rdS hM3 wthis.1 (wthis.2.1.1)) ?_
    refine ok_s ?_
    refine ok_b (o_isO hM3 wthis.2.1.2.1) ?_
    replace h := ob h; obtain ⟨v11q, ev11q, h⟩ := h
    obtain ⟨⟨v11, M9⟩, eM9, tv11, hM9, wv11⟩ := h_X10_orderOf hM3 wthis.2.1.2 (wv5 _ q1) ev11q
    dsimp only at tv11 wv11
    subst tv11
    refine ok_b eM9 ?_
    obtain ⟨v12, ev12, tv12⟩ := o_rdI (k := 3) hM9 (wv5 _ q1).1
    refine ok_b ev12 ?_
    by_cases c2 : (J a6 3) = 0
    · replace h := it_t c2 h
      refine ok_t ((c_eq tv12 (show (0 : Int32).toInt = 0 from rfl)).mpr c2) ?_
      rcases oq_c v11 with q3 | ⟨a14, q3⟩
      · replace h := oe_nx q3 h
        refine ok_on q3 ?_
        exact o_ri0 (show ((-3) : Int32).toInt = (-3) from rfl) hM9 h
      · replace h := oe_sx q3 h
        refine ok_os q3 ?_
        refine ok_b (o_rdS hM9 wthis.1 (wthis.2.1.1)) ?_
        refine ok_s ?_
        refine ok_b (o_isO hM9 wthis.2.1.2.1) ?_
        replace h := ob h; obtain ⟨zv19, ezv19, h⟩ := h
        obtain ⟨⟨v19, M17⟩, eM17, tv19, hM17⟩ := h_X10_ruleFor hM9 wthis.2.1.2 (wv5 _ q1) (wv11 _ q3) ezv19
        refine ok_b eM17 ?_
        exact o_ri0 tv19 hM17 h
    · replace h := it_f c2 h
      refine ok_f (mt (c_eq tv12 (show (0 : Int32).toInt = 0 from rfl)).mp c2) ?_
      exact o_ri0 (show ((-3) : Int32).toInt = (-3) from rfl) hM9 h

set_option maxHeartbeats 4000000 in
set_option maxRecDepth 100000 in
theorem h_X11_times_L35 {E : Em} {z : Int} {J1 : Jm}   (x0 : Nat) (wx0 : W11 E x0) (x1 : Int32) (zx1 : Int) (tx1 : x1.toInt = zx1) : ∀ (fu : Nat), ∀ (x2 : Int32) (zx2 : Int), x2.toInt = zx2 → ∀ (x3 : Int32) (zx3 : Int), x3.toInt = zx3 → ∀ (M0 : Mm) (J0 : Jm), Mre E M0 J0 → H_X11_times_L35 E x0 zx1 fu zx2 zx3 J0 = some (z, J1) → Ok (F_X11_times_L35 x0 x1 fu x2 x3 M0) (fun q => q.1.toInt = z ∧ Mre E q.2 J1) := by
  intro fu
  induction fu with
  | zero =>
    intro x2 zx2 tx2 x3 zx3 tx3 M0 J0 hM0 h
    rw [H_X11_times_L35] at h
    cases h
  | succ n7 ih =>
    intro x2 zx2 tx2 x3 zx3 tx3 M0 J0 hM0 h
    rw [H_X11_times_L35] at h
    rw [F_X11_times_L35]
    by_cases c4 : zx1 ≤ zx3
    · replace h := it_t c4 h
      refine ok_t ((c_le tx1 tx3).mpr c4) ?_
      exact o_ri tx2 hM0 h
    · replace h := it_f c4 h
      refine ok_f (mt (c_le tx1 tx3).mp c4) ?_
      refine ok_b (o_rdS hM0 wx0.1 (wx0.2.1.1)) ?_
      refine ok_s ?_
      refine ok_b (o_isO hM0 wx0.2.1.2.1) ?_
      replace h := ob h; obtain ⟨J11, eJ11, h⟩ := h
      obtain ⟨M11, eM11, hM11⟩ := h_X10_hearAll hM0 wx0.2.1.2 eJ11
      refine ok_b eM11 ?_
      refine ok_b (o_rdS hM11 wx0.1 (wx0.2.1.1)) ?_
      refine ok_s ?_
      refine ok_b (o_isO hM11 wx0.2.1.2.1) ?_
      replace h := ob h; obtain ⟨⟨zv17, J15⟩, ezv17, h⟩ := h
      obtain ⟨⟨v17, M15⟩, eM15, tv17, hM15⟩ := h_X10_obeyAll hM11 wx0.2.1.2 ezv17
      refine ok_b eM15 ?_
      refine ok_b (o_rdS hM15 wx0.1 (wx0.2.1.1)) ?_
      refine ok_s ?_
      refine ok_b (o_rdS hM15 wx0.2.1.2.1 (wx0.2.1.2.2.1.1)) ?_
      refine ok_s ?_
      refine ok_b (o_isO hM15 wx0.2.1.2.2.1.2.1) ?_
      replace h := ob h; obtain ⟨J22, eJ22, h⟩ := h
      obtain ⟨M22, eM22, hM22⟩ := h_X7_growDoubt hM15 wx0.2.1.2.2.1.2 eJ22
      refine ok_b eM22 ?_
      refine ok_b (o_rdS hM22 wx0.1 (wx0.2.1.1)) ?_
      refine ok_s ?_
      obtain ⟨v26, ev26, tv26⟩ := o_rdI (k := 3) hM22 wx0.2.1.2.1
      refine ok_b ev26 ?_
      replace h := nv_e h; obtain ⟨J27, eJ27, h⟩ := h
      obtain ⟨M27, eM27, hM27⟩ := o_wrI (k := 3) hM22 wx0.2.1.2.1 (t_add tv26 (show (1 : Int32).toInt = 1 from rfl)) eJ27
      refine ok_b eM27 ?_
      exact ih _ _ (t_add tx2 tv17) _ _ (t_add tx3 (show (1 : Int32).toInt = 1 from rfl)) _ _ hM27 h
set_option maxHeartbeats 4000000 in
set_option maxRecDepth 100000 in
theorem h_X11_times {E : Em} {M : Mm} {J : Jm} (hM : Mre E M J) {this : Nat} (wthis : W11 E this) {p1 : Int32} {zp1 : Int} (tp1 : p1.toInt = zp1) {z : Int} {J1 : Jm} (h : H_X11_times E this zp1 J = some (z, J1)) : Ok (F_X11_times this p1 M) (fun q => q.1.toInt = z ∧ Mre E q.2 J1) := by
  unfold H_X11_times at h
  unfold F_X11_times
  by_cases c1 : zp1 < 1
  · replace h := it_t c1 h
    refine ok_t ((c_lt tp1 (show (1 : Int32).toInt = 1 from rfl)).mpr c1) ?_
    exact o_ri (show ((-1) : Int32).toInt = (-1) from rfl) hM h
  · replace h := it_f c1 h
    refine ok_f (mt (c_lt tp1 (show (1 : Int32).toInt = 1 from rfl)).mp c1) ?_
    by_cases c2 : zp1 ≤ 40
    · replace h := it_t c2 h
      refine ok_t ((c_le tp1 (show (40 : Int32).toInt = 40 from rfl)).mpr c2) ?_
      refine ok_b (o_rdS hM wthis.1 (wthis.2.1.1)) ?_
      refine ok_s ?_
      obtain ⟨v5, ev5, tv5⟩ := o_rdI (k := 3) hM wthis.2.1.2.1
      refine ok_b ev5 ?_
      by_cases c3 : (wr ((J (this + 1) 3) + zp1)) ≤ 400
      · replace h := it_t c3 h
        refine ok_t ((c_le (t_add tv5 tp1) (show (400 : Int32).toInt = 400 from rfl)).mpr c3) ?_
        refine h_X11_times_L35   _ wthis _ _ tp1 _ _ _ (show (0 : Int32).toInt = 0 from rfl) _ _ (show (0 : Int32).toInt = 0 from rfl) _ _ hM h
      · replace h := it_f c3 h
        refine ok_f (mt (c_le (t_add tv5 tp1) (show (400 : Int32).toInt = 400 from rfl)).mp c3) ?_
        exact o_ri (show ((-2) : Int32).toInt = (-2) from rfl) hM h
    · replace h := it_f c2 h
      refine ok_f (mt (c_le tp1 (show (40 : Int32).toInt = 40 from rfl)).mp c2) ?_
      exact o_ri (show ((-1) : Int32).toInt = (-1) from rfl) hM h

set_option maxHeartbeats 4000000 in
set_option maxRecDepth 100000 in
theorem h_X11_known {E : Em} {M : Mm} {J : Jm} (hM : Mre E M J) {this : Nat} (wthis : W11 E this) {p1 : Int32} {zp1 : Int} (tp1 : p1.toInt = zp1) {p2 : Int32} {zp2 : Int} (tp2 : p2.toInt = zp2) {z : Int} (h : H_X11_known E this zp1 zp2 J = some z) : Ok (F_X11_known this p1 p2 M) (fun q => q.1.toInt = z ∧ Mre E q.2 J) := by
  unfold H_X11_known at h
  unfold F_X11_known
  refine ok_b (o_rdS hM wthis.1 (wthis.2.1.1)) ?_
  refine ok_s ?_
  refine ok_b (o_isO hM wthis.2.1.2.1) ?_
  replace h := ob h; obtain ⟨v5q, ev5q, h⟩ := h
  obtain ⟨⟨v5, M3⟩, eM3, tv5, hM3, wv5⟩ := h_X10_gliderAt hM wthis.2.1.2 tp1 ev5q
  dsimp only at tv5 wv5
  subst tv5
  refine ok_b eM3 ?_
  rcases oq_c v5 with q1 | ⟨a6, q1⟩
  · replace h := oe_nx q1 h
    refine ok_on q1 ?_
    exact o_ri0 (show ((-1) : Int32).toInt = (-1) from rfl) hM3 h
  · replace h := oe_sx q1 h
    refine ok_os q1 ?_
    by_cases c2 : zp2 < 0
    · replace h := it_t c2 h
      refine ok_t ((c_lt tp2 (show (0 : Int32).toInt = 0 from rfl)).mpr c2) ?_
      exact o_ri0 (show ((-1) : Int32).toInt = (-1) from rfl) hM3 h
    · replace h := it_f c2 h
      refine ok_f (mt (c_lt tp2 (show (0 : Int32).toInt = 0 from rfl)).mp c2) ?_
      by_cases c3 : zp2 ≤ 400
      · replace h := it_t c3 h
        refine ok_t ((c_le tp2 (show (400 : Int32).toInt = 400 from rfl)).mpr c3) ?_
        refine ok_b (o_isO hM3 (wv5 _ q1).1) ?_
        replace h := ob h; obtain ⟨zv11, ezv11, h⟩ := h
        obtain ⟨⟨v11, M9⟩, eM9, tv11, hM9⟩ := h_X0_fixBy hM3 (wv5 _ q1) tp2 ezv11
        refine ok_b eM9 ?_
        exact o_ri0 tv11 hM9 h
      · replace h := it_f c3 h
        refine ok_f (mt (c_le tp2 (show (400 : Int32).toInt = 400 from rfl)).mp c3) ?_
        exact o_ri0 (show ((-1) : Int32).toInt = (-1) from rfl) hM3 h

set_option maxHeartbeats 4000000 in
set_option maxRecDepth 100000 in
theorem h_X11_clean {E : Em} {M : Mm} {J : Jm} (hM : Mre E M J) {this : Nat} (wthis : W11 E this) {p1 : Int32} {zp1 : Int} (tp1 : p1.toInt = zp1) {p2 : Int32} {zp2 : Int} (tp2 : p2.toInt = zp2) {z : Int} {J1 : Jm} (h : H_X11_clean E this zp1 zp2 J = some (z, J1)) : Ok (F_X11_clean this p1 p2 M) (fun q => q.1.toInt = z ∧ Mre E q.2 J1) := by
  unfold H_X11_clean at h
  unfold F_X11_clean
  refine ok_b (o_rdS hM wthis.1 (wthis.2.1.1)) ?_
  refine ok_s ?_
  refine ok_b (o_isO hM wthis.2.1.2.1) ?_
  replace h := ob h; obtain ⟨v5q, ev5q, h⟩ := h
  obtain ⟨⟨v5, M3⟩, eM3, tv5, hM3, wv5⟩ := h_X10_gliderAt hM wthis.2.1.2 tp1 ev5q
  dsimp only at tv5 wv5
  subst tv5
  refine ok_b eM3 ?_
  rcases oq_c v5 with q1 | ⟨a6, q1⟩
  · replace h := oe_nx q1 h
    refine ok_on q1 ?_
    exact o_ri (show ((-1) : Int32).toInt = (-1) from rfl) hM3 h
  · replace h := oe_sx q1 h
    refine ok_os q1 ?_
    by_cases c2 : zp2 < (-2000)
    · replace h := it_t c2 h
      refine ok_t ((c_lt tp2 (show ((-2000) : Int32).toInt = (-2000) from rfl)).mpr c2) ?_
      exact o_ri (show ((-1) : Int32).toInt = (-1) from rfl) hM3 h
    · replace h := it_f c2 h
      refine ok_f (mt (c_lt tp2 (show ((-2000) : Int32).toInt = (-2000) from rfl)).mp c2) ?_
      by_cases c3 : zp2 ≤ 2000
      · replace h := it_t c3 h
        refine ok_t ((c_le tp2 (show (2000 : Int32).toInt = 2000 from rfl)).mpr c3) ?_
        refine ok_b (o_rdS hM3 wthis.1 (wthis.2.1.1)) ?_
        refine ok_s ?_
        refine ok_b (o_rdS hM3 wthis.2.1.2.1 (wthis.2.1.2.2.2.2.2.2.2.1.1)) ?_
        refine ok_s ?_
        obtain ⟨v13, ev13, tv13⟩ := o_rdI (k := 7) hM3 wthis.2.1.2.2.2.2.2.2.2.1.2.1
        refine ok_b ev13 ?_
        by_cases c4 : (J (this + 1 + 21) 7) < 60
        · replace h := it_t c4 h
          refine ok_t ((c_lt tv13 (show (60 : Int32).toInt = 60 from rfl)).mpr c4) ?_
          refine ok_b (o_rdS hM3 wthis.1 (wthis.2.1.1)) ?_
          refine ok_s ?_
          refine ok_b (o_rdS hM3 wthis.2.1.2.1 (wthis.2.1.2.2.2.2.2.2.2.1.1)) ?_
          obtain ⟨v18, ev18, tv18⟩ := o_rdI (k := 5) hM3 (wv5 _ q1).1
          refine ok_b ev18 ?_
          refine ok_s ?_
          refine ok_b (o_isO hM3 wthis.2.1.2.2.2.2.2.2.2.1.2.1) ?_
          replace h := ob h; obtain ⟨⟨zv22, J20⟩, ezv22, h⟩ := h
          obtain ⟨⟨v22, M20⟩, eM20, tv22, hM20⟩ := h_X6_addCleaning hM3 wthis.2.1.2.2.2.2.2.2.2.1.2 tp1 tp2 tv18 ezv22
          refine ok_b eM20 ?_
          replace h := nv_e h; obtain ⟨J23, eJ23, h⟩ := h
          obtain ⟨M23, eM23, hM23⟩ := o_wrI (k := 5) hM20 (wv5 _ q1).1 (show (0 : Int32).toInt = 0 from rfl) eJ23
          refine ok_b eM23 ?_
          exact o_ri tv22 hM23 h
        · replace h := it_f c4 h
          refine ok_f (mt (c_lt tv13 (show (60 : Int32).toInt = 60 from rfl)).mp c4) ?_
          exact o_ri (show ((-2) : Int32).toInt = (-2) from rfl) hM3 h
      · replace h := it_f c3 h
        refine ok_f (mt (c_le tp2 (show (2000 : Int32).toInt = 2000 from rfl)).mp c3) ?_
        exact o_ri (show ((-1) : Int32).toInt = (-1) from rfl) hM3 h

set_option maxHeartbeats 4000000 in
set_option maxRecDepth 100000 in
theorem h_X11_reading {E : Em} {M : Mm} {J : Jm} (hM : Mre E M J) {this : Nat} (wthis : W11 E this) {p1 : Int32} {zp1 : Int} (tp1 : p1.toInt = zp1) {p2 : Int32} {zp2 : Int} (tp2 : p2.toInt = zp2) {z : Int} (h : H_X11_reading this zp1 zp2 J = some z) : Ok (F_X11_reading this p1 p2 M) (fun q => q.1.toInt = z ∧ Mre E q.2 J) := by
  unfold H_X11_reading at h
  unfold F_X11_reading
  refine ok_b (o_rdS hM wthis.1 (wthis.2.1.1)) ?_
  refine ok_s ?_
  refine ok_b (o_rdS hM wthis.2.1.2.1 (wthis.2.1.2.2.2.2.2.2.2.1.1)) ?_
  by_cases c1 : zp1 < 0
  · replace h := it_t c1 h
    refine ok_t ((c_lt tp1 (show (0 : Int32).toInt = 0 from rfl)).mpr c1) ?_
    exact o_ri0 (show ((-1) : Int32).toInt = (-1) from rfl) hM h
  · replace h := it_f c1 h
    refine ok_f (mt (c_lt tp1 (show (0 : Int32).toInt = 0 from rfl)).mp c1) ?_
    refine ok_s ?_
    obtain ⟨v6, ev6, tv6⟩ := o_rdI (k := 0) hM wthis.2.1.2.2.2.2.2.2.2.1.2.1
    refine ok_b ev6 ?_
    by_cases c2 : zp1 < (J (this + 1 + 21) 0)
    · replace h := it_t c2 h
      refine ok_t ((c_lt tp1 tv6).mpr c2) ?_
      by_cases c3 : zp2 = 0
      · replace h := it_t c3 h
        refine ok_t ((c_eq tp2 (show (0 : Int32).toInt = 0 from rfl)).mpr c3) ?_
        refine ok_b (o_rdS hM wthis.2.1.2.2.2.2.2.2.2.1.2.1 (wthis.2.1.2.2.2.2.2.2.2.1.2.2.1.1)) ?_
        refine ok_s ?_
        replace h := ob h; obtain ⟨zv10, ezv10, h⟩ := h
        obtain ⟨v10, ev10, tv10⟩ := o_ldI hM wthis.2.1.2.2.2.2.2.2.2.1.2.2.1.2 rfl tp1 ezv10
        refine ok_b ev10 ?_
        exact o_ri0 tv10 hM h
      · replace h := it_f c3 h
        refine ok_f (mt (c_eq tp2 (show (0 : Int32).toInt = 0 from rfl)).mp c3) ?_
        by_cases c4 : zp2 = 1
        · replace h := it_t c4 h
          refine ok_t ((c_eq tp2 (show (1 : Int32).toInt = 1 from rfl)).mpr c4) ?_
          refine ok_b (o_rdS hM wthis.2.1.2.2.2.2.2.2.2.1.2.1 (wthis.2.1.2.2.2.2.2.2.2.1.2.2.2.1.1)) ?_
          refine ok_s ?_
          replace h := ob h; obtain ⟨zv14, ezv14, h⟩ := h
          obtain ⟨v14, ev14, tv14⟩ := o_ldI hM wthis.2.1.2.2.2.2.2.2.2.1.2.2.2.1.2 rfl tp1 ezv14
          refine ok_b ev14 ?_
          exact o_ri0 tv14 hM h
        · replace h := it_f c4 h
          refine ok_f (mt (c_eq tp2 (show (1 : Int32).toInt = 1 from rfl)).mp c4) ?_
          by_cases c5 : zp2 = 2
          · replace h := it_t c5 h
            refine ok_t ((c_eq tp2 (show (2 : Int32).toInt = 2 from rfl)).mpr c5) ?_
            refine ok_b (o_rdS hM wthis.2.1.2.2.2.2.2.2.2.1.2.1 (wthis.2.1.2.2.2.2.2.2.2.1.2.2.2.2.1.1)) ?_
            refine ok_s ?_
            replace h := ob h; obtain ⟨zv18, ezv18, h⟩ := h
            obtain ⟨v18, ev18, tv18⟩ := o_ldI hM wthis.2.1.2.2.2.2.2.2.2.1.2.2.2.2.1.2 rfl tp1 ezv18
            refine ok_b ev18 ?_
            exact o_ri0 tv18 hM h
          · replace h := it_f c5 h
            refine ok_f (mt (c_eq tp2 (show (2 : Int32).toInt = 2 from rfl)).mp c5) ?_
            by_cases c6 : zp2 = 3
            · replace h := it_t c6 h
              refine ok_t ((c_eq tp2 (show (3 : Int32).toInt = 3 from rfl)).mpr c6) ?_
              refine ok_b (o_rdS hM wthis.2.1.2.2.2.2.2.2.2.1.2.1 (wthis.2.1.2.2.2.2.2.2.2.1.2.2.2.2.2.1.1)) ?_
              refine ok_s ?_
              replace h := ob h; obtain ⟨zv22, ezv22, h⟩ := h
              obtain ⟨v22, ev22, tv22⟩ := o_ldI hM wthis.2.1.2.2.2.2.2.2.2.1.2.2.2.2.2.1.2 rfl tp1 ezv22
              refine ok_b ev22 ?_
              exact o_ri0 tv22 hM h
            · replace h := it_f c6 h
              refine ok_f (mt (c_eq tp2 (show (3 : Int32).toInt = 3 from rfl)).mp c6) ?_
              by_cases c7 : zp2 = 4
              · replace h := it_t c7 h
                refine ok_t ((c_eq tp2 (show (4 : Int32).toInt = 4 from rfl)).mpr c7) ?_
                refine ok_b (o_rdS hM wthis.2.1.2.2.2.2.2.2.2.1.2.1 (wthis.2.1.2.2.2.2.2.2.2.1.2.2.2.2.2.2.1.1)) ?_
                refine ok_s ?_
                replace h := ob h; obtain ⟨zv26, ezv26, h⟩ := h
                obtain ⟨v26, ev26, tv26⟩ := o_ldI hM wthis.2.1.2.2.2.2.2.2.2.1.2.2.2.2.2.2.1.2 rfl tp1 ezv26
                refine ok_b ev26 ?_
                exact o_ri0 tv26 hM h
              · replace h := it_f c7 h
                refine ok_f (mt (c_eq tp2 (show (4 : Int32).toInt = 4 from rfl)).mp c7) ?_
                exact o_ri0 (show ((-1) : Int32).toInt = (-1) from rfl) hM h
    · replace h := it_f c2 h
      refine ok_f (mt (c_lt tp1 tv6).mp c2) ?_
      exact o_ri0 (show ((-1) : Int32).toInt = (-1) from rfl) hM h

set_option maxHeartbeats 4000000 in
set_option maxRecDepth 100000 in
theorem h_X11_plan {E : Em} {M : Mm} {J : Jm} (hM : Mre E M J) {this : Nat} (wthis : W11 E this) {p1 : Int32} {zp1 : Int} (tp1 : p1.toInt = zp1) {z : Int} {J1 : Jm} (h : H_X11_plan E this zp1 J = some (z, J1)) : Ok (F_X11_plan this p1 M) (fun q => q.1.toInt = z ∧ Mre E q.2 J1) := by
  unfold H_X11_plan at h
  unfold F_X11_plan
  replace h := ob h; obtain ⟨zv2, ezv2, h⟩ := h
  obtain ⟨⟨v2, M1⟩, eM1, tv2, hM1⟩ := h_X11_isLayer hM tp1 ezv2
  refine ok_b eM1 ?_
  by_cases c1 : zv2 = 0
  · replace h := it_t c1 h
    refine ok_t ((c_eq tv2 (show (0 : Int32).toInt = 0 from rfl)).mpr c1) ?_
    exact o_ri (show ((-1) : Int32).toInt = (-1) from rfl) hM1 h
  · replace h := it_f c1 h
    refine ok_f (mt (c_eq tv2 (show (0 : Int32).toInt = 0 from rfl)).mp c1) ?_
    refine ok_b (o_rdS hM1 wthis.1 (wthis.2.2.1.1)) ?_
    refine ok_s ?_
    refine ok_b (o_isO hM1 wthis.2.2.1.2.1) ?_
    replace h := ob h; obtain ⟨⟨zv8, J6⟩, ezv8, h⟩ := h
    obtain ⟨⟨v8, M6⟩, eM6, tv8, hM6⟩ := h_X5_work hM1 wthis.2.2.1.2 tp1 ezv8
    refine ok_b eM6 ?_
    exact o_ri tv8 hM6 h

set_option maxHeartbeats 4000000 in
set_option maxRecDepth 100000 in
theorem h_X11_planned {E : Em} {M : Mm} {J : Jm} (hM : Mre E M J) {this : Nat} (wthis : W11 E this) {p1 : Int32} {zp1 : Int} (tp1 : p1.toInt = zp1) {p2 : Int32} {zp2 : Int} (tp2 : p2.toInt = zp2) {z : Int} {J1 : Jm} (h : H_X11_planned E this zp1 zp2 J = some (z, J1)) : Ok (F_X11_planned this p1 p2 M) (fun q => q.1.toInt = z ∧ Mre E q.2 J1) := by
  unfold H_X11_planned at h
  unfold F_X11_planned
  replace h := ob h; obtain ⟨zv2, ezv2, h⟩ := h
  obtain ⟨⟨v2, M1⟩, eM1, tv2, hM1⟩ := h_X11_isLayer hM tp1 ezv2
  refine ok_b eM1 ?_
  by_cases c1 : zv2 = 0
  · replace h := it_t c1 h
    refine ok_t ((c_eq tv2 (show (0 : Int32).toInt = 0 from rfl)).mpr c1) ?_
    exact o_ri (show ((-1) : Int32).toInt = (-1) from rfl) hM1 h
  · replace h := it_f c1 h
    refine ok_f (mt (c_eq tv2 (show (0 : Int32).toInt = 0 from rfl)).mp c1) ?_
    refine ok_b (o_rdS hM1 wthis.1 (wthis.2.1.1)) ?_
    refine ok_s ?_
    refine ok_b (o_isO hM1 wthis.2.1.2.1) ?_
    replace h := ob h; obtain ⟨v8q, ev8q, h⟩ := h
    obtain ⟨⟨v8, M6⟩, eM6, tv8, hM6, wv8⟩ := h_X10_gliderAt hM1 wthis.2.1.2 tp2 ev8q
    dsimp only at tv8 wv8
    subst tv8
    refine ok_b eM6 ?_
    rcases oq_c v8 with q2 | ⟨a9, q2⟩
    · replace h := oe_nx q2 h
      refine ok_on q2 ?_
      exact o_ri (show ((-1) : Int32).toInt = (-1) from rfl) hM6 h
    · replace h := oe_sx q2 h
      refine ok_os q2 ?_
      refine ok_b (o_rdS hM6 wthis.1 (wthis.2.2.1.1)) ?_
      refine ok_s ?_
      refine ok_b (o_isO hM6 wthis.2.2.1.2.1) ?_
      replace h := ob h; obtain ⟨⟨zv14, J12⟩, ezv14, h⟩ := h
      obtain ⟨⟨v14, M12⟩, eM12, tv14, hM12⟩ := h_X5_work hM6 wthis.2.2.1.2 tp1 ezv14
      refine ok_b eM12 ?_
      refine ok_b (o_rdS hM12 wthis.1 (wthis.2.2.1.1)) ?_
      refine ok_s ?_
      refine ok_b (o_isO hM12 wthis.2.2.1.2.1) ?_
      replace h := ob h; obtain ⟨zv19, ezv19, h⟩ := h
      obtain ⟨⟨v19, M17⟩, eM17, tv19, hM17⟩ := h_X5_headingOf hM12 wthis.2.2.1.2 tp2 ezv19
      refine ok_b eM17 ?_
      exact o_ri tv19 hM17 h

set_option maxHeartbeats 4000000 in
set_option maxRecDepth 100000 in
theorem h_X11_ends {E : Em} {M : Mm} {J : Jm} (hM : Mre E M J) {this : Nat} (wthis : W11 E this) {p1 : Int32} {zp1 : Int} (tp1 : p1.toInt = zp1) {p2 : Int32} {zp2 : Int} (tp2 : p2.toInt = zp2) {p3 : Int32} {zp3 : Int} (tp3 : p3.toInt = zp3) {p4 : Int32} {zp4 : Int} (tp4 : p4.toInt = zp4) {z : Int} {J1 : Jm} (h : H_X11_ends E this zp1 zp2 zp3 zp4 J = some (z, J1)) : Ok (F_X11_ends this p1 p2 p3 p4 M) (fun q => q.1.toInt = z ∧ Mre E q.2 J1) := by
  unfold H_X11_ends at h
  unfold F_X11_ends
  refine ok_b (o_rdS hM wthis.1 (wthis.2.1.1)) ?_
  refine ok_s ?_
  refine ok_b (o_isO hM wthis.2.1.2.1) ?_
  replace h := ob h; obtain ⟨v5q, ev5q, h⟩ := h
  obtain ⟨⟨v5, M3⟩, eM3, tv5, hM3, wv5⟩ := h_X10_gliderAt hM wthis.2.1.2 tp1 ev5q
  dsimp only at tv5 wv5
  subst tv5
  refine ok_b eM3 ?_
  rcases oq_c v5 with q1 | ⟨a6, q1⟩
  · replace h := oe_nx q1 h
    refine ok_on q1 ?_
    exact o_ri (show ((-1) : Int32).toInt = (-1) from rfl) hM3 h
  · replace h := oe_sx q1 h
    refine ok_os q1 ?_
    refine ok_b (o_isO hM3 (wv5 _ q1).1) ?_
    replace h := ob h; obtain ⟨zv9, ezv9, h⟩ := h
    obtain ⟨⟨v9, M7⟩, eM7, tv9, hM7⟩ := h_X0_mayDive hM3 (wv5 _ q1) tp2 tp3 tp4 ezv9
    refine ok_b eM7 ?_
    by_cases c2 : zv9 = 0
    · replace h := it_t c2 h
      refine ok_t ((c_eq tv9 (show (0 : Int32).toInt = 0 from rfl)).mpr c2) ?_
      exact o_ri (show ((-1) : Int32).toInt = (-1) from rfl) hM7 h
    · replace h := it_f c2 h
      refine ok_f (mt (c_eq tv9 (show (0 : Int32).toInt = 0 from rfl)).mp c2) ?_
      obtain ⟨v11, ev11, tv11⟩ := o_rdI (k := 3) hM7 (wv5 _ q1).1
      refine ok_b ev11 ?_
      by_cases c3 : (J a6 3) = 0
      · replace h := it_t c3 h
        refine ok_t ((c_eq tv11 (show (0 : Int32).toInt = 0 from rfl)).mpr c3) ?_
        refine ok_b (o_rdS hM7 wthis.1 (wthis.2.1.1)) ?_
        refine ok_s ?_
        refine ok_b (o_rdS hM7 wthis.2.1.2.1 (wthis.2.1.2.2.2.2.2.2.2.2.1)) ?_
        refine ok_b (o_rdS hM7 wthis.1 (wthis.2.1.1)) ?_
        refine ok_s ?_
        refine ok_b (o_rdS hM7 wthis.2.1.2.1 (wthis.2.1.2.2.1.1)) ?_
        refine ok_b (o_rdS hM7 wthis.1 (wthis.2.1.1)) ?_
        refine ok_s ?_
        refine ok_b (o_rdS hM7 wthis.2.1.2.1 (wthis.2.1.2.2.1.1)) ?_
        refine ok_s ?_
        refine ok_b (o_rdS hM7 wthis.2.1.2.2.1.2.1 (wthis.2.1.2.2.1.2.2.2.2.2.2.2.2.1)) ?_
        obtain ⟨v24, ev24, tv24⟩ := o_rdI (k := 1) hM7 (wv5 _ q1).1
        refine ok_b ev24 ?_
        refine ok_s ?_
        refine ok_s ?_
        refine ok_s ?_
        refine ok_b (o_isO hM7 wthis.2.1.2.2.2.2.2.2.2.2.2) ?_
        replace h := ob h; obtain ⟨J28, eJ28, h⟩ := h
        obtain ⟨M28, eM28, hM28⟩ := h_X4_sink hM7 wthis.2.1.2.2.2.2.2.2.2.2.2 wthis.2.1.2.2.1.2 wthis.2.1.2.2.1.2.2.2.2.2.2.2.2.2 tv24 tp2 (show (0 : Int32).toInt = 0 from rfl) eJ28
        refine ok_b eM28 ?_
        refine ok_b (o_rdS hM28 wthis.1 (wthis.2.1.1)) ?_
        refine ok_s ?_
        refine ok_b (o_rdS hM28 wthis.2.1.2.1 (wthis.2.1.2.2.1.1)) ?_
        refine ok_b (o_rdS hM28 wthis.1 (wthis.2.1.1)) ?_
        refine ok_s ?_
        refine ok_b (o_rdS hM28 wthis.2.1.2.1 (wthis.2.1.2.2.2.2.2.2.2.2.1)) ?_
        refine ok_s ?_
        obtain ⟨v37, ev37, tv37⟩ := o_rdI (k := 0) hM28 wthis.2.1.2.2.2.2.2.2.2.2.2
        refine ok_b ev37 ?_
        refine ok_s ?_
        refine ok_b (o_isO hM28 wthis.2.1.2.2.1.2.1) ?_
        replace h := ob h; obtain ⟨zv41, ezv41, h⟩ := h
        obtain ⟨⟨v41, M39⟩, eM39, tv41, hM39⟩ := h_X7_walked hM28 wthis.2.1.2.2.1.2 tv37 tp3 tp4 ezv41
        refine ok_b eM39 ?_
        exact o_ri tv41 hM39 h
      · replace h := it_f c3 h
        refine ok_f (mt (c_eq tv11 (show (0 : Int32).toInt = 0 from rfl)).mp c3) ?_
        exact o_ri (show ((-3) : Int32).toInt = (-3) from rfl) hM7 h

set_option maxHeartbeats 4000000 in
set_option maxRecDepth 100000 in
theorem h_X11_whole_L13 {E : Em} {z : Int} (J : Jm)  (x0 : Nat) (wx0 : W11 E x0) (x1 : Int32) (zx1 : Int) (tx1 : x1.toInt = zx1) : ∀ (fu : Nat), ∀ (x2 : Int32) (zx2 : Int), x2.toInt = zx2 → ∀ (x3 : Int32) (zx3 : Int), x3.toInt = zx3 → ∀ (M0 : Mm), Mre E M0 J → H_X11_whole_L13 x0 zx1 J fu zx2 zx3 = some z → Ok (F_X11_whole_L13 x0 x1 fu x2 x3 M0) (fun q => q.1.toInt = z ∧ Mre E q.2 J) := by
  intro fu
  induction fu with
  | zero =>
    intro x2 zx2 tx2 x3 zx3 tx3 M0 hM0 h
    rw [H_X11_whole_L13] at h
    cases h
  | succ n4 ih =>
    intro x2 zx2 tx2 x3 zx3 tx3 M0 hM0 h
    rw [H_X11_whole_L13] at h
    rw [F_X11_whole_L13]
    by_cases c2 : 80 ≤ zx3
    · replace h := it_t c2 h
      refine ok_t ((c_le (show (80 : Int32).toInt = 80 from rfl) tx3).mpr c2) ?_
      exact o_ri0 tx2 hM0 h
    · replace h := it_f c2 h
      refine ok_f (mt (c_le (show (80 : Int32).toInt = 80 from rfl) tx3).mp c2) ?_
      refine ok_b (o_rdS hM0 wx0.1 (wx0.2.1.1)) ?_
      refine ok_s ?_
      refine ok_b (o_rdS hM0 wx0.2.1.2.1 (wx0.2.1.2.2.1.1)) ?_
      refine ok_s ?_
      refine ok_b (o_isO hM0 wx0.2.1.2.2.1.2.1) ?_
      replace h := ob h; obtain ⟨zv12, ezv12, h⟩ := h
      obtain ⟨⟨v12, M10⟩, eM10, tv12, hM10⟩ := h_X7_has hM0 wx0.2.1.2.2.1.2 tx3 tx1 ezv12
      refine ok_b eM10 ?_
      by_cases c3 : zv12 = 0
      · replace h := it_t c3 h
        refine ok_t ((c_eq tv12 (show (0 : Int32).toInt = 0 from rfl)).mpr c3) ?_
        exact ih _ _ tx2 _ _ (t_add tx3 (show (1 : Int32).toInt = 1 from rfl)) _ hM10 h
      · replace h := it_f c3 h
        refine ok_f (mt (c_eq tv12 (show (0 : Int32).toInt = 0 from rfl)).mp c3) ?_
        refine ok_b (o_rdS hM10 wx0.1 (wx0.2.1.1)) ?_
        refine ok_s ?_
        refine ok_b (o_rdS hM10 wx0.2.1.2.1 (wx0.2.1.2.2.1.1)) ?_
        refine ok_s ?_
        refine ok_b (o_isO hM10 wx0.2.1.2.2.1.2.1) ?_
        replace h := ob h; obtain ⟨zv20, ezv20, h⟩ := h
        obtain ⟨⟨v20, M18⟩, eM18, tv20, hM18⟩ := h_X7_isWhole hM10 wx0.2.1.2.2.1.2 tx3 tx1 ezv20
        refine ok_b eM18 ?_
        by_cases c4 : zv20 = 0
        · replace h := it_t c4 h
          refine ok_t ((c_eq tv20 (show (0 : Int32).toInt = 0 from rfl)).mpr c4) ?_
          exact ih _ _ tx2 _ _ (t_add tx3 (show (1 : Int32).toInt = 1 from rfl)) _ hM18 h
        · replace h := it_f c4 h
          refine ok_f (mt (c_eq tv20 (show (0 : Int32).toInt = 0 from rfl)).mp c4) ?_
          exact ih _ _ (t_add tx2 (show (1 : Int32).toInt = 1 from rfl)) _ _ (t_add tx3 (show (1 : Int32).toInt = 1 from rfl)) _ hM18 h
set_option maxHeartbeats 4000000 in
set_option maxRecDepth 100000 in
theorem h_X11_whole {E : Em} {M : Mm} {J : Jm} (hM : Mre E M J) {this : Nat} (wthis : W11 E this) {p1 : Int32} {zp1 : Int} (tp1 : p1.toInt = zp1) {z : Int} (h : H_X11_whole this zp1 J = some z) : Ok (F_X11_whole this p1 M) (fun q => q.1.toInt = z ∧ Mre E q.2 J) := by
  unfold H_X11_whole at h
  unfold F_X11_whole
  replace h := ob h; obtain ⟨zv2, ezv2, h⟩ := h
  obtain ⟨⟨v2, M1⟩, eM1, tv2, hM1⟩ := h_X11_isLayer hM tp1 ezv2
  refine ok_b eM1 ?_
  by_cases c1 : zv2 = 0
  · replace h := it_t c1 h
    refine ok_t ((c_eq tv2 (show (0 : Int32).toInt = 0 from rfl)).mpr c1) ?_
    exact o_ri0 (show ((-1) : Int32).toInt = (-1) from rfl) hM1 h
  · replace h := it_f c1 h
    refine ok_f (mt (c_eq tv2 (show (0 : Int32).toInt = 0 from rfl)).mp c1) ?_
    refine h_X11_whole_L13 _  _ wthis _ _ tp1 _ _ _ (show (0 : Int32).toInt = 0 from rfl) _ _ (show (0 : Int32).toInt = 0 from rfl) _ hM1 h

set_option maxHeartbeats 4000000 in
set_option maxRecDepth 100000 in
theorem h_X11_ship {E : Em} {M : Mm} {J : Jm} (hM : Mre E M J) {this : Nat} (wthis : W11 E this) {p1 : Int32} {zp1 : Int} (tp1 : p1.toInt = zp1) {p2 : Int32} {zp2 : Int} (tp2 : p2.toInt = zp2) {z : Int} {J1 : Jm} (h : H_X11_ship this zp1 zp2 J = some (z, J1)) : Ok (F_X11_ship this p1 p2 M) (fun q => q.1.toInt = z ∧ Mre E q.2 J1) := by
  unfold H_X11_ship at h
  unfold F_X11_ship
  replace h := ob h; obtain ⟨zv2, ezv2, h⟩ := h
  obtain ⟨⟨v2, M1⟩, eM1, tv2, hM1⟩ := h_X11_isCell hM tp1 tp2 ezv2
  refine ok_b eM1 ?_
  by_cases c1 : zv2 = 0
  · replace h := it_t c1 h
    refine ok_t ((c_eq tv2 (show (0 : Int32).toInt = 0 from rfl)).mpr c1) ?_
    exact o_ri (show ((-1) : Int32).toInt = (-1) from rfl) hM1 h
  · replace h := it_f c1 h
    refine ok_f (mt (c_eq tv2 (show (0 : Int32).toInt = 0 from rfl)).mp c1) ?_
    refine ok_b (o_rdS hM1 wthis.1 (wthis.2.1.1)) ?_
    refine ok_s ?_
    refine ok_b (o_rdS hM1 wthis.2.1.2.1 (wthis.2.1.2.2.1.1)) ?_
    refine ok_s ?_
    refine ok_b (o_rdS hM1 wthis.2.1.2.2.1.2.1 (wthis.2.1.2.2.1.2.2.1.1)) ?_
    replace h := ob h; obtain ⟨zv10, ezv10, h⟩ := h
    obtain ⟨⟨v10, M9⟩, eM9, tv10, hM9⟩ := h_X11_cellOf hM1 tp1 tp2 ezv10
    refine ok_b eM9 ?_
    refine ok_s ?_
    replace h := ob h; obtain ⟨zv11, ezv11, h⟩ := h
    obtain ⟨v11, ev11, tv11⟩ := o_ldI hM9 wthis.2.1.2.2.1.2.2.1.2 rfl tv10 ezv11
    refine ok_b ev11 ?_
    by_cases c2 : zv11 = 0
    · replace h := it_t c2 h
      refine ok_t ((c_eq tv11 (show (0 : Int32).toInt = 0 from rfl)).mpr c2) ?_
      exact o_ri (show ((-3) : Int32).toInt = (-3) from rfl) hM9 h
    · replace h := it_f c2 h
      refine ok_f (mt (c_eq tv11 (show (0 : Int32).toInt = 0 from rfl)).mp c2) ?_
      refine ok_b (o_rdS hM9 wthis.1 (wthis.2.1.1)) ?_
      refine ok_s ?_
      obtain ⟨v16, ev16, tv16⟩ := o_rdI (k := 4) hM9 wthis.2.1.2.1
      refine ok_b ev16 ?_
      refine ok_b (o_rdS hM9 wthis.1 (wthis.2.1.1)) ?_
      replace h := ob h; obtain ⟨zv19, ezv19, h⟩ := h
      obtain ⟨⟨v19, M18⟩, eM18, tv19, hM18⟩ := h_X11_cellOf hM9 tp1 tp2 ezv19
      refine ok_b eM18 ?_
      refine ok_s ?_
      replace h := nv_e h; obtain ⟨J21, eJ21, h⟩ := h
      obtain ⟨M21, eM21, hM21⟩ := o_wrI (k := 4) hM18 wthis.2.1.2.1 tv19 eJ21
      refine ok_b eM21 ?_
      exact o_ri tv16 hM21 h

set_option maxHeartbeats 4000000 in
set_option maxRecDepth 100000 in
theorem h_X11_left {E : Em} {M : Mm} {J : Jm} (hM : Mre E M J) {this : Nat} (wthis : W11 E this) {p1 : Int32} {zp1 : Int} (tp1 : p1.toInt = zp1) {z : Int} (h : H_X11_left E this zp1 J = some z) : Ok (F_X11_left this p1 M) (fun q => q.1.toInt = z ∧ Mre E q.2 J) := by
  unfold H_X11_left at h
  unfold F_X11_left
  refine ok_b (o_rdS hM wthis.1 (wthis.2.1.1)) ?_
  refine ok_s ?_
  refine ok_b (o_isO hM wthis.2.1.2.1) ?_
  replace h := ob h; obtain ⟨v5q, ev5q, h⟩ := h
  obtain ⟨⟨v5, M3⟩, eM3, tv5, hM3, wv5⟩ := h_X10_gliderAt hM wthis.2.1.2 tp1 ev5q
  dsimp only at tv5 wv5
  subst tv5
  refine ok_b eM3 ?_
  rcases oq_c v5 with q1 | ⟨a6, q1⟩
  · replace h := oe_nx q1 h
    refine ok_on q1 ?_
    exact o_ri0 (show ((-1) : Int32).toInt = (-1) from rfl) hM3 h
  · replace h := oe_sx q1 h
    refine ok_os q1 ?_
    obtain ⟨v7, ev7, tv7⟩ := o_rdI (k := 3) hM3 (wv5 _ q1).1
    refine ok_b ev7 ?_
    by_cases c2 : (J a6 3) = 0
    · replace h := it_t c2 h
      refine ok_t ((c_eq tv7 (show (0 : Int32).toInt = 0 from rfl)).mpr c2) ?_
      refine ok_b (o_isO hM3 (wv5 _ q1).1) ?_
      replace h := ob h; obtain ⟨zv11, ezv11, h⟩ := h
      obtain ⟨⟨v11, M9⟩, eM9, tv11, hM9⟩ := h_X0_divesLeft hM3 (wv5 _ q1) ezv11
      refine ok_b eM9 ?_
      exact o_ri0 tv11 hM9 h
    · replace h := it_f c2 h
      refine ok_f (mt (c_eq tv7 (show (0 : Int32).toInt = 0 from rfl)).mp c2) ?_
      exact o_ri0 (show ((-3) : Int32).toInt = (-3) from rfl) hM3 h

set_option maxHeartbeats 4000000 in
set_option maxRecDepth 100000 in
theorem h_X11_stepsBetween {E : Em} {M : Mm} {J : Jm} (hM : Mre E M J) {p1 : Int32} {zp1 : Int} (tp1 : p1.toInt = zp1) {p2 : Int32} {zp2 : Int} (tp2 : p2.toInt = zp2) {z : Int} (h : H_X11_stepsBetween zp1 zp2 = some z) : Ok (F_X11_stepsBetween p1 p2 M) (fun q => q.1.toInt = z ∧ Mre E q.2 J) := by
  unfold H_X11_stepsBetween at h
  unfold F_X11_stepsBetween
  replace h := ob h; obtain ⟨zv2, ezv2, h⟩ := h
  obtain ⟨⟨v2, M1⟩, eM1, tv2, hM1⟩ := h_X11_xOf hM tp1 ezv2
  refine ok_b eM1 ?_
  replace h := ob h; obtain ⟨zv4, ezv4, h⟩ := h
  obtain ⟨⟨v4, M3⟩, eM3, tv4, hM3⟩ := h_X11_xOf hM1 tp2 ezv4
  refine ok_b eM3 ?_
  replace h := ob h; obtain ⟨zv6, ezv6, h⟩ := h
  obtain ⟨⟨v6, M5⟩, eM5, tv6, hM5⟩ := h_X11_yOf hM3 tp1 ezv6
  refine ok_b eM5 ?_
  replace h := ob h; obtain ⟨zv8, ezv8, h⟩ := h
  obtain ⟨⟨v8, M7⟩, eM7, tv8, hM7⟩ := h_X11_yOf hM5 tp2 ezv8
  refine ok_b eM7 ?_
  exact o_ri0 (t_add (t_ab (t_sub tv2 tv4)) (t_ab (t_sub tv6 tv8))) hM7 h

set_option maxHeartbeats 4000000 in
set_option maxRecDepth 100000 in
theorem h_X11_next_L10 {E : Em} {z : Int} (J : Jm)  (x0 : Nat) (wx0 : W11 E x0) : ∀ (fu : Nat), ∀ (x1 : Int32) (zx1 : Int), x1.toInt = zx1 → ∀ (x2 : Int32) (zx2 : Int), x2.toInt = zx2 → ∀ (x3 : Int32) (zx3 : Int), x3.toInt = zx3 → ∀ (x4 : Int32) (zx4 : Int), x4.toInt = zx4 → ∀ (M0 : Mm), Mre E M0 J → H_X11_next_L10 E x0 J fu zx1 zx2 zx3 zx4 = some z → Ok (F_X11_next_L10 x0 fu x1 x2 x3 x4 M0) (fun q => q.1.toInt = z ∧ Mre E q.2 J) := by
  intro fu
  induction fu with
  | zero =>
    intro x1 zx1 tx1 x2 zx2 tx2 x3 zx3 tx3 x4 zx4 tx4 M0 hM0 h
    rw [H_X11_next_L10] at h
    cases h
  | succ n1 ih =>
    intro x1 zx1 tx1 x2 zx2 tx2 x3 zx3 tx3 x4 zx4 tx4 M0 hM0 h
    rw [H_X11_next_L10] at h
    rw [F_X11_next_L10]
    refine ok_b (o_rdS hM0 wx0.1 (wx0.2.1.1)) ?_
    refine ok_s ?_
    obtain ⟨v4, ev4, tv4⟩ := o_rdI (k := 2) hM0 wx0.2.1.2.1
    refine ok_b ev4 ?_
    by_cases c1 : (J (x0 + 1) 2) ≤ zx4
    · replace h := it_t c1 h
      refine ok_t ((c_le tv4 tx4).mpr c1) ?_
      exact o_ri0 tx1 hM0 h
    · replace h := it_f c1 h
      refine ok_f (mt (c_le tv4 tx4).mp c1) ?_
      refine ok_b (o_rdS hM0 wx0.1 (wx0.2.1.1)) ?_
      refine ok_s ?_
      refine ok_b (o_rdS hM0 wx0.2.1.2.1 (wx0.2.1.2.2.2.1.1)) ?_
      refine ok_s ?_
      replace h := ob h; obtain ⟨v9, ev9, h⟩ := h
      obtain ⟨fv9, wv9⟩ := o_ldR hM0 wx0.2.1.2.2.2.1.2.1 rfl tx4 ev9
      refine ok_b fv9 ?_
      replace h := ob h; obtain ⟨a11, ea11, h⟩ := h
      refine ok_b ea11 ?_
      obtain ⟨v12, ev12, tv12⟩ := o_rdI (k := 3) hM0 ((fun y hy => wx0.2.1.2.2.2.1.2.2 _ y (wv9.trans hy)) _ ea11).1
      refine ok_b ev12 ?_
      by_cases c2 : (J a11 3) = 0
      · replace h := it_t c2 h
        refine ok_t ((c_eq tv12 (show (0 : Int32).toInt = 0 from rfl)).mpr c2) ?_
        refine ok_b (o_isO hM0 ((fun y hy => wx0.2.1.2.2.2.1.2.2 _ y (wv9.trans hy)) _ ea11).1) ?_
        replace h := ob h; obtain ⟨zv16, ezv16, h⟩ := h
        obtain ⟨⟨v16, M14⟩, eM14, tv16, hM14⟩ := h_X0_divesLeft hM0 ((fun y hy => wx0.2.1.2.2.2.1.2.2 _ y (wv9.trans hy)) _ ea11) ezv16
        refine ok_b eM14 ?_
        obtain ⟨v17, ev17, tv17⟩ := o_rdI (k := 1) hM14 ((fun y hy => wx0.2.1.2.2.2.1.2.2 _ y (wv9.trans hy)) _ ea11).1
        refine ok_b ev17 ?_
        refine ok_b (o_rdS hM14 wx0.1 (wx0.2.1.1)) ?_
        refine ok_s ?_
        obtain ⟨v20, ev20, tv20⟩ := o_rdI (k := 4) hM14 wx0.2.1.2.1
        refine ok_b ev20 ?_
        replace h := ob h; obtain ⟨zv22, ezv22, h⟩ := h
        obtain ⟨⟨v22, M21⟩, eM21, tv22, hM21⟩ := h_X11_stepsBetween hM14 tv17 tv20 ezv22
        refine ok_b eM21 ?_
        by_cases c3 : zx1 = (-4)
        · replace h := it_t c3 h
          refine ok_t ((c_eq tx1 (show ((-4) : Int32).toInt = (-4) from rfl)).mpr c3) ?_
          exact ih _ _ tx4 _ _ tv16 _ _ tv22 _ _ (t_add tx4 (show (1 : Int32).toInt = 1 from rfl)) _ hM21 h
        · replace h := it_f c3 h
          refine ok_f (mt (c_eq tx1 (show ((-4) : Int32).toInt = (-4) from rfl)).mp c3) ?_
          by_cases c4 : zv16 < zx2
          · replace h := it_t c4 h
            refine ok_t ((c_lt tv16 tx2).mpr c4) ?_
            exact ih _ _ tx4 _ _ tv16 _ _ tv22 _ _ (t_add tx4 (show (1 : Int32).toInt = 1 from rfl)) _ hM21 h
          · replace h := it_f c4 h
            refine ok_f (mt (c_lt tv16 tx2).mp c4) ?_
            by_cases c5 : zv16 = zx2
            · replace h := it_t c5 h
              refine ok_t ((c_eq tv16 tx2).mpr c5) ?_
              by_cases c6 : zx3 ≤ zv22
              · replace h := it_t c6 h
                refine ok_t ((c_le tx3 tv22).mpr c6) ?_
                exact ih _ _ tx1 _ _ tx2 _ _ tx3 _ _ (t_add tx4 (show (1 : Int32).toInt = 1 from rfl)) _ hM21 h
              · replace h := it_f c6 h
                refine ok_f (mt (c_le tx3 tv22).mp c6) ?_
                exact ih _ _ tx4 _ _ tv16 _ _ tv22 _ _ (t_add tx4 (show (1 : Int32).toInt = 1 from rfl)) _ hM21 h
            · replace h := it_f c5 h
              refine ok_f (mt (c_eq tv16 tx2).mp c5) ?_
              exact ih _ _ tx1 _ _ tx2 _ _ tx3 _ _ (t_add tx4 (show (1 : Int32).toInt = 1 from rfl)) _ hM21 h
      · replace h := it_f c2 h
        refine ok_f (mt (c_eq tv12 (show (0 : Int32).toInt = 0 from rfl)).mp c2) ?_
        exact ih _ _ tx1 _ _ tx2 _ _ tx3 _ _ (t_add tx4 (show (1 : Int32).toInt = 1 from rfl)) _ hM0 h
set_option maxHeartbeats 4000000 in
set_option maxRecDepth 100000 in
theorem h_X11_next {E : Em} {M : Mm} {J : Jm} (hM : Mre E M J) {this : Nat} (wthis : W11 E this) {z : Int} (h : H_X11_next E this J = some z) : Ok (F_X11_next this M) (fun q => q.1.toInt = z ∧ Mre E q.2 J) := by
  unfold H_X11_next at h
  unfold F_X11_next
  refine h_X11_next_L10 _  _ wthis _ _ _ (show ((-4) : Int32).toInt = (-4) from rfl) _ _ (show (0 : Int32).toInt = 0 from rfl) _ _ (show (0 : Int32).toInt = 0 from rfl) _ _ (show (0 : Int32).toInt = 0 from rfl) _ hM h

set_option maxHeartbeats 4000000 in
set_option maxRecDepth 100000 in
theorem h_X11_fetch {E : Em} {M : Mm} {J : Jm} (hM : Mre E M J) {this : Nat} (wthis : W11 E this) {p1 : Int32} {zp1 : Int} (tp1 : p1.toInt = zp1) {z : Int} {J1 : Jm} (h : H_X11_fetch E this zp1 J = some (z, J1)) : Ok (F_X11_fetch this p1 M) (fun q => q.1.toInt = z ∧ Mre E q.2 J1) := by
  unfold H_X11_fetch at h
  unfold F_X11_fetch
  refine ok_b (o_rdS hM wthis.1 (wthis.2.1.1)) ?_
  refine ok_s ?_
  refine ok_b (o_isO hM wthis.2.1.2.1) ?_
  replace h := ob h; obtain ⟨v5q, ev5q, h⟩ := h
  obtain ⟨⟨v5, M3⟩, eM3, tv5, hM3, wv5⟩ := h_X10_gliderAt hM wthis.2.1.2 tp1 ev5q
  dsimp only at tv5 wv5
  subst tv5
  refine ok_b eM3 ?_
  rcases oq_c v5 with q1 | ⟨a6, q1⟩
  · replace h := oe_nx q1 h
    refine ok_on q1 ?_
    exact o_ri (show ((-1) : Int32).toInt = (-1) from rfl) hM3 h
  · replace h := oe_sx q1 h
    refine ok_os q1 ?_
    obtain ⟨v7, ev7, tv7⟩ := o_rdI (k := 1) hM3 (wv5 _ q1).1
    refine ok_b ev7 ?_
    refine ok_b (o_rdS hM3 wthis.1 (wthis.2.1.1)) ?_
    refine ok_s ?_
    obtain ⟨v10, ev10, tv10⟩ := o_rdI (k := 4) hM3 wthis.2.1.2.1
    refine ok_b ev10 ?_
    replace h := ob h; obtain ⟨zv12, ezv12, h⟩ := h
    obtain ⟨⟨v12, M11⟩, eM11, tv12, hM11⟩ := h_X11_stepsBetween hM3 tv7 tv10 ezv12
    refine ok_b eM11 ?_
    obtain ⟨v13, ev13, tv13⟩ := o_rdI (k := 3) hM11 (wv5 _ q1).1
    refine ok_b ev13 ?_
    by_cases c2 : (J a6 3) = 0
    · replace h := it_t c2 h
      refine ok_t ((c_eq tv13 (show (0 : Int32).toInt = 0 from rfl)).mpr c2) ?_
      by_cases c3 : zv12 ≤ 3
      · replace h := it_t c3 h
        refine ok_t ((c_le tv12 (show (3 : Int32).toInt = 3 from rfl)).mpr c3) ?_
        replace h := nv_e h; obtain ⟨J16, eJ16, h⟩ := h
        obtain ⟨M16, eM16, hM16⟩ := o_wrI (k := 3) hM11 (wv5 _ q1).1 (show (1 : Int32).toInt = 1 from rfl) eJ16
        refine ok_b eM16 ?_
        exact o_ri tv12 hM16 h
      · replace h := it_f c3 h
        refine ok_f (mt (c_le tv12 (show (3 : Int32).toInt = 3 from rfl)).mp c3) ?_
        exact o_ri (show ((-3) : Int32).toInt = (-3) from rfl) hM11 h
    · replace h := it_f c2 h
      refine ok_f (mt (c_eq tv13 (show (0 : Int32).toInt = 0 from rfl)).mp c2) ?_
      exact o_ri (show ((-3) : Int32).toInt = (-3) from rfl) hM11 h

set_option maxHeartbeats 4000000 in
set_option maxRecDepth 100000 in
theorem h_X11_count {E : Em} {M : Mm} {J : Jm} (hM : Mre E M J) {this : Nat} (wthis : W11 E this) {p1 : Int32} {zp1 : Int} (tp1 : p1.toInt = zp1) {z : Int} (h : H_X11_count E this zp1 J = some z) : Ok (F_X11_count this p1 M) (fun q => q.1.toInt = z ∧ Mre E q.2 J) := by
  unfold H_X11_count at h
  unfold F_X11_count
  by_cases c1 : zp1 = 0
  · replace h := it_t c1 h
    refine ok_t ((c_eq tp1 (show (0 : Int32).toInt = 0 from rfl)).mpr c1) ?_
    refine ok_b (o_rdS hM wthis.1 (wthis.2.1.1)) ?_
    refine ok_s ?_
    obtain ⟨v4, ev4, tv4⟩ := o_rdI (k := 2) hM wthis.2.1.2.1
    refine ok_b ev4 ?_
    exact o_ri0 tv4 hM h
  · replace h := it_f c1 h
    refine ok_f (mt (c_eq tp1 (show (0 : Int32).toInt = 0 from rfl)).mp c1) ?_
    by_cases c2 : zp1 = 1
    · replace h := it_t c2 h
      refine ok_t ((c_eq tp1 (show (1 : Int32).toInt = 1 from rfl)).mpr c2) ?_
      refine ok_b (o_rdS hM wthis.1 (wthis.2.1.1)) ?_
      refine ok_s ?_
      refine ok_b (o_isO hM wthis.2.1.2.1) ?_
      replace h := ob h; obtain ⟨zv10, ezv10, h⟩ := h
      obtain ⟨⟨v10, M8⟩, eM8, tv10, hM8⟩ := h_X10_howMany hM wthis.2.1.2 (show (0 : Int32).toInt = 0 from rfl) ezv10
      refine ok_b eM8 ?_
      exact o_ri0 tv10 hM8 h
    · replace h := it_f c2 h
      refine ok_f (mt (c_eq tp1 (show (1 : Int32).toInt = 1 from rfl)).mp c2) ?_
      by_cases c3 : zp1 = 2
      · replace h := it_t c3 h
        refine ok_t ((c_eq tp1 (show (2 : Int32).toInt = 2 from rfl)).mpr c3) ?_
        refine ok_b (o_rdS hM wthis.1 (wthis.2.1.1)) ?_
        refine ok_s ?_
        refine ok_b (o_isO hM wthis.2.1.2.1) ?_
        replace h := ob h; obtain ⟨zv16, ezv16, h⟩ := h
        obtain ⟨⟨v16, M14⟩, eM14, tv16, hM14⟩ := h_X10_howMany hM wthis.2.1.2 (show (1 : Int32).toInt = 1 from rfl) ezv16
        refine ok_b eM14 ?_
        exact o_ri0 tv16 hM14 h
      · replace h := it_f c3 h
        refine ok_f (mt (c_eq tp1 (show (2 : Int32).toInt = 2 from rfl)).mp c3) ?_
        by_cases c4 : zp1 = 3
        · replace h := it_t c4 h
          refine ok_t ((c_eq tp1 (show (3 : Int32).toInt = 3 from rfl)).mpr c4) ?_
          refine ok_b (o_rdS hM wthis.1 (wthis.2.1.1)) ?_
          refine ok_s ?_
          refine ok_b (o_isO hM wthis.2.1.2.1) ?_
          replace h := ob h; obtain ⟨zv22, ezv22, h⟩ := h
          obtain ⟨⟨v22, M20⟩, eM20, tv22, hM20⟩ := h_X10_howMany hM wthis.2.1.2 (show (2 : Int32).toInt = 2 from rfl) ezv22
          refine ok_b eM20 ?_
          exact o_ri0 tv22 hM20 h
        · replace h := it_f c4 h
          refine ok_f (mt (c_eq tp1 (show (3 : Int32).toInt = 3 from rfl)).mp c4) ?_
          by_cases c5 : zp1 = 4
          · replace h := it_t c5 h
            refine ok_t ((c_eq tp1 (show (4 : Int32).toInt = 4 from rfl)).mpr c5) ?_
            refine ok_b (o_rdS hM wthis.1 (wthis.2.1.1)) ?_
            refine ok_s ?_
            obtain ⟨v26, ev26, tv26⟩ := o_rdI (k := 3) hM wthis.2.1.2.1
            refine ok_b ev26 ?_
            exact o_ri0 tv26 hM h
          · replace h := it_f c5 h
            refine ok_f (mt (c_eq tp1 (show (4 : Int32).toInt = 4 from rfl)).mp c5) ?_
            by_cases c6 : zp1 = 5
            · replace h := it_t c6 h
              refine ok_t ((c_eq tp1 (show (5 : Int32).toInt = 5 from rfl)).mpr c6) ?_
              refine ok_b (o_rdS hM wthis.1 (wthis.2.1.1)) ?_
              refine ok_s ?_
              refine ok_b (o_rdS hM wthis.2.1.2.1 (wthis.2.1.2.2.2.2.2.2.2.1.1)) ?_
              refine ok_s ?_
              obtain ⟨v32, ev32, tv32⟩ := o_rdI (k := 0) hM wthis.2.1.2.2.2.2.2.2.2.1.2.1
              refine ok_b ev32 ?_
              exact o_ri0 tv32 hM h
            · replace h := it_f c6 h
              refine ok_f (mt (c_eq tp1 (show (5 : Int32).toInt = 5 from rfl)).mp c6) ?_
              by_cases c7 : zp1 = 6
              · replace h := it_t c7 h
                refine ok_t ((c_eq tp1 (show (6 : Int32).toInt = 6 from rfl)).mpr c7) ?_
                refine ok_b (o_rdS hM wthis.1 (wthis.2.1.1)) ?_
                refine ok_s ?_
                refine ok_b (o_rdS hM wthis.2.1.2.1 (wthis.2.1.2.2.2.2.2.2.1.1)) ?_
                refine ok_s ?_
                obtain ⟨v38, ev38, tv38⟩ := o_rdI (k := 0) hM wthis.2.1.2.2.2.2.2.2.1.2.1
                refine ok_b ev38 ?_
                exact o_ri0 tv38 hM h
              · replace h := it_f c7 h
                refine ok_f (mt (c_eq tp1 (show (6 : Int32).toInt = 6 from rfl)).mp c7) ?_
                by_cases c8 : zp1 = 7
                · replace h := it_t c8 h
                  refine ok_t ((c_eq tp1 (show (7 : Int32).toInt = 7 from rfl)).mpr c8) ?_
                  refine ok_b (o_rdS hM wthis.1 (wthis.2.1.1)) ?_
                  refine ok_s ?_
                  obtain ⟨v42, ev42, tv42⟩ := o_rdI (k := 7) hM wthis.2.1.2.1
                  refine ok_b ev42 ?_
                  exact o_ri0 tv42 hM h
                · replace h := it_f c8 h
                  refine ok_f (mt (c_eq tp1 (show (7 : Int32).toInt = 7 from rfl)).mp c8) ?_
                  by_cases c9 : zp1 = 8
                  · replace h := it_t c9 h
                    refine ok_t ((c_eq tp1 (show (8 : Int32).toInt = 8 from rfl)).mpr c9) ?_
                    refine ok_b (o_rdS hM wthis.1 (wthis.2.1.1)) ?_
                    refine ok_s ?_
                    refine ok_b (o_rdS hM wthis.2.1.2.1 (wthis.2.1.2.2.1.1)) ?_
                    refine ok_s ?_
                    refine ok_b (o_isO hM wthis.2.1.2.2.1.2.1) ?_
                    replace h := ob h; obtain ⟨zv50, ezv50, h⟩ := h
                    obtain ⟨⟨v50, M48⟩, eM48, tv50, hM48⟩ := h_X7_allDoubt hM wthis.2.1.2.2.1.2 ezv50
                    refine ok_b eM48 ?_
                    exact o_ri0 tv50 hM48 h
                  · replace h := it_f c9 h
                    refine ok_f (mt (c_eq tp1 (show (8 : Int32).toInt = 8 from rfl)).mp c9) ?_
                    by_cases c10 : zp1 = 9
                    · replace h := it_t c10 h
                      refine ok_t ((c_eq tp1 (show (9 : Int32).toInt = 9 from rfl)).mpr c10) ?_
                      refine ok_b (o_rdS hM wthis.1 (wthis.2.1.1)) ?_
                      refine ok_s ?_
                      refine ok_b (o_rdS hM wthis.2.1.2.1 (wthis.2.1.2.2.2.2.2.2.2.1.1)) ?_
                      refine ok_s ?_
                      obtain ⟨v56, ev56, tv56⟩ := o_rdI (k := 7) hM wthis.2.1.2.2.2.2.2.2.2.1.2.1
                      refine ok_b ev56 ?_
                      exact o_ri0 tv56 hM h
                    · replace h := it_f c10 h
                      refine ok_f (mt (c_eq tp1 (show (9 : Int32).toInt = 9 from rfl)).mp c10) ?_
                      by_cases c11 : zp1 = 10
                      · replace h := it_t c11 h
                        refine ok_t ((c_eq tp1 (show (10 : Int32).toInt = 10 from rfl)).mpr c11) ?_
                        refine ok_b (o_rdS hM wthis.1 (wthis.2.1.1)) ?_
                        refine ok_s ?_
                        refine ok_b (o_isO hM wthis.2.1.2.1) ?_
                        replace h := ob h; obtain ⟨zv62, ezv62, h⟩ := h
                        obtain ⟨⟨v62, M60⟩, eM60, tv62, hM60⟩ := h_X10_allPower hM wthis.2.1.2 ezv62
                        refine ok_b eM60 ?_
                        exact o_ri0 tv62 hM60 h
                      · replace h := it_f c11 h
                        refine ok_f (mt (c_eq tp1 (show (10 : Int32).toInt = 10 from rfl)).mp c11) ?_
                        exact o_ri0 (show ((-1) : Int32).toInt = (-1) from rfl) hM h

set_option maxHeartbeats 4000000 in
set_option maxRecDepth 100000 in
theorem h_X11_keep {E : Em} {M : Mm} {J : Jm} (hM : Mre E M J) {this : Nat} (wthis : W11 E this) {p1 : Int32} {zp1 : Int} (tp1 : p1.toInt = zp1) {p2 : Int32} {zp2 : Int} (tp2 : p2.toInt = zp2) {p3 : Int32} {zp3 : Int} (tp3 : p3.toInt = zp3) {z : Int} {J1 : Jm} (h : H_X11_keep E this zp1 zp2 zp3 J = some (z, J1)) : Ok (F_X11_keep this p1 p2 p3 M) (fun q => q.1.toInt = z ∧ Mre E q.2 J1) := by
  unfold H_X11_keep at h
  unfold F_X11_keep
  refine ok_b (o_isO hM wthis.1) ?_
  replace h := ob h; obtain ⟨v3q, ev3q, h⟩ := h
  obtain ⟨⟨v3, M1⟩, eM1, tv3, hM1, wv3⟩ := h_X11_shelfAt hM wthis tp1 ev3q
  dsimp only at tv3 wv3
  subst tv3
  refine ok_b eM1 ?_
  rcases oq_c v3 with q1 | ⟨a4, q1⟩
  · replace h := oe_nx q1 h
    refine ok_on q1 ?_
    exact o_ri (show ((-1) : Int32).toInt = (-1) from rfl) hM1 h
  · replace h := oe_sx q1 h
    refine ok_os q1 ?_
    by_cases c2 : zp2 < 0
    · replace h := it_t c2 h
      refine ok_t ((c_lt tp2 (show (0 : Int32).toInt = 0 from rfl)).mpr c2) ?_
      exact o_ri (show ((-1) : Int32).toInt = (-1) from rfl) hM1 h
    · replace h := it_f c2 h
      refine ok_f (mt (c_lt tp2 (show (0 : Int32).toInt = 0 from rfl)).mp c2) ?_
      by_cases c3 : zp2 ≤ 1
      · replace h := it_t c3 h
        refine ok_t ((c_le tp2 (show (1 : Int32).toInt = 1 from rfl)).mpr c3) ?_
        by_cases c4 : zp2 = 0
        · replace h := it_t c4 h
          refine ok_t ((c_eq tp2 (show (0 : Int32).toInt = 0 from rfl)).mpr c4) ?_
          replace h := nv_e h; obtain ⟨J16, eJ16, h⟩ := h
          obtain ⟨M16, eM16, hM16⟩ := o_wrI (k := 0) hM1 (wv3 _ q1).1 (show (0 : Int32).toInt = 0 from rfl) eJ16
          refine ok_b eM16 ?_
          exact o_ri (show (0 : Int32).toInt = 0 from rfl) hM16 h
        · replace h := it_f c4 h
          refine ok_f (mt (c_eq tp2 (show (0 : Int32).toInt = 0 from rfl)).mp c4) ?_
          refine ok_b (o_rdS hM1 wthis.1 (wthis.2.1.1)) ?_
          refine ok_s ?_
          refine ok_b (o_isO hM1 wthis.2.1.2.1) ?_
          replace h := ob h; obtain ⟨v12q, ev12q, h⟩ := h
          obtain ⟨⟨v12, M10⟩, eM10, tv12, hM10, wv12⟩ := h_X10_gliderAt hM1 wthis.2.1.2 tp3 ev12q
          dsimp only at tv12 wv12
          subst tv12
          refine ok_b eM10 ?_
          rcases oq_c v12 with q5 | ⟨a13, q5⟩
          · replace h := oe_nx q5 h
            refine ok_on q5 ?_
            exact o_ri (show ((-1) : Int32).toInt = (-1) from rfl) hM10 h
          · replace h := oe_sx q5 h
            refine ok_os q5 ?_
            refine ok_b (o_isO hM10 (wv3 _ q1).1) ?_
            replace h := ob h; obtain ⟨J14, eJ14, h⟩ := h
            obtain ⟨M14, eM14, hM14⟩ := h_X8_holdGlider hM10 (wv3 _ q1) (wv12 _ q5) eJ14
            refine ok_b eM14 ?_
            exact o_ri (show (0 : Int32).toInt = 0 from rfl) hM14 h
      · replace h := it_f c3 h
        refine ok_f (mt (c_le tp2 (show (1 : Int32).toInt = 1 from rfl)).mp c3) ?_
        exact o_ri (show ((-1) : Int32).toInt = (-1) from rfl) hM1 h

set_option maxHeartbeats 4000000 in
set_option maxRecDepth 100000 in
theorem h_X11_row {E : Em} {M : Mm} {J : Jm} (hM : Mre E M J) {this : Nat} (wthis : W11 E this) {p1 : Int32} {zp1 : Int} (tp1 : p1.toInt = zp1) {p2 : Int32} {zp2 : Int} (tp2 : p2.toInt = zp2) {p3 : Int32} {zp3 : Int} (tp3 : p3.toInt = zp3) {z : Int} {J1 : Jm} (h : H_X11_row E this zp1 zp2 zp3 J = some (z, J1)) : Ok (F_X11_row this p1 p2 p3 M) (fun q => q.1.toInt = z ∧ Mre E q.2 J1) := by
  unfold H_X11_row at h
  unfold F_X11_row
  refine ok_b (o_isO hM wthis.1) ?_
  replace h := ob h; obtain ⟨v3q, ev3q, h⟩ := h
  obtain ⟨⟨v3, M1⟩, eM1, tv3, hM1, wv3⟩ := h_X11_shelfAt hM wthis tp1 ev3q
  dsimp only at tv3 wv3
  subst tv3
  refine ok_b eM1 ?_
  rcases oq_c v3 with q1 | ⟨a4, q1⟩
  · replace h := oe_nx q1 h
    refine ok_on q1 ?_
    exact o_ri (show ((-1) : Int32).toInt = (-1) from rfl) hM1 h
  · replace h := oe_sx q1 h
    refine ok_os q1 ?_
    by_cases c2 : zp2 < 0
    · replace h := it_t c2 h
      refine ok_t ((c_lt tp2 (show (0 : Int32).toInt = 0 from rfl)).mpr c2) ?_
      exact o_ri (show ((-1) : Int32).toInt = (-1) from rfl) hM1 h
    · replace h := it_f c2 h
      refine ok_f (mt (c_lt tp2 (show (0 : Int32).toInt = 0 from rfl)).mp c2) ?_
      by_cases c3 : 2 < zp2
      · replace h := it_t c3 h
        refine ok_t ((c_lt (show (2 : Int32).toInt = 2 from rfl) tp2).mpr c3) ?_
        exact o_ri (show ((-1) : Int32).toInt = (-1) from rfl) hM1 h
      · replace h := it_f c3 h
        refine ok_f (mt (c_lt (show (2 : Int32).toInt = 2 from rfl) tp2).mp c3) ?_
        by_cases c4 : zp3 ≤ 80
        · replace h := it_t c4 h
          refine ok_t ((c_le tp3 (show (80 : Int32).toInt = 80 from rfl)).mpr c4) ?_
          by_cases c5 : 0 ≤ zp3
          · replace h := it_t c5 h
            refine ok_t ((c_le (show (0 : Int32).toInt = 0 from rfl) tp3).mpr c5) ?_
            refine ok_b (o_isO hM1 (wv3 _ q1).1) ?_
            replace h := ob h; obtain ⟨J9, eJ9, h⟩ := h
            obtain ⟨M9, eM9, hM9⟩ := h_X8_holdRow hM1 (wv3 _ q1) tp2 tp3 eJ9
            refine ok_b eM9 ?_
            exact o_ri (show (0 : Int32).toInt = 0 from rfl) hM9 h
          · replace h := it_f c5 h
            refine ok_f (mt (c_le (show (0 : Int32).toInt = 0 from rfl) tp3).mp c5) ?_
            exact o_ri (show ((-14) : Int32).toInt = (-14) from rfl) hM1 h
        · replace h := it_f c4 h
          refine ok_f (mt (c_le tp3 (show (80 : Int32).toInt = 80 from rfl)).mp c4) ?_
          exact o_ri (show ((-1) : Int32).toInt = (-1) from rfl) hM1 h

set_option maxHeartbeats 4000000 in
set_option maxRecDepth 100000 in
theorem h_X11_lowestBits {E : Em} {M : Mm} {J : Jm} (hM : Mre E M J) {p1 : Int32} {zp1 : Int} (tp1 : p1.toInt = zp1) {p2 : Int32} {zp2 : Int} (tp2 : p2.toInt = zp2) {z : Int} (h : H_X11_lowestBits zp1 zp2 = some z) : Ok (F_X11_lowestBits p1 p2 M) (fun q => q.1.toInt = z ∧ Mre E q.2 J) := by
  unfold H_X11_lowestBits at h
  unfold F_X11_lowestBits
  by_cases c1 : zp1 = 0
  · replace h := it_t c1 h
    refine ok_t ((c_eq tp1 (show (0 : Int32).toInt = 0 from rfl)).mpr c1) ?_
    exact o_ri0 (t_b8 tp2) hM h
  · replace h := it_f c1 h
    refine ok_f (mt (c_eq tp1 (show (0 : Int32).toInt = 0 from rfl)).mp c1) ?_
    by_cases c2 : zp1 = 1
    · replace h := it_t c2 h
      refine ok_t ((c_eq tp1 (show (1 : Int32).toInt = 1 from rfl)).mpr c2) ?_
      exact o_ri0 (t_s16 tp2) hM h
    · replace h := it_f c2 h
      refine ok_f (mt (c_eq tp1 (show (1 : Int32).toInt = 1 from rfl)).mp c2) ?_
      exact o_ri0 tp2 hM h

set_option maxHeartbeats 4000000 in
set_option maxRecDepth 100000 in
theorem h_X11_put {E : Em} {M : Mm} {J : Jm} (hM : Mre E M J) {this : Nat} (wthis : W11 E this) {p1 : Int32} {zp1 : Int} (tp1 : p1.toInt = zp1) {p2 : Int32} {zp2 : Int} (tp2 : p2.toInt = zp2) {p3 : Int32} {zp3 : Int} (tp3 : p3.toInt = zp3) {z : Int} {J1 : Jm} (h : H_X11_put E this zp1 zp2 zp3 J = some (z, J1)) : Ok (F_X11_put this p1 p2 p3 M) (fun q => q.1.toInt = z ∧ Mre E q.2 J1) := by
  unfold H_X11_put at h
  unfold F_X11_put
  refine ok_b (o_isO hM wthis.1) ?_
  replace h := ob h; obtain ⟨v3q, ev3q, h⟩ := h
  obtain ⟨⟨v3, M1⟩, eM1, tv3, hM1, wv3⟩ := h_X11_shelfAt hM wthis tp1 ev3q
  dsimp only at tv3 wv3
  subst tv3
  refine ok_b eM1 ?_
  rcases oq_c v3 with q1 | ⟨a4, q1⟩
  · replace h := oe_nx q1 h
    refine ok_on q1 ?_
    exact o_ri (show ((-1) : Int32).toInt = (-1) from rfl) hM1 h
  · replace h := oe_sx q1 h
    refine ok_os q1 ?_
    obtain ⟨v5, ev5, tv5⟩ := o_rdI (k := 0) hM1 (wv3 _ q1).1
    refine ok_b ev5 ?_
    by_cases c2 : (J a4 0) = 2
    · replace h := it_t c2 h
      refine ok_t ((c_eq tv5 (show (2 : Int32).toInt = 2 from rfl)).mpr c2) ?_
      by_cases c3 : zp2 < 0
      · replace h := it_t c3 h
        refine ok_t ((c_lt tp2 (show (0 : Int32).toInt = 0 from rfl)).mpr c3) ?_
        exact o_ri (show ((-13) : Int32).toInt = (-13) from rfl) hM1 h
      · replace h := it_f c3 h
        refine ok_f (mt (c_lt tp2 (show (0 : Int32).toInt = 0 from rfl)).mp c3) ?_
        obtain ⟨v8, ev8, tv8⟩ := o_rdI (k := 2) hM1 (wv3 _ q1).1
        refine ok_b ev8 ?_
        by_cases c4 : zp2 < (J a4 2)
        · replace h := it_t c4 h
          refine ok_t ((c_lt tp2 tv8).mpr c4) ?_
          refine ok_b (o_rdS hM1 (wv3 _ q1).1 ((wv3 _ q1).2.1)) ?_
          obtain ⟨v11, ev11, tv11⟩ := o_rdI (k := 1) hM1 (wv3 _ q1).1
          refine ok_b ev11 ?_
          replace h := ob h; obtain ⟨zv13, ezv13, h⟩ := h
          obtain ⟨⟨v13, M12⟩, eM12, tv13, hM12⟩ := h_X11_lowestBits hM1 tv11 tp3 ezv13
          refine ok_b eM12 ?_
          refine ok_s ?_
          replace h := ob h; obtain ⟨J14, eJ14, h⟩ := h
          obtain ⟨M14, eM14, hM14⟩ := o_stI hM12 ((wv3 _ q1).2.2) rfl tp2 tv13 eJ14
          refine ok_b eM14 ?_
          exact o_ri (show (0 : Int32).toInt = 0 from rfl) hM14 h
        · replace h := it_f c4 h
          refine ok_f (mt (c_lt tp2 tv8).mp c4) ?_
          exact o_ri (show ((-13) : Int32).toInt = (-13) from rfl) hM1 h
    · replace h := it_f c2 h
      refine ok_f (mt (c_eq tv5 (show (2 : Int32).toInt = 2 from rfl)).mp c2) ?_
      obtain ⟨v16, ev16, tv16⟩ := o_rdI (k := 0) hM1 (wv3 _ q1).1
      refine ok_b ev16 ?_
      by_cases c5 : (J a4 0) = 0
      · replace h := it_t c5 h
        refine ok_t ((c_eq tv16 (show (0 : Int32).toInt = 0 from rfl)).mpr c5) ?_
        exact o_ri (show ((-11) : Int32).toInt = (-11) from rfl) hM1 h
      · replace h := it_f c5 h
        refine ok_f (mt (c_eq tv16 (show (0 : Int32).toInt = 0 from rfl)).mp c5) ?_
        exact o_ri (show ((-12) : Int32).toInt = (-12) from rfl) hM1 h

set_option maxHeartbeats 4000000 in
set_option maxRecDepth 100000 in
theorem h_X11_isStretch {E : Em} {M : Mm} {J : Jm} (hM : Mre E M J) {p1 : Int32} {zp1 : Int} (tp1 : p1.toInt = zp1) {p2 : Int32} {zp2 : Int} (tp2 : p2.toInt = zp2) {p3 : Int32} {zp3 : Int} (tp3 : p3.toInt = zp3) {z : Int} (h : H_X11_isStretch zp1 zp2 zp3 = some z) : Ok (F_X11_isStretch p1 p2 p3 M) (fun q => q.1.toInt = z ∧ Mre E q.2 J) := by
  unfold H_X11_isStretch at h
  unfold F_X11_isStretch
  by_cases c1 : zp1 < 0
  · replace h := it_t c1 h
    refine ok_t ((c_lt tp1 (show (0 : Int32).toInt = 0 from rfl)).mpr c1) ?_
    exact o_ri0 (show (0 : Int32).toInt = 0 from rfl) hM h
  · replace h := it_f c1 h
    refine ok_f (mt (c_lt tp1 (show (0 : Int32).toInt = 0 from rfl)).mp c1) ?_
    by_cases c2 : zp2 < 0
    · replace h := it_t c2 h
      refine ok_t ((c_lt tp2 (show (0 : Int32).toInt = 0 from rfl)).mpr c2) ?_
      exact o_ri0 (show (0 : Int32).toInt = 0 from rfl) hM h
    · replace h := it_f c2 h
      refine ok_f (mt (c_lt tp2 (show (0 : Int32).toInt = 0 from rfl)).mp c2) ?_
      by_cases c3 : zp3 < zp1
      · replace h := it_t c3 h
        refine ok_t ((c_lt tp3 tp1).mpr c3) ?_
        exact o_ri0 (show (0 : Int32).toInt = 0 from rfl) hM h
      · replace h := it_f c3 h
        refine ok_f (mt (c_lt tp3 tp1).mp c3) ?_
        by_cases c4 : (wr (zp3 - zp1)) < zp2
        · replace h := it_t c4 h
          refine ok_t ((c_lt (t_sub tp3 tp1) tp2).mpr c4) ?_
          exact o_ri0 (show (0 : Int32).toInt = 0 from rfl) hM h
        · replace h := it_f c4 h
          refine ok_f (mt (c_lt (t_sub tp3 tp1) tp2).mp c4) ?_
          exact o_ri0 (show (1 : Int32).toInt = 1 from rfl) hM h

set_option maxHeartbeats 4000000 in
set_option maxRecDepth 100000 in
theorem h_X11_copy {E : Em} {M : Mm} {J : Jm} (hM : Mre E M J) {this : Nat} (wthis : W11 E this) {p1 : Int32} {zp1 : Int} (tp1 : p1.toInt = zp1) {p2 : Int32} {zp2 : Int} (tp2 : p2.toInt = zp2) {p3 : Int32} {zp3 : Int} (tp3 : p3.toInt = zp3) {p4 : Int32} {zp4 : Int} (tp4 : p4.toInt = zp4) {p5 : Int32} {zp5 : Int} (tp5 : p5.toInt = zp5) {z : Int} {J1 : Jm} (h : H_X11_copy E this zp1 zp2 zp3 zp4 zp5 J = some (z, J1)) : Ok (F_X11_copy this p1 p2 p3 p4 p5 M) (fun q => q.1.toInt = z ∧ Mre E q.2 J1) := by
  unfold H_X11_copy at h
  unfold F_X11_copy
  refine ok_b (o_isO hM wthis.1) ?_
  replace h := ob h; obtain ⟨v3q, ev3q, h⟩ := h
  obtain ⟨⟨v3, M1⟩, eM1, tv3, hM1, wv3⟩ := h_X11_shelfAt hM wthis tp1 ev3q
  dsimp only at tv3 wv3
  subst tv3
  refine ok_b eM1 ?_
  refine ok_b (o_isO hM1 wthis.1) ?_
  replace h := ob h; obtain ⟨v6q, ev6q, h⟩ := h
  obtain ⟨⟨v6, M4⟩, eM4, tv6, hM4, wv6⟩ := h_X11_shelfAt hM1 wthis tp3 ev6q
  dsimp only at tv6 wv6
  subst tv6
  refine ok_b eM4 ?_
  rcases oq_c v3 with q1 | ⟨a7, q1⟩
  · replace h := oe_nx q1 h
    refine ok_on q1 ?_
    exact o_ri (show ((-1) : Int32).toInt = (-1) from rfl) hM4 h
  · replace h := oe_sx q1 h
    refine ok_os q1 ?_
    rcases oq_c v6 with q2 | ⟨a8, q2⟩
    · replace h := oe_nx q2 h
      refine ok_on q2 ?_
      exact o_ri (show ((-1) : Int32).toInt = (-1) from rfl) hM4 h
    · replace h := oe_sx q2 h
      refine ok_os q2 ?_
      obtain ⟨v9, ev9, tv9⟩ := o_rdI (k := 0) hM4 (wv3 _ q1).1
      refine ok_b ev9 ?_
      by_cases c3 : (J a7 0) = 0
      · replace h := it_t c3 h
        refine ok_t ((c_eq tv9 (show (0 : Int32).toInt = 0 from rfl)).mpr c3) ?_
        exact o_ri (show ((-11) : Int32).toInt = (-11) from rfl) hM4 h
      · replace h := it_f c3 h
        refine ok_f (mt (c_eq tv9 (show (0 : Int32).toInt = 0 from rfl)).mp c3) ?_
        obtain ⟨v11, ev11, tv11⟩ := o_rdI (k := 0) hM4 (wv6 _ q2).1
        refine ok_b ev11 ?_
        by_cases c4 : (J a8 0) = 0
        · replace h := it_t c4 h
          refine ok_t ((c_eq tv11 (show (0 : Int32).toInt = 0 from rfl)).mpr c4) ?_
          exact o_ri (show ((-11) : Int32).toInt = (-11) from rfl) hM4 h
        · replace h := it_f c4 h
          refine ok_f (mt (c_eq tv11 (show (0 : Int32).toInt = 0 from rfl)).mp c4) ?_
          obtain ⟨v13, ev13, tv13⟩ := o_rdI (k := 0) hM4 (wv3 _ q1).1
          refine ok_b ev13 ?_
          by_cases c5 : (J a7 0) = 2
          · replace h := it_t c5 h
            refine ok_t ((c_eq tv13 (show (2 : Int32).toInt = 2 from rfl)).mpr c5) ?_
            obtain ⟨v15, ev15, tv15⟩ := o_rdI (k := 0) hM4 (wv6 _ q2).1
            refine ok_b ev15 ?_
            by_cases c6 : (J a8 0) = 2
            · replace h := it_t c6 h
              refine ok_t ((c_eq tv15 (show (2 : Int32).toInt = 2 from rfl)).mpr c6) ?_
              obtain ⟨v17, ev17, tv17⟩ := o_rdI (k := 1) hM4 (wv3 _ q1).1
              refine ok_b ev17 ?_
              obtain ⟨v18, ev18, tv18⟩ := o_rdI (k := 1) hM4 (wv6 _ q2).1
              refine ok_b ev18 ?_
              by_cases c7 : (J a7 1) = (J a8 1)
              · replace h := it_t c7 h
                refine ok_t ((c_eq tv17 tv18).mpr c7) ?_
                obtain ⟨v20, ev20, tv20⟩ := o_rdI (k := 2) hM4 (wv3 _ q1).1
                refine ok_b ev20 ?_
                replace h := ob h; obtain ⟨zv22, ezv22, h⟩ := h
                obtain ⟨⟨v22, M21⟩, eM21, tv22, hM21⟩ := h_X11_isStretch hM4 tp2 tp5 tv20 ezv22
                refine ok_b eM21 ?_
                by_cases c8 : zv22 = 0
                · replace h := it_t c8 h
                  refine ok_t ((c_eq tv22 (show (0 : Int32).toInt = 0 from rfl)).mpr c8) ?_
                  exact o_ri (show ((-13) : Int32).toInt = (-13) from rfl) hM21 h
                · replace h := it_f c8 h
                  refine ok_f (mt (c_eq tv22 (show (0 : Int32).toInt = 0 from rfl)).mp c8) ?_
                  obtain ⟨v24, ev24, tv24⟩ := o_rdI (k := 2) hM21 (wv6 _ q2).1
                  refine ok_b ev24 ?_
                  replace h := ob h; obtain ⟨zv26, ezv26, h⟩ := h
                  obtain ⟨⟨v26, M25⟩, eM25, tv26, hM25⟩ := h_X11_isStretch hM21 tp4 tp5 tv24 ezv26
                  refine ok_b eM25 ?_
                  by_cases c9 : zv26 = 0
                  · replace h := it_t c9 h
                    refine ok_t ((c_eq tv26 (show (0 : Int32).toInt = 0 from rfl)).mpr c9) ?_
                    exact o_ri (show ((-13) : Int32).toInt = (-13) from rfl) hM25 h
                  · replace h := it_f c9 h
                    refine ok_f (mt (c_eq tv26 (show (0 : Int32).toInt = 0 from rfl)).mp c9) ?_
                    refine ok_b (o_rdS hM25 (wv3 _ q1).1 ((wv3 _ q1).2.1)) ?_
                    refine ok_b (o_rdS hM25 (wv6 _ q2).1 ((wv6 _ q2).2.1)) ?_
                    refine ok_s ?_
                    refine ok_s ?_
                    replace h := ob h; obtain ⟨J32, eJ32, h⟩ := h
                    obtain ⟨M32, eM32, hM32⟩ := o_cpI hM25 ((wv3 _ q1).2.2) ((wv6 _ q2).2.2) rfl rfl tp2 tp4 tp5 eJ32
                    refine ok_b eM32 ?_
                    exact o_ri tp5 hM32 h
              · replace h := it_f c7 h
                refine ok_f (mt (c_eq tv17 tv18).mp c7) ?_
                exact o_ri (show ((-12) : Int32).toInt = (-12) from rfl) hM4 h
            · replace h := it_f c6 h
              refine ok_f (mt (c_eq tv15 (show (2 : Int32).toInt = 2 from rfl)).mp c6) ?_
              exact o_ri (show ((-12) : Int32).toInt = (-12) from rfl) hM4 h
          · replace h := it_f c5 h
            refine ok_f (mt (c_eq tv13 (show (2 : Int32).toInt = 2 from rfl)).mp c5) ?_
            exact o_ri (show ((-12) : Int32).toInt = (-12) from rfl) hM4 h

set_option maxHeartbeats 4000000 in
set_option maxRecDepth 100000 in
theorem h_X11_sum {E : Em} {M : Mm} {J : Jm} (hM : Mre E M J) {this : Nat} (wthis : W11 E this) {p1 : Int32} {zp1 : Int} (tp1 : p1.toInt = zp1) {z : Int} (h : H_X11_sum E this zp1 J = some z) : Ok (F_X11_sum this p1 M) (fun q => q.1.toInt = z ∧ Mre E q.2 J) := by
  unfold H_X11_sum at h
  unfold F_X11_sum
  refine ok_b (o_isO hM wthis.1) ?_
  replace h := ob h; obtain ⟨v3q, ev3q, h⟩ := h
  obtain ⟨⟨v3, M1⟩, eM1, tv3, hM1, wv3⟩ := h_X11_shelfAt hM wthis tp1 ev3q
  dsimp only at tv3 wv3
  subst tv3
  refine ok_b eM1 ?_
  rcases oq_c v3 with q1 | ⟨a4, q1⟩
  · replace h := oe_nx q1 h
    refine ok_on q1 ?_
    exact o_ri0 (show ((-1) : Int32).toInt = (-1) from rfl) hM1 h
  · replace h := oe_sx q1 h
    refine ok_os q1 ?_
    obtain ⟨v5, ev5, tv5⟩ := o_rdI (k := 0) hM1 (wv3 _ q1).1
    refine ok_b ev5 ?_
    by_cases c2 : (J a4 0) = 1
    · replace h := it_t c2 h
      refine ok_t ((c_eq tv5 (show (1 : Int32).toInt = 1 from rfl)).mpr c2) ?_
      obtain ⟨v7, ev7, tv7⟩ := o_rdI (k := 4) hM1 (wv3 _ q1).1
      refine ok_b ev7 ?_
      replace h := ob h; obtain ⟨zv8, ezv8, h⟩ := h
      obtain ⟨v8, ev8, tv8⟩ := o_ldS tv7 ezv8
      refine ok_b ev8 ?_
      obtain ⟨v9, ev9, tv9⟩ := o_rdI (k := 4) hM1 (wv3 _ q1).1
      refine ok_b ev9 ?_
      replace h := ob h; obtain ⟨zv10, ezv10, h⟩ := h
      obtain ⟨v10, ev10, tv10⟩ := o_ldS tv9 ezv10
      refine ok_b ev10 ?_
      obtain ⟨v11, ev11, tv11⟩ := o_rdI (k := 4) hM1 (wv3 _ q1).1
      refine ok_b ev11 ?_
      by_cases c3 : (J a4 4) = 1
      · replace h := it_t c3 h
        refine ok_t ((c_eq tv11 (show (1 : Int32).toInt = 1 from rfl)).mpr c3) ?_
        replace h := ob h; obtain ⟨zv14, ezv14, h⟩ := h
        obtain ⟨⟨v14, M13⟩, eM13, tv14, hM13⟩ := h_X11_costOf hM1 (show (1 : Int32).toInt = 1 from rfl) (show (0 : Int32).toInt = 0 from rfl) ezv14
        refine ok_b eM13 ?_
        exact o_ri0 (t_add (t_add (t_add (show (100 : Int32).toInt = 100 from rfl) (t_mul (show (10 : Int32).toInt = 10 from rfl) tv8)) tv10) tv14) hM13 h
      · replace h := it_f c3 h
        refine ok_f (mt (c_eq tv11 (show (1 : Int32).toInt = 1 from rfl)).mp c3) ?_
        by_cases c4 : (J a4 4) = 2
        · replace h := it_t c4 h
          refine ok_t ((c_eq tv11 (show (2 : Int32).toInt = 2 from rfl)).mpr c4) ?_
          obtain ⟨v16, ev16, tv16⟩ := o_rdI (k := 6) hM1 (wv3 _ q1).1
          refine ok_b ev16 ?_
          exact o_ri0 (t_add (t_add (t_add (show (100 : Int32).toInt = 100 from rfl) (t_mul (show (10 : Int32).toInt = 10 from rfl) tv8)) tv10) tv16) hM1 h
        · replace h := it_f c4 h
          refine ok_f (mt (c_eq tv11 (show (2 : Int32).toInt = 2 from rfl)).mp c4) ?_
          by_cases c5 : (J a4 4) = 3
          · replace h := it_t c5 h
            refine ok_t ((c_eq tv11 (show (3 : Int32).toInt = 3 from rfl)).mpr c5) ?_
            replace h := ob h; obtain ⟨zv19, ezv19, h⟩ := h
            obtain ⟨⟨v19, M18⟩, eM18, tv19, hM18⟩ := h_X11_costOf hM1 (show (3 : Int32).toInt = 3 from rfl) (show (0 : Int32).toInt = 0 from rfl) ezv19
            refine ok_b eM18 ?_
            exact o_ri0 (t_mul (show (2 : Int32).toInt = 2 from rfl) (t_add (t_add (t_add (show (100 : Int32).toInt = 100 from rfl) (t_mul (show (10 : Int32).toInt = 10 from rfl) tv8)) tv10) tv19)) hM18 h
          · replace h := it_f c5 h
            refine ok_f (mt (c_eq tv11 (show (3 : Int32).toInt = 3 from rfl)).mp c5) ?_
            exact o_ri0 (t_add (t_add (show (100 : Int32).toInt = 100 from rfl) (t_mul (show (10 : Int32).toInt = 10 from rfl) tv8)) tv10) hM1 h
    · replace h := it_f c2 h
      refine ok_f (mt (c_eq tv5 (show (1 : Int32).toInt = 1 from rfl)).mp c2) ?_
      obtain ⟨v20, ev20, tv20⟩ := o_rdI (k := 0) hM1 (wv3 _ q1).1
      refine ok_b ev20 ?_
      by_cases c6 : (J a4 0) = 0
      · replace h := it_t c6 h
        refine ok_t ((c_eq tv20 (show (0 : Int32).toInt = 0 from rfl)).mpr c6) ?_
        exact o_ri0 (show ((-11) : Int32).toInt = (-11) from rfl) hM1 h
      · replace h := it_f c6 h
        refine ok_f (mt (c_eq tv20 (show (0 : Int32).toInt = 0 from rfl)).mp c6) ?_
        exact o_ri0 (show ((-12) : Int32).toInt = (-12) from rfl) hM1 h

set_option maxHeartbeats 4000000 in
set_option maxRecDepth 100000 in
theorem h_X12_thrown {E : Em} {M : Mm} {J : Jm} (hM : Mre E M J) {this : Nat} (wthis : W12 E this) {z : Int} (h : H_X12_thrown this J = some z) : Ok (F_X12_thrown this M) (fun q => q.1.toInt = z ∧ Mre E q.2 J) := by
  unfold H_X12_thrown at h
  unfold F_X12_thrown
  obtain ⟨v1, ev1, tv1⟩ := o_rdI (k := 0) hM wthis.1
  refine ok_b ev1 ?_
  exact o_ri0 tv1 hM h

set_option maxHeartbeats 4000000 in
set_option maxRecDepth 100000 in
theorem h_X12_is {E : Em} {M : Mm} {J : Jm} (hM : Mre E M J) {this : Nat} (wthis : W12 E this) {p1 : Int32} {zp1 : Int} (tp1 : p1.toInt = zp1) {p2 : Int32} {zp2 : Int} (tp2 : p2.toInt = zp2) {p3 : Int32} {zp3 : Int} (tp3 : p3.toInt = zp3) {z : Int} (h : H_X12_is this zp1 zp2 zp3 = some z) : Ok (F_X12_is this p1 p2 p3 M) (fun q => q.1.toInt = z ∧ Mre E q.2 J) := by
  unfold H_X12_is at h
  unfold F_X12_is
  by_cases c1 : zp1 < zp2
  · replace h := it_t c1 h
    refine ok_t ((c_lt tp1 tp2).mpr c1) ?_
    exact o_ri0 (show (0 : Int32).toInt = 0 from rfl) hM h
  · replace h := it_f c1 h
    refine ok_f (mt (c_lt tp1 tp2).mp c1) ?_
    by_cases c2 : zp3 < zp1
    · replace h := it_t c2 h
      refine ok_t ((c_lt tp3 tp1).mpr c2) ?_
      exact o_ri0 (show (0 : Int32).toInt = 0 from rfl) hM h
    · replace h := it_f c2 h
      refine ok_f (mt (c_lt tp3 tp1).mp c2) ?_
      exact o_ri0 (show (1 : Int32).toInt = 1 from rfl) hM h

set_option maxHeartbeats 4000000 in
set_option maxRecDepth 100000 in
theorem h_X12_isCell {E : Em} {M : Mm} {J : Jm} (hM : Mre E M J) {this : Nat} (wthis : W12 E this) {p1 : Int32} {zp1 : Int} (tp1 : p1.toInt = zp1) {p2 : Int32} {zp2 : Int} (tp2 : p2.toInt = zp2) {z : Int} (h : H_X12_isCell this zp1 zp2 = some z) : Ok (F_X12_isCell this p1 p2 M) (fun q => q.1.toInt = z ∧ Mre E q.2 J) := by
  unfold H_X12_isCell at h
  unfold F_X12_isCell
  refine ok_b (o_isO hM wthis.1) ?_
  replace h := ob h; obtain ⟨zv3, ezv3, h⟩ := h
  obtain ⟨⟨v3, M1⟩, eM1, tv3, hM1⟩ := h_X12_is hM wthis tp1 (show (0 : Int32).toInt = 0 from rfl) (show (9 : Int32).toInt = 9 from rfl) ezv3
  refine ok_b eM1 ?_
  by_cases c1 : zv3 = 0
  · replace h := it_t c1 h
    refine ok_t ((c_eq tv3 (show (0 : Int32).toInt = 0 from rfl)).mpr c1) ?_
    exact o_ri0 (show (0 : Int32).toInt = 0 from rfl) hM1 h
  · replace h := it_f c1 h
    refine ok_f (mt (c_eq tv3 (show (0 : Int32).toInt = 0 from rfl)).mp c1) ?_
    refine ok_b (o_isO hM1 wthis.1) ?_
    replace h := ob h; obtain ⟨zv7, ezv7, h⟩ := h
    obtain ⟨⟨v7, M5⟩, eM5, tv7, hM5⟩ := h_X12_is hM1 wthis tp2 (show (0 : Int32).toInt = 0 from rfl) (show (7 : Int32).toInt = 7 from rfl) ezv7
    refine ok_b eM5 ?_
    by_cases c2 : zv7 = 0
    · replace h := it_t c2 h
      refine ok_t ((c_eq tv7 (show (0 : Int32).toInt = 0 from rfl)).mpr c2) ?_
      exact o_ri0 (show (0 : Int32).toInt = 0 from rfl) hM5 h
    · replace h := it_f c2 h
      refine ok_f (mt (c_eq tv7 (show (0 : Int32).toInt = 0 from rfl)).mp c2) ?_
      exact o_ri0 (show (1 : Int32).toInt = 1 from rfl) hM5 h

set_option maxHeartbeats 4000000 in
set_option maxRecDepth 100000 in
theorem h_X12_isWater {E : Em} {M : Mm} {J : Jm} (hM : Mre E M J) {this : Nat} (wthis : W12 E this) {p1 : Int32} {zp1 : Int} (tp1 : p1.toInt = zp1) {p2 : Int32} {zp2 : Int} (tp2 : p2.toInt = zp2) {z : Int} (h : H_X12_isWater this zp1 zp2 J = some z) : Ok (F_X12_isWater this p1 p2 M) (fun q => q.1.toInt = z ∧ Mre E q.2 J) := by
  unfold H_X12_isWater at h
  unfold F_X12_isWater
  refine ok_b (o_isO hM wthis.1) ?_
  replace h := ob h; obtain ⟨zv3, ezv3, h⟩ := h
  obtain ⟨⟨v3, M1⟩, eM1, tv3, hM1⟩ := h_X12_isCell hM wthis tp1 tp2 ezv3
  refine ok_b eM1 ?_
  by_cases c1 : zv3 = 0
  · replace h := it_t c1 h
    refine ok_t ((c_eq tv3 (show (0 : Int32).toInt = 0 from rfl)).mpr c1) ?_
    exact o_ri0 (show (0 : Int32).toInt = 0 from rfl) hM1 h
  · replace h := it_f c1 h
    refine ok_f (mt (c_eq tv3 (show (0 : Int32).toInt = 0 from rfl)).mp c1) ?_
    refine ok_b (o_rdS hM1 wthis.1 (wthis.2.1.1)) ?_
    refine ok_s ?_
    replace h := ob h; obtain ⟨zv6, ezv6, h⟩ := h
    obtain ⟨v6, ev6, tv6⟩ := o_ldI hM1 wthis.2.1.2 rfl (t_add (t_add (show (10 : Int32).toInt = 10 from rfl) (t_mul (show (8 : Int32).toInt = 8 from rfl) tp1)) tp2) ezv6
    refine ok_b ev6 ?_
    by_cases c2 : zv6 ≤ 0
    · replace h := it_t c2 h
      refine ok_t ((c_le tv6 (show (0 : Int32).toInt = 0 from rfl)).mpr c2) ?_
      exact o_ri0 (show (0 : Int32).toInt = 0 from rfl) hM1 h
    · replace h := it_f c2 h
      refine ok_f (mt (c_le tv6 (show (0 : Int32).toInt = 0 from rfl)).mp c2) ?_
      exact o_ri0 (show (1 : Int32).toInt = 1 from rfl) hM1 h

set_option maxHeartbeats 4000000 in
set_option maxRecDepth 100000 in
theorem h_X12_sea_L104 {E : Em} {z : Int} {J1 : Jm}  (k199 : Mm → Option (Int32 × Mm)) (k199h : Jm → Option (Int × Jm)) (hk199 : ∀ (M9 : Mm) (J9 : Jm), Mre E M9 J9 → k199h J9 = some (z, J1) → Ok (k199 M9) (fun q => q.1.toInt = z ∧ Mre E q.2 J1)) (x0 : Nat) (wx0 : W12 E x0) (x1 : Int32) (zx1 : Int) (tx1 : x1.toInt = zx1) (x2 : Int32) (zx2 : Int) (tx2 : x2.toInt = zx2) (x3 : Int32) (zx3 : Int) (tx3 : x3.toInt = zx3) (x4 : Int32) (zx4 : Int) (tx4 : x4.toInt = zx4) : ∀ (fu : Nat), ∀ (x5 : Int32) (zx5 : Int), x5.toInt = zx5 → ∀ (M0 : Mm) (J0 : Jm), Mre E M0 J0 → H_X12_sea_L104 k199h x0 zx1 zx2 zx3 zx4 fu zx5 J0 = some (z, J1) → Ok (F_X12_sea_L104 k199 x0 x1 x2 x3 x4 fu x5 M0) (fun q => q.1.toInt = z ∧ Mre E q.2 J1) := by
  intro fu
  induction fu with
  | zero =>
    intro x5 zx5 tx5 M0 J0 hM0 h
    rw [H_X12_sea_L104] at h
    cases h
  | succ n31 ih =>
    intro x5 zx5 tx5 M0 J0 hM0 h
    rw [H_X12_sea_L104] at h
    rw [F_X12_sea_L104]
    refine ok_b (o_rdS hM0 wx0.1 (wx0.2.1.1)) ?_
    refine ok_s ?_
    replace h := ob h; obtain ⟨zv33, ezv33, h⟩ := h
    obtain ⟨v33, ev33, tv33⟩ := o_ldI hM0 wx0.2.1.2 rfl (show (0 : Int32).toInt = 0 from rfl) ezv33
    refine ok_b ev33 ?_
    by_cases c9 : zv33 ≤ zx5
    · replace h := it_t c9 h
      refine ok_t ((c_le tv33 tx5).mpr c9) ?_
      exact hk199 _ _ hM0 h
    · replace h := it_f c9 h
      refine ok_f (mt (c_le tv33 tx5).mp c9) ?_
      by_cases c10 : zx3 = 0
      · replace h := it_t c10 h
        refine ok_t ((c_eq tx3 (show (0 : Int32).toInt = 0 from rfl)).mpr c10) ?_
        by_cases c11 : zx4 = 0
        · replace h := it_t c11 h
          refine ok_t ((c_eq tx4 (show (0 : Int32).toInt = 0 from rfl)).mpr c11) ?_
          refine ok_b (o_rdS hM0 wx0.1 (wx0.2.1.1)) ?_
          refine ok_s ?_
          replace h := ob h; obtain ⟨zv39, ezv39, h⟩ := h
          obtain ⟨v39, ev39, tv39⟩ := o_ldI hM0 wx0.2.1.2 rfl (t_add (show (2202 : Int32).toInt = 2202 from rfl) tx5) ezv39
          refine ok_b ev39 ?_
          by_cases c12 : zv39 = 0
          · replace h := it_t c12 h
            refine ok_t ((c_eq tv39 (show (0 : Int32).toInt = 0 from rfl)).mpr c12) ?_
            refine ok_b (o_rdS hM0 wx0.1 (wx0.2.1.1)) ?_
            refine ok_s ?_
            replace h := ob h; obtain ⟨zv43, ezv43, h⟩ := h
            obtain ⟨v43, ev43, tv43⟩ := o_ldI hM0 wx0.2.1.2 rfl (t_add (show (2178 : Int32).toInt = 2178 from rfl) tx5) ezv43
            refine ok_b ev43 ?_
            replace h := ob h; obtain ⟨zv45, ezv45, h⟩ := h
            obtain ⟨v45, ev45, tv45⟩ := o_dvI tx1 (show (10 : Int32).toInt = 10 from rfl) ezv45
            refine ok_b ev45 ?_
            replace h := ob h; obtain ⟨zv46, ezv46, h⟩ := h
            obtain ⟨v46, ev46, tv46⟩ := o_rmI tx1 (show (10 : Int32).toInt = 10 from rfl) ezv46
            refine ok_b ev46 ?_
            refine ok_b (o_isO hM0 wx0.1) ?_
            replace h := ob h; obtain ⟨zv49, ezv49, h⟩ := h
            obtain ⟨⟨v49, M47⟩, eM47, tv49, hM47⟩ := h_X12_is hM0 wx0 tv43 tv45 tv46 ezv49
            refine ok_b eM47 ?_
            by_cases c13 : zv49 = 0
            · replace h := it_t c13 h
              refine ok_t ((c_eq tv49 (show (0 : Int32).toInt = 0 from rfl)).mpr c13) ?_
              exact ih _ _ (t_add tx5 (show (1 : Int32).toInt = 1 from rfl)) _ _ hM47 h
            · replace h := it_f c13 h
              refine ok_f (mt (c_eq tv49 (show (0 : Int32).toInt = 0 from rfl)).mp c13) ?_
              refine ok_b (o_rdS hM47 wx0.1 (wx0.2.1.1)) ?_
              refine ok_s ?_
              replace h := ob h; obtain ⟨zv52, ezv52, h⟩ := h
              obtain ⟨v52, ev52, tv52⟩ := o_ldI hM47 wx0.2.1.2 rfl (t_add (show (2186 : Int32).toInt = 2186 from rfl) tx5) ezv52
              refine ok_b ev52 ?_
              replace h := ob h; obtain ⟨zv54, ezv54, h⟩ := h
              obtain ⟨v54, ev54, tv54⟩ := o_dvI tx2 (show (10 : Int32).toInt = 10 from rfl) ezv54
              refine ok_b ev54 ?_
              replace h := ob h; obtain ⟨zv55, ezv55, h⟩ := h
              obtain ⟨v55, ev55, tv55⟩ := o_rmI tx2 (show (10 : Int32).toInt = 10 from rfl) ezv55
              refine ok_b ev55 ?_
              refine ok_b (o_isO hM47 wx0.1) ?_
              replace h := ob h; obtain ⟨zv58, ezv58, h⟩ := h
              obtain ⟨⟨v58, M56⟩, eM56, tv58, hM56⟩ := h_X12_is hM47 wx0 tv52 tv54 tv55 ezv58
              refine ok_b eM56 ?_
              by_cases c14 : zv58 = 0
              · replace h := it_t c14 h
                refine ok_t ((c_eq tv58 (show (0 : Int32).toInt = 0 from rfl)).mpr c14) ?_
                exact ih _ _ (t_add tx5 (show (1 : Int32).toInt = 1 from rfl)) _ _ hM56 h
              · replace h := it_f c14 h
                refine ok_f (mt (c_eq tv58 (show (0 : Int32).toInt = 0 from rfl)).mp c14) ?_
                exact o_ri (show ((-3) : Int32).toInt = (-3) from rfl) hM56 h
          · replace h := it_f c12 h
            refine ok_f (mt (c_eq tv39 (show (0 : Int32).toInt = 0 from rfl)).mp c12) ?_
            exact ih _ _ (t_add tx5 (show (1 : Int32).toInt = 1 from rfl)) _ _ hM0 h
        · replace h := it_f c11 h
          refine ok_f (mt (c_eq tx4 (show (0 : Int32).toInt = 0 from rfl)).mp c11) ?_
          exact ih _ _ (t_add tx5 (show (1 : Int32).toInt = 1 from rfl)) _ _ hM0 h
      · replace h := it_f c10 h
        refine ok_f (mt (c_eq tx3 (show (0 : Int32).toInt = 0 from rfl)).mp c10) ?_
        exact ih _ _ (t_add tx5 (show (1 : Int32).toInt = 1 from rfl)) _ _ hM0 h
set_option maxHeartbeats 4000000 in
set_option maxRecDepth 100000 in
theorem h_X12_sea_L205 {E : Em} {z : Int} {J1 : Jm}   (x0 : Nat) (wx0 : W12 E x0) (x1 : Int32) (zx1 : Int) (tx1 : x1.toInt = zx1) (x2 : Int32) (zx2 : Int) (tx2 : x2.toInt = zx2) (x3 : Int32) (zx3 : Int) (tx3 : x3.toInt = zx3) (x4 : Int32) (zx4 : Int) (tx4 : x4.toInt = zx4) : ∀ (fu : Nat), ∀ (x5 : Int32) (zx5 : Int), x5.toInt = zx5 → ∀ (x6 : Int32) (zx6 : Int), x6.toInt = zx6 → ∀ (M0 : Mm) (J0 : Jm), Mre E M0 J0 → H_X12_sea_L205 x0 zx1 zx2 zx3 zx4 fu zx5 zx6 J0 = some (z, J1) → Ok (F_X12_sea_L205 x0 x1 x2 x3 x4 fu x5 x6 M0) (fun q => q.1.toInt = z ∧ Mre E q.2 J1) := by
  intro fu
  induction fu with
  | zero =>
    intro x5 zx5 tx5 x6 zx6 tx6 M0 J0 hM0 h
    rw [H_X12_sea_L205] at h
    cases h
  | succ n61 ih =>
    intro x5 zx5 tx5 x6 zx6 tx6 M0 J0 hM0 h
    rw [H_X12_sea_L205] at h
    rw [F_X12_sea_L205]
    by_cases c15 : 80 ≤ zx6
    · replace h := it_t c15 h
      refine ok_t ((c_le (show (80 : Int32).toInt = 80 from rfl) tx6).mpr c15) ?_
      exact o_ri tx5 hM0 h
    · replace h := it_f c15 h
      refine ok_f (mt (c_le (show (80 : Int32).toInt = 80 from rfl) tx6).mp c15) ?_
      replace h := ob h; obtain ⟨zv63, ezv63, h⟩ := h
      obtain ⟨v63, ev63, tv63⟩ := o_dvI tx6 (show (8 : Int32).toInt = 8 from rfl) ezv63
      refine ok_b ev63 ?_
      replace h := ob h; obtain ⟨zv64, ezv64, h⟩ := h
      obtain ⟨v64, ev64, tv64⟩ := o_dvI tx1 (show (10 : Int32).toInt = 10 from rfl) ezv64
      refine ok_b ev64 ?_
      replace h := ob h; obtain ⟨zv65, ezv65, h⟩ := h
      obtain ⟨v65, ev65, tv65⟩ := o_rmI tx1 (show (10 : Int32).toInt = 10 from rfl) ezv65
      refine ok_b ev65 ?_
      refine ok_b (o_isO hM0 wx0.1) ?_
      replace h := ob h; obtain ⟨zv68, ezv68, h⟩ := h
      obtain ⟨⟨v68, M66⟩, eM66, tv68, hM66⟩ := h_X12_is hM0 wx0 tv63 tv64 tv65 ezv68
      refine ok_b eM66 ?_
      by_cases c16 : zv68 = 0
      · replace h := it_t c16 h
        refine ok_t ((c_eq tv68 (show (0 : Int32).toInt = 0 from rfl)).mpr c16) ?_
        exact ih _ _ tx5 _ _ (t_add tx6 (show (1 : Int32).toInt = 1 from rfl)) _ _ hM66 h
      · replace h := it_f c16 h
        refine ok_f (mt (c_eq tv68 (show (0 : Int32).toInt = 0 from rfl)).mp c16) ?_
        replace h := ob h; obtain ⟨zv70, ezv70, h⟩ := h
        obtain ⟨v70, ev70, tv70⟩ := o_rmI tx6 (show (8 : Int32).toInt = 8 from rfl) ezv70
        refine ok_b ev70 ?_
        replace h := ob h; obtain ⟨zv71, ezv71, h⟩ := h
        obtain ⟨v71, ev71, tv71⟩ := o_dvI tx2 (show (10 : Int32).toInt = 10 from rfl) ezv71
        refine ok_b ev71 ?_
        replace h := ob h; obtain ⟨zv72, ezv72, h⟩ := h
        obtain ⟨v72, ev72, tv72⟩ := o_rmI tx2 (show (10 : Int32).toInt = 10 from rfl) ezv72
        refine ok_b ev72 ?_
        refine ok_b (o_isO hM66 wx0.1) ?_
        replace h := ob h; obtain ⟨zv75, ezv75, h⟩ := h
        obtain ⟨⟨v75, M73⟩, eM73, tv75, hM73⟩ := h_X12_is hM66 wx0 tv70 tv71 tv72 ezv75
        refine ok_b eM73 ?_
        by_cases c17 : zv75 = 0
        · replace h := it_t c17 h
          refine ok_t ((c_eq tv75 (show (0 : Int32).toInt = 0 from rfl)).mpr c17) ?_
          exact ih _ _ tx5 _ _ (t_add tx6 (show (1 : Int32).toInt = 1 from rfl)) _ _ hM73 h
        · replace h := it_f c17 h
          refine ok_f (mt (c_eq tv75 (show (0 : Int32).toInt = 0 from rfl)).mp c17) ?_
          by_cases c18 : zx3 = 2
          · replace h := it_t c18 h
            refine ok_t ((c_eq tx3 (show (2 : Int32).toInt = 2 from rfl)).mpr c18) ?_
            refine ok_b (o_rdS hM73 wx0.1 (wx0.2.1.1)) ?_
            refine ok_s ?_
            replace h := ob h; obtain ⟨zv99, ezv99, h⟩ := h
            obtain ⟨v99, ev99, tv99⟩ := o_ldI hM73 wx0.2.1.2 rfl (t_add (show (10 : Int32).toInt = 10 from rfl) tx6) ezv99
            refine ok_b ev99 ?_
            by_cases c19 : zv99 = 0
            · replace h := it_t c19 h
              refine ok_t ((c_eq tv99 (show (0 : Int32).toInt = 0 from rfl)).mpr c19) ?_
              exact ih _ _ tx5 _ _ (t_add tx6 (show (1 : Int32).toInt = 1 from rfl)) _ _ hM73 h
            · replace h := it_f c19 h
              refine ok_f (mt (c_eq tv99 (show (0 : Int32).toInt = 0 from rfl)).mp c19) ?_
              replace h := nv_e h; obtain ⟨zv102, ezv102, h⟩ := h
              obtain ⟨v102, evv102⟩ : ∃ v : Int32, v = (if x3 = 0 then 10 else (if x3 = 1 then 90 else 170)) := ⟨_, rfl⟩
              have tv102 : v102.toInt = zv102 := by rw [evv102, ezv102]; exact (t_ite (c_eq tx3 (show (0 : Int32).toInt = 0 from rfl)) (show (10 : Int32).toInt = 10 from rfl) (t_ite (c_eq tx3 (show (1 : Int32).toInt = 1 from rfl)) (show (90 : Int32).toInt = 90 from rfl) (show (170 : Int32).toInt = 170 from rfl)))
              refine ok_nv evv102 ?_
              refine ok_b (o_rdS hM73 wx0.1 (wx0.2.1.1)) ?_
              refine ok_s ?_
              replace h := ob h; obtain ⟨zv105, ezv105, h⟩ := h
              obtain ⟨v105, ev105, tv105⟩ := o_ldI hM73 wx0.2.1.2 rfl (t_add tv102 tx6) ezv105
              refine ok_b ev105 ?_
              replace h := nv_e h; obtain ⟨zv107, ezv107, h⟩ := h
              obtain ⟨v107, evv107⟩ : ∃ v : Int32, v = (if v105 = x4 then 0 else 1) := ⟨_, rfl⟩
              have tv107 : v107.toInt = zv107 := by rw [evv107, ezv107]; exact (t_ite (c_eq tv105 tx4) (show (0 : Int32).toInt = 0 from rfl) (show (1 : Int32).toInt = 1 from rfl))
              refine ok_nv evv107 ?_
              refine ok_b (o_rdS hM73 wx0.1 (wx0.2.1.1)) ?_
              refine ok_s ?_
              replace h := ob h; obtain ⟨J110, eJ110, h⟩ := h
              obtain ⟨M110, eM110, hM110⟩ := o_stI hM73 wx0.2.1.2 rfl (t_add tv102 tx6) tx4 eJ110
              refine ok_b eM110 ?_
              refine ok_b (o_rdS hM110 wx0.1 (wx0.2.1.1)) ?_
              refine ok_s ?_
              replace h := ob h; obtain ⟨zv113, ezv113, h⟩ := h
              obtain ⟨v113, ev113, tv113⟩ := o_ldI hM110 wx0.2.1.2 rfl (t_add (show (10 : Int32).toInt = 10 from rfl) tx6) ezv113
              refine ok_b ev113 ?_
              by_cases c20 : zv113 = 0
              · replace h := it_t c20 h
                refine ok_t ((c_eq tv113 (show (0 : Int32).toInt = 0 from rfl)).mpr c20) ?_
                refine ok_b (o_rdS hM110 wx0.1 (wx0.2.1.1)) ?_
                refine ok_s ?_
                replace h := ob h; obtain ⟨J117, eJ117, h⟩ := h
                obtain ⟨M117, eM117, hM117⟩ := o_stI hM110 wx0.2.1.2 rfl (t_add (show (170 : Int32).toInt = 170 from rfl) tx6) (show (0 : Int32).toInt = 0 from rfl) eJ117
                refine ok_b eM117 ?_
                exact ih _ _ (t_add tx5 tv107) _ _ (t_add tx6 (show (1 : Int32).toInt = 1 from rfl)) _ _ hM117 h
              · replace h := it_f c20 h
                refine ok_f (mt (c_eq tv113 (show (0 : Int32).toInt = 0 from rfl)).mp c20) ?_
                exact ih _ _ (t_add tx5 tv107) _ _ (t_add tx6 (show (1 : Int32).toInt = 1 from rfl)) _ _ hM110 h
          · replace h := it_f c18 h
            refine ok_f (mt (c_eq tx3 (show (2 : Int32).toInt = 2 from rfl)).mp c18) ?_
            replace h := nv_e h; obtain ⟨zv78, ezv78, h⟩ := h
            obtain ⟨v78, evv78⟩ : ∃ v : Int32, v = (if x3 = 0 then 10 else (if x3 = 1 then 90 else 170)) := ⟨_, rfl⟩
            have tv78 : v78.toInt = zv78 := by rw [evv78, ezv78]; exact (t_ite (c_eq tx3 (show (0 : Int32).toInt = 0 from rfl)) (show (10 : Int32).toInt = 10 from rfl) (t_ite (c_eq tx3 (show (1 : Int32).toInt = 1 from rfl)) (show (90 : Int32).toInt = 90 from rfl) (show (170 : Int32).toInt = 170 from rfl)))
            refine ok_nv evv78 ?_
            refine ok_b (o_rdS hM73 wx0.1 (wx0.2.1.1)) ?_
            refine ok_s ?_
            replace h := ob h; obtain ⟨zv81, ezv81, h⟩ := h
            obtain ⟨v81, ev81, tv81⟩ := o_ldI hM73 wx0.2.1.2 rfl (t_add tv78 tx6) ezv81
            refine ok_b ev81 ?_
            replace h := nv_e h; obtain ⟨zv83, ezv83, h⟩ := h
            obtain ⟨v83, evv83⟩ : ∃ v : Int32, v = (if v81 = x4 then 0 else 1) := ⟨_, rfl⟩
            have tv83 : v83.toInt = zv83 := by rw [evv83, ezv83]; exact (t_ite (c_eq tv81 tx4) (show (0 : Int32).toInt = 0 from rfl) (show (1 : Int32).toInt = 1 from rfl))
            refine ok_nv evv83 ?_
            refine ok_b (o_rdS hM73 wx0.1 (wx0.2.1.1)) ?_
            refine ok_s ?_
            replace h := ob h; obtain ⟨J86, eJ86, h⟩ := h
            obtain ⟨M86, eM86, hM86⟩ := o_stI hM73 wx0.2.1.2 rfl (t_add tv78 tx6) tx4 eJ86
            refine ok_b eM86 ?_
            refine ok_b (o_rdS hM86 wx0.1 (wx0.2.1.1)) ?_
            refine ok_s ?_
            replace h := ob h; obtain ⟨zv89, ezv89, h⟩ := h
            obtain ⟨v89, ev89, tv89⟩ := o_ldI hM86 wx0.2.1.2 rfl (t_add (show (10 : Int32).toInt = 10 from rfl) tx6) ezv89
            refine ok_b ev89 ?_
            by_cases c21 : zv89 = 0
            · replace h := it_t c21 h
              refine ok_t ((c_eq tv89 (show (0 : Int32).toInt = 0 from rfl)).mpr c21) ?_
              refine ok_b (o_rdS hM86 wx0.1 (wx0.2.1.1)) ?_
              refine ok_s ?_
              replace h := ob h; obtain ⟨J93, eJ93, h⟩ := h
              obtain ⟨M93, eM93, hM93⟩ := o_stI hM86 wx0.2.1.2 rfl (t_add (show (170 : Int32).toInt = 170 from rfl) tx6) (show (0 : Int32).toInt = 0 from rfl) eJ93
              refine ok_b eM93 ?_
              exact ih _ _ (t_add tx5 tv83) _ _ (t_add tx6 (show (1 : Int32).toInt = 1 from rfl)) _ _ hM93 h
            · replace h := it_f c21 h
              refine ok_f (mt (c_eq tv89 (show (0 : Int32).toInt = 0 from rfl)).mp c21) ?_
              exact ih _ _ (t_add tx5 tv83) _ _ (t_add tx6 (show (1 : Int32).toInt = 1 from rfl)) _ _ hM86 h
set_option maxHeartbeats 4000000 in
set_option maxRecDepth 100000 in
theorem h_X12_sea {E : Em} {M : Mm} {J : Jm} (hM : Mre E M J) {this : Nat} (wthis : W12 E this) {p1 : Int32} {zp1 : Int} (tp1 : p1.toInt = zp1) {p2 : Int32} {zp2 : Int} (tp2 : p2.toInt = zp2) {p3 : Int32} {zp3 : Int} (tp3 : p3.toInt = zp3) {p4 : Int32} {zp4 : Int} (tp4 : p4.toInt = zp4) {z : Int} {J1 : Jm} (h : H_X12_sea this zp1 zp2 zp3 zp4 J = some (z, J1)) : Ok (F_X12_sea this p1 p2 p3 p4 M) (fun q => q.1.toInt = z ∧ Mre E q.2 J1) := by
  unfold H_X12_sea at h
  unfold F_X12_sea
  by_cases c1 : zp1 < 0
  · replace h := it_t c1 h
    refine ok_t ((c_lt tp1 (show (0 : Int32).toInt = 0 from rfl)).mpr c1) ?_
    exact o_ri (show ((-1) : Int32).toInt = (-1) from rfl) hM h
  · replace h := it_f c1 h
    refine ok_f (mt (c_lt tp1 (show (0 : Int32).toInt = 0 from rfl)).mp c1) ?_
    by_cases c2 : zp2 < 0
    · replace h := it_t c2 h
      refine ok_t ((c_lt tp2 (show (0 : Int32).toInt = 0 from rfl)).mpr c2) ?_
      exact o_ri (show ((-1) : Int32).toInt = (-1) from rfl) hM h
    · replace h := it_f c2 h
      refine ok_f (mt (c_lt tp2 (show (0 : Int32).toInt = 0 from rfl)).mp c2) ?_
      replace h := ob h; obtain ⟨zv3, ezv3, h⟩ := h
      obtain ⟨v3, ev3, tv3⟩ := o_dvI tp1 (show (10 : Int32).toInt = 10 from rfl) ezv3
      refine ok_b ev3 ?_
      replace h := ob h; obtain ⟨zv4, ezv4, h⟩ := h
      obtain ⟨v4, ev4, tv4⟩ := o_dvI tp2 (show (10 : Int32).toInt = 10 from rfl) ezv4
      refine ok_b ev4 ?_
      refine ok_b (o_isO hM wthis.1) ?_
      replace h := ob h; obtain ⟨zv7, ezv7, h⟩ := h
      obtain ⟨⟨v7, M5⟩, eM5, tv7, hM5⟩ := h_X12_isCell hM wthis tv3 tv4 ezv7
      refine ok_b eM5 ?_
      by_cases c3 : zv7 = 0
      · replace h := it_t c3 h
        refine ok_t ((c_eq tv7 (show (0 : Int32).toInt = 0 from rfl)).mpr c3) ?_
        exact o_ri (show ((-1) : Int32).toInt = (-1) from rfl) hM5 h
      · replace h := it_f c3 h
        refine ok_f (mt (c_eq tv7 (show (0 : Int32).toInt = 0 from rfl)).mp c3) ?_
        replace h := ob h; obtain ⟨zv9, ezv9, h⟩ := h
        obtain ⟨v9, ev9, tv9⟩ := o_rmI tp1 (show (10 : Int32).toInt = 10 from rfl) ezv9
        refine ok_b ev9 ?_
        replace h := ob h; obtain ⟨zv10, ezv10, h⟩ := h
        obtain ⟨v10, ev10, tv10⟩ := o_rmI tp2 (show (10 : Int32).toInt = 10 from rfl) ezv10
        refine ok_b ev10 ?_
        refine ok_b (o_isO hM5 wthis.1) ?_
        replace h := ob h; obtain ⟨zv13, ezv13, h⟩ := h
        obtain ⟨⟨v13, M11⟩, eM11, tv13, hM11⟩ := h_X12_isCell hM5 wthis tv9 tv10 ezv13
        refine ok_b eM11 ?_
        by_cases c4 : zv13 = 0
        · replace h := it_t c4 h
          refine ok_t ((c_eq tv13 (show (0 : Int32).toInt = 0 from rfl)).mpr c4) ?_
          exact o_ri (show ((-1) : Int32).toInt = (-1) from rfl) hM11 h
        · replace h := it_f c4 h
          refine ok_f (mt (c_eq tv13 (show (0 : Int32).toInt = 0 from rfl)).mp c4) ?_
          replace h := ob h; obtain ⟨zv15, ezv15, h⟩ := h
          obtain ⟨v15, ev15, tv15⟩ := o_dvI tp1 (show (10 : Int32).toInt = 10 from rfl) ezv15
          refine ok_b ev15 ?_
          replace h := ob h; obtain ⟨zv16, ezv16, h⟩ := h
          obtain ⟨v16, ev16, tv16⟩ := o_rmI tp1 (show (10 : Int32).toInt = 10 from rfl) ezv16
          refine ok_b ev16 ?_
          by_cases c5 : zv16 < zv15
          · replace h := it_t c5 h
            refine ok_t ((c_lt tv16 tv15).mpr c5) ?_
            exact o_ri (show ((-1) : Int32).toInt = (-1) from rfl) hM11 h
          · replace h := it_f c5 h
            refine ok_f (mt (c_lt tv16 tv15).mp c5) ?_
            replace h := ob h; obtain ⟨zv18, ezv18, h⟩ := h
            obtain ⟨v18, ev18, tv18⟩ := o_dvI tp2 (show (10 : Int32).toInt = 10 from rfl) ezv18
            refine ok_b ev18 ?_
            replace h := ob h; obtain ⟨zv19, ezv19, h⟩ := h
            obtain ⟨v19, ev19, tv19⟩ := o_rmI tp2 (show (10 : Int32).toInt = 10 from rfl) ezv19
            refine ok_b ev19 ?_
            by_cases c6 : zv19 < zv18
            · replace h := it_t c6 h
              refine ok_t ((c_lt tv19 tv18).mpr c6) ?_
              exact o_ri (show ((-1) : Int32).toInt = (-1) from rfl) hM11 h
            · replace h := it_f c6 h
              refine ok_f (mt (c_lt tv19 tv18).mp c6) ?_
              refine ok_b (o_isO hM11 wthis.1) ?_
              replace h := ob h; obtain ⟨zv23, ezv23, h⟩ := h
              obtain ⟨⟨v23, M21⟩, eM21, tv23, hM21⟩ := h_X12_is hM11 wthis tp3 (show (0 : Int32).toInt = 0 from rfl) (show (2 : Int32).toInt = 2 from rfl) ezv23
              refine ok_b eM21 ?_
              by_cases c7 : zv23 = 0
              · replace h := it_t c7 h
                refine ok_t ((c_eq tv23 (show (0 : Int32).toInt = 0 from rfl)).mpr c7) ?_
                exact o_ri (show ((-1) : Int32).toInt = (-1) from rfl) hM21 h
              · replace h := it_f c7 h
                refine ok_f (mt (c_eq tv23 (show (0 : Int32).toInt = 0 from rfl)).mp c7) ?_
                replace h := nv_e h; obtain ⟨zv25, ezv25, h⟩ := h
                obtain ⟨v25, evv25⟩ : ∃ v : Int32, v = (if p3 = 0 then 4 else (if p3 = 1 then 1 else 99)) := ⟨_, rfl⟩
                have tv25 : v25.toInt = zv25 := by rw [evv25, ezv25]; exact (t_ite (c_eq tp3 (show (0 : Int32).toInt = 0 from rfl)) (show (4 : Int32).toInt = 4 from rfl) (t_ite (c_eq tp3 (show (1 : Int32).toInt = 1 from rfl)) (show (1 : Int32).toInt = 1 from rfl) (show (99 : Int32).toInt = 99 from rfl)))
                refine ok_nv evv25 ?_
                refine ok_b (o_isO hM21 wthis.1) ?_
                replace h := ob h; obtain ⟨zv29, ezv29, h⟩ := h
                obtain ⟨⟨v29, M27⟩, eM27, tv29, hM27⟩ := h_X12_is hM21 wthis tp4 (show (0 : Int32).toInt = 0 from rfl) tv25 ezv29
                refine ok_b eM27 ?_
                by_cases c8 : zv29 = 0
                · replace h := it_t c8 h
                  refine ok_t ((c_eq tv29 (show (0 : Int32).toInt = 0 from rfl)).mpr c8) ?_
                  exact o_ri (show ((-1) : Int32).toInt = (-1) from rfl) hM27 h
                · replace h := it_f c8 h
                  refine ok_f (mt (c_eq tv29 (show (0 : Int32).toInt = 0 from rfl)).mp c8) ?_
                  refine h_X12_sea_L104  _ _ ?_ _ wthis _ _ tp1 _ _ tp2 _ _ tp3 _ _ tp4 _ _ _ (show (0 : Int32).toInt = 0 from rfl) _ _ hM27 h
                  intro M60 J60 hM60 h
                  refine h_X12_sea_L205   _ wthis _ _ tp1 _ _ tp2 _ _ tp3 _ _ tp4 _ _ _ (show (0 : Int32).toInt = 0 from rfl) _ _ (show (0 : Int32).toInt = 0 from rfl) _ _ hM60 h
