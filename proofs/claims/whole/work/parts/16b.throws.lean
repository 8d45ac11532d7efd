theorem fk_X11_274 : FOk RX11 274 6 6 (.array .int) true := ⟨(RX6, TX6, 12), tyX6, cl_6, by decide, lw_gi 226 (by decide +kernel), rfl, rfl, rfl⟩
theorem fk_X11_384 : FOk RX11 384 8 7 .int false := ⟨(RX8, TX8, 8), tyX8, cl_8, by decide, lw_gi 464 (by decide +kernel), rfl, rfl, rfl⟩
theorem lk_X11_271 : Cond.methodLink RX11 271 yX6_putRight ∈ lw_g ∧ Cond.instanceMethod yX6_putRight ∈ lw_g ∧ Cond.selects yX6_putRight.cls yX6_putRight yX6_putRight ∈ lw_g := ⟨lw_gi 1302 (by decide +kernel), lw_gi 1303 (by decide +kernel), lw_gi 1304 (by decide +kernel)⟩
theorem lk_X11_377 : Cond.methodLink RX11 377 yX11_throwFailure ∈ lw_g ∧ Cond.static yX11_throwFailure ∈ lw_g := ⟨lw_gi 1194 (by decide +kernel), lw_gi 1195 (by decide +kernel)⟩
theorem yk_X11_throwFailure : YOk yX11_throwFailure cX11_throwFailure 1 none 1 := ⟨lw_gi 1196 (by decide +kernel), lw_gi 77 (by decide +kernel), ⟨by decide +kernel, by decide +kernel⟩, by decide +kernel⟩
theorem yk_X6_putRight : YOk yX6_putRight cX6_putRight 4 (some .int) 1 := ⟨lw_gi 1305 (by decide +kernel), lw_gi 83 (by decide +kernel), ⟨by decide +kernel, by decide +kernel⟩, by decide +kernel⟩
def F_X11_read (this : Nat) (p1 : Int32) (p2 : Int32) (M : Mm) : Option (Nat × Int64 × Mm) :=
  if p1 < 0 then
    some (1, 0, M)
  else
    (rdR M this 11 0).bind fun v2 =>
    v2.bind fun a3 =>
    (rdR M a3 10 9).bind fun v4 =>
    v4.bind fun a5 =>
    (rdI M a5 6 0).bind fun v6 =>
    if p1 < v6 then
      if p2 = 0 then
        (rdR M this 11 0).bind fun v9 =>
        v9.bind fun a10 =>
        (rdR M a10 10 9).bind fun v11 =>
        v11.bind fun a12 =>
        (rdR M a12 6 6).bind fun v13 =>
        v13.bind fun a15 =>
        (ldI M a15 p1).bind fun v14 =>
        some (0, (v14.toInt64 : Int64), M)
      else
        (rdR M this 11 0).bind fun v16 =>
        v16.bind fun a17 =>
        (rdR M a17 10 9).bind fun v18 =>
        v18.bind fun a19 =>
        (isO M a19 6).bind fun _ =>
        (F_X6_putRight a19 p1 M).bind fun (v22, M20) =>
        some (0, (v22.toInt64 : Int64), M20)
    else
      some (1, 0, M)

set_option maxHeartbeats 4000000 in
set_option maxRecDepth 100000 in
theorem c_X11_read (l : Launch) (hl : l.stackTraces = false) (Γ : Gm) (this : Nat) (p1 : Int32) (p2 : Int32) (M M' : Mm) (r : Int64) (c : Nat) (h : F_X11_read this p1 p2 M = some (c, r, M')) : vx_Met l yX11_read (wz yX11_read cX11_read 3 (some .long)) ({ frames := 6, cells := 1, slots := 6, locals := 82 } : Room) (Pq Γ M [.ref this, .int p1, .int p2]) (Qlx Γ c r M') (XCx Γ c M') 1 6 (fr Γ) := by
  refine metx_of (own := RX11) (by decide +kernel) rfl (Nat.le_of_ble_eq_true rfl) ?_
  intro X hC hTb hR hnm hXl
  have hSt : X.2.1.stackTraces = false := by rw [hXl]; exact hl
  unfold F_X11_read at h
  show G Γ X 3 M 0 0 _ 0 ([(0, .ref this), (1, .int p1), (2, .int p2)]) []
  refine g_iload_n hC 1 dX11_read_0 rfl ?_
  refine g_if_lt hC 18 dX11_read_1 (by decide) (fun c1 => ?_) (fun c1 => ?_)
  · replace h := it_t c1 h
    cases h
    exact g_throw hC hTb hSt (by decide) rfl tw_264_268 tx_266 hR ⟨(Nat.le_of_ble_eq_true rfl), (Nat.le_of_ble_eq_true rfl), (Nat.le_of_ble_eq_true rfl), (Nat.le_of_ble_eq_true rfl), (Nat.le_of_ble_eq_true rfl), (Nat.le_of_ble_eq_true rfl)⟩ dX11_read_18 dX11_read_21 dX11_read_22 dX11_read_25 dX11_read_28
  · replace h := it_f c1 h
    refine g_iload_n hC 1 dX11_read_4 rfl ?_
    refine g_aload_n hC 0 dX11_read_5 rfl ?_
    replace h := ob h; obtain ⟨v2, ev2, h⟩ := h
    refine g_getR hC ev2 fk_X11_12 rfl dX11_read_6 ?_
    replace h := ob h; obtain ⟨a3, ea3, h⟩ := h
    subst ea3
    replace h := ob h; obtain ⟨v4, ev4, h⟩ := h
    refine g_getR hC ev4 fk_X11_231 rfl dX11_read_9 ?_
    replace h := ob h; obtain ⟨a5, ea5, h⟩ := h
    subst ea5
    replace h := ob h; obtain ⟨v6, ev6, h⟩ := h
    refine g_getI hC ev6 fk_X11_246 rfl dX11_read_12 ?_
    refine g_icmp_lt hC 29 dX11_read_15 (by decide) (fun c7 => ?_) (fun c7 => ?_)
    · replace h := it_t c7 h
      refine g_iload_n hC 2 dX11_read_29 rfl ?_
      refine g_if_eq hC 48 dX11_read_30 (by decide) (fun c8 => ?_) (fun c8 => ?_)
      · replace h := it_t c8 h
        refine g_aload_n hC 0 dX11_read_48 rfl ?_
        replace h := ob h; obtain ⟨v9, ev9, h⟩ := h
        refine g_getR hC ev9 fk_X11_12 rfl dX11_read_49 ?_
        replace h := ob h; obtain ⟨a10, ea10, h⟩ := h
        subst ea10
        replace h := ob h; obtain ⟨v11, ev11, h⟩ := h
        refine g_getR hC ev11 fk_X11_231 rfl dX11_read_52 ?_
        replace h := ob h; obtain ⟨a12, ea12, h⟩ := h
        subst ea12
        replace h := ob h; obtain ⟨v13, ev13, h⟩ := h
        refine g_getR hC ev13 fk_X11_274 rfl dX11_read_55 ?_
        refine g_iload_n hC 1 dX11_read_58 rfl ?_
        replace h := ob h; obtain ⟨a15, ea15, h⟩ := h
        subst ea15
        replace h := ob h; obtain ⟨v14, ev14, h⟩ := h
        refine g_iald hC ev14 dX11_read_59 ?_
        refine g_i2l hC dX11_read_60 ?_
        exact g_lretX hC h ⟨(Nat.le_of_ble_eq_true rfl), (Nat.le_of_ble_eq_true rfl)⟩ dX11_read_61
      · replace h := it_f c8 h
        refine g_aload_n hC 0 dX11_read_33 rfl ?_
        replace h := ob h; obtain ⟨v16, ev16, h⟩ := h
        refine g_getR hC ev16 fk_X11_12 rfl dX11_read_34 ?_
        replace h := ob h; obtain ⟨a17, ea17, h⟩ := h
        subst ea17
        replace h := ob h; obtain ⟨v18, ev18, h⟩ := h
        refine g_getR hC ev18 fk_X11_231 rfl dX11_read_37 ?_
        refine g_iload_n hC 1 dX11_read_40 rfl ?_
        replace h := ob h; obtain ⟨a19, ea19, h⟩ := h
        subst ea19
        replace h := ob h; obtain ⟨_, eu21, h⟩ := h
        replace h := ob h; obtain ⟨⟨v22, M20⟩, eM20, h⟩ := h
        refine g_calli hC (r_V hC (As := [.int p1]) (c_X6_putRight _ Γ a19 p1 M M20 v22 eM20) yk_X6_putRight lk_X11_271 eu21 ⟨_, rfl, rfl⟩ rfl rfl (Nat.le_of_ble_eq_true rfl) hR ⟨(Nat.le_of_ble_eq_true rfl), (Nat.le_of_ble_eq_true rfl)⟩ ⟨(Nat.le_of_ble_eq_true rfl), (Nat.le_of_ble_eq_true rfl)⟩ dX11_read_41) ?_
        refine g_i2l hC dX11_read_44 ?_
        refine g_goto hC 61 dX11_read_45 (by decide) ?_
        exact g_lretX hC h ⟨(Nat.le_of_ble_eq_true rfl), (Nat.le_of_ble_eq_true rfl)⟩ dX11_read_61
    · replace h := it_f c7 h
      cases h
      exact g_throw hC hTb hSt (by decide) rfl tw_264_268 tx_266 hR ⟨(Nat.le_of_ble_eq_true rfl), (Nat.le_of_ble_eq_true rfl), (Nat.le_of_ble_eq_true rfl), (Nat.le_of_ble_eq_true rfl), (Nat.le_of_ble_eq_true rfl), (Nat.le_of_ble_eq_true rfl)⟩ dX11_read_18 dX11_read_21 dX11_read_22 dX11_read_25 dX11_read_28

def F_X11_element (this : Nat) (p1 : Int32) (p2 : Int32) (M : Mm) : Option (Nat × Int64 × Mm) :=
  (isO M this 11).bind fun _ =>
  (F_X11_shelfAt this p1 M).bind fun (v3, M1) =>
  oe v3 (
    some (1, 0, M1)) fun a4 =>
    (rdI M1 a4 8 0).bind fun v5 =>
    if v5 = 2 then
      if p2 < 0 then
        some (2, 0, M1)
      else
        (rdI M1 a4 8 2).bind fun v8 =>
        if p2 < v8 then
          (rdR M1 a4 8 3).bind fun v10 =>
          v10.bind fun a12 =>
          (ldI M1 a12 p2).bind fun v11 =>
          some (0, (v11.toInt64 : Int64), M1)
        else
          some (2, 0, M1)
    else
      some (2, 0, M1)

set_option maxHeartbeats 4000000 in
set_option maxRecDepth 100000 in
theorem c_X11_element (l : Launch) (hl : l.stackTraces = false) (Γ : Gm) (this : Nat) (p1 : Int32) (p2 : Int32) (M M' : Mm) (r : Int64) (c : Nat) (h : F_X11_element this p1 p2 M = some (c, r, M')) : vx_Met l yX11_element (wz yX11_element cX11_element 4 (some .long)) ({ frames := 6, cells := 1, slots := 6, locals := 82 } : Room) (Pq Γ M [.ref this, .int p1, .int p2]) (Qlx Γ c r M') (XCx Γ c M') 1 6 (fr Γ) := by
  refine metx_of (own := RX11) (by decide +kernel) rfl (Nat.le_of_ble_eq_true rfl) ?_
  intro X hC hTb hR hnm hXl
  have hSt : X.2.1.stackTraces = false := by rw [hXl]; exact hl
  unfold F_X11_element at h
  show G Γ X 4 M 0 0 _ 0 ([(0, .ref this), (1, .int p1), (2, .int p2)]) []
  refine g_aload_n hC 0 dX11_element_0 rfl ?_
  refine g_iload_n hC 1 dX11_element_1 rfl ?_
  replace h := ob h; obtain ⟨_, eu2, h⟩ := h
  replace h := ob h; obtain ⟨⟨v3, M1⟩, eM1, h⟩ := h
  refine g_callr hC (r_V hC (As := [.int p1]) (c_X11_shelfAt _ Γ this p1 M M1 v3 eM1) yk_X11_shelfAt lk_X11_162 eu2 ⟨_, rfl, rfl⟩ rfl rfl (Nat.le_of_ble_eq_true rfl) hR ⟨(Nat.le_of_ble_eq_true rfl), (Nat.le_of_ble_eq_true rfl)⟩ ⟨(Nat.le_of_ble_eq_true rfl), (Nat.le_of_ble_eq_true rfl)⟩ dX11_element_2) ?_
  refine g_astore_nq hC (x := v3) ([(3, va_rf v3), (0, .ref this), (1, .int p1), (2, .int p2)]) dX11_element_5 (by decide) rfl ?_
  refine g_aload_nq hC 0 (x := v3) dX11_element_6 rfl ?_
  refine g_ifnonnull hC 21 dX11_element_7 (by decide) (fun a4 ca4 => ?_) (fun ca4 => ?_)
  · subst ca4
    replace h := oe_s h
    refine g_aload_n hC 0 dX11_element_21 rfl ?_
    replace h := ob h; obtain ⟨v5, ev5, h⟩ := h
    refine g_getI hC ev5 fk_X11_331 rfl dX11_element_22 ?_
    refine g_iconst hC 2 dX11_element_25 (by decide) ?_
    refine g_icmp_ne hC 41 dX11_element_26 (by decide) (fun c6 => ?_) (fun c6 => ?_)
    · replace h := it_f c6 h
      cases h
      exact g_throw hC hTb hSt (by decide) rfl tw_350_354 tx_352 hR ⟨(Nat.le_of_ble_eq_true rfl), (Nat.le_of_ble_eq_true rfl), (Nat.le_of_ble_eq_true rfl), (Nat.le_of_ble_eq_true rfl), (Nat.le_of_ble_eq_true rfl), (Nat.le_of_ble_eq_true rfl)⟩ dX11_element_41 dX11_element_44 dX11_element_45 dX11_element_48 dX11_element_51
    · replace h := it_t c6 h
      refine g_iload_n hC 3 dX11_element_29 rfl ?_
      refine g_if_lt hC 41 dX11_element_30 (by decide) (fun c7 => ?_) (fun c7 => ?_)
      · replace h := it_t c7 h
        cases h
        exact g_throw hC hTb hSt (by decide) rfl tw_350_354 tx_352 hR ⟨(Nat.le_of_ble_eq_true rfl), (Nat.le_of_ble_eq_true rfl), (Nat.le_of_ble_eq_true rfl), (Nat.le_of_ble_eq_true rfl), (Nat.le_of_ble_eq_true rfl), (Nat.le_of_ble_eq_true rfl)⟩ dX11_element_41 dX11_element_44 dX11_element_45 dX11_element_48 dX11_element_51
      · replace h := it_f c7 h
        refine g_iload_n hC 3 dX11_element_33 rfl ?_
        refine g_aload_n hC 0 dX11_element_34 rfl ?_
        replace h := ob h; obtain ⟨v8, ev8, h⟩ := h
        refine g_getI hC ev8 fk_X11_172 rfl dX11_element_35 ?_
        refine g_icmp_lt hC 52 dX11_element_38 (by decide) (fun c9 => ?_) (fun c9 => ?_)
        · replace h := it_t c9 h
          refine g_aload_n hC 0 dX11_element_52 rfl ?_
          replace h := ob h; obtain ⟨v10, ev10, h⟩ := h
          refine g_getR hC ev10 fk_X11_169 rfl dX11_element_53 ?_
          refine g_iload_n hC 3 dX11_element_56 rfl ?_
          replace h := ob h; obtain ⟨a12, ea12, h⟩ := h
          subst ea12
          replace h := ob h; obtain ⟨v11, ev11, h⟩ := h
          refine g_iald hC ev11 dX11_element_57 ?_
          refine g_i2l hC dX11_element_58 ?_
          exact g_lretX hC h ⟨(Nat.le_of_ble_eq_true rfl), (Nat.le_of_ble_eq_true rfl)⟩ dX11_element_59
        · replace h := it_f c9 h
          cases h
          exact g_throw hC hTb hSt (by decide) rfl tw_350_354 tx_352 hR ⟨(Nat.le_of_ble_eq_true rfl), (Nat.le_of_ble_eq_true rfl), (Nat.le_of_ble_eq_true rfl), (Nat.le_of_ble_eq_true rfl), (Nat.le_of_ble_eq_true rfl), (Nat.le_of_ble_eq_true rfl)⟩ dX11_element_41 dX11_element_44 dX11_element_45 dX11_element_48 dX11_element_51
  · subst ca4
    replace h := oe_n h
    cases h
    exact g_throw hC hTb hSt (by decide) rfl tw_264_268 tx_348 hR ⟨(Nat.le_of_ble_eq_true rfl), (Nat.le_of_ble_eq_true rfl), (Nat.le_of_ble_eq_true rfl), (Nat.le_of_ble_eq_true rfl), (Nat.le_of_ble_eq_true rfl), (Nat.le_of_ble_eq_true rfl)⟩ dX11_element_10 dX11_element_13 dX11_element_14 dX11_element_17 dX11_element_20

def F_X11_throwFailure (p1 : Nat) (M : Mm) : Option (Nat × Mm) :=
  (rdI M p1 8 7).bind fun v1 =>
  if v1 = 0 then
    (rdI M p1 8 4).bind fun v3 =>
    if v3 = 0 then
      some (0, M)
    else
      (rdI M p1 8 4).bind fun v5 =>
      if v5 = 3 then
        some (3, M)
      else
        some (2, M)
  else
    some (0, M)

set_option maxHeartbeats 4000000 in
set_option maxRecDepth 100000 in
theorem c_X11_throwFailure (l : Launch) (hl : l.stackTraces = false) (Γ : Gm) (p1 : Nat) (M M' : Mm) (c : Nat) (h : F_X11_throwFailure p1 M = some (c, M')) : vx_Met l yX11_throwFailure (wz yX11_throwFailure cX11_throwFailure 1 none) ({ frames := 6, cells := 1, slots := 6, locals := 82 } : Room) (Pq Γ M [.ref p1]) (Qvx Γ c M') (XCx Γ c M') 1 6 (fr Γ) := by
  refine metx_of (own := RX11) (by decide +kernel) rfl (Nat.le_of_ble_eq_true rfl) ?_
  intro X hC hTb hR hnm hXl
  have hSt : X.2.1.stackTraces = false := by rw [hXl]; exact hl
  unfold F_X11_throwFailure at h
  show G Γ X 1 M 0 0 _ 0 ([(0, .ref p1)]) []
  refine g_aload_n hC 0 dX11_throwFailure_0 rfl ?_
  replace h := ob h; obtain ⟨v1, ev1, h⟩ := h
  refine g_getI hC ev1 fk_X11_384 rfl dX11_throwFailure_1 ?_
  refine g_if_ne hC 14 dX11_throwFailure_4 (by decide) (fun c2 => ?_) (fun c2 => ?_)
  · replace h := it_f c2 h
    exact g_vretX hC h ⟨(Nat.le_of_ble_eq_true rfl), (Nat.le_of_ble_eq_true rfl)⟩ dX11_throwFailure_14
  · replace h := it_t c2 h
    refine g_aload_n hC 0 dX11_throwFailure_7 rfl ?_
    replace h := ob h; obtain ⟨v3, ev3, h⟩ := h
    refine g_getI hC ev3 fk_X11_367 rfl dX11_throwFailure_8 ?_
    refine g_if_ne hC 15 dX11_throwFailure_11 (by decide) (fun c4 => ?_) (fun c4 => ?_)
    · replace h := it_f c4 h
      refine g_aload_n hC 0 dX11_throwFailure_15 rfl ?_
      replace h := ob h; obtain ⟨v5, ev5, h⟩ := h
      refine g_getI hC ev5 fk_X11_367 rfl dX11_throwFailure_16 ?_
      refine g_iconst hC 3 dX11_throwFailure_19 (by decide) ?_
      refine g_icmp_ne hC 34 dX11_throwFailure_20 (by decide) (fun c6 => ?_) (fun c6 => ?_)
      · replace h := it_f c6 h
        cases h
        exact g_throw hC hTb hSt (by decide) rfl tw_350_354 tx_388 hR ⟨(Nat.le_of_ble_eq_true rfl), (Nat.le_of_ble_eq_true rfl), (Nat.le_of_ble_eq_true rfl), (Nat.le_of_ble_eq_true rfl), (Nat.le_of_ble_eq_true rfl), (Nat.le_of_ble_eq_true rfl)⟩ dX11_throwFailure_34 dX11_throwFailure_37 dX11_throwFailure_38 dX11_throwFailure_41 dX11_throwFailure_44
      · replace h := it_t c6 h
        cases h
        exact g_throw hC hTb hSt (by decide) rfl tw_381_387 tx_385 hR ⟨(Nat.le_of_ble_eq_true rfl), (Nat.le_of_ble_eq_true rfl), (Nat.le_of_ble_eq_true rfl), (Nat.le_of_ble_eq_true rfl), (Nat.le_of_ble_eq_true rfl), (Nat.le_of_ble_eq_true rfl)⟩ dX11_throwFailure_23 dX11_throwFailure_26 dX11_throwFailure_27 dX11_throwFailure_30 dX11_throwFailure_33
    · replace h := it_t c4 h
      exact g_vretX hC h ⟨(Nat.le_of_ble_eq_true rfl), (Nat.le_of_ble_eq_true rfl)⟩ dX11_throwFailure_14
