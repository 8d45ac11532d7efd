set_option maxHeartbeats 4000000 in
set_option maxRecDepth 100000 in
theorem c_X11_leak (l : Launch) (Γ : Gm) (this : Nat) (p1 : Int32) (p2 : Int32) (M M' : Mm) (r : Int32) (h : F_X11_leak this p1 p2 M = some (r, M')) : Met l yX11_leak (wz yX11_leak cX11_leak 5 (some .int)) ({ frames := 1, cells := 0, slots := 0, locals := 21 } : Room) (Pq Γ M [.ref this, .int p1, .int p2]) (Qi Γ r M') 0 0 (fr Γ) := by
  refine met_of (own := RX11) (by decide +kernel) rfl (Nat.le_of_ble_eq_true rfl) ?_
  intro X hC hR hnm hXl
  unfold F_X11_leak at h
  show G Γ X 5 M 0 0 _ 0 ([(0, .ref this), (1, .int p1), (2, .int p2)]) []
  refine g_aload_n hC 0 dX11_leak_0 rfl ?_
  replace h := ob h; obtain ⟨v1, ev1, h⟩ := h
  refine g_getR hC ev1 fk_X11_12 rfl dX11_leak_1 ?_
  refine g_iload_n hC 1 dX11_leak_4 rfl ?_
  replace h := ob h; obtain ⟨a2, ea2, h⟩ := h
  subst ea2
  replace h := ob h; obtain ⟨_, eu4, h⟩ := h
  replace h := ob h; obtain ⟨⟨v5, M3⟩, eM3, h⟩ := h
  refine g_callr hC (r_V hC (As := [.int p1]) (c_X10_gliderAt _ Γ a2 p1 M M3 v5 eM3) yk_X10_gliderAt lk_X11_123 eu4 ⟨_, rfl, rfl⟩ rfl rfl (Nat.le_of_ble_eq_true rfl) hR ⟨(Nat.le_of_ble_eq_true rfl), (Nat.le_of_ble_eq_true rfl)⟩ ⟨(Nat.le_of_ble_eq_true rfl), (Nat.le_of_ble_eq_true rfl)⟩ dX11_leak_5) ?_
  refine g_astore_nq hC (x := v5) ([(3, va_rf v5), (0, .ref this), (1, .int p1), (2, .int p2)]) dX11_leak_8 (by decide) rfl ?_
  refine g_aload_nq hC 0 (x := v5) dX11_leak_9 rfl ?_
  refine g_ifnonnull hC 15 dX11_leak_10 (by decide) (fun a6 ca6 => ?_) (fun ca6 => ?_)
  · subst ca6
    replace h := oe_s h
    refine g_aload_n hC 0 dX11_leak_15 rfl ?_
    replace h := ob h; obtain ⟨v7, ev7, h⟩ := h
    refine g_getI hC ev7 fk_X11_144 rfl dX11_leak_16 ?_
    refine g_istore hC ([(4, .int v7), (3, .ref a6), (0, .ref this), (1, .int p1), (2, .int p2)]) dX11_leak_19 (by decide) rfl ?_
    refine g_aload_n hC 1 dX11_leak_21 rfl ?_
    refine g_iload_n hC 4 dX11_leak_22 rfl ?_
    replace h := ob h; obtain ⟨M8, eM8, h⟩ := h
    refine g_putZ hC eM8 fk_X11_144 rfl dX11_leak_23 ?_
    refine g_iload hC 0 dX11_leak_26 rfl ?_
    refine g_iload_n hC 4 dX11_leak_28 rfl ?_
    refine g_icmp_ne hC 36 dX11_leak_29 (by decide) (fun c9 => ?_) (fun c9 => ?_)
    · replace h := it_f c9 h
      refine g_iconst hC 1 dX11_leak_36 (by decide) ?_
      exact g_iret hC h ⟨(Nat.le_of_ble_eq_true rfl), (Nat.le_of_ble_eq_true rfl)⟩ dX11_leak_37
    · replace h := it_t c9 h
      refine g_iconst hC 0 dX11_leak_32 (by decide) ?_
      refine g_goto hC 37 dX11_leak_33 (by decide) ?_
      exact g_iret hC h ⟨(Nat.le_of_ble_eq_true rfl), (Nat.le_of_ble_eq_true rfl)⟩ dX11_leak_37
  · subst ca6
    replace h := oe_n h
    refine g_iconst hC (-1) dX11_leak_13 (by decide) ?_
    exact g_iret hC h ⟨(Nat.le_of_ble_eq_true rfl), (Nat.le_of_ble_eq_true rfl)⟩ dX11_leak_14

set_option maxHeartbeats 4000000 in
set_option maxRecDepth 100000 in
theorem c_X11_dive (l : Launch) (Γ : Gm) (this : Nat) (p1 : Int32) (p2 : Int32) (p3 : Int32) (p4 : Int32) (M M' : Mm) (r : Int32) (h : F_X11_dive this p1 p2 p3 p4 M = some (r, M')) : Met l yX11_dive (wz yX11_dive cX11_dive 6 (some .int)) ({ frames := 5, cells := 0, slots := 0, locals := 124 } : Room) (Pq Γ M [.ref this, .int p1, .int p2, .int p3, .int p4]) (Qi Γ r M') 0 0 (fr Γ) := by
  refine met_of (own := RX11) (by decide +kernel) rfl (Nat.le_of_ble_eq_true rfl) ?_
  intro X hC hR hnm hXl
  unfold F_X11_dive at h
  show G Γ X 6 M 0 0 _ 0 ([(0, .ref this), (1, .int p1), (2, .int p2), (3, .int p3), (4, .int p4)]) []
  refine g_aload_n hC 0 dX11_dive_0 rfl ?_
  replace h := ob h; obtain ⟨v1, ev1, h⟩ := h
  refine g_getR hC ev1 fk_X11_12 rfl dX11_dive_1 ?_
  refine g_iload_n hC 1 dX11_dive_4 rfl ?_
  replace h := ob h; obtain ⟨a2, ea2, h⟩ := h
  subst ea2
  replace h := ob h; obtain ⟨_, eu4, h⟩ := h
  replace h := ob h; obtain ⟨⟨v5, M3⟩, eM3, h⟩ := h
  refine g_callr hC (r_V hC (As := [.int p1]) (c_X10_gliderAt _ Γ a2 p1 M M3 v5 eM3) yk_X10_gliderAt lk_X11_123 eu4 ⟨_, rfl, rfl⟩ rfl rfl (Nat.le_of_ble_eq_true rfl) hR ⟨(Nat.le_of_ble_eq_true rfl), (Nat.le_of_ble_eq_true rfl)⟩ ⟨(Nat.le_of_ble_eq_true rfl), (Nat.le_of_ble_eq_true rfl)⟩ dX11_dive_5) ?_
  refine g_astoreq hC (x := v5) ([(5, va_rf v5), (0, .ref this), (1, .int p1), (2, .int p2), (3, .int p3), (4, .int p4)]) dX11_dive_8 (by decide) rfl ?_
  refine g_aloadq hC 0 (x := v5) dX11_dive_10 rfl ?_
  refine g_ifnull hC 27 dX11_dive_12 (by decide) (fun ca6 => ?_) (fun a6 ca6 => ?_)
  · subst ca6
    replace h := oe_n h
    refine g_iconst hC (-1) dX11_dive_27 (by decide) ?_
    exact g_iret hC h ⟨(Nat.le_of_ble_eq_true rfl), (Nat.le_of_ble_eq_true rfl)⟩ dX11_dive_28
  · subst ca6
    replace h := oe_s h
    refine g_aload hC 0 dX11_dive_15 rfl ?_
    refine g_iload_n hC 3 dX11_dive_17 rfl ?_
    refine g_iload_n hC 4 dX11_dive_18 rfl ?_
    refine g_iload hC 5 dX11_dive_19 rfl ?_
    replace h := ob h; obtain ⟨_, eu8, h⟩ := h
    replace h := ob h; obtain ⟨⟨v9, M7⟩, eM7, h⟩ := h
    refine g_calli hC (r_V hC (As := [.int p2, .int p3, .int p4]) (c_X0_mayDive _ Γ a6 p2 p3 p4 M3 M7 v9 eM7) yk_X0_mayDive lk_X11_148 eu8 ⟨_, rfl, rfl⟩ rfl rfl (Nat.le_of_ble_eq_true rfl) hR ⟨(Nat.le_of_ble_eq_true rfl), (Nat.le_of_ble_eq_true rfl)⟩ ⟨(Nat.le_of_ble_eq_true rfl), (Nat.le_of_ble_eq_true rfl)⟩ dX11_dive_21) ?_
    refine g_if_ne hC 29 dX11_dive_24 (by decide) (fun c10 => ?_) (fun c10 => ?_)
    · replace h := it_f c10 h
      refine g_aload hC 0 dX11_dive_29 rfl ?_
      replace h := ob h; obtain ⟨v11, ev11, h⟩ := h
      refine g_getI hC ev11 fk_X11_152 rfl dX11_dive_31 ?_
      refine g_if_ne hC 51 dX11_dive_34 (by decide) (fun c12 => ?_) (fun c12 => ?_)
      · replace h := it_f c12 h
        refine g_bipush hC (-3) dX11_dive_51 (by decide) ?_
        exact g_iret hC h ⟨(Nat.le_of_ble_eq_true rfl), (Nat.le_of_ble_eq_true rfl)⟩ dX11_dive_53
      · replace h := it_t c12 h
        refine g_aload hC 0 dX11_dive_37 rfl ?_
        replace h := ob h; obtain ⟨v13, ev13, h⟩ := h
        refine g_getI hC ev13 fk_X11_155 rfl dX11_dive_39 ?_
        refine g_aload hC 0 dX11_dive_42 rfl ?_
        refine g_iload_n hC 3 dX11_dive_44 rfl ?_
        replace h := ob h; obtain ⟨_, eu15, h⟩ := h
        replace h := ob h; obtain ⟨⟨v16, M14⟩, eM14, h⟩ := h
        refine g_calli hC (r_V hC (As := [.int p2]) (c_X0_costTo _ Γ a6 p2 M7 M14 v16 eM14) yk_X0_costTo lk_X11_140 eu15 ⟨_, rfl, rfl⟩ rfl rfl (Nat.le_of_ble_eq_true rfl) hR ⟨(Nat.le_of_ble_eq_true rfl), (Nat.le_of_ble_eq_true rfl)⟩ ⟨(Nat.le_of_ble_eq_true rfl), (Nat.le_of_ble_eq_true rfl)⟩ dX11_dive_45) ?_
        refine g_icmp_ge hC 54 dX11_dive_48 (by decide) (fun c17 => ?_) (fun c17 => ?_)
        · replace h := it_t c17 h
          refine g_aload_n hC 1 dX11_dive_54 rfl ?_
          replace h := ob h; obtain ⟨v18, ev18, h⟩ := h
          refine g_getR hC ev18 fk_X11_12 rfl dX11_dive_55 ?_
          refine g_aload hC 0 dX11_dive_58 rfl ?_
          refine g_iload_n hC 3 dX11_dive_60 rfl ?_
          refine g_iload_n hC 4 dX11_dive_61 rfl ?_
          refine g_iload hC 5 dX11_dive_62 rfl ?_
          replace h := ob h; obtain ⟨a19, ea19, h⟩ := h
          subst ea19
          replace h := ob h; obtain ⟨_, eu21, h⟩ := h
          replace h := ob h; obtain ⟨⟨v22, M20⟩, eM20, h⟩ := h
          refine g_calli hC (r_V hC (As := [.ref a6, .int p2, .int p3, .int p4]) (c_X10_descend _ Γ a19 a6 p2 p3 p4 M14 M20 v22 eM20) yk_X10_descend lk_X11_158 eu21 ⟨_, rfl, rfl⟩ rfl rfl (Nat.le_of_ble_eq_true rfl) hR ⟨(Nat.le_of_ble_eq_true rfl), (Nat.le_of_ble_eq_true rfl)⟩ ⟨(Nat.le_of_ble_eq_true rfl), (Nat.le_of_ble_eq_true rfl)⟩ dX11_dive_64) ?_
          exact g_iret hC h ⟨(Nat.le_of_ble_eq_true rfl), (Nat.le_of_ble_eq_true rfl)⟩ dX11_dive_67
        · replace h := it_f c17 h
          refine g_bipush hC (-3) dX11_dive_51 (by decide) ?_
          exact g_iret hC h ⟨(Nat.le_of_ble_eq_true rfl), (Nat.le_of_ble_eq_true rfl)⟩ dX11_dive_53
    · replace h := it_t c10 h
      refine g_iconst hC (-1) dX11_dive_27 (by decide) ?_
      exact g_iret hC h ⟨(Nat.le_of_ble_eq_true rfl), (Nat.le_of_ble_eq_true rfl)⟩ dX11_dive_28

set_option maxHeartbeats 4000000 in
set_option maxRecDepth 100000 in
theorem c_X11_shelfAt (l : Launch) (Γ : Gm) (this : Nat) (p1 : Int32) (M M' : Mm) (r : Option Nat) (h : F_X11_shelfAt this p1 M = some (r, M')) : Met l yX11_shelfAt (wz yX11_shelfAt cX11_shelfAt 2 (some (.object "DeepWings$Shelf"))) ({ frames := 0, cells := 0, slots := 0, locals := 0 } : Room) (Pq Γ M [.ref this, .int p1]) (Qr Γ r M') 0 0 (fr Γ) := by
  refine met_of (own := RX11) (by decide +kernel) rfl (Nat.le_of_ble_eq_true rfl) ?_
  intro X hC hR hnm hXl
  unfold F_X11_shelfAt at h
  show G Γ X 2 M 0 0 _ 0 ([(0, .ref this), (1, .int p1)]) []
  refine g_iload_n hC 1 dX11_shelfAt_0 rfl ?_
  refine g_if_lt hC 19 dX11_shelfAt_1 (by decide) (fun c1 => ?_) (fun c1 => ?_)
  · replace h := it_t c1 h
    refine g_null hC dX11_shelfAt_19 ?_
    exact g_aret (v := none) hC rfl (Or.inl ⟨_, rfl⟩) h ⟨(Nat.le_of_ble_eq_true rfl), (Nat.le_of_ble_eq_true rfl)⟩ dX11_shelfAt_20
  · replace h := it_f c1 h
    refine g_iload_n hC 1 dX11_shelfAt_4 rfl ?_
    refine g_bipush hC 8 dX11_shelfAt_5 (by decide) ?_
    refine g_icmp_ge hC 19 dX11_shelfAt_7 (by decide) (fun c2 => ?_) (fun c2 => ?_)
    · replace h := it_t c2 h
      refine g_null hC dX11_shelfAt_19 ?_
      exact g_aret (v := none) hC rfl (Or.inl ⟨_, rfl⟩) h ⟨(Nat.le_of_ble_eq_true rfl), (Nat.le_of_ble_eq_true rfl)⟩ dX11_shelfAt_20
    · replace h := it_f c2 h
      refine g_aload_n hC 0 dX11_shelfAt_10 rfl ?_
      replace h := ob h; obtain ⟨v3, ev3, h⟩ := h
      refine g_getR hC ev3 fk_X11_34 rfl dX11_shelfAt_11 ?_
      refine g_iload_n hC 1 dX11_shelfAt_14 rfl ?_
      replace h := ob h; obtain ⟨a5, ea5, h⟩ := h
      subst ea5
      replace h := ob h; obtain ⟨v4, ev4, h⟩ := h
      refine g_aald hC ev4 (by decide) dX11_shelfAt_15 ?_
      refine g_goto hC 20 dX11_shelfAt_16 (by decide) ?_
      exact g_aret (v := v4) hC rfl (Or.inl ⟨_, rfl⟩) h ⟨(Nat.le_of_ble_eq_true rfl), (Nat.le_of_ble_eq_true rfl)⟩ dX11_shelfAt_20

set_option maxHeartbeats 4000000 in
set_option maxRecDepth 100000 in
theorem c_X11_fault (l : Launch) (Γ : Gm) (this : Nat) (p1 : Int32) (M M' : Mm) (r : Int32) (h : F_X11_fault this p1 M = some (r, M')) : Met l yX11_fault (wz yX11_fault cX11_fault 4 (some .int)) ({ frames := 8, cells := 0, slots := 0, locals := 176 } : Room) (Pq Γ M [.ref this, .int p1]) (Qi Γ r M') 0 0 (fr Γ) := by
  refine met_of (own := RX11) (by decide +kernel) rfl (Nat.le_of_ble_eq_true rfl) ?_
  intro X hC hR hnm hXl
  unfold F_X11_fault at h
  show G Γ X 4 M 0 0 _ 0 ([(0, .ref this), (1, .int p1)]) []
  refine g_aload_n hC 0 dX11_fault_0 rfl ?_
  refine g_iload_n hC 1 dX11_fault_1 rfl ?_
  replace h := ob h; obtain ⟨_, eu2, h⟩ := h
  replace h := ob h; obtain ⟨⟨v3, M1⟩, eM1, h⟩ := h
  refine g_callr hC (r_V hC (As := [.int p1]) (c_X11_shelfAt _ Γ this p1 M M1 v3 eM1) yk_X11_shelfAt lk_X11_162 eu2 ⟨_, rfl, rfl⟩ rfl rfl (Nat.le_of_ble_eq_true rfl) hR ⟨(Nat.le_of_ble_eq_true rfl), (Nat.le_of_ble_eq_true rfl)⟩ ⟨(Nat.le_of_ble_eq_true rfl), (Nat.le_of_ble_eq_true rfl)⟩ dX11_fault_2) ?_
  refine g_astore_nq hC (x := v3) ([(2, va_rf v3), (0, .ref this), (1, .int p1)]) dX11_fault_5 (by decide) rfl ?_
  refine g_aload_nq hC 0 (x := v3) dX11_fault_6 rfl ?_
  refine g_ifnonnull hC 12 dX11_fault_7 (by decide) (fun a4 ca4 => ?_) (fun ca4 => ?_)
  · subst ca4
    replace h := oe_s h
    refine g_aload_n hC 0 dX11_fault_12 rfl ?_
    replace h := ob h; obtain ⟨_, eu6, h⟩ := h
    replace h := ob h; obtain ⟨⟨v7, M5⟩, eM5, h⟩ := h
    refine g_calli hC (r_V hC (As := []) (c_X8_refusesAsText _ Γ a4 M1 M5 v7 eM5) yk_X8_refusesAsText lk_X11_166 eu6 ⟨_, rfl, rfl⟩ rfl rfl (Nat.le_of_ble_eq_true rfl) hR ⟨(Nat.le_of_ble_eq_true rfl), (Nat.le_of_ble_eq_true rfl)⟩ ⟨(Nat.le_of_ble_eq_true rfl), (Nat.le_of_ble_eq_true rfl)⟩ dX11_fault_13) ?_
    refine g_istore_n hC ([(3, .int v7), (2, .ref a4), (0, .ref this), (1, .int p1)]) dX11_fault_16 (by decide) rfl ?_
    refine g_iload_n hC 0 dX11_fault_17 rfl ?_
    refine g_if_eq hC 25 dX11_fault_18 (by decide) (fun c8 => ?_) (fun c8 => ?_)
    · replace h := it_t c8 h
      refine g_aload_n hC 2 dX11_fault_25 rfl ?_
      replace h := ob h; obtain ⟨v9, ev9, h⟩ := h
      refine g_getR hC ev9 fk_X11_28 rfl dX11_fault_26 ?_
      refine g_aload_n hC 1 dX11_fault_29 rfl ?_
      replace h := ob h; obtain ⟨v10, ev10, h⟩ := h
      refine g_getR hC ev10 fk_X11_169 rfl dX11_fault_30 ?_
      refine g_aload_n hC 1 dX11_fault_33 rfl ?_
      replace h := ob h; obtain ⟨v11, ev11, h⟩ := h
      refine g_getI hC ev11 fk_X11_172 rfl dX11_fault_34 ?_
      replace h := ob h; obtain ⟨a12, ea12, h⟩ := h
      subst ea12
      replace h := ob h; obtain ⟨a13, ea13, h⟩ := h
      subst ea13
      replace h := ob h; obtain ⟨_, eu15, h⟩ := h
      replace h := ob h; obtain ⟨⟨v16, M14⟩, eM14, h⟩ := h
      refine g_calli hC (r_V hC (As := [.ref a12, .int v11]) (c_X3_scan _ Γ a13 a12 v11 M5 M14 v16 eM14) yk_X3_scan lk_X11_175 eu15 ⟨_, rfl, rfl⟩ rfl rfl (Nat.le_of_ble_eq_true rfl) hR ⟨(Nat.le_of_ble_eq_true rfl), (Nat.le_of_ble_eq_true rfl)⟩ ⟨(Nat.le_of_ble_eq_true rfl), (Nat.le_of_ble_eq_true rfl)⟩ dX11_fault_37) ?_
      exact g_iret hC h ⟨(Nat.le_of_ble_eq_true rfl), (Nat.le_of_ble_eq_true rfl)⟩ dX11_fault_40
    · replace h := it_f c8 h
      refine g_iload_n hC 0 dX11_fault_21 rfl ?_
      refine g_goto hC 40 dX11_fault_22 (by decide) ?_
      exact g_iret hC h ⟨(Nat.le_of_ble_eq_true rfl), (Nat.le_of_ble_eq_true rfl)⟩ dX11_fault_40
  · subst ca4
    replace h := oe_n h
    refine g_iconst hC (-1) dX11_fault_10 (by decide) ?_
    exact g_iret hC h ⟨(Nat.le_of_ble_eq_true rfl), (Nat.le_of_ble_eq_true rfl)⟩ dX11_fault_11

set_option maxHeartbeats 4000000 in
set_option maxRecDepth 100000 in
theorem c_X11_order (l : Launch) (Γ : Gm) (this : Nat) (p1 : Int32) (M M' : Mm) (r : Int32) (h : F_X11_order this p1 M = some (r, M')) : Met l yX11_order (wz yX11_order cX11_order 5 (some .int)) ({ frames := 8, cells := 9, slots := 114, locals := 176 } : Room) (Pq Γ M [.ref this, .int p1]) (Qi Γ r M') 9 114 (fr Γ) := by
  refine met_of (own := RX11) (by decide +kernel) rfl (Nat.le_of_ble_eq_true rfl) ?_
  intro X hC hR hnm hXl
  unfold F_X11_order at h
  show G Γ X 5 M 0 0 _ 0 ([(0, .ref this), (1, .int p1)]) []
  refine g_aload_n hC 0 dX11_order_0 rfl ?_
  refine g_iload_n hC 1 dX11_order_1 rfl ?_
  replace h := ob h; obtain ⟨_, eu2, h⟩ := h
  replace h := ob h; obtain ⟨⟨v3, M1⟩, eM1, h⟩ := h
  refine g_callr hC (r_V hC (As := [.int p1]) (c_X11_shelfAt _ Γ this p1 M M1 v3 eM1) yk_X11_shelfAt lk_X11_162 eu2 ⟨_, rfl, rfl⟩ rfl rfl (Nat.le_of_ble_eq_true rfl) hR ⟨(Nat.le_of_ble_eq_true rfl), (Nat.le_of_ble_eq_true rfl)⟩ ⟨(Nat.le_of_ble_eq_true rfl), (Nat.le_of_ble_eq_true rfl)⟩ dX11_order_2) ?_
  refine g_astore_nq hC (x := v3) ([(2, va_rf v3), (0, .ref this), (1, .int p1)]) dX11_order_5 (by decide) rfl ?_
  refine g_aload_nq hC 0 (x := v3) dX11_order_6 rfl ?_
  refine g_ifnonnull hC 12 dX11_order_7 (by decide) (fun a4 ca4 => ?_) (fun ca4 => ?_)
  · subst ca4
    replace h := oe_s h
    refine g_aload_n hC 1 dX11_order_12 rfl ?_
    replace h := ob h; obtain ⟨v5, ev5, h⟩ := h
    refine g_getR hC ev5 fk_X11_12 rfl dX11_order_13 ?_
    replace h := ob h; obtain ⟨a6, ea6, h⟩ := h
    subst ea6
    replace h := ob h; obtain ⟨v7, ev7, h⟩ := h
    refine g_getI hC ev7 fk_X11_179 rfl dX11_order_16 ?_
    refine g_bipush hC 10 dX11_order_19 (by decide) ?_
    refine g_icmp_lt hC 27 dX11_order_21 (by decide) (fun c8 => ?_) (fun c8 => ?_)
    · replace h := it_t c8 h
      refine g_aload_n hC 0 dX11_order_27 rfl ?_
      replace h := ob h; obtain ⟨_, eu10, h⟩ := h
      replace h := ob h; obtain ⟨⟨v11, M9⟩, eM9, h⟩ := h
      refine g_calli hC (r_V hC (As := []) (c_X8_refusesAsText _ Γ a4 M1 M9 v11 eM9) yk_X8_refusesAsText lk_X11_166 eu10 ⟨_, rfl, rfl⟩ rfl rfl (Nat.le_of_ble_eq_true rfl) hR ⟨(Nat.le_of_ble_eq_true rfl), (Nat.le_of_ble_eq_true rfl)⟩ ⟨(Nat.le_of_ble_eq_true rfl), (Nat.le_of_ble_eq_true rfl)⟩ dX11_order_28) ?_
      refine g_istore_n hC ([(3, .int v11), (2, .ref a4), (0, .ref this), (1, .int p1)]) dX11_order_31 (by decide) rfl ?_
      refine g_iload_n hC 0 dX11_order_32 rfl ?_
      refine g_if_eq hC 38 dX11_order_33 (by decide) (fun c12 => ?_) (fun c12 => ?_)
      · replace h := it_t c12 h
        refine g_aload_n hC 2 dX11_order_38 rfl ?_
        replace h := ob h; obtain ⟨v13, ev13, h⟩ := h
        refine g_getR hC ev13 fk_X11_28 rfl dX11_order_39 ?_
        refine g_aload_n hC 1 dX11_order_42 rfl ?_
        replace h := ob h; obtain ⟨v14, ev14, h⟩ := h
        refine g_getR hC ev14 fk_X11_169 rfl dX11_order_43 ?_
        refine g_aload_n hC 1 dX11_order_46 rfl ?_
        replace h := ob h; obtain ⟨v15, ev15, h⟩ := h
        refine g_getI hC ev15 fk_X11_172 rfl dX11_order_47 ?_
        replace h := ob h; obtain ⟨a16, ea16, h⟩ := h
        subst ea16
        replace h := ob h; obtain ⟨a17, ea17, h⟩ := h
        subst ea17
        replace h := ob h; obtain ⟨_, eu19, h⟩ := h
        replace h := ob h; obtain ⟨⟨v20, M18⟩, eM18, h⟩ := h
        refine g_calli hC (r_V hC (As := [.ref a16, .int v15]) (c_X3_scan _ Γ a17 a16 v15 M9 M18 v20 eM18) yk_X3_scan lk_X11_175 eu19 ⟨_, rfl, rfl⟩ rfl rfl (Nat.le_of_ble_eq_true rfl) hR ⟨(Nat.le_of_ble_eq_true rfl), (Nat.le_of_ble_eq_true rfl)⟩ ⟨(Nat.le_of_ble_eq_true rfl), (Nat.le_of_ble_eq_true rfl)⟩ dX11_order_50) ?_
        refine g_istore hC ([(4, .int v20), (3, .int v11), (2, .ref a4), (0, .ref this), (1, .int p1)]) dX11_order_53 (by decide) rfl ?_
        refine g_iload hC 0 dX11_order_55 rfl ?_
        refine g_bipush hC (-4) dX11_order_57 (by decide) ?_
        refine g_icmp_eq hC 68 dX11_order_59 (by decide) (fun c21 => ?_) (fun c21 => ?_)
        · replace h := it_t c21 h
          refine g_aload_n hC 3 dX11_order_68 rfl ?_
          replace h := ob h; obtain ⟨v22, ev22, h⟩ := h
          refine g_getR hC ev22 fk_X11_12 rfl dX11_order_69 ?_
          replace h := ob h; obtain ⟨a23, ea23, h⟩ := h
          subst ea23
          replace h := ob h; obtain ⟨v24, ev24, h⟩ := h
          refine g_getR hC ev24 fk_X11_182 rfl dX11_order_72 ?_
          refine g_aload_n hC 3 dX11_order_75 rfl ?_
          replace h := ob h; obtain ⟨v25, ev25, h⟩ := h
          refine g_getR hC ev25 fk_X11_12 rfl dX11_order_76 ?_
          replace h := ob h; obtain ⟨a26, ea26, h⟩ := h
          subst ea26
          replace h := ob h; obtain ⟨v27, ev27, h⟩ := h
          refine g_getI hC ev27 fk_X11_179 rfl dX11_order_79 ?_
          refine g_aload_n hC 3 dX11_order_82 rfl ?_
          replace h := ob h; obtain ⟨v28, ev28, h⟩ := h
          refine g_getR hC ev28 fk_X11_28 rfl dX11_order_83 ?_
          replace h := ob h; obtain ⟨a29, ea29, h⟩ := h
          subst ea29
          replace h := ob h; obtain ⟨_, eu31, h⟩ := h
          replace h := ob h; obtain ⟨⟨v32, M30⟩, eM30, h⟩ := h
          refine g_callr hC (r_V hC (As := []) (c_X3_handOver _ Γ a29 M18 M30 v32 eM30) yk_X3_handOver lk_X11_186 eu31 ⟨_, rfl, rfl⟩ rfl rfl (by simp only [List.map, cat_rf]; exact Nat.le_of_ble_eq_true rfl) hR ⟨(Nat.le_of_ble_eq_true rfl), (Nat.le_of_ble_eq_true rfl)⟩ ⟨(Nat.le_of_ble_eq_true rfl), (Nat.le_of_ble_eq_true rfl)⟩ dX11_order_86) ?_
          replace h := ob h; obtain ⟨a34, ea34, h⟩ := h
          subst ea34
          replace h := ob h; obtain ⟨a35, ea35, h⟩ := h
          subst ea35
          replace h := ob h; obtain ⟨M33, eM33, h⟩ := h
          refine g_aast hC eM33 (by decide) ⟨_, rfl, rfl⟩ dX11_order_89 ?_
          refine g_aload_n hC 3 dX11_order_90 rfl ?_
          replace h := ob h; obtain ⟨v36, ev36, h⟩ := h
          refine g_getR hC ev36 fk_X11_12 rfl dX11_order_91 ?_
          refine g_dup hC dX11_order_94 (cat_rf _) ?_
          replace h := ob h; obtain ⟨a37, ea37, h⟩ := h
          subst ea37
          replace h := ob h; obtain ⟨v38, ev38, h⟩ := h
          refine g_getI hC ev38 fk_X11_179 rfl dX11_order_95 ?_
          refine g_dup_x1 hC dX11_order_98 rfl rfl ?_
          refine g_iconst hC 1 dX11_order_99 (by decide) ?_
          refine g_iadd hC dX11_order_100 ?_
          replace h := ob h; obtain ⟨M39, eM39, h⟩ := h
          refine g_putI hC eM39 fk_X11_179 rfl dX11_order_101 ?_
          exact g_iret hC h ⟨(Nat.le_of_ble_eq_true rfl), (Nat.le_of_ble_eq_true rfl)⟩ dX11_order_104
        · replace h := it_f c21 h
          refine g_bipush hC (-100) dX11_order_62 (by decide) ?_
          refine g_iload hC 0 dX11_order_64 rfl ?_
          refine g_isub hC dX11_order_66 ?_
          exact g_iret hC h ⟨(Nat.le_of_ble_eq_true rfl), (Nat.le_of_ble_eq_true rfl)⟩ dX11_order_67
      · replace h := it_f c12 h
        refine g_iload_n hC 0 dX11_order_36 rfl ?_
        exact g_iret hC h ⟨(Nat.le_of_ble_eq_true rfl), (Nat.le_of_ble_eq_true rfl)⟩ dX11_order_37
    · replace h := it_f c8 h
      refine g_bipush hC (-2) dX11_order_24 (by decide) ?_
      exact g_iret hC h ⟨(Nat.le_of_ble_eq_true rfl), (Nat.le_of_ble_eq_true rfl)⟩ dX11_order_26
  · subst ca4
    replace h := oe_n h
    refine g_iconst hC (-1) dX11_order_10 (by decide) ?_
    exact g_iret hC h ⟨(Nat.le_of_ble_eq_true rfl), (Nat.le_of_ble_eq_true rfl)⟩ dX11_order_11

set_option maxHeartbeats 4000000 in
set_option maxRecDepth 100000 in
theorem c_X11_letter (l : Launch) (Γ : Gm) (this : Nat) (p1 : Int32) (p2 : Int32) (M M' : Mm) (r : Int32) (h : F_X11_letter this p1 p2 M = some (r, M')) : Met l yX11_letter (wz yX11_letter cX11_letter 3 (some .int)) ({ frames := 1, cells := 0, slots := 0, locals := 23 } : Room) (Pq Γ M [.ref this, .int p1, .int p2]) (Qi Γ r M') 0 0 (fr Γ) := by
  refine met_of (own := RX11) (by decide +kernel) rfl (Nat.le_of_ble_eq_true rfl) ?_
  intro X hC hR hnm hXl
  unfold F_X11_letter at h
  show G Γ X 3 M 0 0 _ 0 ([(0, .ref this), (1, .int p1), (2, .int p2)]) []
  refine g_aload_n hC 0 dX11_letter_0 rfl ?_
  replace h := ob h; obtain ⟨v1, ev1, h⟩ := h
  refine g_getR hC ev1 fk_X11_12 rfl dX11_letter_1 ?_
  refine g_iload_n hC 1 dX11_letter_4 rfl ?_
  replace h := ob h; obtain ⟨a2, ea2, h⟩ := h
  subst ea2
  replace h := ob h; obtain ⟨_, eu4, h⟩ := h
  replace h := ob h; obtain ⟨⟨v5, M3⟩, eM3, h⟩ := h
  refine g_callr hC (r_V hC (As := [.int p1]) (c_X10_gliderAt _ Γ a2 p1 M M3 v5 eM3) yk_X10_gliderAt lk_X11_123 eu4 ⟨_, rfl, rfl⟩ rfl rfl (Nat.le_of_ble_eq_true rfl) hR ⟨(Nat.le_of_ble_eq_true rfl), (Nat.le_of_ble_eq_true rfl)⟩ ⟨(Nat.le_of_ble_eq_true rfl), (Nat.le_of_ble_eq_true rfl)⟩ dX11_letter_5) ?_
  refine g_ifnull hC 26 dX11_letter_8 (by decide) (fun ca6 => ?_) (fun a6 ca6 => ?_)
  · subst ca6
    replace h := oe_n h
    refine g_iconst hC (-1) dX11_letter_26 (by decide) ?_
    exact g_iret hC h ⟨(Nat.le_of_ble_eq_true rfl), (Nat.le_of_ble_eq_true rfl)⟩ dX11_letter_27
  · subst ca6
    replace h := oe_s h
    refine g_iload_n hC 2 dX11_letter_11 rfl ?_
    refine g_if_lt hC 26 dX11_letter_12 (by decide) (fun c7 => ?_) (fun c7 => ?_)
    · replace h := it_t c7 h
      refine g_iconst hC (-1) dX11_letter_26 (by decide) ?_
      exact g_iret hC h ⟨(Nat.le_of_ble_eq_true rfl), (Nat.le_of_ble_eq_true rfl)⟩ dX11_letter_27
    · replace h := it_f c7 h
      refine g_iload_n hC 2 dX11_letter_15 rfl ?_
      refine g_aload_n hC 0 dX11_letter_16 rfl ?_
      replace h := ob h; obtain ⟨v8, ev8, h⟩ := h
      refine g_getR hC ev8 fk_X11_12 rfl dX11_letter_17 ?_
      replace h := ob h; obtain ⟨a9, ea9, h⟩ := h
      subst ea9
      replace h := ob h; obtain ⟨v10, ev10, h⟩ := h
      refine g_getI hC ev10 fk_X11_179 rfl dX11_letter_20 ?_
      refine g_icmp_lt hC 28 dX11_letter_23 (by decide) (fun c11 => ?_) (fun c11 => ?_)
      · replace h := it_t c11 h
        refine g_aload_n hC 0 dX11_letter_28 rfl ?_
        replace h := ob h; obtain ⟨v12, ev12, h⟩ := h
        refine g_getR hC ev12 fk_X11_12 rfl dX11_letter_29 ?_
        replace h := ob h; obtain ⟨a13, ea13, h⟩ := h
        subst ea13
        replace h := ob h; obtain ⟨v14, ev14, h⟩ := h
        refine g_getR hC ev14 fk_X11_190 rfl dX11_letter_32 ?_
        replace h := ob h; obtain ⟨a15, ea15, h⟩ := h
        subst ea15
        replace h := ob h; obtain ⟨v16, ev16, h⟩ := h
        refine g_getI hC ev16 fk_X11_194 rfl dX11_letter_35 ?_
        refine g_bipush hC 60 dX11_letter_38 (by decide) ?_
        refine g_icmp_lt hC 46 dX11_letter_40 (by decide) (fun c17 => ?_) (fun c17 => ?_)
        · replace h := it_t c17 h
          refine g_aload_n hC 0 dX11_letter_46 rfl ?_
          replace h := ob h; obtain ⟨v18, ev18, h⟩ := h
          refine g_getR hC ev18 fk_X11_12 rfl dX11_letter_47 ?_
          replace h := ob h; obtain ⟨a19, ea19, h⟩ := h
          subst ea19
          replace h := ob h; obtain ⟨v20, ev20, h⟩ := h
          refine g_getR hC ev20 fk_X11_190 rfl dX11_letter_50 ?_
          refine g_iload_n hC 1 dX11_letter_53 rfl ?_
          refine g_iload_n hC 2 dX11_letter_54 rfl ?_
          refine g_aload_n hC 0 dX11_letter_55 rfl ?_
          replace h := ob h; obtain ⟨v21, ev21, h⟩ := h
          refine g_getR hC ev21 fk_X11_12 rfl dX11_letter_56 ?_
          replace h := ob h; obtain ⟨a22, ea22, h⟩ := h
          subst ea22
          replace h := ob h; obtain ⟨v23, ev23, h⟩ := h
          refine g_getI hC ev23 fk_X11_199 rfl dX11_letter_59 ?_
          replace h := ob h; obtain ⟨a24, ea24, h⟩ := h
          subst ea24
          replace h := ob h; obtain ⟨_, eu26, h⟩ := h
          replace h := ob h; obtain ⟨⟨v27, M25⟩, eM25, h⟩ := h
          refine g_calli hC (r_V hC (As := [.int p1, .int p2, .int v23]) (c_X1_send _ Γ a24 p1 p2 v23 M3 M25 v27 eM25) yk_X1_send lk_X11_202 eu26 ⟨_, rfl, rfl⟩ rfl rfl (Nat.le_of_ble_eq_true rfl) hR ⟨(Nat.le_of_ble_eq_true rfl), (Nat.le_of_ble_eq_true rfl)⟩ ⟨(Nat.le_of_ble_eq_true rfl), (Nat.le_of_ble_eq_true rfl)⟩ dX11_letter_62) ?_
          exact g_iret hC h ⟨(Nat.le_of_ble_eq_true rfl), (Nat.le_of_ble_eq_true rfl)⟩ dX11_letter_65
        · replace h := it_f c17 h
          refine g_bipush hC (-2) dX11_letter_43 (by decide) ?_
          exact g_iret hC h ⟨(Nat.le_of_ble_eq_true rfl), (Nat.le_of_ble_eq_true rfl)⟩ dX11_letter_45
      · replace h := it_f c11 h
        refine g_iconst hC (-1) dX11_letter_26 (by decide) ?_
        exact g_iret hC h ⟨(Nat.le_of_ble_eq_true rfl), (Nat.le_of_ble_eq_true rfl)⟩ dX11_letter_27

set_option maxHeartbeats 4000000 in
set_option maxRecDepth 100000 in
theorem c_X11_waiting (l : Launch) (Γ : Gm) (this : Nat) (p1 : Int32) (M M' : Mm) (r : Int32) (h : F_X11_waiting this p1 M = some (r, M')) : Met l yX11_waiting (wz yX11_waiting cX11_waiting 2 (some .int)) ({ frames := 1, cells := 0, slots := 0, locals := 23 } : Room) (Pq Γ M [.ref this, .int p1]) (Qi Γ r M') 0 0 (fr Γ) := by
  refine met_of (own := RX11) (by decide +kernel) rfl (Nat.le_of_ble_eq_true rfl) ?_
  intro X hC hR hnm hXl
  unfold F_X11_waiting at h
  show G Γ X 2 M 0 0 _ 0 ([(0, .ref this), (1, .int p1)]) []
  refine g_aload_n hC 0 dX11_waiting_0 rfl ?_
  replace h := ob h; obtain ⟨v1, ev1, h⟩ := h
  refine g_getR hC ev1 fk_X11_12 rfl dX11_waiting_1 ?_
  refine g_iload_n hC 1 dX11_waiting_4 rfl ?_
  replace h := ob h; obtain ⟨a2, ea2, h⟩ := h
  subst ea2
  replace h := ob h; obtain ⟨_, eu4, h⟩ := h
  replace h := ob h; obtain ⟨⟨v5, M3⟩, eM3, h⟩ := h
  refine g_callr hC (r_V hC (As := [.int p1]) (c_X10_gliderAt _ Γ a2 p1 M M3 v5 eM3) yk_X10_gliderAt lk_X11_123 eu4 ⟨_, rfl, rfl⟩ rfl rfl (Nat.le_of_ble_eq_true rfl) hR ⟨(Nat.le_of_ble_eq_true rfl), (Nat.le_of_ble_eq_true rfl)⟩ ⟨(Nat.le_of_ble_eq_true rfl), (Nat.le_of_ble_eq_true rfl)⟩ dX11_waiting_5) ?_
  refine g_ifnonnull hC 13 dX11_waiting_8 (by decide) (fun a6 ca6 => ?_) (fun ca6 => ?_)
  · subst ca6
    replace h := oe_s h
    refine g_aload_n hC 0 dX11_waiting_13 rfl ?_
    replace h := ob h; obtain ⟨v7, ev7, h⟩ := h
    refine g_getR hC ev7 fk_X11_12 rfl dX11_waiting_14 ?_
    replace h := ob h; obtain ⟨a8, ea8, h⟩ := h
    subst ea8
    replace h := ob h; obtain ⟨v9, ev9, h⟩ := h
    refine g_getR hC ev9 fk_X11_190 rfl dX11_waiting_17 ?_
    refine g_iload_n hC 1 dX11_waiting_20 rfl ?_
    replace h := ob h; obtain ⟨a10, ea10, h⟩ := h
    subst ea10
    replace h := ob h; obtain ⟨_, eu12, h⟩ := h
    replace h := ob h; obtain ⟨⟨v13, M11⟩, eM11, h⟩ := h
    refine g_calli hC (r_V hC (As := [.int p1]) (c_X1_unheardBy _ Γ a10 p1 M3 M11 v13 eM11) yk_X1_unheardBy lk_X11_205 eu12 ⟨_, rfl, rfl⟩ rfl rfl (Nat.le_of_ble_eq_true rfl) hR ⟨(Nat.le_of_ble_eq_true rfl), (Nat.le_of_ble_eq_true rfl)⟩ ⟨(Nat.le_of_ble_eq_true rfl), (Nat.le_of_ble_eq_true rfl)⟩ dX11_waiting_21) ?_
    exact g_iret hC h ⟨(Nat.le_of_ble_eq_true rfl), (Nat.le_of_ble_eq_true rfl)⟩ dX11_waiting_24
  · subst ca6
    replace h := oe_n h
    refine g_iconst hC (-1) dX11_waiting_11 (by decide) ?_
    exact g_iret hC h ⟨(Nat.le_of_ble_eq_true rfl), (Nat.le_of_ble_eq_true rfl)⟩ dX11_waiting_12

set_option maxHeartbeats 4000000 in
set_option maxRecDepth 100000 in
theorem c_X11_deaf (l : Launch) (Γ : Gm) (this : Nat) (p1 : Int32) (p2 : Int32) (M M' : Mm) (r : Int32) (h : F_X11_deaf this p1 p2 M = some (r, M')) : Met l yX11_deaf (wz yX11_deaf cX11_deaf 3 (some .int)) ({ frames := 1, cells := 0, slots := 0, locals := 23 } : Room) (Pq Γ M [.ref this, .int p1, .int p2]) (Qi Γ r M') 0 0 (fr Γ) := by
  refine met_of (own := RX11) (by decide +kernel) rfl (Nat.le_of_ble_eq_true rfl) ?_
  intro X hC hR hnm hXl
  unfold F_X11_deaf at h
  show G Γ X 3 M 0 0 _ 0 ([(0, .ref this), (1, .int p1), (2, .int p2)]) []
  refine g_iload_n hC 1 dX11_deaf_0 rfl ?_
  refine g_if_lt hC 11 dX11_deaf_1 (by decide) (fun c1 => ?_) (fun c1 => ?_)
  · replace h := it_t c1 h
    refine g_iconst hC (-1) dX11_deaf_11 (by decide) ?_
    exact g_iret hC h ⟨(Nat.le_of_ble_eq_true rfl), (Nat.le_of_ble_eq_true rfl)⟩ dX11_deaf_12
  · replace h := it_f c1 h
    refine g_iload_n hC 1 dX11_deaf_4 rfl ?_
    refine g_sipush hC 400 dX11_deaf_5 (by decide) ?_
    refine g_icmp_le hC 13 dX11_deaf_8 (by decide) (fun c2 => ?_) (fun c2 => ?_)
    · replace h := it_t c2 h
      refine g_aload_n hC 0 dX11_deaf_13 rfl ?_
      replace h := ob h; obtain ⟨v3, ev3, h⟩ := h
      refine g_getR hC ev3 fk_X11_12 rfl dX11_deaf_14 ?_
      replace h := ob h; obtain ⟨a4, ea4, h⟩ := h
      subst ea4
      replace h := ob h; obtain ⟨v5, ev5, h⟩ := h
      refine g_getR hC ev5 fk_X11_208 rfl dX11_deaf_17 ?_
      refine g_iload_n hC 1 dX11_deaf_20 rfl ?_
      refine g_iload_n hC 2 dX11_deaf_21 rfl ?_
      replace h := nv_e h; obtain ⟨v6, ev6, h⟩ := h
      have J7 : G Γ X 3 M 0 0 (Fin Γ X (Qi Γ r M') 0 0) 30 ([(0, .ref this), (1, .int p1), (2, .int p2)]) ([.int v6, .int p1, va_rf v5]) := by
        replace h := ob h; obtain ⟨a8, ea8, h⟩ := h
        subst ea8
        replace h := ob h; obtain ⟨⟨v10, M9⟩, eM9, h⟩ := h
        refine g_calli hC (r_S hC (As := [.ref a8, .int p1, .int v6]) (c_X11_changeAt _ Γ a8 p1 v6 M M9 v10 eM9) yk_X11_changeAt lk_X11_98 rfl rfl (Nat.le_of_ble_eq_true rfl) hR ⟨(Nat.le_of_ble_eq_true rfl), (Nat.le_of_ble_eq_true rfl)⟩ ⟨(Nat.le_of_ble_eq_true rfl), (Nat.le_of_ble_eq_true rfl)⟩ dX11_deaf_30) ?_
        exact g_iret hC h ⟨(Nat.le_of_ble_eq_true rfl), (Nat.le_of_ble_eq_true rfl)⟩ dX11_deaf_33
      refine g_if_eq hC 29 dX11_deaf_22 (by decide) (fun c11 => ?_) (fun c11 => ?_)
      · refine g_iconst hC 0 dX11_deaf_29 (by decide) ?_
        rw [show v6 = _ from ev6.trans (if_pos c11)] at J7
        exact J7
      · refine g_iconst hC 1 dX11_deaf_25 (by decide) ?_
        refine g_goto hC 30 dX11_deaf_26 (by decide) ?_
        rw [show v6 = _ from ev6.trans (if_neg c11)] at J7
        exact J7
    · replace h := it_f c2 h
      refine g_iconst hC (-1) dX11_deaf_11 (by decide) ?_
      exact g_iret hC h ⟨(Nat.le_of_ble_eq_true rfl), (Nat.le_of_ble_eq_true rfl)⟩ dX11_deaf_12

set_option maxHeartbeats 4000000 in
set_option maxRecDepth 100000 in
theorem c_X11_rule (l : Launch) (Γ : Gm) (this : Nat) (p1 : Int32) (M M' : Mm) (r : Int32) (h : F_X11_rule this p1 M = some (r, M')) : Met l yX11_rule (wz yX11_rule cX11_rule 4 (some .int)) ({ frames := 3, cells := 0, slots := 0, locals := 67 } : Room) (Pq Γ M [.ref this, .int p1]) (Qi Γ r M') 0 0 (fr Γ) := by
  refine met_of (own := RX11) (by decide +kernel) rfl (Nat.le_of_ble_eq_true rfl) ?_
  intro X hC hR hnm hXl
  unfold F_X11_rule at h
  show G Γ X 4 M 0 0 _ 0 ([(0, .ref this), (1, .int p1)]) []
  refine g_aload_n hC 0 dX11_rule_0 rfl ?_
  replace h := ob h; obtain ⟨v1, ev1, h⟩ := h
  refine g_getR hC ev1 fk_X11_12 rfl dX11_rule_1 ?_
  refine g_iload_n hC 1 dX11_rule_4 rfl ?_
  replace h := ob h; obtain ⟨a2, ea2, h⟩ := h
  subst ea2
  replace h := ob h; obtain ⟨_, eu4, h⟩ := h
  replace h := ob h; obtain ⟨⟨v5, M3⟩, eM3, h⟩ := h
  refine g_callr hC (r_V hC (As := [.int p1]) (c_X10_gliderAt _ Γ a2 p1 M M3 v5 eM3) yk_X10_gliderAt lk_X11_123 eu4 ⟨_, rfl, rfl⟩ rfl rfl (Nat.le_of_ble_eq_true rfl) hR ⟨(Nat.le_of_ble_eq_true rfl), (Nat.le_of_ble_eq_true rfl)⟩ ⟨(Nat.le_of_ble_eq_true rfl), (Nat.le_of_ble_eq_true rfl)⟩ dX11_rule_5) ?_
  refine g_astore_nq hC (x := v5) ([(2, va_rf v5), (0, .ref this), (1, .int p1)]) dX11_rule_8 (by decide) rfl ?_
  refine g_aload_nq hC 0 (x := v5) dX11_rule_9 rfl ?_
  refine g_ifnonnull hC 15 dX11_rule_10 (by decide) (fun a6 ca6 => ?_) (fun ca6 => ?_)
  · subst ca6
    replace h := oe_s h
    refine g_aload_n hC 1 dX11_rule_15 rfl ?_
    replace h := ob h; obtain ⟨v7, ev7, h⟩ := h
    refine g_getR hC ev7 fk_X11_12 rfl dX11_rule_16 ?_
    refine g_aload_n hC 0 dX11_rule_19 rfl ?_
    replace h := ob h; obtain ⟨a8, ea8, h⟩ := h
    subst ea8
    replace h := ob h; obtain ⟨_, eu10, h⟩ := h
    replace h := ob h; obtain ⟨⟨v11, M9⟩, eM9, h⟩ := h
    refine g_callr hC (r_V hC (As := [.ref a6]) (c_X10_orderOf _ Γ a8 a6 M3 M9 v11 eM9) yk_X10_orderOf lk_X11_211 eu10 ⟨_, rfl, rfl⟩ rfl rfl (Nat.le_of_ble_eq_true rfl) hR ⟨(Nat.le_of_ble_eq_true rfl), (Nat.le_of_ble_eq_true rfl)⟩ ⟨(Nat.le_of_ble_eq_true rfl), (Nat.le_of_ble_eq_true rfl)⟩ dX11_rule_20) ?_
    refine g_astore_nq hC (x := v11) ([(3, va_rf v11), (2, .ref a6), (0, .ref this), (1, .int p1)]) dX11_rule_23 (by decide) rfl ?_
    refine g_aload_n hC 1 dX11_rule_24 rfl ?_
    replace h := ob h; obtain ⟨v12, ev12, h⟩ := h
    refine g_getI hC ev12 fk_X11_152 rfl dX11_rule_25 ?_
    refine g_if_ne hC 35 dX11_rule_28 (by decide) (fun c13 => ?_) (fun c13 => ?_)
    · replace h := it_f c13 h
      refine g_bipush hC (-3) dX11_rule_35 (by decide) ?_
      exact g_iret hC h ⟨(Nat.le_of_ble_eq_true rfl), (Nat.le_of_ble_eq_true rfl)⟩ dX11_rule_37
    · replace h := it_t c13 h
      refine g_aload_nq hC 0 (x := v11) dX11_rule_31 rfl ?_
      refine g_ifnonnull hC 38 dX11_rule_32 (by decide) (fun a14 ca14 => ?_) (fun ca14 => ?_)
      · subst ca14
        replace h := oe_s h
        refine g_aload_n hC 2 dX11_rule_38 rfl ?_
        replace h := ob h; obtain ⟨v15, ev15, h⟩ := h
        refine g_getR hC ev15 fk_X11_12 rfl dX11_rule_39 ?_
        refine g_aload_n hC 1 dX11_rule_42 rfl ?_
        refine g_aload_n hC 0 dX11_rule_43 rfl ?_
        replace h := ob h; obtain ⟨a16, ea16, h⟩ := h
        subst ea16
        replace h := ob h; obtain ⟨_, eu18, h⟩ := h
        replace h := ob h; obtain ⟨⟨v19, M17⟩, eM17, h⟩ := h
        refine g_calli hC (r_V hC (As := [.ref a6, .ref a14]) (c_X10_ruleFor _ Γ a16 a6 a14 M9 M17 v19 eM17) yk_X10_ruleFor lk_X11_215 eu18 ⟨_, rfl, rfl⟩ rfl rfl (Nat.le_of_ble_eq_true rfl) hR ⟨(Nat.le_of_ble_eq_true rfl), (Nat.le_of_ble_eq_true rfl)⟩ ⟨(Nat.le_of_ble_eq_true rfl), (Nat.le_of_ble_eq_true rfl)⟩ dX11_rule_44) ?_
        exact g_iret hC h ⟨(Nat.le_of_ble_eq_true rfl), (Nat.le_of_ble_eq_true rfl)⟩ dX11_rule_47
      · subst ca14
        replace h := oe_n h
        refine g_bipush hC (-3) dX11_rule_35 (by decide) ?_
        exact g_iret hC h ⟨(Nat.le_of_ble_eq_true rfl), (Nat.le_of_ble_eq_true rfl)⟩ dX11_rule_37
  · subst ca6
    replace h := oe_n h
    refine g_iconst hC (-1) dX11_rule_13 (by decide) ?_
    exact g_iret hC h ⟨(Nat.le_of_ble_eq_true rfl), (Nat.le_of_ble_eq_true rfl)⟩ dX11_rule_14

set_option maxHeartbeats 4000000 in
set_option maxRecDepth 100000 in
theorem l_X11_times_L35 {Γ : Gm} {X : Ct} (hC : Cx Γ X cX11_times RX11 (some .int) 4) (hR : X.2.2.2.1 = ({ frames := 7, cells := 0, slots := 0, locals := 173 } : Room)) (r : Int32) (M' : Mm)  (x0 : Nat) (x1 : Int32) : ∀ (fu : Nat) (x2 : Int32) (x3 : Int32) (M0 : Mm), F_X11_times_L35 x0 x1 fu x2 x3 M0 = some (r, M') → G Γ X 4 M0 0 0 (Fin Γ X (Qi Γ r M') 0 0) 35 ([(0, .ref x0), (1, .int x1), (2, .int x2), (3, .int x3)]) [] := by
  intro fu
  induction fu with
  | zero =>
    intro x2 x3 M0 h
    rw [F_X11_times_L35] at h
    cases h
  | succ n7 ih =>
    intro x2 x3 M0 h
    rw [F_X11_times_L35] at h
    refine g_iload_n hC 3 dX11_times_35 rfl ?_
    refine g_iload_n hC 1 dX11_times_36 rfl ?_
    refine g_icmp_ge hC 86 dX11_times_37 (by decide) (fun c8 => ?_) (fun c8 => ?_)
    · replace h := it_t c8 h
      refine g_iload_n hC 2 dX11_times_86 rfl ?_
      exact g_iret hC h ⟨(Nat.le_of_ble_eq_true rfl), (Nat.le_of_ble_eq_true rfl)⟩ dX11_times_87
    · replace h := it_f c8 h
      refine g_aload_n hC 0 dX11_times_40 rfl ?_
      replace h := ob h; obtain ⟨v9, ev9, h⟩ := h
      refine g_getR hC ev9 fk_X11_12 rfl dX11_times_41 ?_
      replace h := ob h; obtain ⟨a10, ea10, h⟩ := h
      subst ea10
      replace h := ob h; obtain ⟨_, eu12, h⟩ := h
      replace h := ob h; obtain ⟨M11, eM11, h⟩ := h
      refine g_callv hC (r_V hC (As := []) (c_X10_hearAll _ Γ a10 M0 M11 eM11) yk_X10_hearAll lk_X11_219 eu12 ⟨_, rfl, rfl⟩ rfl rfl (Nat.le_of_ble_eq_true rfl) hR ⟨(Nat.le_of_ble_eq_true rfl), (Nat.le_of_ble_eq_true rfl)⟩ ⟨(Nat.le_of_ble_eq_true rfl), (Nat.le_of_ble_eq_true rfl)⟩ dX11_times_44) ?_
      refine g_iload_n hC 2 dX11_times_47 rfl ?_
      refine g_aload_n hC 0 dX11_times_48 rfl ?_
      replace h := ob h; obtain ⟨v13, ev13, h⟩ := h
      refine g_getR hC ev13 fk_X11_12 rfl dX11_times_49 ?_
      replace h := ob h; obtain ⟨a14, ea14, h⟩ := h
      subst ea14
      replace h := ob h; obtain ⟨_, eu16, h⟩ := h
      replace h := ob h; obtain ⟨⟨v17, M15⟩, eM15, h⟩ := h
      refine g_calli hC (r_V hC (As := []) (c_X10_obeyAll _ Γ a14 M11 M15 v17 eM15) yk_X10_obeyAll lk_X11_222 eu16 ⟨_, rfl, rfl⟩ rfl rfl (Nat.le_of_ble_eq_true rfl) hR ⟨(Nat.le_of_ble_eq_true rfl), (Nat.le_of_ble_eq_true rfl)⟩ ⟨(Nat.le_of_ble_eq_true rfl), (Nat.le_of_ble_eq_true rfl)⟩ dX11_times_52) ?_
      refine g_iadd hC dX11_times_55 ?_
      refine g_istore_n hC ([(2, .int (x2 + v17)), (0, .ref x0), (1, .int x1), (3, .int x3)]) dX11_times_56 (by decide) rfl ?_
      refine g_aload_n hC 1 dX11_times_57 rfl ?_
      replace h := ob h; obtain ⟨v18, ev18, h⟩ := h
      refine g_getR hC ev18 fk_X11_12 rfl dX11_times_58 ?_
      replace h := ob h; obtain ⟨a19, ea19, h⟩ := h
      subst ea19
      replace h := ob h; obtain ⟨v20, ev20, h⟩ := h
      refine g_getR hC ev20 fk_X11_52 rfl dX11_times_61 ?_
      replace h := ob h; obtain ⟨a21, ea21, h⟩ := h
      subst ea21
      replace h := ob h; obtain ⟨_, eu23, h⟩ := h
      replace h := ob h; obtain ⟨M22, eM22, h⟩ := h
      refine g_callv hC (r_V hC (As := []) (c_X7_growDoubt _ Γ a21 M15 M22 eM22) yk_X7_growDoubt lk_X11_225 eu23 ⟨_, rfl, rfl⟩ rfl rfl (Nat.le_of_ble_eq_true rfl) hR ⟨(Nat.le_of_ble_eq_true rfl), (Nat.le_of_ble_eq_true rfl)⟩ ⟨(Nat.le_of_ble_eq_true rfl), (Nat.le_of_ble_eq_true rfl)⟩ dX11_times_64) ?_
      refine g_aload_n hC 1 dX11_times_67 rfl ?_
      replace h := ob h; obtain ⟨v24, ev24, h⟩ := h
      refine g_getR hC ev24 fk_X11_12 rfl dX11_times_68 ?_
      refine g_dup hC dX11_times_71 (cat_rf _) ?_
      replace h := ob h; obtain ⟨a25, ea25, h⟩ := h
      subst ea25
      replace h := ob h; obtain ⟨v26, ev26, h⟩ := h
      refine g_getI hC ev26 fk_X11_199 rfl dX11_times_72 ?_
      refine g_iconst hC 1 dX11_times_75 (by decide) ?_
      refine g_iadd hC dX11_times_76 ?_
      replace h := ob h; obtain ⟨M27, eM27, h⟩ := h
      refine g_putI hC eM27 fk_X11_199 rfl dX11_times_77 ?_
      refine g_iinc hC 3 (x3 + 1) ([(3, .int (x3 + 1)), (2, .int (x2 + v17)), (0, .ref x0), (1, .int x1)]) dX11_times_80 rfl rfl (by decide) rfl ?_
      refine g_goto hC 35 dX11_times_83 (by decide) ?_
      refine g_sub [2, 3, 1, 0] rfl ?_
      exact ih (x2 + v17) (x3 + 1) M27 h
set_option maxHeartbeats 4000000 in
set_option maxRecDepth 100000 in
theorem c_X11_times (l : Launch) (Γ : Gm) (this : Nat) (p1 : Int32) (M M' : Mm) (r : Int32) (h : F_X11_times this p1 M = some (r, M')) : Met l yX11_times (wz yX11_times cX11_times 4 (some .int)) ({ frames := 7, cells := 0, slots := 0, locals := 173 } : Room) (Pq Γ M [.ref this, .int p1]) (Qi Γ r M') 0 0 (fr Γ) := by
  refine met_of (own := RX11) (by decide +kernel) rfl (Nat.le_of_ble_eq_true rfl) ?_
  intro X hC hR hnm hXl
  unfold F_X11_times at h
  show G Γ X 4 M 0 0 _ 0 ([(0, .ref this), (1, .int p1)]) []
  refine g_iload_n hC 1 dX11_times_0 rfl ?_
  refine g_iconst hC 1 dX11_times_1 (by decide) ?_
  refine g_icmp_lt hC 11 dX11_times_2 (by decide) (fun c1 => ?_) (fun c1 => ?_)
  · replace h := it_t c1 h
    refine g_iconst hC (-1) dX11_times_11 (by decide) ?_
    exact g_iret hC h ⟨(Nat.le_of_ble_eq_true rfl), (Nat.le_of_ble_eq_true rfl)⟩ dX11_times_12
  · replace h := it_f c1 h
    refine g_iload_n hC 1 dX11_times_5 rfl ?_
    refine g_bipush hC 40 dX11_times_6 (by decide) ?_
    refine g_icmp_le hC 13 dX11_times_8 (by decide) (fun c2 => ?_) (fun c2 => ?_)
    · replace h := it_t c2 h
      refine g_aload_n hC 0 dX11_times_13 rfl ?_
      replace h := ob h; obtain ⟨v3, ev3, h⟩ := h
      refine g_getR hC ev3 fk_X11_12 rfl dX11_times_14 ?_
      replace h := ob h; obtain ⟨a4, ea4, h⟩ := h
      subst ea4
      replace h := ob h; obtain ⟨v5, ev5, h⟩ := h
      refine g_getI hC ev5 fk_X11_199 rfl dX11_times_17 ?_
      refine g_iload_n hC 1 dX11_times_20 rfl ?_
      refine g_iadd hC dX11_times_21 ?_
      refine g_sipush hC 400 dX11_times_22 (by decide) ?_
      refine g_icmp_le hC 31 dX11_times_25 (by decide) (fun c6 => ?_) (fun c6 => ?_)
      · replace h := it_t c6 h
        refine g_iconst hC 0 dX11_times_31 (by decide) ?_
        refine g_istore_n hC ([(2, .int 0), (0, .ref this), (1, .int p1)]) dX11_times_32 (by decide) rfl ?_
        refine g_iconst hC 0 dX11_times_33 (by decide) ?_
        refine g_istore_n hC ([(3, .int 0), (2, .int 0), (0, .ref this), (1, .int p1)]) dX11_times_34 (by decide) rfl ?_
        refine g_sub [2, 3, 1, 0] rfl ?_
        refine l_X11_times_L35 hC hR r M'  _ _  _ _ _ _ h
      · replace h := it_f c6 h
        refine g_bipush hC (-2) dX11_times_28 (by decide) ?_
        exact g_iret hC h ⟨(Nat.le_of_ble_eq_true rfl), (Nat.le_of_ble_eq_true rfl)⟩ dX11_times_30
    · replace h := it_f c2 h
      refine g_iconst hC (-1) dX11_times_11 (by decide) ?_
      exact g_iret hC h ⟨(Nat.le_of_ble_eq_true rfl), (Nat.le_of_ble_eq_true rfl)⟩ dX11_times_12

set_option maxHeartbeats 4000000 in
set_option maxRecDepth 100000 in
theorem c_X11_known (l : Launch) (Γ : Gm) (this : Nat) (p1 : Int32) (p2 : Int32) (M M' : Mm) (r : Int32) (h : F_X11_known this p1 p2 M = some (r, M')) : Met l yX11_known (wz yX11_known cX11_known 4 (some .int)) ({ frames := 2, cells := 0, slots := 0, locals := 43 } : Room) (Pq Γ M [.ref this, .int p1, .int p2]) (Qi Γ r M') 0 0 (fr Γ) := by
  refine met_of (own := RX11) (by decide +kernel) rfl (Nat.le_of_ble_eq_true rfl) ?_
  intro X hC hR hnm hXl
  unfold F_X11_known at h
  show G Γ X 4 M 0 0 _ 0 ([(0, .ref this), (1, .int p1), (2, .int p2)]) []
  refine g_aload_n hC 0 dX11_known_0 rfl ?_
  replace h := ob h; obtain ⟨v1, ev1, h⟩ := h
  refine g_getR hC ev1 fk_X11_12 rfl dX11_known_1 ?_
  refine g_iload_n hC 1 dX11_known_4 rfl ?_
  replace h := ob h; obtain ⟨a2, ea2, h⟩ := h
  subst ea2
  replace h := ob h; obtain ⟨_, eu4, h⟩ := h
  replace h := ob h; obtain ⟨⟨v5, M3⟩, eM3, h⟩ := h
  refine g_callr hC (r_V hC (As := [.int p1]) (c_X10_gliderAt _ Γ a2 p1 M M3 v5 eM3) yk_X10_gliderAt lk_X11_123 eu4 ⟨_, rfl, rfl⟩ rfl rfl (Nat.le_of_ble_eq_true rfl) hR ⟨(Nat.le_of_ble_eq_true rfl), (Nat.le_of_ble_eq_true rfl)⟩ ⟨(Nat.le_of_ble_eq_true rfl), (Nat.le_of_ble_eq_true rfl)⟩ dX11_known_5) ?_
  refine g_astore_nq hC (x := v5) ([(3, va_rf v5), (0, .ref this), (1, .int p1), (2, .int p2)]) dX11_known_8 (by decide) rfl ?_
  refine g_aload_nq hC 0 (x := v5) dX11_known_9 rfl ?_
  refine g_ifnull hC 24 dX11_known_10 (by decide) (fun ca6 => ?_) (fun a6 ca6 => ?_)
  · subst ca6
    replace h := oe_n h
    refine g_iconst hC (-1) dX11_known_24 (by decide) ?_
    exact g_iret hC h ⟨(Nat.le_of_ble_eq_true rfl), (Nat.le_of_ble_eq_true rfl)⟩ dX11_known_25
  · subst ca6
    replace h := oe_s h
    refine g_iload_n hC 3 dX11_known_13 rfl ?_
    refine g_if_lt hC 24 dX11_known_14 (by decide) (fun c7 => ?_) (fun c7 => ?_)
    · replace h := it_t c7 h
      refine g_iconst hC (-1) dX11_known_24 (by decide) ?_
      exact g_iret hC h ⟨(Nat.le_of_ble_eq_true rfl), (Nat.le_of_ble_eq_true rfl)⟩ dX11_known_25
    · replace h := it_f c7 h
      refine g_iload_n hC 3 dX11_known_17 rfl ?_
      refine g_sipush hC 400 dX11_known_18 (by decide) ?_
      refine g_icmp_le hC 26 dX11_known_21 (by decide) (fun c8 => ?_) (fun c8 => ?_)
      · replace h := it_t c8 h
        refine g_aload_n hC 0 dX11_known_26 rfl ?_
        refine g_iload_n hC 3 dX11_known_27 rfl ?_
        replace h := ob h; obtain ⟨_, eu10, h⟩ := h
        replace h := ob h; obtain ⟨⟨v11, M9⟩, eM9, h⟩ := h
        refine g_calli hC (r_V hC (As := [.int p2]) (c_X0_fixBy _ Γ a6 p2 M3 M9 v11 eM9) yk_X0_fixBy lk_X11_228 eu10 ⟨_, rfl, rfl⟩ rfl rfl (Nat.le_of_ble_eq_true rfl) hR ⟨(Nat.le_of_ble_eq_true rfl), (Nat.le_of_ble_eq_true rfl)⟩ ⟨(Nat.le_of_ble_eq_true rfl), (Nat.le_of_ble_eq_true rfl)⟩ dX11_known_28) ?_
        exact g_iret hC h ⟨(Nat.le_of_ble_eq_true rfl), (Nat.le_of_ble_eq_true rfl)⟩ dX11_known_31
      · replace h := it_f c8 h
        refine g_iconst hC (-1) dX11_known_24 (by decide) ?_
        exact g_iret hC h ⟨(Nat.le_of_ble_eq_true rfl), (Nat.le_of_ble_eq_true rfl)⟩ dX11_known_25

set_option maxHeartbeats 4000000 in
set_option maxRecDepth 100000 in
theorem c_X11_clean (l : Launch) (Γ : Gm) (this : Nat) (p1 : Int32) (p2 : Int32) (M M' : Mm) (r : Int32) (h : F_X11_clean this p1 p2 M = some (r, M')) : Met l yX11_clean (wz yX11_clean cX11_clean 5 (some .int)) ({ frames := 1, cells := 0, slots := 0, locals := 23 } : Room) (Pq Γ M [.ref this, .int p1, .int p2]) (Qi Γ r M') 0 0 (fr Γ) := by
  refine met_of (own := RX11) (by decide +kernel) rfl (Nat.le_of_ble_eq_true rfl) ?_
  intro X hC hR hnm hXl
  unfold F_X11_clean at h
  show G Γ X 5 M 0 0 _ 0 ([(0, .ref this), (1, .int p1), (2, .int p2)]) []
  refine g_aload_n hC 0 dX11_clean_0 rfl ?_
  replace h := ob h; obtain ⟨v1, ev1, h⟩ := h
  refine g_getR hC ev1 fk_X11_12 rfl dX11_clean_1 ?_
  refine g_iload_n hC 1 dX11_clean_4 rfl ?_
  replace h := ob h; obtain ⟨a2, ea2, h⟩ := h
  subst ea2
  replace h := ob h; obtain ⟨_, eu4, h⟩ := h
  replace h := ob h; obtain ⟨⟨v5, M3⟩, eM3, h⟩ := h
  refine g_callr hC (r_V hC (As := [.int p1]) (c_X10_gliderAt _ Γ a2 p1 M M3 v5 eM3) yk_X10_gliderAt lk_X11_123 eu4 ⟨_, rfl, rfl⟩ rfl rfl (Nat.le_of_ble_eq_true rfl) hR ⟨(Nat.le_of_ble_eq_true rfl), (Nat.le_of_ble_eq_true rfl)⟩ ⟨(Nat.le_of_ble_eq_true rfl), (Nat.le_of_ble_eq_true rfl)⟩ dX11_clean_5) ?_
  refine g_astore_nq hC (x := v5) ([(3, va_rf v5), (0, .ref this), (1, .int p1), (2, .int p2)]) dX11_clean_8 (by decide) rfl ?_
  refine g_aload_nq hC 0 (x := v5) dX11_clean_9 rfl ?_
  refine g_ifnull hC 27 dX11_clean_10 (by decide) (fun ca6 => ?_) (fun a6 ca6 => ?_)
  · subst ca6
    replace h := oe_n h
    refine g_iconst hC (-1) dX11_clean_27 (by decide) ?_
    exact g_iret hC h ⟨(Nat.le_of_ble_eq_true rfl), (Nat.le_of_ble_eq_true rfl)⟩ dX11_clean_28
  · subst ca6
    replace h := oe_s h
    refine g_iload_n hC 3 dX11_clean_13 rfl ?_
    refine g_sipush hC (-2000) dX11_clean_14 (by decide) ?_
    refine g_icmp_lt hC 27 dX11_clean_17 (by decide) (fun c7 => ?_) (fun c7 => ?_)
    · replace h := it_t c7 h
      refine g_iconst hC (-1) dX11_clean_27 (by decide) ?_
      exact g_iret hC h ⟨(Nat.le_of_ble_eq_true rfl), (Nat.le_of_ble_eq_true rfl)⟩ dX11_clean_28
    · replace h := it_f c7 h
      refine g_iload_n hC 3 dX11_clean_20 rfl ?_
      refine g_sipush hC 2000 dX11_clean_21 (by decide) ?_
      refine g_icmp_le hC 29 dX11_clean_24 (by decide) (fun c8 => ?_) (fun c8 => ?_)
      · replace h := it_t c8 h
        refine g_aload_n hC 1 dX11_clean_29 rfl ?_
        replace h := ob h; obtain ⟨v9, ev9, h⟩ := h
        refine g_getR hC ev9 fk_X11_12 rfl dX11_clean_30 ?_
        replace h := ob h; obtain ⟨a10, ea10, h⟩ := h
        subst ea10
        replace h := ob h; obtain ⟨v11, ev11, h⟩ := h
        refine g_getR hC ev11 fk_X11_231 rfl dX11_clean_33 ?_
        replace h := ob h; obtain ⟨a12, ea12, h⟩ := h
        subst ea12
        replace h := ob h; obtain ⟨v13, ev13, h⟩ := h
        refine g_getI hC ev13 fk_X11_235 rfl dX11_clean_36 ?_
        refine g_bipush hC 60 dX11_clean_39 (by decide) ?_
        refine g_icmp_lt hC 47 dX11_clean_41 (by decide) (fun c14 => ?_) (fun c14 => ?_)
        · replace h := it_t c14 h
          refine g_aload_n hC 1 dX11_clean_47 rfl ?_
          replace h := ob h; obtain ⟨v15, ev15, h⟩ := h
          refine g_getR hC ev15 fk_X11_12 rfl dX11_clean_48 ?_
          replace h := ob h; obtain ⟨a16, ea16, h⟩ := h
          subst ea16
          replace h := ob h; obtain ⟨v17, ev17, h⟩ := h
          refine g_getR hC ev17 fk_X11_231 rfl dX11_clean_51 ?_
          refine g_iload_n hC 2 dX11_clean_54 rfl ?_
          refine g_iload_n hC 3 dX11_clean_55 rfl ?_
          refine g_aload_n hC 0 dX11_clean_56 rfl ?_
          replace h := ob h; obtain ⟨v18, ev18, h⟩ := h
          refine g_getI hC ev18 fk_X11_240 rfl dX11_clean_57 ?_
          replace h := ob h; obtain ⟨a19, ea19, h⟩ := h
          subst ea19
          replace h := ob h; obtain ⟨_, eu21, h⟩ := h
          replace h := ob h; obtain ⟨⟨v22, M20⟩, eM20, h⟩ := h
          refine g_calli hC (r_V hC (As := [.int p1, .int p2, .int v18]) (c_X6_addCleaning _ Γ a19 p1 p2 v18 M3 M20 v22 eM20) yk_X6_addCleaning lk_X11_243 eu21 ⟨_, rfl, rfl⟩ rfl rfl (Nat.le_of_ble_eq_true rfl) hR ⟨(Nat.le_of_ble_eq_true rfl), (Nat.le_of_ble_eq_true rfl)⟩ ⟨(Nat.le_of_ble_eq_true rfl), (Nat.le_of_ble_eq_true rfl)⟩ dX11_clean_60) ?_
          refine g_istore hC ([(4, .int v22), (3, .ref a6), (0, .ref this), (1, .int p1), (2, .int p2)]) dX11_clean_63 (by decide) rfl ?_
          refine g_aload_n hC 1 dX11_clean_65 rfl ?_
          refine g_iconst hC 0 dX11_clean_66 (by decide) ?_
          replace h := ob h; obtain ⟨M23, eM23, h⟩ := h
          refine g_putI hC eM23 fk_X11_240 rfl dX11_clean_67 ?_
          refine g_iload hC 0 dX11_clean_70 rfl ?_
          exact g_iret hC h ⟨(Nat.le_of_ble_eq_true rfl), (Nat.le_of_ble_eq_true rfl)⟩ dX11_clean_72
        · replace h := it_f c14 h
          refine g_bipush hC (-2) dX11_clean_44 (by decide) ?_
          exact g_iret hC h ⟨(Nat.le_of_ble_eq_true rfl), (Nat.le_of_ble_eq_true rfl)⟩ dX11_clean_46
      · replace h := it_f c8 h
        refine g_iconst hC (-1) dX11_clean_27 (by decide) ?_
        exact g_iret hC h ⟨(Nat.le_of_ble_eq_true rfl), (Nat.le_of_ble_eq_true rfl)⟩ dX11_clean_28

set_option maxHeartbeats 4000000 in
set_option maxRecDepth 100000 in
theorem c_X11_reading (l : Launch) (Γ : Gm) (this : Nat) (p1 : Int32) (p2 : Int32) (M M' : Mm) (r : Int32) (h : F_X11_reading this p1 p2 M = some (r, M')) : Met l yX11_reading (wz yX11_reading cX11_reading 4 (some .int)) ({ frames := 0, cells := 0, slots := 0, locals := 0 } : Room) (Pq Γ M [.ref this, .int p1, .int p2]) (Qi Γ r M') 0 0 (fr Γ) := by
  refine met_of (own := RX11) (by decide +kernel) rfl (Nat.le_of_ble_eq_true rfl) ?_
  intro X hC hR hnm hXl
  unfold F_X11_reading at h
  show G Γ X 4 M 0 0 _ 0 ([(0, .ref this), (1, .int p1), (2, .int p2)]) []
  refine g_aload_n hC 0 dX11_reading_0 rfl ?_
  replace h := ob h; obtain ⟨v1, ev1, h⟩ := h
  refine g_getR hC ev1 fk_X11_12 rfl dX11_reading_1 ?_
  replace h := ob h; obtain ⟨a2, ea2, h⟩ := h
  subst ea2
  replace h := ob h; obtain ⟨v3, ev3, h⟩ := h
  refine g_getR hC ev3 fk_X11_231 rfl dX11_reading_4 ?_
  refine g_astore_nq hC (x := v3) ([(3, va_rf v3), (0, .ref this), (1, .int p1), (2, .int p2)]) dX11_reading_7 (by decide) rfl ?_
  refine g_iload_n hC 2 dX11_reading_8 rfl ?_
  refine g_if_lt hC 20 dX11_reading_9 (by decide) (fun c4 => ?_) (fun c4 => ?_)
  · replace h := it_t c4 h
    refine g_iconst hC (-1) dX11_reading_20 (by decide) ?_
    exact g_iret hC h ⟨(Nat.le_of_ble_eq_true rfl), (Nat.le_of_ble_eq_true rfl)⟩ dX11_reading_21
  · replace h := it_f c4 h
    refine g_iload_n hC 2 dX11_reading_12 rfl ?_
    refine g_aload_nq hC 0 (x := v3) dX11_reading_13 rfl ?_
    replace h := ob h; obtain ⟨a5, ea5, h⟩ := h
    subst ea5
    replace h := ob h; obtain ⟨v6, ev6, h⟩ := h
    refine g_getI hC ev6 fk_X11_246 rfl dX11_reading_14 ?_
    refine g_icmp_lt hC 22 dX11_reading_17 (by decide) (fun c7 => ?_) (fun c7 => ?_)
    · replace h := it_t c7 h
      refine g_iload_n hC 3 dX11_reading_22 rfl ?_
      by_cases c8 : p2 = 0
      · replace h := it_t c8 h
        refine g_tbl (off := 33) hC 56 c8 dX11_reading_23 (by decide) ?_
        refine g_aload_n hC 0 dX11_reading_56 rfl ?_
        replace h := ob h; obtain ⟨v9, ev9, h⟩ := h
        refine g_getR hC ev9 fk_X11_249 rfl dX11_reading_57 ?_
        refine g_iload_n hC 2 dX11_reading_60 rfl ?_
        replace h := ob h; obtain ⟨a11, ea11, h⟩ := h
        subst ea11
        replace h := ob h; obtain ⟨v10, ev10, h⟩ := h
        refine g_iald hC ev10 dX11_reading_61 ?_
        exact g_iret hC h ⟨(Nat.le_of_ble_eq_true rfl), (Nat.le_of_ble_eq_true rfl)⟩ dX11_reading_62
      replace h := it_f c8 h
      by_cases c12 : p2 = 1
      · replace h := it_t c12 h
        refine g_tbl (off := 40) hC 63 c12 dX11_reading_23 (by decide) ?_
        refine g_aload_n hC 0 dX11_reading_63 rfl ?_
        replace h := ob h; obtain ⟨v13, ev13, h⟩ := h
        refine g_getR hC ev13 fk_X11_252 rfl dX11_reading_64 ?_
        refine g_iload_n hC 2 dX11_reading_67 rfl ?_
        replace h := ob h; obtain ⟨a15, ea15, h⟩ := h
        subst ea15
        replace h := ob h; obtain ⟨v14, ev14, h⟩ := h
        refine g_iald hC ev14 dX11_reading_68 ?_
        exact g_iret hC h ⟨(Nat.le_of_ble_eq_true rfl), (Nat.le_of_ble_eq_true rfl)⟩ dX11_reading_69
      replace h := it_f c12 h
      by_cases c16 : p2 = 2
      · replace h := it_t c16 h
        refine g_tbl (off := 47) hC 70 c16 dX11_reading_23 (by decide) ?_
        refine g_aload_n hC 0 dX11_reading_70 rfl ?_
        replace h := ob h; obtain ⟨v17, ev17, h⟩ := h
        refine g_getR hC ev17 fk_X11_255 rfl dX11_reading_71 ?_
        refine g_iload_n hC 2 dX11_reading_74 rfl ?_
        replace h := ob h; obtain ⟨a19, ea19, h⟩ := h
        subst ea19
        replace h := ob h; obtain ⟨v18, ev18, h⟩ := h
        refine g_iald hC ev18 dX11_reading_75 ?_
        exact g_iret hC h ⟨(Nat.le_of_ble_eq_true rfl), (Nat.le_of_ble_eq_true rfl)⟩ dX11_reading_76
      replace h := it_f c16 h
      by_cases c20 : p2 = 3
      · replace h := it_t c20 h
        refine g_tbl (off := 54) hC 77 c20 dX11_reading_23 (by decide) ?_
        refine g_aload_n hC 0 dX11_reading_77 rfl ?_
        replace h := ob h; obtain ⟨v21, ev21, h⟩ := h
        refine g_getR hC ev21 fk_X11_258 rfl dX11_reading_78 ?_
        refine g_iload_n hC 2 dX11_reading_81 rfl ?_
        replace h := ob h; obtain ⟨a23, ea23, h⟩ := h
        subst ea23
        replace h := ob h; obtain ⟨v22, ev22, h⟩ := h
        refine g_iald hC ev22 dX11_reading_82 ?_
        exact g_iret hC h ⟨(Nat.le_of_ble_eq_true rfl), (Nat.le_of_ble_eq_true rfl)⟩ dX11_reading_83
      replace h := it_f c20 h
      by_cases c24 : p2 = 4
      · replace h := it_t c24 h
        refine g_tbl (off := 61) hC 84 c24 dX11_reading_23 (by decide) ?_
        refine g_aload_n hC 0 dX11_reading_84 rfl ?_
        replace h := ob h; obtain ⟨v25, ev25, h⟩ := h
        refine g_getR hC ev25 fk_X11_261 rfl dX11_reading_85 ?_
        refine g_iload_n hC 2 dX11_reading_88 rfl ?_
        replace h := ob h; obtain ⟨a27, ea27, h⟩ := h
        subst ea27
        replace h := ob h; obtain ⟨v26, ev26, h⟩ := h
        refine g_iald hC ev26 dX11_reading_89 ?_
        exact g_iret hC h ⟨(Nat.le_of_ble_eq_true rfl), (Nat.le_of_ble_eq_true rfl)⟩ dX11_reading_90
      replace h := it_f c24 h
      refine g_tbd (n := 5) hC 91 (fun j hj => ?_) (by decide) dX11_reading_23 (by decide) ?_
      · match j, hj with
        | 0, _ => exact c8
        | 1, _ => exact c12
        | 2, _ => exact c16
        | 3, _ => exact c20
        | 4, _ => exact c24
        | j + 5, hj => exact absurd hj (by omega)
      refine g_iconst hC (-1) dX11_reading_91 (by decide) ?_
      exact g_iret hC h ⟨(Nat.le_of_ble_eq_true rfl), (Nat.le_of_ble_eq_true rfl)⟩ dX11_reading_92
    · replace h := it_f c7 h
      refine g_iconst hC (-1) dX11_reading_20 (by decide) ?_
      exact g_iret hC h ⟨(Nat.le_of_ble_eq_true rfl), (Nat.le_of_ble_eq_true rfl)⟩ dX11_reading_21

set_option maxHeartbeats 4000000 in
set_option maxRecDepth 100000 in
theorem c_X11_plan (l : Launch) (Γ : Gm) (this : Nat) (p1 : Int32) (M M' : Mm) (r : Int32) (h : F_X11_plan this p1 M = some (r, M')) : Met l yX11_plan (wz yX11_plan cX11_plan 2 (some .int)) ({ frames := 10, cells := 0, slots := 0, locals := 249 } : Room) (Pq Γ M [.ref this, .int p1]) (Qi Γ r M') 0 0 (fr Γ) := by
  refine met_of (own := RX11) (by decide +kernel) rfl (Nat.le_of_ble_eq_true rfl) ?_
  intro X hC hR hnm hXl
  unfold F_X11_plan at h
  show G Γ X 2 M 0 0 _ 0 ([(0, .ref this), (1, .int p1)]) []
  refine g_iload_n hC 1 dX11_plan_0 rfl ?_
  replace h := ob h; obtain ⟨⟨v2, M1⟩, eM1, h⟩ := h
  refine g_calli hC (r_S hC (As := [.int p1]) (c_X11_isLayer _ Γ p1 M M1 v2 eM1) yk_X11_isLayer lk_X11_65 rfl rfl (Nat.le_of_ble_eq_true rfl) hR ⟨(Nat.le_of_ble_eq_true rfl), (Nat.le_of_ble_eq_true rfl)⟩ ⟨(Nat.le_of_ble_eq_true rfl), (Nat.le_of_ble_eq_true rfl)⟩ dX11_plan_1) ?_
  refine g_if_ne hC 9 dX11_plan_4 (by decide) (fun c3 => ?_) (fun c3 => ?_)
  · replace h := it_f c3 h
    refine g_aload_n hC 0 dX11_plan_9 rfl ?_
    replace h := ob h; obtain ⟨v4, ev4, h⟩ := h
    refine g_getR hC ev4 fk_X11_21 rfl dX11_plan_10 ?_
    refine g_iload_n hC 1 dX11_plan_13 rfl ?_
    replace h := ob h; obtain ⟨a5, ea5, h⟩ := h
    subst ea5
    replace h := ob h; obtain ⟨_, eu7, h⟩ := h
    replace h := ob h; obtain ⟨⟨v8, M6⟩, eM6, h⟩ := h
    refine g_calli hC (r_V hC (As := [.int p1]) (c_X5_work _ Γ a5 p1 M1 M6 v8 eM6) yk_X5_work lk_X11_277 eu7 ⟨_, rfl, rfl⟩ rfl rfl (Nat.le_of_ble_eq_true rfl) hR ⟨(Nat.le_of_ble_eq_true rfl), (Nat.le_of_ble_eq_true rfl)⟩ ⟨(Nat.le_of_ble_eq_true rfl), (Nat.le_of_ble_eq_true rfl)⟩ dX11_plan_14) ?_
    exact g_iret hC h ⟨(Nat.le_of_ble_eq_true rfl), (Nat.le_of_ble_eq_true rfl)⟩ dX11_plan_17
  · replace h := it_t c3 h
    refine g_iconst hC (-1) dX11_plan_7 (by decide) ?_
    exact g_iret hC h ⟨(Nat.le_of_ble_eq_true rfl), (Nat.le_of_ble_eq_true rfl)⟩ dX11_plan_8

set_option maxHeartbeats 4000000 in
set_option maxRecDepth 100000 in
theorem c_X11_planned (l : Launch) (Γ : Gm) (this : Nat) (p1 : Int32) (p2 : Int32) (M M' : Mm) (r : Int32) (h : F_X11_planned this p1 p2 M = some (r, M')) : Met l yX11_planned (wz yX11_planned cX11_planned 3 (some .int)) ({ frames := 10, cells := 0, slots := 0, locals := 249 } : Room) (Pq Γ M [.ref this, .int p1, .int p2]) (Qi Γ r M') 0 0 (fr Γ) := by
  refine met_of (own := RX11) (by decide +kernel) rfl (Nat.le_of_ble_eq_true rfl) ?_
  intro X hC hR hnm hXl
  unfold F_X11_planned at h
  show G Γ X 3 M 0 0 _ 0 ([(0, .ref this), (1, .int p1), (2, .int p2)]) []
  refine g_iload_n hC 1 dX11_planned_0 rfl ?_
  replace h := ob h; obtain ⟨⟨v2, M1⟩, eM1, h⟩ := h
  refine g_calli hC (r_S hC (As := [.int p1]) (c_X11_isLayer _ Γ p1 M M1 v2 eM1) yk_X11_isLayer lk_X11_65 rfl rfl (Nat.le_of_ble_eq_true rfl) hR ⟨(Nat.le_of_ble_eq_true rfl), (Nat.le_of_ble_eq_true rfl)⟩ ⟨(Nat.le_of_ble_eq_true rfl), (Nat.le_of_ble_eq_true rfl)⟩ dX11_planned_1) ?_
  refine g_if_eq hC 18 dX11_planned_4 (by decide) (fun c3 => ?_) (fun c3 => ?_)
  · replace h := it_t c3 h
    refine g_iconst hC (-1) dX11_planned_18 (by decide) ?_
    exact g_iret hC h ⟨(Nat.le_of_ble_eq_true rfl), (Nat.le_of_ble_eq_true rfl)⟩ dX11_planned_19
  · replace h := it_f c3 h
    refine g_aload_n hC 0 dX11_planned_7 rfl ?_
    replace h := ob h; obtain ⟨v4, ev4, h⟩ := h
    refine g_getR hC ev4 fk_X11_12 rfl dX11_planned_8 ?_
    refine g_iload_n hC 2 dX11_planned_11 rfl ?_
    replace h := ob h; obtain ⟨a5, ea5, h⟩ := h
    subst ea5
    replace h := ob h; obtain ⟨_, eu7, h⟩ := h
    replace h := ob h; obtain ⟨⟨v8, M6⟩, eM6, h⟩ := h
    refine g_callr hC (r_V hC (As := [.int p2]) (c_X10_gliderAt _ Γ a5 p2 M1 M6 v8 eM6) yk_X10_gliderAt lk_X11_123 eu7 ⟨_, rfl, rfl⟩ rfl rfl (Nat.le_of_ble_eq_true rfl) hR ⟨(Nat.le_of_ble_eq_true rfl), (Nat.le_of_ble_eq_true rfl)⟩ ⟨(Nat.le_of_ble_eq_true rfl), (Nat.le_of_ble_eq_true rfl)⟩ dX11_planned_12) ?_
    refine g_ifnonnull hC 20 dX11_planned_15 (by decide) (fun a9 ca9 => ?_) (fun ca9 => ?_)
    · subst ca9
      replace h := oe_s h
      refine g_aload_n hC 0 dX11_planned_20 rfl ?_
      replace h := ob h; obtain ⟨v10, ev10, h⟩ := h
      refine g_getR hC ev10 fk_X11_21 rfl dX11_planned_21 ?_
      refine g_iload_n hC 1 dX11_planned_24 rfl ?_
      replace h := ob h; obtain ⟨a11, ea11, h⟩ := h
      subst ea11
      replace h := ob h; obtain ⟨_, eu13, h⟩ := h
      replace h := ob h; obtain ⟨⟨v14, M12⟩, eM12, h⟩ := h
      refine g_calli hC (r_V hC (As := [.int p1]) (c_X5_work _ Γ a11 p1 M6 M12 v14 eM12) yk_X5_work lk_X11_277 eu13 ⟨_, rfl, rfl⟩ rfl rfl (Nat.le_of_ble_eq_true rfl) hR ⟨(Nat.le_of_ble_eq_true rfl), (Nat.le_of_ble_eq_true rfl)⟩ ⟨(Nat.le_of_ble_eq_true rfl), (Nat.le_of_ble_eq_true rfl)⟩ dX11_planned_25) ?_
      refine g_pop hC dX11_planned_28 rfl ?_
      refine g_aload_n hC 0 dX11_planned_29 rfl ?_
      replace h := ob h; obtain ⟨v15, ev15, h⟩ := h
      refine g_getR hC ev15 fk_X11_21 rfl dX11_planned_30 ?_
      refine g_iload_n hC 2 dX11_planned_33 rfl ?_
      replace h := ob h; obtain ⟨a16, ea16, h⟩ := h
      subst ea16
      replace h := ob h; obtain ⟨_, eu18, h⟩ := h
      replace h := ob h; obtain ⟨⟨v19, M17⟩, eM17, h⟩ := h
      refine g_calli hC (r_V hC (As := [.int p2]) (c_X5_headingOf _ Γ a16 p2 M12 M17 v19 eM17) yk_X5_headingOf lk_X11_280 eu18 ⟨_, rfl, rfl⟩ rfl rfl (Nat.le_of_ble_eq_true rfl) hR ⟨(Nat.le_of_ble_eq_true rfl), (Nat.le_of_ble_eq_true rfl)⟩ ⟨(Nat.le_of_ble_eq_true rfl), (Nat.le_of_ble_eq_true rfl)⟩ dX11_planned_34) ?_
      exact g_iret hC h ⟨(Nat.le_of_ble_eq_true rfl), (Nat.le_of_ble_eq_true rfl)⟩ dX11_planned_37
    · subst ca9
      replace h := oe_n h
      refine g_iconst hC (-1) dX11_planned_18 (by decide) ?_
      exact g_iret hC h ⟨(Nat.le_of_ble_eq_true rfl), (Nat.le_of_ble_eq_true rfl)⟩ dX11_planned_19

set_option maxHeartbeats 4000000 in
set_option maxRecDepth 100000 in
theorem c_X11_ends (l : Launch) (Γ : Gm) (this : Nat) (p1 : Int32) (p2 : Int32) (p3 : Int32) (p4 : Int32) (M M' : Mm) (r : Int32) (h : F_X11_ends this p1 p2 p3 p4 M = some (r, M')) : Met l yX11_ends (wz yX11_ends cX11_ends 6 (some .int)) ({ frames := 4, cells := 0, slots := 0, locals := 98 } : Room) (Pq Γ M [.ref this, .int p1, .int p2, .int p3, .int p4]) (Qi Γ r M') 0 0 (fr Γ) := by
  refine met_of (own := RX11) (by decide +kernel) rfl (Nat.le_of_ble_eq_true rfl) ?_
  intro X hC hR hnm hXl
  unfold F_X11_ends at h
  show G Γ X 6 M 0 0 _ 0 ([(0, .ref this), (1, .int p1), (2, .int p2), (3, .int p3), (4, .int p4)]) []
  refine g_aload_n hC 0 dX11_ends_0 rfl ?_
  replace h := ob h; obtain ⟨v1, ev1, h⟩ := h
  refine g_getR hC ev1 fk_X11_12 rfl dX11_ends_1 ?_
  refine g_iload_n hC 1 dX11_ends_4 rfl ?_
  replace h := ob h; obtain ⟨a2, ea2, h⟩ := h
  subst ea2
  replace h := ob h; obtain ⟨_, eu4, h⟩ := h
  replace h := ob h; obtain ⟨⟨v5, M3⟩, eM3, h⟩ := h
  refine g_callr hC (r_V hC (As := [.int p1]) (c_X10_gliderAt _ Γ a2 p1 M M3 v5 eM3) yk_X10_gliderAt lk_X11_123 eu4 ⟨_, rfl, rfl⟩ rfl rfl (Nat.le_of_ble_eq_true rfl) hR ⟨(Nat.le_of_ble_eq_true rfl), (Nat.le_of_ble_eq_true rfl)⟩ ⟨(Nat.le_of_ble_eq_true rfl), (Nat.le_of_ble_eq_true rfl)⟩ dX11_ends_5) ?_
  refine g_astoreq hC (x := v5) ([(5, va_rf v5), (0, .ref this), (1, .int p1), (2, .int p2), (3, .int p3), (4, .int p4)]) dX11_ends_8 (by decide) rfl ?_
  refine g_aloadq hC 0 (x := v5) dX11_ends_10 rfl ?_
  refine g_ifnull hC 27 dX11_ends_12 (by decide) (fun ca6 => ?_) (fun a6 ca6 => ?_)
  · subst ca6
    replace h := oe_n h
    refine g_iconst hC (-1) dX11_ends_27 (by decide) ?_
    exact g_iret hC h ⟨(Nat.le_of_ble_eq_true rfl), (Nat.le_of_ble_eq_true rfl)⟩ dX11_ends_28
  · subst ca6
    replace h := oe_s h
    refine g_aload hC 0 dX11_ends_15 rfl ?_
    refine g_iload_n hC 3 dX11_ends_17 rfl ?_
    refine g_iload_n hC 4 dX11_ends_18 rfl ?_
    refine g_iload hC 5 dX11_ends_19 rfl ?_
    replace h := ob h; obtain ⟨_, eu8, h⟩ := h
    replace h := ob h; obtain ⟨⟨v9, M7⟩, eM7, h⟩ := h
    refine g_calli hC (r_V hC (As := [.int p2, .int p3, .int p4]) (c_X0_mayDive _ Γ a6 p2 p3 p4 M3 M7 v9 eM7) yk_X0_mayDive lk_X11_148 eu8 ⟨_, rfl, rfl⟩ rfl rfl (Nat.le_of_ble_eq_true rfl) hR ⟨(Nat.le_of_ble_eq_true rfl), (Nat.le_of_ble_eq_true rfl)⟩ ⟨(Nat.le_of_ble_eq_true rfl), (Nat.le_of_ble_eq_true rfl)⟩ dX11_ends_21) ?_
    refine g_if_ne hC 29 dX11_ends_24 (by decide) (fun c10 => ?_) (fun c10 => ?_)
    · replace h := it_f c10 h
      refine g_aload hC 0 dX11_ends_29 rfl ?_
      replace h := ob h; obtain ⟨v11, ev11, h⟩ := h
      refine g_getI hC ev11 fk_X11_152 rfl dX11_ends_31 ?_
      refine g_if_eq hC 40 dX11_ends_34 (by decide) (fun c12 => ?_) (fun c12 => ?_)
      · replace h := it_t c12 h
        refine g_aload_n hC 1 dX11_ends_40 rfl ?_
        replace h := ob h; obtain ⟨v13, ev13, h⟩ := h
        refine g_getR hC ev13 fk_X11_12 rfl dX11_ends_41 ?_
        replace h := ob h; obtain ⟨a14, ea14, h⟩ := h
        subst ea14
        replace h := ob h; obtain ⟨v15, ev15, h⟩ := h
        refine g_getR hC ev15 fk_X11_283 rfl dX11_ends_44 ?_
        refine g_aload_n hC 1 dX11_ends_47 rfl ?_
        replace h := ob h; obtain ⟨v16, ev16, h⟩ := h
        refine g_getR hC ev16 fk_X11_12 rfl dX11_ends_48 ?_
        replace h := ob h; obtain ⟨a17, ea17, h⟩ := h
        subst ea17
        replace h := ob h; obtain ⟨v18, ev18, h⟩ := h
        refine g_getR hC ev18 fk_X11_52 rfl dX11_ends_51 ?_
        refine g_aload_n hC 1 dX11_ends_54 rfl ?_
        replace h := ob h; obtain ⟨v19, ev19, h⟩ := h
        refine g_getR hC ev19 fk_X11_12 rfl dX11_ends_55 ?_
        replace h := ob h; obtain ⟨a20, ea20, h⟩ := h
        subst ea20
        replace h := ob h; obtain ⟨v21, ev21, h⟩ := h
        refine g_getR hC ev21 fk_X11_52 rfl dX11_ends_58 ?_
        replace h := ob h; obtain ⟨a22, ea22, h⟩ := h
        subst ea22
        replace h := ob h; obtain ⟨v23, ev23, h⟩ := h
        refine g_getR hC ev23 fk_X11_72 rfl dX11_ends_61 ?_
        refine g_aload hC 0 dX11_ends_64 rfl ?_
        replace h := ob h; obtain ⟨v24, ev24, h⟩ := h
        refine g_getI hC ev24 fk_X11_287 rfl dX11_ends_66 ?_
        refine g_iload_n hC 3 dX11_ends_69 rfl ?_
        refine g_iconst hC 0 dX11_ends_70 (by decide) ?_
        replace h := ob h; obtain ⟨a25, ea25, h⟩ := h
        subst ea25
        replace h := ob h; obtain ⟨a26, ea26, h⟩ := h
        subst ea26
        replace h := ob h; obtain ⟨a27, ea27, h⟩ := h
        subst ea27
        replace h := ob h; obtain ⟨_, eu29, h⟩ := h
        replace h := ob h; obtain ⟨M28, eM28, h⟩ := h
        refine g_callv hC (r_V hC (As := [.ref a26, .ref a25, .int v24, .int p2, .int 0]) (c_X4_sink _ Γ a27 a26 a25 v24 p2 0 M7 M28 eM28) yk_X4_sink lk_X11_290 eu29 ⟨_, rfl, rfl⟩ rfl rfl (Nat.le_of_ble_eq_true rfl) hR ⟨(Nat.le_of_ble_eq_true rfl), (Nat.le_of_ble_eq_true rfl)⟩ ⟨(Nat.le_of_ble_eq_true rfl), (Nat.le_of_ble_eq_true rfl)⟩ dX11_ends_71) ?_
        refine g_aload_n hC 1 dX11_ends_74 rfl ?_
        replace h := ob h; obtain ⟨v30, ev30, h⟩ := h
        refine g_getR hC ev30 fk_X11_12 rfl dX11_ends_75 ?_
        replace h := ob h; obtain ⟨a31, ea31, h⟩ := h
        subst ea31
        replace h := ob h; obtain ⟨v32, ev32, h⟩ := h
        refine g_getR hC ev32 fk_X11_52 rfl dX11_ends_78 ?_
        refine g_aload_n hC 1 dX11_ends_81 rfl ?_
        replace h := ob h; obtain ⟨v33, ev33, h⟩ := h
        refine g_getR hC ev33 fk_X11_12 rfl dX11_ends_82 ?_
        replace h := ob h; obtain ⟨a34, ea34, h⟩ := h
        subst ea34
        replace h := ob h; obtain ⟨v35, ev35, h⟩ := h
        refine g_getR hC ev35 fk_X11_283 rfl dX11_ends_85 ?_
        replace h := ob h; obtain ⟨a36, ea36, h⟩ := h
        subst ea36
        replace h := ob h; obtain ⟨v37, ev37, h⟩ := h
        refine g_getI hC ev37 fk_X11_296 rfl dX11_ends_88 ?_
        refine g_iload_n hC 4 dX11_ends_91 rfl ?_
        refine g_iload hC 5 dX11_ends_92 rfl ?_
        replace h := ob h; obtain ⟨a38, ea38, h⟩ := h
        subst ea38
        replace h := ob h; obtain ⟨_, eu40, h⟩ := h
        replace h := ob h; obtain ⟨⟨v41, M39⟩, eM39, h⟩ := h
        refine g_calli hC (r_V hC (As := [.int v37, .int p3, .int p4]) (c_X7_walked _ Γ a38 v37 p3 p4 M28 M39 v41 eM39) yk_X7_walked lk_X11_297 eu40 ⟨_, rfl, rfl⟩ rfl rfl (Nat.le_of_ble_eq_true rfl) hR ⟨(Nat.le_of_ble_eq_true rfl), (Nat.le_of_ble_eq_true rfl)⟩ ⟨(Nat.le_of_ble_eq_true rfl), (Nat.le_of_ble_eq_true rfl)⟩ dX11_ends_94) ?_
        exact g_iret hC h ⟨(Nat.le_of_ble_eq_true rfl), (Nat.le_of_ble_eq_true rfl)⟩ dX11_ends_97
      · replace h := it_f c12 h
        refine g_bipush hC (-3) dX11_ends_37 (by decide) ?_
        exact g_iret hC h ⟨(Nat.le_of_ble_eq_true rfl), (Nat.le_of_ble_eq_true rfl)⟩ dX11_ends_39
    · replace h := it_t c10 h
      refine g_iconst hC (-1) dX11_ends_27 (by decide) ?_
      exact g_iret hC h ⟨(Nat.le_of_ble_eq_true rfl), (Nat.le_of_ble_eq_true rfl)⟩ dX11_ends_28

set_option maxHeartbeats 4000000 in
set_option maxRecDepth 100000 in
theorem l_X11_whole_L13 {Γ : Gm} {X : Ct} (hC : Cx Γ X cX11_whole RX11 (some .int) 4) (hR : X.2.2.2.1 = ({ frames := 3, cells := 0, slots := 0, locals := 74 } : Room)) (r : Int32) (M' : Mm)  (x0 : Nat) (x1 : Int32) : ∀ (fu : Nat) (x2 : Int32) (x3 : Int32) (M0 : Mm), F_X11_whole_L13 x0 x1 fu x2 x3 M0 = some (r, M') → G Γ X 4 M0 0 0 (Fin Γ X (Qi Γ r M') 0 0) 13 ([(0, .ref x0), (1, .int x1), (2, .int x2), (3, .int x3)]) [] := by
  intro fu
  induction fu with
  | zero =>
    intro x2 x3 M0 h
    rw [F_X11_whole_L13] at h
    cases h
  | succ n4 ih =>
    intro x2 x3 M0 h
    rw [F_X11_whole_L13] at h
    refine g_iload_n hC 3 dX11_whole_13 rfl ?_
    refine g_bipush hC 80 dX11_whole_14 (by decide) ?_
    refine g_icmp_ge hC 58 dX11_whole_16 (by decide) (fun c5 => ?_) (fun c5 => ?_)
    · replace h := it_t c5 h
      refine g_iload_n hC 2 dX11_whole_58 rfl ?_
      exact g_iret hC h ⟨(Nat.le_of_ble_eq_true rfl), (Nat.le_of_ble_eq_true rfl)⟩ dX11_whole_59
    · replace h := it_f c5 h
      refine g_aload_n hC 0 dX11_whole_19 rfl ?_
      replace h := ob h; obtain ⟨v6, ev6, h⟩ := h
      refine g_getR hC ev6 fk_X11_12 rfl dX11_whole_20 ?_
      replace h := ob h; obtain ⟨a7, ea7, h⟩ := h
      subst ea7
      replace h := ob h; obtain ⟨v8, ev8, h⟩ := h
      refine g_getR hC ev8 fk_X11_52 rfl dX11_whole_23 ?_
      refine g_iload_n hC 3 dX11_whole_26 rfl ?_
      refine g_iload_n hC 1 dX11_whole_27 rfl ?_
      replace h := ob h; obtain ⟨a9, ea9, h⟩ := h
      subst ea9
      replace h := ob h; obtain ⟨_, eu11, h⟩ := h
      replace h := ob h; obtain ⟨⟨v12, M10⟩, eM10, h⟩ := h
      refine g_calli hC (r_V hC (As := [.int x3, .int x1]) (c_X7_has _ Γ a9 x3 x1 M0 M10 v12 eM10) yk_X7_has lk_X11_300 eu11 ⟨_, rfl, rfl⟩ rfl rfl (Nat.le_of_ble_eq_true rfl) hR ⟨(Nat.le_of_ble_eq_true rfl), (Nat.le_of_ble_eq_true rfl)⟩ ⟨(Nat.le_of_ble_eq_true rfl), (Nat.le_of_ble_eq_true rfl)⟩ dX11_whole_28) ?_
      refine g_if_eq hC 52 dX11_whole_31 (by decide) (fun c13 => ?_) (fun c13 => ?_)
      · replace h := it_t c13 h
        refine g_iinc hC 3 (x3 + 1) ([(3, .int (x3 + 1)), (0, .ref x0), (1, .int x1), (2, .int x2)]) dX11_whole_52 rfl rfl (by decide) rfl ?_
        refine g_goto hC 13 dX11_whole_55 (by decide) ?_
        refine g_sub [1, 2, 3, 0] rfl ?_
        exact ih x2 (x3 + 1) M10 h
      · replace h := it_f c13 h
        refine g_aload_n hC 0 dX11_whole_34 rfl ?_
        replace h := ob h; obtain ⟨v14, ev14, h⟩ := h
        refine g_getR hC ev14 fk_X11_12 rfl dX11_whole_35 ?_
        replace h := ob h; obtain ⟨a15, ea15, h⟩ := h
        subst ea15
        replace h := ob h; obtain ⟨v16, ev16, h⟩ := h
        refine g_getR hC ev16 fk_X11_52 rfl dX11_whole_38 ?_
        refine g_iload_n hC 3 dX11_whole_41 rfl ?_
        refine g_iload_n hC 1 dX11_whole_42 rfl ?_
        replace h := ob h; obtain ⟨a17, ea17, h⟩ := h
        subst ea17
        replace h := ob h; obtain ⟨_, eu19, h⟩ := h
        replace h := ob h; obtain ⟨⟨v20, M18⟩, eM18, h⟩ := h
        refine g_calli hC (r_V hC (As := [.int x3, .int x1]) (c_X7_isWhole _ Γ a17 x3 x1 M10 M18 v20 eM18) yk_X7_isWhole lk_X11_303 eu19 ⟨_, rfl, rfl⟩ rfl rfl (Nat.le_of_ble_eq_true rfl) hR ⟨(Nat.le_of_ble_eq_true rfl), (Nat.le_of_ble_eq_true rfl)⟩ ⟨(Nat.le_of_ble_eq_true rfl), (Nat.le_of_ble_eq_true rfl)⟩ dX11_whole_43) ?_
        refine g_if_eq hC 52 dX11_whole_46 (by decide) (fun c21 => ?_) (fun c21 => ?_)
        · replace h := it_t c21 h
          refine g_iinc hC 3 (x3 + 1) ([(3, .int (x3 + 1)), (0, .ref x0), (1, .int x1), (2, .int x2)]) dX11_whole_52 rfl rfl (by decide) rfl ?_
          refine g_goto hC 13 dX11_whole_55 (by decide) ?_
          refine g_sub [1, 2, 3, 0] rfl ?_
          exact ih x2 (x3 + 1) M18 h
        · replace h := it_f c21 h
          refine g_iinc hC 2 (x2 + 1) ([(2, .int (x2 + 1)), (0, .ref x0), (1, .int x1), (3, .int x3)]) dX11_whole_49 rfl rfl (by decide) rfl ?_
          refine g_iinc hC 3 (x3 + 1) ([(3, .int (x3 + 1)), (2, .int (x2 + 1)), (0, .ref x0), (1, .int x1)]) dX11_whole_52 rfl rfl (by decide) rfl ?_
          refine g_goto hC 13 dX11_whole_55 (by decide) ?_
          refine g_sub [2, 3, 1, 0] rfl ?_
          exact ih (x2 + 1) (x3 + 1) M18 h
set_option maxHeartbeats 4000000 in
set_option maxRecDepth 100000 in
theorem c_X11_whole (l : Launch) (Γ : Gm) (this : Nat) (p1 : Int32) (M M' : Mm) (r : Int32) (h : F_X11_whole this p1 M = some (r, M')) : Met l yX11_whole (wz yX11_whole cX11_whole 4 (some .int)) ({ frames := 3, cells := 0, slots := 0, locals := 74 } : Room) (Pq Γ M [.ref this, .int p1]) (Qi Γ r M') 0 0 (fr Γ) := by
  refine met_of (own := RX11) (by decide +kernel) rfl (Nat.le_of_ble_eq_true rfl) ?_
  intro X hC hR hnm hXl
  unfold F_X11_whole at h
  show G Γ X 4 M 0 0 _ 0 ([(0, .ref this), (1, .int p1)]) []
  refine g_iload_n hC 1 dX11_whole_0 rfl ?_
  replace h := ob h; obtain ⟨⟨v2, M1⟩, eM1, h⟩ := h
  refine g_calli hC (r_S hC (As := [.int p1]) (c_X11_isLayer _ Γ p1 M M1 v2 eM1) yk_X11_isLayer lk_X11_65 rfl rfl (Nat.le_of_ble_eq_true rfl) hR ⟨(Nat.le_of_ble_eq_true rfl), (Nat.le_of_ble_eq_true rfl)⟩ ⟨(Nat.le_of_ble_eq_true rfl), (Nat.le_of_ble_eq_true rfl)⟩ dX11_whole_1) ?_
  refine g_if_ne hC 9 dX11_whole_4 (by decide) (fun c3 => ?_) (fun c3 => ?_)
  · replace h := it_f c3 h
    refine g_iconst hC 0 dX11_whole_9 (by decide) ?_
    refine g_istore_n hC ([(2, .int 0), (0, .ref this), (1, .int p1)]) dX11_whole_10 (by decide) rfl ?_
    refine g_iconst hC 0 dX11_whole_11 (by decide) ?_
    refine g_istore_n hC ([(3, .int 0), (2, .int 0), (0, .ref this), (1, .int p1)]) dX11_whole_12 (by decide) rfl ?_
    refine g_sub [2, 3, 1, 0] rfl ?_
    refine l_X11_whole_L13 hC hR r M'  _ _  _ _ _ _ h
  · replace h := it_t c3 h
    refine g_iconst hC (-1) dX11_whole_7 (by decide) ?_
    exact g_iret hC h ⟨(Nat.le_of_ble_eq_true rfl), (Nat.le_of_ble_eq_true rfl)⟩ dX11_whole_8

set_option maxHeartbeats 4000000 in
set_option maxRecDepth 100000 in
theorem c_X11_ship (l : Launch) (Γ : Gm) (this : Nat) (p1 : Int32) (p2 : Int32) (M M' : Mm) (r : Int32) (h : F_X11_ship this p1 p2 M = some (r, M')) : Met l yX11_ship (wz yX11_ship cX11_ship 4 (some .int)) ({ frames := 1, cells := 0, slots := 0, locals := 21 } : Room) (Pq Γ M [.ref this, .int p1, .int p2]) (Qi Γ r M') 0 0 (fr Γ) := by
  refine met_of (own := RX11) (by decide +kernel) rfl (Nat.le_of_ble_eq_true rfl) ?_
  intro X hC hR hnm hXl
  unfold F_X11_ship at h
  show G Γ X 4 M 0 0 _ 0 ([(0, .ref this), (1, .int p1), (2, .int p2)]) []
  refine g_iload_n hC 1 dX11_ship_0 rfl ?_
  refine g_iload_n hC 2 dX11_ship_1 rfl ?_
  replace h := ob h; obtain ⟨⟨v2, M1⟩, eM1, h⟩ := h
  refine g_calli hC (r_S hC (As := [.int p1, .int p2]) (c_X11_isCell _ Γ p1 p2 M M1 v2 eM1) yk_X11_isCell lk_X11_62 rfl rfl (Nat.le_of_ble_eq_true rfl) hR ⟨(Nat.le_of_ble_eq_true rfl), (Nat.le_of_ble_eq_true rfl)⟩ ⟨(Nat.le_of_ble_eq_true rfl), (Nat.le_of_ble_eq_true rfl)⟩ dX11_ship_2) ?_
  refine g_if_ne hC 10 dX11_ship_5 (by decide) (fun c3 => ?_) (fun c3 => ?_)
  · replace h := it_f c3 h
    refine g_aload_n hC 0 dX11_ship_10 rfl ?_
    replace h := ob h; obtain ⟨v4, ev4, h⟩ := h
    refine g_getR hC ev4 fk_X11_12 rfl dX11_ship_11 ?_
    replace h := ob h; obtain ⟨a5, ea5, h⟩ := h
    subst ea5
    replace h := ob h; obtain ⟨v6, ev6, h⟩ := h
    refine g_getR hC ev6 fk_X11_52 rfl dX11_ship_14 ?_
    replace h := ob h; obtain ⟨a7, ea7, h⟩ := h
    subst ea7
    replace h := ob h; obtain ⟨v8, ev8, h⟩ := h
    refine g_getR hC ev8 fk_X11_116 rfl dX11_ship_17 ?_
    refine g_iload_n hC 1 dX11_ship_20 rfl ?_
    refine g_iload_n hC 2 dX11_ship_21 rfl ?_
    replace h := ob h; obtain ⟨⟨v10, M9⟩, eM9, h⟩ := h
    refine g_calli hC (r_S hC (As := [.int p1, .int p2]) (c_X11_cellOf _ Γ p1 p2 M1 M9 v10 eM9) yk_X11_cellOf lk_X11_79 rfl rfl (by simp only [List.map, cat_rf]; exact Nat.le_of_ble_eq_true rfl) hR ⟨(Nat.le_of_ble_eq_true rfl), (Nat.le_of_ble_eq_true rfl)⟩ ⟨(Nat.le_of_ble_eq_true rfl), (Nat.le_of_ble_eq_true rfl)⟩ dX11_ship_22) ?_
    replace h := ob h; obtain ⟨a12, ea12, h⟩ := h
    subst ea12
    replace h := ob h; obtain ⟨v11, ev11, h⟩ := h
    refine g_iald hC ev11 dX11_ship_25 ?_
    refine g_if_ne hC 32 dX11_ship_26 (by decide) (fun c13 => ?_) (fun c13 => ?_)
    · replace h := it_f c13 h
      refine g_aload_n hC 0 dX11_ship_32 rfl ?_
      replace h := ob h; obtain ⟨v14, ev14, h⟩ := h
      refine g_getR hC ev14 fk_X11_12 rfl dX11_ship_33 ?_
      replace h := ob h; obtain ⟨a15, ea15, h⟩ := h
      subst ea15
      replace h := ob h; obtain ⟨v16, ev16, h⟩ := h
      refine g_getI hC ev16 fk_X11_306 rfl dX11_ship_36 ?_
      refine g_istore_n hC ([(3, .int v16), (0, .ref this), (1, .int p1), (2, .int p2)]) dX11_ship_39 (by decide) rfl ?_
      refine g_aload_n hC 1 dX11_ship_40 rfl ?_
      replace h := ob h; obtain ⟨v17, ev17, h⟩ := h
      refine g_getR hC ev17 fk_X11_12 rfl dX11_ship_41 ?_
      refine g_iload_n hC 2 dX11_ship_44 rfl ?_
      refine g_iload_n hC 3 dX11_ship_45 rfl ?_
      replace h := ob h; obtain ⟨⟨v19, M18⟩, eM18, h⟩ := h
      refine g_calli hC (r_S hC (As := [.int p1, .int p2]) (c_X11_cellOf _ Γ p1 p2 M9 M18 v19 eM18) yk_X11_cellOf lk_X11_79 rfl rfl (by simp only [List.map, cat_rf]; exact Nat.le_of_ble_eq_true rfl) hR ⟨(Nat.le_of_ble_eq_true rfl), (Nat.le_of_ble_eq_true rfl)⟩ ⟨(Nat.le_of_ble_eq_true rfl), (Nat.le_of_ble_eq_true rfl)⟩ dX11_ship_46) ?_
      replace h := ob h; obtain ⟨a20, ea20, h⟩ := h
      subst ea20
      replace h := ob h; obtain ⟨M21, eM21, h⟩ := h
      refine g_putI hC eM21 fk_X11_306 rfl dX11_ship_49 ?_
      refine g_iload_n hC 0 dX11_ship_52 rfl ?_
      exact g_iret hC h ⟨(Nat.le_of_ble_eq_true rfl), (Nat.le_of_ble_eq_true rfl)⟩ dX11_ship_53
    · replace h := it_t c13 h
      refine g_bipush hC (-3) dX11_ship_29 (by decide) ?_
      exact g_iret hC h ⟨(Nat.le_of_ble_eq_true rfl), (Nat.le_of_ble_eq_true rfl)⟩ dX11_ship_31
  · replace h := it_t c3 h
    refine g_iconst hC (-1) dX11_ship_8 (by decide) ?_
    exact g_iret hC h ⟨(Nat.le_of_ble_eq_true rfl), (Nat.le_of_ble_eq_true rfl)⟩ dX11_ship_9

set_option maxHeartbeats 4000000 in
set_option maxRecDepth 100000 in
theorem c_X11_left (l : Launch) (Γ : Gm) (this : Nat) (p1 : Int32) (M M' : Mm) (r : Int32) (h : F_X11_left this p1 M = some (r, M')) : Met l yX11_left (wz yX11_left cX11_left 3 (some .int)) ({ frames := 3, cells := 0, slots := 0, locals := 64 } : Room) (Pq Γ M [.ref this, .int p1]) (Qi Γ r M') 0 0 (fr Γ) := by
  refine met_of (own := RX11) (by decide +kernel) rfl (Nat.le_of_ble_eq_true rfl) ?_
  intro X hC hR hnm hXl
  unfold F_X11_left at h
  show G Γ X 3 M 0 0 _ 0 ([(0, .ref this), (1, .int p1)]) []
  refine g_aload_n hC 0 dX11_left_0 rfl ?_
  replace h := ob h; obtain ⟨v1, ev1, h⟩ := h
  refine g_getR hC ev1 fk_X11_12 rfl dX11_left_1 ?_
  refine g_iload_n hC 1 dX11_left_4 rfl ?_
  replace h := ob h; obtain ⟨a2, ea2, h⟩ := h
  subst ea2
  replace h := ob h; obtain ⟨_, eu4, h⟩ := h
  replace h := ob h; obtain ⟨⟨v5, M3⟩, eM3, h⟩ := h
  refine g_callr hC (r_V hC (As := [.int p1]) (c_X10_gliderAt _ Γ a2 p1 M M3 v5 eM3) yk_X10_gliderAt lk_X11_123 eu4 ⟨_, rfl, rfl⟩ rfl rfl (Nat.le_of_ble_eq_true rfl) hR ⟨(Nat.le_of_ble_eq_true rfl), (Nat.le_of_ble_eq_true rfl)⟩ ⟨(Nat.le_of_ble_eq_true rfl), (Nat.le_of_ble_eq_true rfl)⟩ dX11_left_5) ?_
  refine g_astore_nq hC (x := v5) ([(2, va_rf v5), (0, .ref this), (1, .int p1)]) dX11_left_8 (by decide) rfl ?_
  refine g_aload_nq hC 0 (x := v5) dX11_left_9 rfl ?_
  refine g_ifnonnull hC 15 dX11_left_10 (by decide) (fun a6 ca6 => ?_) (fun ca6 => ?_)
  · subst ca6
    replace h := oe_s h
    refine g_aload_n hC 0 dX11_left_15 rfl ?_
    replace h := ob h; obtain ⟨v7, ev7, h⟩ := h
    refine g_getI hC ev7 fk_X11_152 rfl dX11_left_16 ?_
    refine g_if_eq hC 27 dX11_left_19 (by decide) (fun c8 => ?_) (fun c8 => ?_)
    · replace h := it_t c8 h
      refine g_aload_n hC 0 dX11_left_27 rfl ?_
      replace h := ob h; obtain ⟨_, eu10, h⟩ := h
      replace h := ob h; obtain ⟨⟨v11, M9⟩, eM9, h⟩ := h
      refine g_calli hC (r_V hC (As := []) (c_X0_divesLeft _ Γ a6 M3 M9 v11 eM9) yk_X0_divesLeft lk_X11_309 eu10 ⟨_, rfl, rfl⟩ rfl rfl (Nat.le_of_ble_eq_true rfl) hR ⟨(Nat.le_of_ble_eq_true rfl), (Nat.le_of_ble_eq_true rfl)⟩ ⟨(Nat.le_of_ble_eq_true rfl), (Nat.le_of_ble_eq_true rfl)⟩ dX11_left_28) ?_
      exact g_iret hC h ⟨(Nat.le_of_ble_eq_true rfl), (Nat.le_of_ble_eq_true rfl)⟩ dX11_left_31
    · replace h := it_f c8 h
      refine g_bipush hC (-3) dX11_left_22 (by decide) ?_
      refine g_goto hC 31 dX11_left_24 (by decide) ?_
      exact g_iret hC h ⟨(Nat.le_of_ble_eq_true rfl), (Nat.le_of_ble_eq_true rfl)⟩ dX11_left_31
  · subst ca6
    replace h := oe_n h
    refine g_iconst hC (-1) dX11_left_13 (by decide) ?_
    exact g_iret hC h ⟨(Nat.le_of_ble_eq_true rfl), (Nat.le_of_ble_eq_true rfl)⟩ dX11_left_14

set_option maxHeartbeats 4000000 in
set_option maxRecDepth 100000 in
theorem c_X11_stepsBetween (l : Launch) (Γ : Gm) (p1 : Int32) (p2 : Int32) (M M' : Mm) (r : Int32) (h : F_X11_stepsBetween p1 p2 M = some (r, M')) : Met l yX11_stepsBetween (wz yX11_stepsBetween cX11_stepsBetween 2 (some .int)) ({ frames := 1, cells := 0, slots := 0, locals := 21 } : Room) (Pq Γ M [.int p1, .int p2]) (Qi Γ r M') 0 0 (fr Γ) := by
  refine met_of (own := RX11) (by decide +kernel) rfl (Nat.le_of_ble_eq_true rfl) ?_
  intro X hC hR hnm hXl
  unfold F_X11_stepsBetween at h
  show G Γ X 2 M 0 0 _ 0 ([(0, .int p1), (1, .int p2)]) []
  refine g_iload_n hC 0 dX11_stepsBetween_0 rfl ?_
  replace h := ob h; obtain ⟨⟨v2, M1⟩, eM1, h⟩ := h
  refine g_calli hC (r_S hC (As := [.int p1]) (c_X11_xOf _ Γ p1 M M1 v2 eM1) yk_X11_xOf lk_X11_391 rfl rfl (Nat.le_of_ble_eq_true rfl) hR ⟨(Nat.le_of_ble_eq_true rfl), (Nat.le_of_ble_eq_true rfl)⟩ ⟨(Nat.le_of_ble_eq_true rfl), (Nat.le_of_ble_eq_true rfl)⟩ dX11_stepsBetween_1) ?_
  refine g_iload_n hC 1 dX11_stepsBetween_4 rfl ?_
  replace h := ob h; obtain ⟨⟨v4, M3⟩, eM3, h⟩ := h
  refine g_calli hC (r_S hC (As := [.int p2]) (c_X11_xOf _ Γ p2 M1 M3 v4 eM3) yk_X11_xOf lk_X11_391 rfl rfl (Nat.le_of_ble_eq_true rfl) hR ⟨(Nat.le_of_ble_eq_true rfl), (Nat.le_of_ble_eq_true rfl)⟩ ⟨(Nat.le_of_ble_eq_true rfl), (Nat.le_of_ble_eq_true rfl)⟩ dX11_stepsBetween_5) ?_
  refine g_isub hC dX11_stepsBetween_8 ?_
  refine g_abs hC lk_X11_412 hR (Nat.le_of_ble_eq_true rfl) ⟨(Nat.le_of_ble_eq_true rfl), (Nat.le_of_ble_eq_true rfl), (Nat.le_of_ble_eq_true rfl), (Nat.le_of_ble_eq_true rfl)⟩ dX11_stepsBetween_9 ?_
  refine g_iload_n hC 0 dX11_stepsBetween_12 rfl ?_
  replace h := ob h; obtain ⟨⟨v6, M5⟩, eM5, h⟩ := h
  refine g_calli hC (r_S hC (As := [.int p1]) (c_X11_yOf _ Γ p1 M3 M5 v6 eM5) yk_X11_yOf lk_X11_394 rfl rfl (Nat.le_of_ble_eq_true rfl) hR ⟨(Nat.le_of_ble_eq_true rfl), (Nat.le_of_ble_eq_true rfl)⟩ ⟨(Nat.le_of_ble_eq_true rfl), (Nat.le_of_ble_eq_true rfl)⟩ dX11_stepsBetween_13) ?_
  refine g_iload_n hC 1 dX11_stepsBetween_16 rfl ?_
  replace h := ob h; obtain ⟨⟨v8, M7⟩, eM7, h⟩ := h
  refine g_calli hC (r_S hC (As := [.int p2]) (c_X11_yOf _ Γ p2 M5 M7 v8 eM7) yk_X11_yOf lk_X11_394 rfl rfl (Nat.le_of_ble_eq_true rfl) hR ⟨(Nat.le_of_ble_eq_true rfl), (Nat.le_of_ble_eq_true rfl)⟩ ⟨(Nat.le_of_ble_eq_true rfl), (Nat.le_of_ble_eq_true rfl)⟩ dX11_stepsBetween_17) ?_
  refine g_isub hC dX11_stepsBetween_20 ?_
  refine g_abs hC lk_X11_412 hR (Nat.le_of_ble_eq_true rfl) ⟨(Nat.le_of_ble_eq_true rfl), (Nat.le_of_ble_eq_true rfl), (Nat.le_of_ble_eq_true rfl), (Nat.le_of_ble_eq_true rfl)⟩ dX11_stepsBetween_21 ?_
  refine g_iadd hC dX11_stepsBetween_24 ?_
  exact g_iret hC h ⟨(Nat.le_of_ble_eq_true rfl), (Nat.le_of_ble_eq_true rfl)⟩ dX11_stepsBetween_25

set_option maxHeartbeats 4000000 in
set_option maxRecDepth 100000 in
theorem l_X11_next_L10 {Γ : Gm} {X : Ct} (hC : Cx Γ X cX11_next RX11 (some .int) 8) (hR : X.2.2.2.1 = ({ frames := 3, cells := 0, slots := 0, locals := 64 } : Room)) (r : Int32) (M' : Mm)  (x0 : Nat) : ∀ (fu : Nat) (x1 : Int32) (x2 : Int32) (x3 : Int32) (x4 : Int32) (M0 : Mm), F_X11_next_L10 x0 fu x1 x2 x3 x4 M0 = some (r, M') → G Γ X 8 M0 0 0 (Fin Γ X (Qi Γ r M') 0 0) 10 ([(0, .ref x0), (1, .int x1), (2, .int x2), (3, .int x3), (4, .int x4)]) [] := by
  intro fu
  induction fu with
  | zero =>
    intro x1 x2 x3 x4 M0 h
    rw [F_X11_next_L10] at h
    cases h
  | succ n1 ih =>
    intro x1 x2 x3 x4 M0 h
    rw [F_X11_next_L10] at h
    refine g_iload hC 4 dX11_next_10 rfl ?_
    refine g_aload_n hC 0 dX11_next_12 rfl ?_
    replace h := ob h; obtain ⟨v2, ev2, h⟩ := h
    refine g_getR hC ev2 fk_X11_12 rfl dX11_next_13 ?_
    replace h := ob h; obtain ⟨a3, ea3, h⟩ := h
    subst ea3
    replace h := ob h; obtain ⟨v4, ev4, h⟩ := h
    refine g_getI hC ev4 fk_X11_112 rfl dX11_next_16 ?_
    refine g_icmp_ge hC 108 dX11_next_19 (by decide) (fun c5 => ?_) (fun c5 => ?_)
    · replace h := it_t c5 h
      refine g_iload_n hC 1 dX11_next_108 rfl ?_
      exact g_iret hC h ⟨(Nat.le_of_ble_eq_true rfl), (Nat.le_of_ble_eq_true rfl)⟩ dX11_next_109
    · replace h := it_f c5 h
      refine g_aload_n hC 0 dX11_next_22 rfl ?_
      replace h := ob h; obtain ⟨v6, ev6, h⟩ := h
      refine g_getR hC ev6 fk_X11_12 rfl dX11_next_23 ?_
      replace h := ob h; obtain ⟨a7, ea7, h⟩ := h
      subst ea7
      replace h := ob h; obtain ⟨v8, ev8, h⟩ := h
      refine g_getR hC ev8 fk_X11_312 rfl dX11_next_26 ?_
      refine g_iload hC 4 dX11_next_29 rfl ?_
      replace h := ob h; obtain ⟨a10, ea10, h⟩ := h
      subst ea10
      replace h := ob h; obtain ⟨v9, ev9, h⟩ := h
      refine g_aald hC ev9 (by decide) dX11_next_31 ?_
      refine g_astoreq hC (x := v9) ([(5, va_rf v9), (0, .ref x0), (1, .int x1), (2, .int x2), (3, .int x3), (4, .int x4)]) dX11_next_32 (by decide) rfl ?_
      refine g_aloadq hC 0 (x := v9) dX11_next_34 rfl ?_
      replace h := ob h; obtain ⟨a11, ea11, h⟩ := h
      subst ea11
      replace h := ob h; obtain ⟨v12, ev12, h⟩ := h
      refine g_getI hC ev12 fk_X11_152 rfl dX11_next_36 ?_
      refine g_if_eq hC 45 dX11_next_39 (by decide) (fun c13 => ?_) (fun c13 => ?_)
      · replace h := it_t c13 h
        refine g_aload hC 0 dX11_next_45 rfl ?_
        replace h := ob h; obtain ⟨_, eu15, h⟩ := h
        replace h := ob h; obtain ⟨⟨v16, M14⟩, eM14, h⟩ := h
        refine g_calli hC (r_V hC (As := []) (c_X0_divesLeft _ Γ a11 M0 M14 v16 eM14) yk_X0_divesLeft lk_X11_309 eu15 ⟨_, rfl, rfl⟩ rfl rfl (Nat.le_of_ble_eq_true rfl) hR ⟨(Nat.le_of_ble_eq_true rfl), (Nat.le_of_ble_eq_true rfl)⟩ ⟨(Nat.le_of_ble_eq_true rfl), (Nat.le_of_ble_eq_true rfl)⟩ dX11_next_47) ?_
        refine g_istore hC ([(6, .int v16), (5, .ref a11), (0, .ref x0), (1, .int x1), (2, .int x2), (3, .int x3), (4, .int x4)]) dX11_next_50 (by decide) rfl ?_
        refine g_aload hC 1 dX11_next_52 rfl ?_
        replace h := ob h; obtain ⟨v17, ev17, h⟩ := h
        refine g_getI hC ev17 fk_X11_287 rfl dX11_next_54 ?_
        refine g_aload_n hC 2 dX11_next_57 rfl ?_
        replace h := ob h; obtain ⟨v18, ev18, h⟩ := h
        refine g_getR hC ev18 fk_X11_12 rfl dX11_next_58 ?_
        replace h := ob h; obtain ⟨a19, ea19, h⟩ := h
        subst ea19
        replace h := ob h; obtain ⟨v20, ev20, h⟩ := h
        refine g_getI hC ev20 fk_X11_306 rfl dX11_next_61 ?_
        replace h := ob h; obtain ⟨⟨v22, M21⟩, eM21, h⟩ := h
        refine g_calli hC (r_S hC (As := [.int v17, .int v20]) (c_X11_stepsBetween _ Γ v17 v20 M14 M21 v22 eM21) yk_X11_stepsBetween lk_X11_316 rfl rfl (Nat.le_of_ble_eq_true rfl) hR ⟨(Nat.le_of_ble_eq_true rfl), (Nat.le_of_ble_eq_true rfl)⟩ ⟨(Nat.le_of_ble_eq_true rfl), (Nat.le_of_ble_eq_true rfl)⟩ dX11_next_64) ?_
        refine g_istore hC ([(7, .int v22), (6, .int v16), (5, .ref a11), (0, .ref x0), (1, .int x1), (2, .int x2), (3, .int x3), (4, .int x4)]) dX11_next_67 (by decide) rfl ?_
        refine g_iload_n hC 4 dX11_next_69 rfl ?_
        refine g_bipush hC (-4) dX11_next_70 (by decide) ?_
        refine g_icmp_eq hC 93 dX11_next_72 (by decide) (fun c23 => ?_) (fun c23 => ?_)
        · replace h := it_t c23 h
          refine g_iload hC 7 dX11_next_93 rfl ?_
          refine g_istore_n hC ([(1, .int x4), (7, .int v22), (6, .int v16), (5, .ref a11), (0, .ref x0), (2, .int x2), (3, .int x3), (4, .int x4)]) dX11_next_95 (by decide) rfl ?_
          refine g_iload hC 2 dX11_next_96 rfl ?_
          refine g_istore_n hC ([(2, .int v16), (1, .int x4), (7, .int v22), (6, .int v16), (5, .ref a11), (0, .ref x0), (3, .int x3), (4, .int x4)]) dX11_next_98 (by decide) rfl ?_
          refine g_iload hC 2 dX11_next_99 rfl ?_
          refine g_istore_n hC ([(3, .int v22), (2, .int v16), (1, .int x4), (7, .int v22), (6, .int v16), (5, .ref a11), (0, .ref x0), (4, .int x4)]) dX11_next_101 (by decide) rfl ?_
          refine g_iinc hC 7 (x4 + 1) ([(4, .int (x4 + 1)), (3, .int v22), (2, .int v16), (1, .int x4), (7, .int v22), (6, .int v16), (5, .ref a11), (0, .ref x0)]) dX11_next_102 rfl rfl (by decide) rfl ?_
          refine g_goto hC 10 dX11_next_105 (by decide) ?_
          refine g_sub [7, 3, 2, 1, 0] rfl ?_
          exact ih x4 v16 v22 (x4 + 1) M21 h
        · replace h := it_f c23 h
          refine g_iload hC 1 dX11_next_75 rfl ?_
          refine g_iload_n hC 5 dX11_next_77 rfl ?_
          refine g_icmp_lt hC 93 dX11_next_78 (by decide) (fun c24 => ?_) (fun c24 => ?_)
          · replace h := it_t c24 h
            refine g_iload hC 7 dX11_next_93 rfl ?_
            refine g_istore_n hC ([(1, .int x4), (7, .int v22), (6, .int v16), (5, .ref a11), (0, .ref x0), (2, .int x2), (3, .int x3), (4, .int x4)]) dX11_next_95 (by decide) rfl ?_
            refine g_iload hC 2 dX11_next_96 rfl ?_
            refine g_istore_n hC ([(2, .int v16), (1, .int x4), (7, .int v22), (6, .int v16), (5, .ref a11), (0, .ref x0), (3, .int x3), (4, .int x4)]) dX11_next_98 (by decide) rfl ?_
            refine g_iload hC 2 dX11_next_99 rfl ?_
            refine g_istore_n hC ([(3, .int v22), (2, .int v16), (1, .int x4), (7, .int v22), (6, .int v16), (5, .ref a11), (0, .ref x0), (4, .int x4)]) dX11_next_101 (by decide) rfl ?_
            refine g_iinc hC 7 (x4 + 1) ([(4, .int (x4 + 1)), (3, .int v22), (2, .int v16), (1, .int x4), (7, .int v22), (6, .int v16), (5, .ref a11), (0, .ref x0)]) dX11_next_102 rfl rfl (by decide) rfl ?_
            refine g_goto hC 10 dX11_next_105 (by decide) ?_
            refine g_sub [7, 3, 2, 1, 0] rfl ?_
            exact ih x4 v16 v22 (x4 + 1) M21 h
          · replace h := it_f c24 h
            refine g_iload hC 1 dX11_next_81 rfl ?_
            refine g_iload_n hC 5 dX11_next_83 rfl ?_
            refine g_icmp_ne hC 102 dX11_next_84 (by decide) (fun c25 => ?_) (fun c25 => ?_)
            · replace h := it_f c25 h
              refine g_iinc hC 7 (x4 + 1) ([(4, .int (x4 + 1)), (7, .int v22), (6, .int v16), (5, .ref a11), (0, .ref x0), (1, .int x1), (2, .int x2), (3, .int x3)]) dX11_next_102 rfl rfl (by decide) rfl ?_
              refine g_goto hC 10 dX11_next_105 (by decide) ?_
              refine g_sub [4, 5, 6, 7, 0] rfl ?_
              exact ih x1 x2 x3 (x4 + 1) M21 h
            · replace h := it_t c25 h
              refine g_iload hC 0 dX11_next_87 rfl ?_
              refine g_iload_n hC 6 dX11_next_89 rfl ?_
              refine g_icmp_ge hC 102 dX11_next_90 (by decide) (fun c26 => ?_) (fun c26 => ?_)
              · replace h := it_t c26 h
                refine g_iinc hC 7 (x4 + 1) ([(4, .int (x4 + 1)), (7, .int v22), (6, .int v16), (5, .ref a11), (0, .ref x0), (1, .int x1), (2, .int x2), (3, .int x3)]) dX11_next_102 rfl rfl (by decide) rfl ?_
                refine g_goto hC 10 dX11_next_105 (by decide) ?_
                refine g_sub [4, 5, 6, 7, 0] rfl ?_
                exact ih x1 x2 x3 (x4 + 1) M21 h
              · replace h := it_f c26 h
                refine g_iload hC 7 dX11_next_93 rfl ?_
                refine g_istore_n hC ([(1, .int x4), (7, .int v22), (6, .int v16), (5, .ref a11), (0, .ref x0), (2, .int x2), (3, .int x3), (4, .int x4)]) dX11_next_95 (by decide) rfl ?_
                refine g_iload hC 2 dX11_next_96 rfl ?_
                refine g_istore_n hC ([(2, .int v16), (1, .int x4), (7, .int v22), (6, .int v16), (5, .ref a11), (0, .ref x0), (3, .int x3), (4, .int x4)]) dX11_next_98 (by decide) rfl ?_
                refine g_iload hC 2 dX11_next_99 rfl ?_
                refine g_istore_n hC ([(3, .int v22), (2, .int v16), (1, .int x4), (7, .int v22), (6, .int v16), (5, .ref a11), (0, .ref x0), (4, .int x4)]) dX11_next_101 (by decide) rfl ?_
                refine g_iinc hC 7 (x4 + 1) ([(4, .int (x4 + 1)), (3, .int v22), (2, .int v16), (1, .int x4), (7, .int v22), (6, .int v16), (5, .ref a11), (0, .ref x0)]) dX11_next_102 rfl rfl (by decide) rfl ?_
                refine g_goto hC 10 dX11_next_105 (by decide) ?_
                refine g_sub [7, 3, 2, 1, 0] rfl ?_
                exact ih x4 v16 v22 (x4 + 1) M21 h
      · replace h := it_f c13 h
        refine g_goto hC 102 dX11_next_42 (by decide) ?_
        refine g_iinc hC 5 (x4 + 1) ([(4, .int (x4 + 1)), (5, .ref a11), (0, .ref x0), (1, .int x1), (2, .int x2), (3, .int x3)]) dX11_next_102 rfl rfl (by decide) rfl ?_
        refine g_goto hC 10 dX11_next_105 (by decide) ?_
        refine g_sub [2, 3, 4, 5, 0] rfl ?_
        exact ih x1 x2 x3 (x4 + 1) M0 h
set_option maxHeartbeats 4000000 in
set_option maxRecDepth 100000 in
theorem c_X11_next (l : Launch) (Γ : Gm) (this : Nat) (M M' : Mm) (r : Int32) (h : F_X11_next this M = some (r, M')) : Met l yX11_next (wz yX11_next cX11_next 8 (some .int)) ({ frames := 3, cells := 0, slots := 0, locals := 64 } : Room) (Pq Γ M [.ref this]) (Qi Γ r M') 0 0 (fr Γ) := by
  refine met_of (own := RX11) (by decide +kernel) rfl (Nat.le_of_ble_eq_true rfl) ?_
  intro X hC hR hnm hXl
  unfold F_X11_next at h
  show G Γ X 8 M 0 0 _ 0 ([(0, .ref this)]) []
  refine g_bipush hC (-4) dX11_next_0 (by decide) ?_
  refine g_istore_n hC ([(1, .int (-4)), (0, .ref this)]) dX11_next_2 (by decide) rfl ?_
  refine g_iconst hC 0 dX11_next_3 (by decide) ?_
  refine g_istore_n hC ([(2, .int 0), (1, .int (-4)), (0, .ref this)]) dX11_next_4 (by decide) rfl ?_
  refine g_iconst hC 0 dX11_next_5 (by decide) ?_
  refine g_istore_n hC ([(3, .int 0), (2, .int 0), (1, .int (-4)), (0, .ref this)]) dX11_next_6 (by decide) rfl ?_
  refine g_iconst hC 0 dX11_next_7 (by decide) ?_
  refine g_istore hC ([(4, .int 0), (3, .int 0), (2, .int 0), (1, .int (-4)), (0, .ref this)]) dX11_next_8 (by decide) rfl ?_
  refine g_sub [4, 3, 2, 1, 0] rfl ?_
  refine l_X11_next_L10 hC hR r M'  _  _ _ _ _ _ _ h

set_option maxHeartbeats 4000000 in
set_option maxRecDepth 100000 in
theorem c_X11_fetch (l : Launch) (Γ : Gm) (this : Nat) (p1 : Int32) (M M' : Mm) (r : Int32) (h : F_X11_fetch this p1 M = some (r, M')) : Met l yX11_fetch (wz yX11_fetch cX11_fetch 4 (some .int)) ({ frames := 2, cells := 0, slots := 0, locals := 42 } : Room) (Pq Γ M [.ref this, .int p1]) (Qi Γ r M') 0 0 (fr Γ) := by
  refine met_of (own := RX11) (by decide +kernel) rfl (Nat.le_of_ble_eq_true rfl) ?_
  intro X hC hR hnm hXl
  unfold F_X11_fetch at h
  show G Γ X 4 M 0 0 _ 0 ([(0, .ref this), (1, .int p1)]) []
  refine g_aload_n hC 0 dX11_fetch_0 rfl ?_
  replace h := ob h; obtain ⟨v1, ev1, h⟩ := h
  refine g_getR hC ev1 fk_X11_12 rfl dX11_fetch_1 ?_
  refine g_iload_n hC 1 dX11_fetch_4 rfl ?_
  replace h := ob h; obtain ⟨a2, ea2, h⟩ := h
  subst ea2
  replace h := ob h; obtain ⟨_, eu4, h⟩ := h
  replace h := ob h; obtain ⟨⟨v5, M3⟩, eM3, h⟩ := h
  refine g_callr hC (r_V hC (As := [.int p1]) (c_X10_gliderAt _ Γ a2 p1 M M3 v5 eM3) yk_X10_gliderAt lk_X11_123 eu4 ⟨_, rfl, rfl⟩ rfl rfl (Nat.le_of_ble_eq_true rfl) hR ⟨(Nat.le_of_ble_eq_true rfl), (Nat.le_of_ble_eq_true rfl)⟩ ⟨(Nat.le_of_ble_eq_true rfl), (Nat.le_of_ble_eq_true rfl)⟩ dX11_fetch_5) ?_
  refine g_astore_nq hC (x := v5) ([(2, va_rf v5), (0, .ref this), (1, .int p1)]) dX11_fetch_8 (by decide) rfl ?_
  refine g_aload_nq hC 0 (x := v5) dX11_fetch_9 rfl ?_
  refine g_ifnonnull hC 15 dX11_fetch_10 (by decide) (fun a6 ca6 => ?_) (fun ca6 => ?_)
  · subst ca6
    replace h := oe_s h
    refine g_aload_n hC 0 dX11_fetch_15 rfl ?_
    replace h := ob h; obtain ⟨v7, ev7, h⟩ := h
    refine g_getI hC ev7 fk_X11_287 rfl dX11_fetch_16 ?_
    refine g_aload_n hC 1 dX11_fetch_19 rfl ?_
    replace h := ob h; obtain ⟨v8, ev8, h⟩ := h
    refine g_getR hC ev8 fk_X11_12 rfl dX11_fetch_20 ?_
    replace h := ob h; obtain ⟨a9, ea9, h⟩ := h
    subst ea9
    replace h := ob h; obtain ⟨v10, ev10, h⟩ := h
    refine g_getI hC ev10 fk_X11_306 rfl dX11_fetch_23 ?_
    replace h := ob h; obtain ⟨⟨v12, M11⟩, eM11, h⟩ := h
    refine g_calli hC (r_S hC (As := [.int v7, .int v10]) (c_X11_stepsBetween _ Γ v7 v10 M3 M11 v12 eM11) yk_X11_stepsBetween lk_X11_316 rfl rfl (Nat.le_of_ble_eq_true rfl) hR ⟨(Nat.le_of_ble_eq_true rfl), (Nat.le_of_ble_eq_true rfl)⟩ ⟨(Nat.le_of_ble_eq_true rfl), (Nat.le_of_ble_eq_true rfl)⟩ dX11_fetch_26) ?_
    refine g_istore_n hC ([(3, .int v12), (2, .ref a6), (0, .ref this), (1, .int p1)]) dX11_fetch_29 (by decide) rfl ?_
    refine g_aload_n hC 1 dX11_fetch_30 rfl ?_
    replace h := ob h; obtain ⟨v13, ev13, h⟩ := h
    refine g_getI hC ev13 fk_X11_152 rfl dX11_fetch_31 ?_
    refine g_if_ne hC 42 dX11_fetch_34 (by decide) (fun c14 => ?_) (fun c14 => ?_)
    · replace h := it_f c14 h
      refine g_bipush hC (-3) dX11_fetch_42 (by decide) ?_
      exact g_iret hC h ⟨(Nat.le_of_ble_eq_true rfl), (Nat.le_of_ble_eq_true rfl)⟩ dX11_fetch_44
    · replace h := it_t c14 h
      refine g_iload_n hC 0 dX11_fetch_37 rfl ?_
      refine g_iconst hC 3 dX11_fetch_38 (by decide) ?_
      refine g_icmp_le hC 45 dX11_fetch_39 (by decide) (fun c15 => ?_) (fun c15 => ?_)
      · replace h := it_t c15 h
        refine g_aload_n hC 1 dX11_fetch_45 rfl ?_
        refine g_iconst hC 1 dX11_fetch_46 (by decide) ?_
        replace h := ob h; obtain ⟨M16, eM16, h⟩ := h
        refine g_putI hC eM16 fk_X11_152 rfl dX11_fetch_47 ?_
        refine g_iload_n hC 0 dX11_fetch_50 rfl ?_
        exact g_iret hC h ⟨(Nat.le_of_ble_eq_true rfl), (Nat.le_of_ble_eq_true rfl)⟩ dX11_fetch_51
      · replace h := it_f c15 h
        refine g_bipush hC (-3) dX11_fetch_42 (by decide) ?_
        exact g_iret hC h ⟨(Nat.le_of_ble_eq_true rfl), (Nat.le_of_ble_eq_true rfl)⟩ dX11_fetch_44
  · subst ca6
    replace h := oe_n h
    refine g_iconst hC (-1) dX11_fetch_13 (by decide) ?_
    exact g_iret hC h ⟨(Nat.le_of_ble_eq_true rfl), (Nat.le_of_ble_eq_true rfl)⟩ dX11_fetch_14

set_option maxHeartbeats 4000000 in
set_option maxRecDepth 100000 in
theorem c_X11_image (l : Launch) (Γ : Gm) (this : Nat) (M M' : Mm) (r : Int32) (h : F_X11_image this M = some (r, M')) : Met l yX11_image (wz yX11_image cX11_image 1 (some .int)) ({ frames := 5, cells := 51, slots := 8009, locals := 111 } : Room) (Pq Γ M [.ref this]) (Qi Γ r M') 51 8009 (fr Γ) := by
  refine met_of (own := RX11) (by decide +kernel) rfl (Nat.le_of_ble_eq_true rfl) ?_
  intro X hC hR hnm hXl
  unfold F_X11_image at h
  show G Γ X 1 M 0 0 _ 0 ([(0, .ref this)]) []
  refine g_aload_n hC 0 dX11_image_0 rfl ?_
  replace h := ob h; obtain ⟨v1, ev1, h⟩ := h
  refine g_getR hC ev1 fk_X11_38 rfl dX11_image_1 ?_
  replace h := jp_e h; obtain ⟨k2, ek2, h⟩ := h
  have J13 : ∀  (M3 : Mm), k2  M3 = some (r, M') → G Γ X 1 M3 33 4301 (Fin Γ X (Qi Γ r M') 51 8009) 18 ([(0, .ref this)]) ([]) := by
    intro  M3 h
    rw [ek2] at h
    refine g_aload_n hC 0 dX11_image_18 rfl ?_
    replace h := ob h; obtain ⟨v4, ev4, h⟩ := h
    refine g_getR hC ev4 fk_X11_38 rfl dX11_image_19 ?_
    refine g_aload_n hC 0 dX11_image_22 rfl ?_
    replace h := ob h; obtain ⟨v5, ev5, h⟩ := h
    refine g_getR hC ev5 fk_X11_12 rfl dX11_image_23 ?_
    replace h := ob h; obtain ⟨a6, ea6, h⟩ := h
    subst ea6
    replace h := ob h; obtain ⟨a7, ea7, h⟩ := h
    subst ea7
    replace h := ob h; obtain ⟨_, eu9, h⟩ := h
    replace h := ob h; obtain ⟨M8, eM8, h⟩ := h
    refine g_callv hC (r_V hC (As := [.ref a6]) (c_X10_become _ Γ a7 a6 M3 M8 eM8) yk_X10_become lk_X11_319 eu9 ⟨_, rfl, rfl⟩ rfl rfl (Nat.le_of_ble_eq_true rfl) hR ⟨(Nat.le_of_ble_eq_true rfl), (Nat.le_of_ble_eq_true rfl)⟩ ⟨(Nat.le_of_ble_eq_true rfl), (Nat.le_of_ble_eq_true rfl)⟩ dX11_image_26) ?_
    refine g_aload_n hC 0 dX11_image_29 rfl ?_
    replace h := ob h; obtain ⟨v10, ev10, h⟩ := h
    refine g_getR hC ev10 fk_X11_12 rfl dX11_image_30 ?_
    replace h := ob h; obtain ⟨a11, ea11, h⟩ := h
    subst ea11
    replace h := ob h; obtain ⟨v12, ev12, h⟩ := h
    refine g_getI hC ev12 fk_X11_199 rfl dX11_image_33 ?_
    exact g_iret hC h ⟨(Nat.le_of_ble_eq_true rfl), (Nat.le_of_ble_eq_true rfl)⟩ dX11_image_36
  refine g_ifnonnull hC 18 dX11_image_4 (by decide) (fun a14 ca14 => ?_) (fun ca14 => ?_)
  · subst ca14
    replace h := oe_s h
    refine g_sub [0] rfl ?_
    refine g_widen (c' := 33) (s' := 4301) (Nat.le_of_ble_eq_true rfl) (Nat.le_of_ble_eq_true rfl) ?_
    exact J13  M h
  · subst ca14
    replace h := oe_n h
    refine g_aload_n hC 0 dX11_image_7 rfl ?_
    replace h := nv_e h; obtain ⟨a15, ea15, h⟩ := h
    replace h := nv_e h; obtain ⟨M16, eM16, h⟩ := h
    refine g_newO2 (n := 11) hC ea15 eM16 cl_10 rfl ck_X11_9.1 ck_X11_9.2.1 ck_X11_9.2.2 nd_10 (by rw [hR]; exact ⟨(Nat.le_of_ble_eq_true rfl), (Nat.le_of_ble_eq_true rfl)⟩) dX11_image_8 ?_
    refine g_dup hC dX11_image_11 rfl ?_
    replace h := ob h; obtain ⟨M17, eM17, h⟩ := h
    refine g_callv hC (r_IN hC (As := []) (c_X10_init _ Γ a15 M16 M17 eM17) yk_X10_init lk_X11_11 rfl rfl (Nat.le_of_ble_eq_true rfl) hR ⟨(Nat.le_of_ble_eq_true rfl), (Nat.le_of_ble_eq_true rfl)⟩ ⟨(Nat.le_of_ble_eq_true rfl), (Nat.le_of_ble_eq_true rfl)⟩ dX11_image_12) ?_
    replace h := ob h; obtain ⟨M18, eM18, h⟩ := h
    refine g_putR (v := (some a15)) hC eM18 fk_X11_38 (Or.inl ⟨_, rfl⟩) rfl dX11_image_15 ?_
    refine g_sub [0] rfl ?_
    exact J13  M18 h

set_option maxHeartbeats 4000000 in
set_option maxRecDepth 100000 in
theorem c_X11_restore (l : Launch) (Γ : Gm) (this : Nat) (M M' : Mm) (r : Int32) (h : F_X11_restore this M = some (r, M')) : Met l yX11_restore (wz yX11_restore cX11_restore 1 (some .int)) ({ frames := 5, cells := 18, slots := 3708, locals := 111 } : Room) (Pq Γ M [.ref this]) (Qi Γ r M') 18 3708 (fr Γ) := by
  refine met_of (own := RX11) (by decide +kernel) rfl (Nat.le_of_ble_eq_true rfl) ?_
  intro X hC hR hnm hXl
  unfold F_X11_restore at h
  show G Γ X 1 M 0 0 _ 0 ([(0, .ref this)]) []
  refine g_aload_n hC 0 dX11_restore_0 rfl ?_
  replace h := ob h; obtain ⟨v1, ev1, h⟩ := h
  refine g_getR hC ev1 fk_X11_38 rfl dX11_restore_1 ?_
  refine g_ifnonnull hC 10 dX11_restore_4 (by decide) (fun a2 ca2 => ?_) (fun ca2 => ?_)
  · subst ca2
    replace h := oe_s h
    refine g_aload_n hC 0 dX11_restore_10 rfl ?_
    replace h := ob h; obtain ⟨v3, ev3, h⟩ := h
    refine g_getR hC ev3 fk_X11_12 rfl dX11_restore_11 ?_
    refine g_aload_n hC 0 dX11_restore_14 rfl ?_
    replace h := ob h; obtain ⟨v4, ev4, h⟩ := h
    refine g_getR hC ev4 fk_X11_38 rfl dX11_restore_15 ?_
    replace h := ob h; obtain ⟨a5, ea5, h⟩ := h
    subst ea5
    replace h := ob h; obtain ⟨a6, ea6, h⟩ := h
    subst ea6
    replace h := ob h; obtain ⟨_, eu8, h⟩ := h
    replace h := ob h; obtain ⟨M7, eM7, h⟩ := h
    refine g_callv hC (r_V hC (As := [.ref a5]) (c_X10_become _ Γ a6 a5 M M7 eM7) yk_X10_become lk_X11_319 eu8 ⟨_, rfl, rfl⟩ rfl rfl (Nat.le_of_ble_eq_true rfl) hR ⟨(Nat.le_of_ble_eq_true rfl), (Nat.le_of_ble_eq_true rfl)⟩ ⟨(Nat.le_of_ble_eq_true rfl), (Nat.le_of_ble_eq_true rfl)⟩ dX11_restore_18) ?_
    refine g_aload_n hC 0 dX11_restore_21 rfl ?_
    replace h := ob h; obtain ⟨v9, ev9, h⟩ := h
    refine g_getR hC ev9 fk_X11_12 rfl dX11_restore_22 ?_
    replace h := ob h; obtain ⟨a10, ea10, h⟩ := h
    subst ea10
    replace h := ob h; obtain ⟨v11, ev11, h⟩ := h
    refine g_getI hC ev11 fk_X11_199 rfl dX11_restore_25 ?_
    exact g_iret hC h ⟨(Nat.le_of_ble_eq_true rfl), (Nat.le_of_ble_eq_true rfl)⟩ dX11_restore_28
  · subst ca2
    replace h := oe_n h
    refine g_bipush hC (-3) dX11_restore_7 (by decide) ?_
    exact g_iret hC h ⟨(Nat.le_of_ble_eq_true rfl), (Nat.le_of_ble_eq_true rfl)⟩ dX11_restore_9

set_option maxHeartbeats 4000000 in
set_option maxRecDepth 100000 in
theorem c_X11_count (l : Launch) (Γ : Gm) (this : Nat) (p1 : Int32) (M M' : Mm) (r : Int32) (h : F_X11_count this p1 M = some (r, M')) : Met l yX11_count (wz yX11_count cX11_count 2 (some .int)) ({ frames := 1, cells := 0, slots := 0, locals := 23 } : Room) (Pq Γ M [.ref this, .int p1]) (Qi Γ r M') 0 0 (fr Γ) := by
  refine met_of (own := RX11) (by decide +kernel) rfl (Nat.le_of_ble_eq_true rfl) ?_
  intro X hC hR hnm hXl
  unfold F_X11_count at h
  show G Γ X 2 M 0 0 _ 0 ([(0, .ref this), (1, .int p1)]) []
  refine g_iload_n hC 1 dX11_count_0 rfl ?_
  by_cases c1 : p1 = 0
  · replace h := it_t c1 h
    refine g_tbl (off := 59) hC 60 c1 dX11_count_1 (by decide) ?_
    refine g_aload_n hC 0 dX11_count_60 rfl ?_
    replace h := ob h; obtain ⟨v2, ev2, h⟩ := h
    refine g_getR hC ev2 fk_X11_12 rfl dX11_count_61 ?_
    replace h := ob h; obtain ⟨a3, ea3, h⟩ := h
    subst ea3
    replace h := ob h; obtain ⟨v4, ev4, h⟩ := h
    refine g_getI hC ev4 fk_X11_112 rfl dX11_count_64 ?_
    exact g_iret hC h ⟨(Nat.le_of_ble_eq_true rfl), (Nat.le_of_ble_eq_true rfl)⟩ dX11_count_67
  replace h := it_f c1 h
  by_cases c5 : p1 = 1
  · replace h := it_t c5 h
    refine g_tbl (off := 67) hC 68 c5 dX11_count_1 (by decide) ?_
    refine g_aload_n hC 0 dX11_count_68 rfl ?_
    replace h := ob h; obtain ⟨v6, ev6, h⟩ := h
    refine g_getR hC ev6 fk_X11_12 rfl dX11_count_69 ?_
    refine g_iconst hC 0 dX11_count_72 (by decide) ?_
    replace h := ob h; obtain ⟨a7, ea7, h⟩ := h
    subst ea7
    replace h := ob h; obtain ⟨_, eu9, h⟩ := h
    replace h := ob h; obtain ⟨⟨v10, M8⟩, eM8, h⟩ := h
    refine g_calli hC (r_V hC (As := [.int 0]) (c_X10_howMany _ Γ a7 0 M M8 v10 eM8) yk_X10_howMany lk_X11_322 eu9 ⟨_, rfl, rfl⟩ rfl rfl (Nat.le_of_ble_eq_true rfl) hR ⟨(Nat.le_of_ble_eq_true rfl), (Nat.le_of_ble_eq_true rfl)⟩ ⟨(Nat.le_of_ble_eq_true rfl), (Nat.le_of_ble_eq_true rfl)⟩ dX11_count_73) ?_
    exact g_iret hC h ⟨(Nat.le_of_ble_eq_true rfl), (Nat.le_of_ble_eq_true rfl)⟩ dX11_count_76
  replace h := it_f c5 h
  by_cases c11 : p1 = 2
  · replace h := it_t c11 h
    refine g_tbl (off := 76) hC 77 c11 dX11_count_1 (by decide) ?_
    refine g_aload_n hC 0 dX11_count_77 rfl ?_
    replace h := ob h; obtain ⟨v12, ev12, h⟩ := h
    refine g_getR hC ev12 fk_X11_12 rfl dX11_count_78 ?_
    refine g_iconst hC 1 dX11_count_81 (by decide) ?_
    replace h := ob h; obtain ⟨a13, ea13, h⟩ := h
    subst ea13
    replace h := ob h; obtain ⟨_, eu15, h⟩ := h
    replace h := ob h; obtain ⟨⟨v16, M14⟩, eM14, h⟩ := h
    refine g_calli hC (r_V hC (As := [.int 1]) (c_X10_howMany _ Γ a13 1 M M14 v16 eM14) yk_X10_howMany lk_X11_322 eu15 ⟨_, rfl, rfl⟩ rfl rfl (Nat.le_of_ble_eq_true rfl) hR ⟨(Nat.le_of_ble_eq_true rfl), (Nat.le_of_ble_eq_true rfl)⟩ ⟨(Nat.le_of_ble_eq_true rfl), (Nat.le_of_ble_eq_true rfl)⟩ dX11_count_82) ?_
    exact g_iret hC h ⟨(Nat.le_of_ble_eq_true rfl), (Nat.le_of_ble_eq_true rfl)⟩ dX11_count_85
  replace h := it_f c11 h
  by_cases c17 : p1 = 3
  · replace h := it_t c17 h
    refine g_tbl (off := 85) hC 86 c17 dX11_count_1 (by decide) ?_
    refine g_aload_n hC 0 dX11_count_86 rfl ?_
    replace h := ob h; obtain ⟨v18, ev18, h⟩ := h
    refine g_getR hC ev18 fk_X11_12 rfl dX11_count_87 ?_
    refine g_iconst hC 2 dX11_count_90 (by decide) ?_
    replace h := ob h; obtain ⟨a19, ea19, h⟩ := h
    subst ea19
    replace h := ob h; obtain ⟨_, eu21, h⟩ := h
    replace h := ob h; obtain ⟨⟨v22, M20⟩, eM20, h⟩ := h
    refine g_calli hC (r_V hC (As := [.int 2]) (c_X10_howMany _ Γ a19 2 M M20 v22 eM20) yk_X10_howMany lk_X11_322 eu21 ⟨_, rfl, rfl⟩ rfl rfl (Nat.le_of_ble_eq_true rfl) hR ⟨(Nat.le_of_ble_eq_true rfl), (Nat.le_of_ble_eq_true rfl)⟩ ⟨(Nat.le_of_ble_eq_true rfl), (Nat.le_of_ble_eq_true rfl)⟩ dX11_count_91) ?_
    exact g_iret hC h ⟨(Nat.le_of_ble_eq_true rfl), (Nat.le_of_ble_eq_true rfl)⟩ dX11_count_94
  replace h := it_f c17 h
  by_cases c23 : p1 = 4
  · replace h := it_t c23 h
    refine g_tbl (off := 94) hC 95 c23 dX11_count_1 (by decide) ?_
    refine g_aload_n hC 0 dX11_count_95 rfl ?_
    replace h := ob h; obtain ⟨v24, ev24, h⟩ := h
    refine g_getR hC ev24 fk_X11_12 rfl dX11_count_96 ?_
    replace h := ob h; obtain ⟨a25, ea25, h⟩ := h
    subst ea25
    replace h := ob h; obtain ⟨v26, ev26, h⟩ := h
    refine g_getI hC ev26 fk_X11_199 rfl dX11_count_99 ?_
    exact g_iret hC h ⟨(Nat.le_of_ble_eq_true rfl), (Nat.le_of_ble_eq_true rfl)⟩ dX11_count_102
  replace h := it_f c23 h
  by_cases c27 : p1 = 5
  · replace h := it_t c27 h
    refine g_tbl (off := 102) hC 103 c27 dX11_count_1 (by decide) ?_
    refine g_aload_n hC 0 dX11_count_103 rfl ?_
    replace h := ob h; obtain ⟨v28, ev28, h⟩ := h
    refine g_getR hC ev28 fk_X11_12 rfl dX11_count_104 ?_
    replace h := ob h; obtain ⟨a29, ea29, h⟩ := h
    subst ea29
    replace h := ob h; obtain ⟨v30, ev30, h⟩ := h
    refine g_getR hC ev30 fk_X11_231 rfl dX11_count_107 ?_
    replace h := ob h; obtain ⟨a31, ea31, h⟩ := h
    subst ea31
    replace h := ob h; obtain ⟨v32, ev32, h⟩ := h
    refine g_getI hC ev32 fk_X11_246 rfl dX11_count_110 ?_
    exact g_iret hC h ⟨(Nat.le_of_ble_eq_true rfl), (Nat.le_of_ble_eq_true rfl)⟩ dX11_count_113
  replace h := it_f c27 h
  by_cases c33 : p1 = 6
  · replace h := it_t c33 h
    refine g_tbl (off := 113) hC 114 c33 dX11_count_1 (by decide) ?_
    refine g_aload_n hC 0 dX11_count_114 rfl ?_
    replace h := ob h; obtain ⟨v34, ev34, h⟩ := h
    refine g_getR hC ev34 fk_X11_12 rfl dX11_count_115 ?_
    replace h := ob h; obtain ⟨a35, ea35, h⟩ := h
    subst ea35
    replace h := ob h; obtain ⟨v36, ev36, h⟩ := h
    refine g_getR hC ev36 fk_X11_190 rfl dX11_count_118 ?_
    replace h := ob h; obtain ⟨a37, ea37, h⟩ := h
    subst ea37
    replace h := ob h; obtain ⟨v38, ev38, h⟩ := h
    refine g_getI hC ev38 fk_X11_194 rfl dX11_count_121 ?_
    exact g_iret hC h ⟨(Nat.le_of_ble_eq_true rfl), (Nat.le_of_ble_eq_true rfl)⟩ dX11_count_124
  replace h := it_f c33 h
  by_cases c39 : p1 = 7
  · replace h := it_t c39 h
    refine g_tbl (off := 124) hC 125 c39 dX11_count_1 (by decide) ?_
    refine g_aload_n hC 0 dX11_count_125 rfl ?_
    replace h := ob h; obtain ⟨v40, ev40, h⟩ := h
    refine g_getR hC ev40 fk_X11_12 rfl dX11_count_126 ?_
    replace h := ob h; obtain ⟨a41, ea41, h⟩ := h
    subst ea41
    replace h := ob h; obtain ⟨v42, ev42, h⟩ := h
    refine g_getI hC ev42 fk_X11_179 rfl dX11_count_129 ?_
    exact g_iret hC h ⟨(Nat.le_of_ble_eq_true rfl), (Nat.le_of_ble_eq_true rfl)⟩ dX11_count_132
  replace h := it_f c39 h
  by_cases c43 : p1 = 8
  · replace h := it_t c43 h
    refine g_tbl (off := 132) hC 133 c43 dX11_count_1 (by decide) ?_
    refine g_aload_n hC 0 dX11_count_133 rfl ?_
    replace h := ob h; obtain ⟨v44, ev44, h⟩ := h
    refine g_getR hC ev44 fk_X11_12 rfl dX11_count_134 ?_
    replace h := ob h; obtain ⟨a45, ea45, h⟩ := h
    subst ea45
    replace h := ob h; obtain ⟨v46, ev46, h⟩ := h
    refine g_getR hC ev46 fk_X11_52 rfl dX11_count_137 ?_
    replace h := ob h; obtain ⟨a47, ea47, h⟩ := h
    subst ea47
    replace h := ob h; obtain ⟨_, eu49, h⟩ := h
    replace h := ob h; obtain ⟨⟨v50, M48⟩, eM48, h⟩ := h
    refine g_calli hC (r_V hC (As := []) (c_X7_allDoubt _ Γ a47 M M48 v50 eM48) yk_X7_allDoubt lk_X11_325 eu49 ⟨_, rfl, rfl⟩ rfl rfl (Nat.le_of_ble_eq_true rfl) hR ⟨(Nat.le_of_ble_eq_true rfl), (Nat.le_of_ble_eq_true rfl)⟩ ⟨(Nat.le_of_ble_eq_true rfl), (Nat.le_of_ble_eq_true rfl)⟩ dX11_count_140) ?_
    exact g_iret hC h ⟨(Nat.le_of_ble_eq_true rfl), (Nat.le_of_ble_eq_true rfl)⟩ dX11_count_143
  replace h := it_f c43 h
  by_cases c51 : p1 = 9
  · replace h := it_t c51 h
    refine g_tbl (off := 143) hC 144 c51 dX11_count_1 (by decide) ?_
    refine g_aload_n hC 0 dX11_count_144 rfl ?_
    replace h := ob h; obtain ⟨v52, ev52, h⟩ := h
    refine g_getR hC ev52 fk_X11_12 rfl dX11_count_145 ?_
    replace h := ob h; obtain ⟨a53, ea53, h⟩ := h
    subst ea53
    replace h := ob h; obtain ⟨v54, ev54, h⟩ := h
    refine g_getR hC ev54 fk_X11_231 rfl dX11_count_148 ?_
    replace h := ob h; obtain ⟨a55, ea55, h⟩ := h
    subst ea55
    replace h := ob h; obtain ⟨v56, ev56, h⟩ := h
    refine g_getI hC ev56 fk_X11_235 rfl dX11_count_151 ?_
    exact g_iret hC h ⟨(Nat.le_of_ble_eq_true rfl), (Nat.le_of_ble_eq_true rfl)⟩ dX11_count_154
  replace h := it_f c51 h
  by_cases c57 : p1 = 10
  · replace h := it_t c57 h
    refine g_tbl (off := 154) hC 155 c57 dX11_count_1 (by decide) ?_
    refine g_aload_n hC 0 dX11_count_155 rfl ?_
    replace h := ob h; obtain ⟨v58, ev58, h⟩ := h
    refine g_getR hC ev58 fk_X11_12 rfl dX11_count_156 ?_
    replace h := ob h; obtain ⟨a59, ea59, h⟩ := h
    subst ea59
    replace h := ob h; obtain ⟨_, eu61, h⟩ := h
    replace h := ob h; obtain ⟨⟨v62, M60⟩, eM60, h⟩ := h
    refine g_calli hC (r_V hC (As := []) (c_X10_allPower _ Γ a59 M M60 v62 eM60) yk_X10_allPower lk_X11_328 eu61 ⟨_, rfl, rfl⟩ rfl rfl (Nat.le_of_ble_eq_true rfl) hR ⟨(Nat.le_of_ble_eq_true rfl), (Nat.le_of_ble_eq_true rfl)⟩ ⟨(Nat.le_of_ble_eq_true rfl), (Nat.le_of_ble_eq_true rfl)⟩ dX11_count_159) ?_
    exact g_iret hC h ⟨(Nat.le_of_ble_eq_true rfl), (Nat.le_of_ble_eq_true rfl)⟩ dX11_count_162
  replace h := it_f c57 h
  refine g_tbd (n := 11) hC 163 (fun j hj => ?_) (by decide) dX11_count_1 (by decide) ?_
  · match j, hj with
    | 0, _ => exact c1
    | 1, _ => exact c5
    | 2, _ => exact c11
    | 3, _ => exact c17
    | 4, _ => exact c23
    | 5, _ => exact c27
    | 6, _ => exact c33
    | 7, _ => exact c39
    | 8, _ => exact c43
    | 9, _ => exact c51
    | 10, _ => exact c57
    | j + 11, hj => exact absurd hj (by omega)
  refine g_iconst hC (-1) dX11_count_163 (by decide) ?_
  exact g_iret hC h ⟨(Nat.le_of_ble_eq_true rfl), (Nat.le_of_ble_eq_true rfl)⟩ dX11_count_164

set_option maxHeartbeats 4000000 in
set_option maxRecDepth 100000 in
theorem c_X11_keep (l : Launch) (Γ : Gm) (this : Nat) (p1 : Int32) (p2 : Int32) (p3 : Int32) (M M' : Mm) (r : Int32) (h : F_X11_keep this p1 p2 p3 M = some (r, M')) : Met l yX11_keep (wz yX11_keep cX11_keep 6 (some .int)) ({ frames := 1, cells := 0, slots := 0, locals := 21 } : Room) (Pq Γ M [.ref this, .int p1, .int p2, .int p3]) (Qi Γ r M') 0 0 (fr Γ) := by
  refine met_of (own := RX11) (by decide +kernel) rfl (Nat.le_of_ble_eq_true rfl) ?_
  intro X hC hR hnm hXl
  unfold F_X11_keep at h
  show G Γ X 6 M 0 0 _ 0 ([(0, .ref this), (1, .int p1), (2, .int p2), (3, .int p3)]) []
  refine g_aload_n hC 0 dX11_keep_0 rfl ?_
  refine g_iload_n hC 1 dX11_keep_1 rfl ?_
  replace h := ob h; obtain ⟨_, eu2, h⟩ := h
  replace h := ob h; obtain ⟨⟨v3, M1⟩, eM1, h⟩ := h
  refine g_callr hC (r_V hC (As := [.int p1]) (c_X11_shelfAt _ Γ this p1 M M1 v3 eM1) yk_X11_shelfAt lk_X11_162 eu2 ⟨_, rfl, rfl⟩ rfl rfl (Nat.le_of_ble_eq_true rfl) hR ⟨(Nat.le_of_ble_eq_true rfl), (Nat.le_of_ble_eq_true rfl)⟩ ⟨(Nat.le_of_ble_eq_true rfl), (Nat.le_of_ble_eq_true rfl)⟩ dX11_keep_2) ?_
  refine g_astoreq hC (x := v3) ([(4, va_rf v3), (0, .ref this), (1, .int p1), (2, .int p2), (3, .int p3)]) dX11_keep_5 (by decide) rfl ?_
  refine g_aloadq hC 0 (x := v3) dX11_keep_7 rfl ?_
  refine g_ifnull hC 21 dX11_keep_9 (by decide) (fun ca4 => ?_) (fun a4 ca4 => ?_)
  · subst ca4
    replace h := oe_n h
    refine g_iconst hC (-1) dX11_keep_21 (by decide) ?_
    exact g_iret hC h ⟨(Nat.le_of_ble_eq_true rfl), (Nat.le_of_ble_eq_true rfl)⟩ dX11_keep_22
  · subst ca4
    replace h := oe_s h
    refine g_iload_n hC 3 dX11_keep_12 rfl ?_
    refine g_if_lt hC 21 dX11_keep_13 (by decide) (fun c5 => ?_) (fun c5 => ?_)
    · replace h := it_t c5 h
      refine g_iconst hC (-1) dX11_keep_21 (by decide) ?_
      exact g_iret hC h ⟨(Nat.le_of_ble_eq_true rfl), (Nat.le_of_ble_eq_true rfl)⟩ dX11_keep_22
    · replace h := it_f c5 h
      refine g_iload_n hC 3 dX11_keep_16 rfl ?_
      refine g_iconst hC 1 dX11_keep_17 (by decide) ?_
      refine g_icmp_le hC 23 dX11_keep_18 (by decide) (fun c6 => ?_) (fun c6 => ?_)
      · replace h := it_t c6 h
        refine g_iload_n hC 3 dX11_keep_23 rfl ?_
        refine g_if_ne hC 35 dX11_keep_24 (by decide) (fun c7 => ?_) (fun c7 => ?_)
        · replace h := it_f c7 h
          refine g_aload_n hC 1 dX11_keep_35 rfl ?_
          replace h := ob h; obtain ⟨v8, ev8, h⟩ := h
          refine g_getR hC ev8 fk_X11_12 rfl dX11_keep_36 ?_
          refine g_iload_n hC 4 dX11_keep_39 rfl ?_
          replace h := ob h; obtain ⟨a9, ea9, h⟩ := h
          subst ea9
          replace h := ob h; obtain ⟨_, eu11, h⟩ := h
          replace h := ob h; obtain ⟨⟨v12, M10⟩, eM10, h⟩ := h
          refine g_callr hC (r_V hC (As := [.int p3]) (c_X10_gliderAt _ Γ a9 p3 M1 M10 v12 eM10) yk_X10_gliderAt lk_X11_123 eu11 ⟨_, rfl, rfl⟩ rfl rfl (Nat.le_of_ble_eq_true rfl) hR ⟨(Nat.le_of_ble_eq_true rfl), (Nat.le_of_ble_eq_true rfl)⟩ ⟨(Nat.le_of_ble_eq_true rfl), (Nat.le_of_ble_eq_true rfl)⟩ dX11_keep_40) ?_
          refine g_astoreq hC (x := v12) ([(5, va_rf v12), (4, .ref a4), (0, .ref this), (1, .int p1), (2, .int p2), (3, .int p3)]) dX11_keep_43 (by decide) rfl ?_
          refine g_aloadq hC 0 (x := v12) dX11_keep_45 rfl ?_
          refine g_ifnonnull hC 52 dX11_keep_47 (by decide) (fun a13 ca13 => ?_) (fun ca13 => ?_)
          · subst ca13
            replace h := oe_s h
            refine g_aload hC 1 dX11_keep_52 rfl ?_
            refine g_aload hC 0 dX11_keep_54 rfl ?_
            replace h := ob h; obtain ⟨_, eu15, h⟩ := h
            replace h := ob h; obtain ⟨M14, eM14, h⟩ := h
            refine g_callv hC (r_V hC (As := [.ref a13]) (c_X8_holdGlider _ Γ a4 a13 M10 M14 eM14) yk_X8_holdGlider lk_X11_334 eu15 ⟨_, rfl, rfl⟩ rfl rfl (Nat.le_of_ble_eq_true rfl) hR ⟨(Nat.le_of_ble_eq_true rfl), (Nat.le_of_ble_eq_true rfl)⟩ ⟨(Nat.le_of_ble_eq_true rfl), (Nat.le_of_ble_eq_true rfl)⟩ dX11_keep_56) ?_
            refine g_iconst hC 0 dX11_keep_59 (by decide) ?_
            exact g_iret hC h ⟨(Nat.le_of_ble_eq_true rfl), (Nat.le_of_ble_eq_true rfl)⟩ dX11_keep_60
          · subst ca13
            replace h := oe_n h
            refine g_iconst hC (-1) dX11_keep_50 (by decide) ?_
            exact g_iret hC h ⟨(Nat.le_of_ble_eq_true rfl), (Nat.le_of_ble_eq_true rfl)⟩ dX11_keep_51
        · replace h := it_t c7 h
          refine g_aload hC 0 dX11_keep_27 rfl ?_
          refine g_iconst hC 0 dX11_keep_29 (by decide) ?_
          replace h := ob h; obtain ⟨M16, eM16, h⟩ := h
          refine g_putI hC eM16 fk_X11_331 rfl dX11_keep_30 ?_
          refine g_iconst hC 0 dX11_keep_33 (by decide) ?_
          exact g_iret hC h ⟨(Nat.le_of_ble_eq_true rfl), (Nat.le_of_ble_eq_true rfl)⟩ dX11_keep_34
      · replace h := it_f c6 h
        refine g_iconst hC (-1) dX11_keep_21 (by decide) ?_
        exact g_iret hC h ⟨(Nat.le_of_ble_eq_true rfl), (Nat.le_of_ble_eq_true rfl)⟩ dX11_keep_22

set_option maxHeartbeats 4000000 in
set_option maxRecDepth 100000 in
theorem c_X11_row (l : Launch) (Γ : Gm) (this : Nat) (p1 : Int32) (p2 : Int32) (p3 : Int32) (M M' : Mm) (r : Int32) (h : F_X11_row this p1 p2 p3 M = some (r, M')) : Met l yX11_row (wz yX11_row cX11_row 5 (some .int)) ({ frames := 2, cells := 0, slots := 0, locals := 45 } : Room) (Pq Γ M [.ref this, .int p1, .int p2, .int p3]) (Qi Γ r M') 0 0 (fr Γ) := by
  refine met_of (own := RX11) (by decide +kernel) rfl (Nat.le_of_ble_eq_true rfl) ?_
  intro X hC hR hnm hXl
  unfold F_X11_row at h
  show G Γ X 5 M 0 0 _ 0 ([(0, .ref this), (1, .int p1), (2, .int p2), (3, .int p3)]) []
  refine g_aload_n hC 0 dX11_row_0 rfl ?_
  refine g_iload_n hC 1 dX11_row_1 rfl ?_
  replace h := ob h; obtain ⟨_, eu2, h⟩ := h
  replace h := ob h; obtain ⟨⟨v3, M1⟩, eM1, h⟩ := h
  refine g_callr hC (r_V hC (As := [.int p1]) (c_X11_shelfAt _ Γ this p1 M M1 v3 eM1) yk_X11_shelfAt lk_X11_162 eu2 ⟨_, rfl, rfl⟩ rfl rfl (Nat.le_of_ble_eq_true rfl) hR ⟨(Nat.le_of_ble_eq_true rfl), (Nat.le_of_ble_eq_true rfl)⟩ ⟨(Nat.le_of_ble_eq_true rfl), (Nat.le_of_ble_eq_true rfl)⟩ dX11_row_2) ?_
  refine g_astoreq hC (x := v3) ([(4, va_rf v3), (0, .ref this), (1, .int p1), (2, .int p2), (3, .int p3)]) dX11_row_5 (by decide) rfl ?_
  refine g_aloadq hC 0 (x := v3) dX11_row_7 rfl ?_
  refine g_ifnull hC 27 dX11_row_9 (by decide) (fun ca4 => ?_) (fun a4 ca4 => ?_)
  · subst ca4
    replace h := oe_n h
    refine g_iconst hC (-1) dX11_row_27 (by decide) ?_
    exact g_iret hC h ⟨(Nat.le_of_ble_eq_true rfl), (Nat.le_of_ble_eq_true rfl)⟩ dX11_row_28
  · subst ca4
    replace h := oe_s h
    refine g_iload_n hC 3 dX11_row_12 rfl ?_
    refine g_if_lt hC 27 dX11_row_13 (by decide) (fun c5 => ?_) (fun c5 => ?_)
    · replace h := it_t c5 h
      refine g_iconst hC (-1) dX11_row_27 (by decide) ?_
      exact g_iret hC h ⟨(Nat.le_of_ble_eq_true rfl), (Nat.le_of_ble_eq_true rfl)⟩ dX11_row_28
    · replace h := it_f c5 h
      refine g_iload_n hC 3 dX11_row_16 rfl ?_
      refine g_iconst hC 2 dX11_row_17 (by decide) ?_
      refine g_icmp_gt hC 27 dX11_row_18 (by decide) (fun c6 => ?_) (fun c6 => ?_)
      · replace h := it_t c6 h
        refine g_iconst hC (-1) dX11_row_27 (by decide) ?_
        exact g_iret hC h ⟨(Nat.le_of_ble_eq_true rfl), (Nat.le_of_ble_eq_true rfl)⟩ dX11_row_28
      · replace h := it_f c6 h
        refine g_iload_n hC 4 dX11_row_21 rfl ?_
        refine g_bipush hC 80 dX11_row_22 (by decide) ?_
        refine g_icmp_le hC 29 dX11_row_24 (by decide) (fun c7 => ?_) (fun c7 => ?_)
        · replace h := it_t c7 h
          refine g_iload_n hC 4 dX11_row_29 rfl ?_
          refine g_if_ge hC 36 dX11_row_30 (by decide) (fun c8 => ?_) (fun c8 => ?_)
          · replace h := it_t c8 h
            refine g_aload hC 0 dX11_row_36 rfl ?_
            refine g_iload_n hC 3 dX11_row_38 rfl ?_
            refine g_iload_n hC 4 dX11_row_39 rfl ?_
            replace h := ob h; obtain ⟨_, eu10, h⟩ := h
            replace h := ob h; obtain ⟨M9, eM9, h⟩ := h
            refine g_callv hC (r_V hC (As := [.int p2, .int p3]) (c_X8_holdRow _ Γ a4 p2 p3 M1 M9 eM9) yk_X8_holdRow lk_X11_338 eu10 ⟨_, rfl, rfl⟩ rfl rfl (Nat.le_of_ble_eq_true rfl) hR ⟨(Nat.le_of_ble_eq_true rfl), (Nat.le_of_ble_eq_true rfl)⟩ ⟨(Nat.le_of_ble_eq_true rfl), (Nat.le_of_ble_eq_true rfl)⟩ dX11_row_40) ?_
            refine g_iconst hC 0 dX11_row_43 (by decide) ?_
            exact g_iret hC h ⟨(Nat.le_of_ble_eq_true rfl), (Nat.le_of_ble_eq_true rfl)⟩ dX11_row_44
          · replace h := it_f c8 h
            refine g_bipush hC (-14) dX11_row_33 (by decide) ?_
            exact g_iret hC h ⟨(Nat.le_of_ble_eq_true rfl), (Nat.le_of_ble_eq_true rfl)⟩ dX11_row_35
        · replace h := it_f c7 h
          refine g_iconst hC (-1) dX11_row_27 (by decide) ?_
          exact g_iret hC h ⟨(Nat.le_of_ble_eq_true rfl), (Nat.le_of_ble_eq_true rfl)⟩ dX11_row_28

set_option maxHeartbeats 4000000 in
set_option maxRecDepth 100000 in
theorem c_X11_lowestBits (l : Launch) (Γ : Gm) (p1 : Int32) (p2 : Int32) (M M' : Mm) (r : Int32) (h : F_X11_lowestBits p1 p2 M = some (r, M')) : Met l yX11_lowestBits (wz yX11_lowestBits cX11_lowestBits 2 (some .int)) ({ frames := 0, cells := 0, slots := 0, locals := 0 } : Room) (Pq Γ M [.int p1, .int p2]) (Qi Γ r M') 0 0 (fr Γ) := by
  refine met_of (own := RX11) (by decide +kernel) rfl (Nat.le_of_ble_eq_true rfl) ?_
  intro X hC hR hnm hXl
  unfold F_X11_lowestBits at h
  show G Γ X 2 M 0 0 _ 0 ([(0, .int p1), (1, .int p2)]) []
  refine g_iload_n hC 0 dX11_lowestBits_0 rfl ?_
  refine g_if_ne hC 7 dX11_lowestBits_1 (by decide) (fun c1 => ?_) (fun c1 => ?_)
  · replace h := it_f c1 h
    refine g_iload_n hC 0 dX11_lowestBits_7 rfl ?_
    refine g_iconst hC 1 dX11_lowestBits_8 (by decide) ?_
    refine g_icmp_ne hC 17 dX11_lowestBits_9 (by decide) (fun c2 => ?_) (fun c2 => ?_)
    · replace h := it_f c2 h
      refine g_iload_n hC 1 dX11_lowestBits_17 rfl ?_
      exact g_iret hC h ⟨(Nat.le_of_ble_eq_true rfl), (Nat.le_of_ble_eq_true rfl)⟩ dX11_lowestBits_18
    · replace h := it_t c2 h
      refine g_iload_n hC 1 dX11_lowestBits_12 rfl ?_
      refine g_i2s hC dX11_lowestBits_13 ?_
      refine g_goto hC 18 dX11_lowestBits_14 (by decide) ?_
      exact g_iret hC h ⟨(Nat.le_of_ble_eq_true rfl), (Nat.le_of_ble_eq_true rfl)⟩ dX11_lowestBits_18
  · replace h := it_t c1 h
    refine g_iload_n hC 1 dX11_lowestBits_4 rfl ?_
    refine g_i2b hC dX11_lowestBits_5 ?_
    exact g_iret hC h ⟨(Nat.le_of_ble_eq_true rfl), (Nat.le_of_ble_eq_true rfl)⟩ dX11_lowestBits_6

set_option maxHeartbeats 4000000 in
set_option maxRecDepth 100000 in
theorem c_X11_put (l : Launch) (Γ : Gm) (this : Nat) (p1 : Int32) (p2 : Int32) (p3 : Int32) (M M' : Mm) (r : Int32) (h : F_X11_put this p1 p2 p3 M = some (r, M')) : Met l yX11_put (wz yX11_put cX11_put 5 (some .int)) ({ frames := 1, cells := 0, slots := 0, locals := 21 } : Room) (Pq Γ M [.ref this, .int p1, .int p2, .int p3]) (Qi Γ r M') 0 0 (fr Γ) := by
  refine met_of (own := RX11) (by decide +kernel) rfl (Nat.le_of_ble_eq_true rfl) ?_
  intro X hC hR hnm hXl
  unfold F_X11_put at h
  show G Γ X 5 M 0 0 _ 0 ([(0, .ref this), (1, .int p1), (2, .int p2), (3, .int p3)]) []
  refine g_aload_n hC 0 dX11_put_0 rfl ?_
  refine g_iload_n hC 1 dX11_put_1 rfl ?_
  replace h := ob h; obtain ⟨_, eu2, h⟩ := h
  replace h := ob h; obtain ⟨⟨v3, M1⟩, eM1, h⟩ := h
  refine g_callr hC (r_V hC (As := [.int p1]) (c_X11_shelfAt _ Γ this p1 M M1 v3 eM1) yk_X11_shelfAt lk_X11_162 eu2 ⟨_, rfl, rfl⟩ rfl rfl (Nat.le_of_ble_eq_true rfl) hR ⟨(Nat.le_of_ble_eq_true rfl), (Nat.le_of_ble_eq_true rfl)⟩ ⟨(Nat.le_of_ble_eq_true rfl), (Nat.le_of_ble_eq_true rfl)⟩ dX11_put_2) ?_
  refine g_astoreq hC (x := v3) ([(4, va_rf v3), (0, .ref this), (1, .int p1), (2, .int p2), (3, .int p3)]) dX11_put_5 (by decide) rfl ?_
  refine g_aloadq hC 0 (x := v3) dX11_put_7 rfl ?_
  refine g_ifnonnull hC 14 dX11_put_9 (by decide) (fun a4 ca4 => ?_) (fun ca4 => ?_)
  · subst ca4
    replace h := oe_s h
    refine g_aload hC 0 dX11_put_14 rfl ?_
    replace h := ob h; obtain ⟨v5, ev5, h⟩ := h
    refine g_getI hC ev5 fk_X11_331 rfl dX11_put_16 ?_
    refine g_iconst hC 2 dX11_put_19 (by decide) ?_
    refine g_icmp_eq hC 39 dX11_put_20 (by decide) (fun c6 => ?_) (fun c6 => ?_)
    · replace h := it_t c6 h
      refine g_iload_n hC 3 dX11_put_39 rfl ?_
      refine g_if_lt hC 52 dX11_put_40 (by decide) (fun c7 => ?_) (fun c7 => ?_)
      · replace h := it_t c7 h
        refine g_bipush hC (-13) dX11_put_52 (by decide) ?_
        exact g_iret hC h ⟨(Nat.le_of_ble_eq_true rfl), (Nat.le_of_ble_eq_true rfl)⟩ dX11_put_54
      · replace h := it_f c7 h
        refine g_iload_n hC 3 dX11_put_43 rfl ?_
        refine g_aload hC 0 dX11_put_44 rfl ?_
        replace h := ob h; obtain ⟨v8, ev8, h⟩ := h
        refine g_getI hC ev8 fk_X11_172 rfl dX11_put_46 ?_
        refine g_icmp_lt hC 55 dX11_put_49 (by decide) (fun c9 => ?_) (fun c9 => ?_)
        · replace h := it_t c9 h
          refine g_aload hC 0 dX11_put_55 rfl ?_
          replace h := ob h; obtain ⟨v10, ev10, h⟩ := h
          refine g_getR hC ev10 fk_X11_169 rfl dX11_put_57 ?_
          refine g_iload_n hC 3 dX11_put_60 rfl ?_
          refine g_aload hC 0 dX11_put_61 rfl ?_
          replace h := ob h; obtain ⟨v11, ev11, h⟩ := h
          refine g_getI hC ev11 fk_X11_342 rfl dX11_put_63 ?_
          refine g_iload_n hC 4 dX11_put_66 rfl ?_
          replace h := ob h; obtain ⟨⟨v13, M12⟩, eM12, h⟩ := h
          refine g_calli hC (r_S hC (As := [.int v11, .int p3]) (c_X11_lowestBits _ Γ v11 p3 M1 M12 v13 eM12) yk_X11_lowestBits lk_X11_345 rfl rfl (by simp only [List.map, cat_rf]; exact Nat.le_of_ble_eq_true rfl) hR ⟨(Nat.le_of_ble_eq_true rfl), (Nat.le_of_ble_eq_true rfl)⟩ ⟨(Nat.le_of_ble_eq_true rfl), (Nat.le_of_ble_eq_true rfl)⟩ dX11_put_67) ?_
          replace h := ob h; obtain ⟨a15, ea15, h⟩ := h
          subst ea15
          replace h := ob h; obtain ⟨M14, eM14, h⟩ := h
          refine g_iast hC eM14 dX11_put_70 ?_
          refine g_iconst hC 0 dX11_put_71 (by decide) ?_
          exact g_iret hC h ⟨(Nat.le_of_ble_eq_true rfl), (Nat.le_of_ble_eq_true rfl)⟩ dX11_put_72
        · replace h := it_f c9 h
          refine g_bipush hC (-13) dX11_put_52 (by decide) ?_
          exact g_iret hC h ⟨(Nat.le_of_ble_eq_true rfl), (Nat.le_of_ble_eq_true rfl)⟩ dX11_put_54
    · replace h := it_f c6 h
      refine g_aload hC 0 dX11_put_23 rfl ?_
      replace h := ob h; obtain ⟨v16, ev16, h⟩ := h
      refine g_getI hC ev16 fk_X11_331 rfl dX11_put_25 ?_
      refine g_if_ne hC 36 dX11_put_28 (by decide) (fun c17 => ?_) (fun c17 => ?_)
      · replace h := it_f c17 h
        refine g_bipush hC (-12) dX11_put_36 (by decide) ?_
        exact g_iret hC h ⟨(Nat.le_of_ble_eq_true rfl), (Nat.le_of_ble_eq_true rfl)⟩ dX11_put_38
      · replace h := it_t c17 h
        refine g_bipush hC (-11) dX11_put_31 (by decide) ?_
        refine g_goto hC 38 dX11_put_33 (by decide) ?_
        exact g_iret hC h ⟨(Nat.le_of_ble_eq_true rfl), (Nat.le_of_ble_eq_true rfl)⟩ dX11_put_38
  · subst ca4
    replace h := oe_n h
    refine g_iconst hC (-1) dX11_put_12 (by decide) ?_
    exact g_iret hC h ⟨(Nat.le_of_ble_eq_true rfl), (Nat.le_of_ble_eq_true rfl)⟩ dX11_put_13

set_option maxHeartbeats 4000000 in
set_option maxRecDepth 100000 in
theorem c_X11_isStretch (l : Launch) (Γ : Gm) (p1 : Int32) (p2 : Int32) (p3 : Int32) (M M' : Mm) (r : Int32) (h : F_X11_isStretch p1 p2 p3 M = some (r, M')) : Met l yX11_isStretch (wz yX11_isStretch cX11_isStretch 3 (some .boolean)) ({ frames := 0, cells := 0, slots := 0, locals := 0 } : Room) (Pq Γ M [.int p1, .int p2, .int p3]) (Qi Γ r M') 0 0 (fr Γ) := by
  refine met_of (own := RX11) (by decide +kernel) rfl (Nat.le_of_ble_eq_true rfl) ?_
  intro X hC hR hnm hXl
  unfold F_X11_isStretch at h
  show G Γ X 3 M 0 0 _ 0 ([(0, .int p1), (1, .int p2), (2, .int p3)]) []
  refine g_iload_n hC 0 dX11_isStretch_0 rfl ?_
  refine g_if_lt hC 24 dX11_isStretch_1 (by decide) (fun c1 => ?_) (fun c1 => ?_)
  · replace h := it_t c1 h
    refine g_iconst hC 0 dX11_isStretch_24 (by decide) ?_
    exact g_zret hC (by decide) h ⟨(Nat.le_of_ble_eq_true rfl), (Nat.le_of_ble_eq_true rfl)⟩ dX11_isStretch_25
  · replace h := it_f c1 h
    refine g_iload_n hC 1 dX11_isStretch_4 rfl ?_
    refine g_if_lt hC 24 dX11_isStretch_5 (by decide) (fun c2 => ?_) (fun c2 => ?_)
    · replace h := it_t c2 h
      refine g_iconst hC 0 dX11_isStretch_24 (by decide) ?_
      exact g_zret hC (by decide) h ⟨(Nat.le_of_ble_eq_true rfl), (Nat.le_of_ble_eq_true rfl)⟩ dX11_isStretch_25
    · replace h := it_f c2 h
      refine g_iload_n hC 0 dX11_isStretch_8 rfl ?_
      refine g_iload_n hC 2 dX11_isStretch_9 rfl ?_
      refine g_icmp_gt hC 24 dX11_isStretch_10 (by decide) (fun c3 => ?_) (fun c3 => ?_)
      · replace h := it_t c3 h
        refine g_iconst hC 0 dX11_isStretch_24 (by decide) ?_
        exact g_zret hC (by decide) h ⟨(Nat.le_of_ble_eq_true rfl), (Nat.le_of_ble_eq_true rfl)⟩ dX11_isStretch_25
      · replace h := it_f c3 h
        refine g_iload_n hC 1 dX11_isStretch_13 rfl ?_
        refine g_iload_n hC 2 dX11_isStretch_14 rfl ?_
        refine g_iload_n hC 0 dX11_isStretch_15 rfl ?_
        refine g_isub hC dX11_isStretch_16 ?_
        refine g_icmp_gt hC 24 dX11_isStretch_17 (by decide) (fun c4 => ?_) (fun c4 => ?_)
        · replace h := it_t c4 h
          refine g_iconst hC 0 dX11_isStretch_24 (by decide) ?_
          exact g_zret hC (by decide) h ⟨(Nat.le_of_ble_eq_true rfl), (Nat.le_of_ble_eq_true rfl)⟩ dX11_isStretch_25
        · replace h := it_f c4 h
          refine g_iconst hC 1 dX11_isStretch_20 (by decide) ?_
          refine g_goto hC 25 dX11_isStretch_21 (by decide) ?_
          exact g_zret hC (by decide) h ⟨(Nat.le_of_ble_eq_true rfl), (Nat.le_of_ble_eq_true rfl)⟩ dX11_isStretch_25

set_option maxHeartbeats 4000000 in
set_option maxRecDepth 100000 in
theorem c_X11_copy (l : Launch) (Γ : Gm) (this : Nat) (p1 : Int32) (p2 : Int32) (p3 : Int32) (p4 : Int32) (p5 : Int32) (M M' : Mm) (r : Int32) (h : F_X11_copy this p1 p2 p3 p4 p5 M = some (r, M')) : Met l yX11_copy (wz yX11_copy cX11_copy 8 (some .int)) ({ frames := 1, cells := 0, slots := 0, locals := 26 } : Room) (Pq Γ M [.ref this, .int p1, .int p2, .int p3, .int p4, .int p5]) (Qi Γ r M') 0 0 (fr Γ) := by
  refine met_of (own := RX11) (by decide +kernel) rfl (Nat.le_of_ble_eq_true rfl) ?_
  intro X hC hR hnm hXl
  unfold F_X11_copy at h
  show G Γ X 8 M 0 0 _ 0 ([(0, .ref this), (1, .int p1), (2, .int p2), (3, .int p3), (4, .int p4), (5, .int p5)]) []
  refine g_aload_n hC 0 dX11_copy_0 rfl ?_
  refine g_iload_n hC 1 dX11_copy_1 rfl ?_
  replace h := ob h; obtain ⟨_, eu2, h⟩ := h
  replace h := ob h; obtain ⟨⟨v3, M1⟩, eM1, h⟩ := h
  refine g_callr hC (r_V hC (As := [.int p1]) (c_X11_shelfAt _ Γ this p1 M M1 v3 eM1) yk_X11_shelfAt lk_X11_162 eu2 ⟨_, rfl, rfl⟩ rfl rfl (Nat.le_of_ble_eq_true rfl) hR ⟨(Nat.le_of_ble_eq_true rfl), (Nat.le_of_ble_eq_true rfl)⟩ ⟨(Nat.le_of_ble_eq_true rfl), (Nat.le_of_ble_eq_true rfl)⟩ dX11_copy_2) ?_
  refine g_astoreq hC (x := v3) ([(6, va_rf v3), (0, .ref this), (1, .int p1), (2, .int p2), (3, .int p3), (4, .int p4), (5, .int p5)]) dX11_copy_5 (by decide) rfl ?_
  refine g_aload_n hC 1 dX11_copy_7 rfl ?_
  refine g_iload_n hC 4 dX11_copy_8 rfl ?_
  replace h := ob h; obtain ⟨_, eu5, h⟩ := h
  replace h := ob h; obtain ⟨⟨v6, M4⟩, eM4, h⟩ := h
  refine g_callr hC (r_V hC (As := [.int p3]) (c_X11_shelfAt _ Γ this p3 M1 M4 v6 eM4) yk_X11_shelfAt lk_X11_162 eu5 ⟨_, rfl, rfl⟩ rfl rfl (Nat.le_of_ble_eq_true rfl) hR ⟨(Nat.le_of_ble_eq_true rfl), (Nat.le_of_ble_eq_true rfl)⟩ ⟨(Nat.le_of_ble_eq_true rfl), (Nat.le_of_ble_eq_true rfl)⟩ dX11_copy_9) ?_
  refine g_astoreq hC (x := v6) ([(7, va_rf v6), (6, va_rf v3), (0, .ref this), (1, .int p1), (2, .int p2), (3, .int p3), (4, .int p4), (5, .int p5)]) dX11_copy_12 (by decide) (by simp [cat_rf]) ?_
  refine g_aloadq hC 1 (x := v3) dX11_copy_14 rfl ?_
  refine g_ifnull hC 24 dX11_copy_16 (by decide) (fun ca7 => ?_) (fun a7 ca7 => ?_)
  · subst ca7
    replace h := oe_n h
    refine g_iconst hC (-1) dX11_copy_24 (by decide) ?_
    exact g_iret hC h ⟨(Nat.le_of_ble_eq_true rfl), (Nat.le_of_ble_eq_true rfl)⟩ dX11_copy_25
  · subst ca7
    replace h := oe_s h
    refine g_aloadq hC 0 (x := v6) dX11_copy_19 rfl ?_
    refine g_ifnonnull hC 26 dX11_copy_21 (by decide) (fun a8 ca8 => ?_) (fun ca8 => ?_)
    · subst ca8
      replace h := oe_s h
      refine g_aload hC 1 dX11_copy_26 rfl ?_
      replace h := ob h; obtain ⟨v9, ev9, h⟩ := h
      refine g_getI hC ev9 fk_X11_331 rfl dX11_copy_28 ?_
      refine g_if_eq hC 42 dX11_copy_31 (by decide) (fun c10 => ?_) (fun c10 => ?_)
      · replace h := it_t c10 h
        refine g_bipush hC (-11) dX11_copy_42 (by decide) ?_
        exact g_iret hC h ⟨(Nat.le_of_ble_eq_true rfl), (Nat.le_of_ble_eq_true rfl)⟩ dX11_copy_44
      · replace h := it_f c10 h
        refine g_aload hC 0 dX11_copy_34 rfl ?_
        replace h := ob h; obtain ⟨v11, ev11, h⟩ := h
        refine g_getI hC ev11 fk_X11_331 rfl dX11_copy_36 ?_
        refine g_if_ne hC 45 dX11_copy_39 (by decide) (fun c12 => ?_) (fun c12 => ?_)
        · replace h := it_f c12 h
          refine g_aload hC 1 dX11_copy_45 rfl ?_
          replace h := ob h; obtain ⟨v13, ev13, h⟩ := h
          refine g_getI hC ev13 fk_X11_331 rfl dX11_copy_47 ?_
          refine g_iconst hC 2 dX11_copy_50 (by decide) ?_
          refine g_icmp_ne hC 76 dX11_copy_51 (by decide) (fun c14 => ?_) (fun c14 => ?_)
          · replace h := it_f c14 h
            refine g_bipush hC (-12) dX11_copy_76 (by decide) ?_
            exact g_iret hC h ⟨(Nat.le_of_ble_eq_true rfl), (Nat.le_of_ble_eq_true rfl)⟩ dX11_copy_78
          · replace h := it_t c14 h
            refine g_aload hC 0 dX11_copy_54 rfl ?_
            replace h := ob h; obtain ⟨v15, ev15, h⟩ := h
            refine g_getI hC ev15 fk_X11_331 rfl dX11_copy_56 ?_
            refine g_iconst hC 2 dX11_copy_59 (by decide) ?_
            refine g_icmp_ne hC 76 dX11_copy_60 (by decide) (fun c16 => ?_) (fun c16 => ?_)
            · replace h := it_f c16 h
              refine g_bipush hC (-12) dX11_copy_76 (by decide) ?_
              exact g_iret hC h ⟨(Nat.le_of_ble_eq_true rfl), (Nat.le_of_ble_eq_true rfl)⟩ dX11_copy_78
            · replace h := it_t c16 h
              refine g_aload hC 1 dX11_copy_63 rfl ?_
              replace h := ob h; obtain ⟨v17, ev17, h⟩ := h
              refine g_getI hC ev17 fk_X11_342 rfl dX11_copy_65 ?_
              refine g_aload hC 0 dX11_copy_68 rfl ?_
              replace h := ob h; obtain ⟨v18, ev18, h⟩ := h
              refine g_getI hC ev18 fk_X11_342 rfl dX11_copy_70 ?_
              refine g_icmp_eq hC 79 dX11_copy_73 (by decide) (fun c19 => ?_) (fun c19 => ?_)
              · replace h := it_t c19 h
                refine g_iload_n hC 4 dX11_copy_79 rfl ?_
                refine g_iload hC 7 dX11_copy_80 rfl ?_
                refine g_aload hC 1 dX11_copy_82 rfl ?_
                replace h := ob h; obtain ⟨v20, ev20, h⟩ := h
                refine g_getI hC ev20 fk_X11_172 rfl dX11_copy_84 ?_
                replace h := ob h; obtain ⟨⟨v22, M21⟩, eM21, h⟩ := h
                refine g_calli hC (r_S hC (As := [.int p2, .int p5, .int v20]) (c_X11_isStretch _ Γ p2 p5 v20 M4 M21 v22 eM21) yk_X11_isStretch lk_X11_355 rfl rfl (Nat.le_of_ble_eq_true rfl) hR ⟨(Nat.le_of_ble_eq_true rfl), (Nat.le_of_ble_eq_true rfl)⟩ ⟨(Nat.le_of_ble_eq_true rfl), (Nat.le_of_ble_eq_true rfl)⟩ dX11_copy_87) ?_
                refine g_if_eq hC 108 dX11_copy_90 (by decide) (fun c23 => ?_) (fun c23 => ?_)
                · replace h := it_t c23 h
                  refine g_bipush hC (-13) dX11_copy_108 (by decide) ?_
                  exact g_iret hC h ⟨(Nat.le_of_ble_eq_true rfl), (Nat.le_of_ble_eq_true rfl)⟩ dX11_copy_110
                · replace h := it_f c23 h
                  refine g_iload hC 6 dX11_copy_93 rfl ?_
                  refine g_iload hC 7 dX11_copy_95 rfl ?_
                  refine g_aload hC 0 dX11_copy_97 rfl ?_
                  replace h := ob h; obtain ⟨v24, ev24, h⟩ := h
                  refine g_getI hC ev24 fk_X11_172 rfl dX11_copy_99 ?_
                  replace h := ob h; obtain ⟨⟨v26, M25⟩, eM25, h⟩ := h
                  refine g_calli hC (r_S hC (As := [.int p4, .int p5, .int v24]) (c_X11_isStretch _ Γ p4 p5 v24 M21 M25 v26 eM25) yk_X11_isStretch lk_X11_355 rfl rfl (Nat.le_of_ble_eq_true rfl) hR ⟨(Nat.le_of_ble_eq_true rfl), (Nat.le_of_ble_eq_true rfl)⟩ ⟨(Nat.le_of_ble_eq_true rfl), (Nat.le_of_ble_eq_true rfl)⟩ dX11_copy_102) ?_
                  refine g_if_ne hC 111 dX11_copy_105 (by decide) (fun c27 => ?_) (fun c27 => ?_)
                  · replace h := it_f c27 h
                    refine g_aload hC 1 dX11_copy_111 rfl ?_
                    replace h := ob h; obtain ⟨v28, ev28, h⟩ := h
                    refine g_getR hC ev28 fk_X11_169 rfl dX11_copy_113 ?_
                    refine g_iload_n hC 4 dX11_copy_116 rfl ?_
                    refine g_aload hC 0 dX11_copy_117 rfl ?_
                    replace h := ob h; obtain ⟨v29, ev29, h⟩ := h
                    refine g_getR hC ev29 fk_X11_169 rfl dX11_copy_119 ?_
                    refine g_iload hC 6 dX11_copy_122 rfl ?_
                    refine g_iload hC 7 dX11_copy_124 rfl ?_
                    replace h := ob h; obtain ⟨a30, ea30, h⟩ := h
                    subst ea30
                    replace h := ob h; obtain ⟨a31, ea31, h⟩ := h
                    subst ea31
                    replace h := ob h; obtain ⟨M32, eM32, h⟩ := h
                    refine g_copy hC eM32 lk_X11_358 hR (Nat.le_of_ble_eq_true rfl) ⟨(Nat.le_of_ble_eq_true rfl), (Nat.le_of_ble_eq_true rfl)⟩ dX11_copy_126 ?_
                    refine g_iload hC 7 dX11_copy_129 rfl ?_
                    exact g_iret hC h ⟨(Nat.le_of_ble_eq_true rfl), (Nat.le_of_ble_eq_true rfl)⟩ dX11_copy_131
                  · replace h := it_t c27 h
                    refine g_bipush hC (-13) dX11_copy_108 (by decide) ?_
                    exact g_iret hC h ⟨(Nat.le_of_ble_eq_true rfl), (Nat.le_of_ble_eq_true rfl)⟩ dX11_copy_110
              · replace h := it_f c19 h
                refine g_bipush hC (-12) dX11_copy_76 (by decide) ?_
                exact g_iret hC h ⟨(Nat.le_of_ble_eq_true rfl), (Nat.le_of_ble_eq_true rfl)⟩ dX11_copy_78
        · replace h := it_t c12 h
          refine g_bipush hC (-11) dX11_copy_42 (by decide) ?_
          exact g_iret hC h ⟨(Nat.le_of_ble_eq_true rfl), (Nat.le_of_ble_eq_true rfl)⟩ dX11_copy_44
    · subst ca8
      replace h := oe_n h
      refine g_iconst hC (-1) dX11_copy_24 (by decide) ?_
      exact g_iret hC h ⟨(Nat.le_of_ble_eq_true rfl), (Nat.le_of_ble_eq_true rfl)⟩ dX11_copy_25

set_option maxHeartbeats 4000000 in
set_option maxRecDepth 100000 in
theorem c_X11_sum (l : Launch) (Γ : Gm) (this : Nat) (p1 : Int32) (M M' : Mm) (r : Int32) (h : F_X11_sum this p1 M = some (r, M')) : Met l yX11_sum (wz yX11_sum cX11_sum 4 (some .int)) ({ frames := 1, cells := 0, slots := 0, locals := 22 } : Room) (Pq Γ M [.ref this, .int p1]) (Qi Γ r M') 0 0 (fr Γ) := by
  refine met_of (own := RX11) (by decide +kernel) rfl (Nat.le_of_ble_eq_true rfl) ?_
  intro X hC hR hnm hXl
  unfold F_X11_sum at h
  show G Γ X 4 M 0 0 _ 0 ([(0, .ref this), (1, .int p1)]) []
  refine g_aload_n hC 0 dX11_sum_0 rfl ?_
  refine g_iload_n hC 1 dX11_sum_1 rfl ?_
  replace h := ob h; obtain ⟨_, eu2, h⟩ := h
  replace h := ob h; obtain ⟨⟨v3, M1⟩, eM1, h⟩ := h
  refine g_callr hC (r_V hC (As := [.int p1]) (c_X11_shelfAt _ Γ this p1 M M1 v3 eM1) yk_X11_shelfAt lk_X11_162 eu2 ⟨_, rfl, rfl⟩ rfl rfl (Nat.le_of_ble_eq_true rfl) hR ⟨(Nat.le_of_ble_eq_true rfl), (Nat.le_of_ble_eq_true rfl)⟩ ⟨(Nat.le_of_ble_eq_true rfl), (Nat.le_of_ble_eq_true rfl)⟩ dX11_sum_2) ?_
  refine g_astore_nq hC (x := v3) ([(2, va_rf v3), (0, .ref this), (1, .int p1)]) dX11_sum_5 (by decide) rfl ?_
  refine g_aload_nq hC 0 (x := v3) dX11_sum_6 rfl ?_
  refine g_ifnonnull hC 12 dX11_sum_7 (by decide) (fun a4 ca4 => ?_) (fun ca4 => ?_)
  · subst ca4
    replace h := oe_s h
    refine g_aload_n hC 0 dX11_sum_12 rfl ?_
    replace h := ob h; obtain ⟨v5, ev5, h⟩ := h
    refine g_getI hC ev5 fk_X11_331 rfl dX11_sum_13 ?_
    refine g_iconst hC 1 dX11_sum_16 (by decide) ?_
    refine g_icmp_eq hC 35 dX11_sum_17 (by decide) (fun c6 => ?_) (fun c6 => ?_)
    · replace h := it_t c6 h
      refine g_bipush hC 100 dX11_sum_35 (by decide) ?_
      refine g_bipush hC 10 dX11_sum_37 (by decide) ?_
      refine g_gets hC 0 (by decide) sk_X11_364 dX11_sum_39 ?_
      refine g_aload_n hC 0 dX11_sum_42 rfl ?_
      replace h := ob h; obtain ⟨v7, ev7, h⟩ := h
      refine g_getI hC ev7 fk_X11_367 rfl dX11_sum_43 ?_
      replace h := ob h; obtain ⟨v8, ev8, h⟩ := h
      refine g_sald hC (by decide) ev8 dX11_sum_46 ?_
      refine g_imul hC dX11_sum_47 ?_
      refine g_iadd hC dX11_sum_48 ?_
      refine g_gets hC 1 (by decide) sk_X11_370 dX11_sum_49 ?_
      refine g_aload_n hC 0 dX11_sum_52 rfl ?_
      replace h := ob h; obtain ⟨v9, ev9, h⟩ := h
      refine g_getI hC ev9 fk_X11_367 rfl dX11_sum_53 ?_
      replace h := ob h; obtain ⟨v10, ev10, h⟩ := h
      refine g_sald hC (by decide) ev10 dX11_sum_56 ?_
      refine g_iadd hC dX11_sum_57 ?_
      refine g_istore_n hC ([(3, .int ((100 + (10 * v8)) + v10)), (2, .ref a4), (0, .ref this), (1, .int p1)]) dX11_sum_58 (by decide) rfl ?_
      refine g_aload_n hC 1 dX11_sum_59 rfl ?_
      replace h := ob h; obtain ⟨v11, ev11, h⟩ := h
      refine g_getI hC ev11 fk_X11_367 rfl dX11_sum_60 ?_
      by_cases c12 : v11 = 1
      · replace h := it_t c12 h
        refine g_tbl (off := 25) hC 88 c12 dX11_sum_63 (by decide) ?_
        refine g_iload_n hC 0 dX11_sum_88 rfl ?_
        refine g_iconst hC 1 dX11_sum_89 (by decide) ?_
        refine g_iconst hC 0 dX11_sum_90 (by decide) ?_
        replace h := ob h; obtain ⟨⟨v14, M13⟩, eM13, h⟩ := h
        refine g_calli hC (r_S hC (As := [.int 1, .int 0]) (c_X11_costOf _ Γ 1 0 M1 M13 v14 eM13) yk_X11_costOf lk_X11_373 rfl rfl (Nat.le_of_ble_eq_true rfl) hR ⟨(Nat.le_of_ble_eq_true rfl), (Nat.le_of_ble_eq_true rfl)⟩ ⟨(Nat.le_of_ble_eq_true rfl), (Nat.le_of_ble_eq_true rfl)⟩ dX11_sum_91) ?_
        refine g_iadd hC dX11_sum_94 ?_
        exact g_iret hC h ⟨(Nat.le_of_ble_eq_true rfl), (Nat.le_of_ble_eq_true rfl)⟩ dX11_sum_95
      replace h := it_f c12 h
      by_cases c15 : v11 = 2
      · replace h := it_t c15 h
        refine g_tbl (off := 33) hC 96 c15 dX11_sum_63 (by decide) ?_
        refine g_iload_n hC 0 dX11_sum_96 rfl ?_
        refine g_aload_n hC 1 dX11_sum_97 rfl ?_
        replace h := ob h; obtain ⟨v16, ev16, h⟩ := h
        refine g_getI hC ev16 fk_X11_376 rfl dX11_sum_98 ?_
        refine g_iadd hC dX11_sum_101 ?_
        exact g_iret hC h ⟨(Nat.le_of_ble_eq_true rfl), (Nat.le_of_ble_eq_true rfl)⟩ dX11_sum_102
      replace h := it_f c15 h
      by_cases c17 : v11 = 3
      · replace h := it_t c17 h
        refine g_tbl (off := 40) hC 103 c17 dX11_sum_63 (by decide) ?_
        refine g_iconst hC 2 dX11_sum_103 (by decide) ?_
        refine g_iload_n hC 0 dX11_sum_104 rfl ?_
        refine g_iconst hC 3 dX11_sum_105 (by decide) ?_
        refine g_iconst hC 0 dX11_sum_106 (by decide) ?_
        replace h := ob h; obtain ⟨⟨v19, M18⟩, eM18, h⟩ := h
        refine g_calli hC (r_S hC (As := [.int 3, .int 0]) (c_X11_costOf _ Γ 3 0 M1 M18 v19 eM18) yk_X11_costOf lk_X11_373 rfl rfl (Nat.le_of_ble_eq_true rfl) hR ⟨(Nat.le_of_ble_eq_true rfl), (Nat.le_of_ble_eq_true rfl)⟩ ⟨(Nat.le_of_ble_eq_true rfl), (Nat.le_of_ble_eq_true rfl)⟩ dX11_sum_107) ?_
        refine g_iadd hC dX11_sum_110 ?_
        refine g_imul hC dX11_sum_111 ?_
        exact g_iret hC h ⟨(Nat.le_of_ble_eq_true rfl), (Nat.le_of_ble_eq_true rfl)⟩ dX11_sum_112
      replace h := it_f c17 h
      refine g_tbd (n := 3) hC 113 (fun j hj => ?_) (by decide) dX11_sum_63 (by decide) ?_
      · match j, hj with
        | 0, _ => exact c12
        | 1, _ => exact c15
        | 2, _ => exact c17
        | j + 3, hj => exact absurd hj (by omega)
      refine g_iload_n hC 0 dX11_sum_113 rfl ?_
      exact g_iret hC h ⟨(Nat.le_of_ble_eq_true rfl), (Nat.le_of_ble_eq_true rfl)⟩ dX11_sum_114
    · replace h := it_f c6 h
      refine g_aload_n hC 0 dX11_sum_20 rfl ?_
      replace h := ob h; obtain ⟨v20, ev20, h⟩ := h
      refine g_getI hC ev20 fk_X11_331 rfl dX11_sum_21 ?_
      refine g_if_ne hC 32 dX11_sum_24 (by decide) (fun c21 => ?_) (fun c21 => ?_)
      · replace h := it_f c21 h
        refine g_bipush hC (-12) dX11_sum_32 (by decide) ?_
        exact g_iret hC h ⟨(Nat.le_of_ble_eq_true rfl), (Nat.le_of_ble_eq_true rfl)⟩ dX11_sum_34
      · replace h := it_t c21 h
        refine g_bipush hC (-11) dX11_sum_27 (by decide) ?_
        refine g_goto hC 34 dX11_sum_29 (by decide) ?_
        exact g_iret hC h ⟨(Nat.le_of_ble_eq_true rfl), (Nat.le_of_ble_eq_true rfl)⟩ dX11_sum_34
  · subst ca4
    replace h := oe_n h
    refine g_iconst hC (-1) dX11_sum_10 (by decide) ?_
    exact g_iret hC h ⟨(Nat.le_of_ble_eq_true rfl), (Nat.le_of_ble_eq_true rfl)⟩ dX11_sum_11

set_option maxHeartbeats 4000000 in
set_option maxRecDepth 100000 in
theorem c_X12_thrown (l : Launch) (Γ : Gm) (this : Nat) (M M' : Mm) (r : Int32) (h : F_X12_thrown this M = some (r, M')) : Met l yX12_thrown (wz yX12_thrown cX12_thrown 1 (some .int)) ({ frames := 0, cells := 0, slots := 0, locals := 0 } : Room) (Pq Γ M [.ref this]) (Qi Γ r M') 0 0 (fr Γ) := by
  refine met_of (own := RX12) (by decide +kernel) rfl (Nat.le_of_ble_eq_true rfl) ?_
  intro X hC hR hnm hXl
  unfold F_X12_thrown at h
  show G Γ X 1 M 0 0 _ 0 ([(0, .ref this)]) []
  refine g_aload_n hC 0 dX12_thrown_0 rfl ?_
  replace h := ob h; obtain ⟨v1, ev1, h⟩ := h
  refine g_getI hC ev1 fk_X12_1 rfl dX12_thrown_1 ?_
  exact g_iret hC h ⟨(Nat.le_of_ble_eq_true rfl), (Nat.le_of_ble_eq_true rfl)⟩ dX12_thrown_4

set_option maxHeartbeats 4000000 in
set_option maxRecDepth 100000 in
theorem c_X12_is (l : Launch) (Γ : Gm) (this : Nat) (p1 : Int32) (p2 : Int32) (p3 : Int32) (M M' : Mm) (r : Int32) (h : F_X12_is this p1 p2 p3 M = some (r, M')) : Met l yX12_is (wz yX12_is cX12_is 4 (some .boolean)) ({ frames := 0, cells := 0, slots := 0, locals := 0 } : Room) (Pq Γ M [.ref this, .int p1, .int p2, .int p3]) (Qi Γ r M') 0 0 (fr Γ) := by
  refine met_of (own := RX12) (by decide +kernel) rfl (Nat.le_of_ble_eq_true rfl) ?_
  intro X hC hR hnm hXl
  unfold F_X12_is at h
  show G Γ X 4 M 0 0 _ 0 ([(0, .ref this), (1, .int p1), (2, .int p2), (3, .int p3)]) []
  refine g_iload_n hC 1 dX12_is_0 rfl ?_
  refine g_iload_n hC 2 dX12_is_1 rfl ?_
  refine g_icmp_lt hC 14 dX12_is_2 (by decide) (fun c1 => ?_) (fun c1 => ?_)
  · replace h := it_t c1 h
    refine g_iconst hC 0 dX12_is_14 (by decide) ?_
    exact g_zret hC (by decide) h ⟨(Nat.le_of_ble_eq_true rfl), (Nat.le_of_ble_eq_true rfl)⟩ dX12_is_15
  · replace h := it_f c1 h
    refine g_iload_n hC 1 dX12_is_5 rfl ?_
    refine g_iload_n hC 3 dX12_is_6 rfl ?_
    refine g_icmp_gt hC 14 dX12_is_7 (by decide) (fun c2 => ?_) (fun c2 => ?_)
    · replace h := it_t c2 h
      refine g_iconst hC 0 dX12_is_14 (by decide) ?_
      exact g_zret hC (by decide) h ⟨(Nat.le_of_ble_eq_true rfl), (Nat.le_of_ble_eq_true rfl)⟩ dX12_is_15
    · replace h := it_f c2 h
      refine g_iconst hC 1 dX12_is_10 (by decide) ?_
      refine g_goto hC 15 dX12_is_11 (by decide) ?_
      exact g_zret hC (by decide) h ⟨(Nat.le_of_ble_eq_true rfl), (Nat.le_of_ble_eq_true rfl)⟩ dX12_is_15

set_option maxHeartbeats 4000000 in
set_option maxRecDepth 100000 in
theorem l_X12_init_L243 {Γ : Gm} {X : Ct} (hC : Cx Γ X cX12_init RX12 none 2) (hR : X.2.2.2.1 = ({ frames := 1, cells := 17, slots := 17926, locals := 20 } : Room)) (M' : Mm) (k277 : Mm → Option Mm) (x0 : Nat) (hk277 : ∀  (M1 : Mm), k277  M1 = some M' → G Γ X 2 M1 17 17926 (Fin Γ X (Qv Γ M') 17 17926) 277 ([(0, .ref x0)]) []) : ∀ (fu : Nat) (x1 : Int32) (M0 : Mm), F_X12_init_L243 k277 x0 fu x1 M0 = some M' → G Γ X 2 M0 17 17926 (Fin Γ X (Qv Γ M') 17 17926) 243 ([(0, .ref x0), (1, .int x1)]) [] := by
  intro fu
  induction fu with
  | zero =>
    intro x1 M0 h
    rw [F_X12_init_L243] at h
    cases h
  | succ n72 ih =>
    intro x1 M0 h
    rw [F_X12_init_L243] at h
    refine g_iload_n hC 1 dX12_init_243 rfl ?_
    refine g_bipush hC 80 dX12_init_244 (by decide) ?_
    refine g_icmp_ge hC 277 dX12_init_246 (by decide) (fun c73 => ?_) (fun c73 => ?_)
    · replace h := it_t c73 h
      refine g_sub [0] rfl ?_
      exact hk277  M0 h
    · replace h := it_f c73 h
      refine g_aload_n hC 0 dX12_init_249 rfl ?_
      replace h := ob h; obtain ⟨v74, ev74, h⟩ := h
      refine g_getR hC ev74 fk_X12_13 rfl dX12_init_250 ?_
      refine g_bipush hC 10 dX12_init_253 (by decide) ?_
      refine g_iload_n hC 1 dX12_init_255 rfl ?_
      refine g_iadd hC dX12_init_256 ?_
      refine g_iconst hC 4 dX12_init_257 (by decide) ?_
      replace h := ob h; obtain ⟨a76, ea76, h⟩ := h
      subst ea76
      replace h := ob h; obtain ⟨M75, eM75, h⟩ := h
      refine g_iast hC eM75 dX12_init_258 ?_
      refine g_aload_n hC 0 dX12_init_259 rfl ?_
      replace h := ob h; obtain ⟨v77, ev77, h⟩ := h
      refine g_getR hC ev77 fk_X12_13 rfl dX12_init_260 ?_
      refine g_sipush hC 170 dX12_init_263 (by decide) ?_
      refine g_iload_n hC 1 dX12_init_266 rfl ?_
      refine g_iadd hC dX12_init_267 ?_
      refine g_bipush hC 50 dX12_init_268 (by decide) ?_
      replace h := ob h; obtain ⟨a79, ea79, h⟩ := h
      subst ea79
      replace h := ob h; obtain ⟨M78, eM78, h⟩ := h
      refine g_iast hC eM78 dX12_init_270 ?_
      refine g_iinc hC 1 (x1 + 1) ([(1, .int (x1 + 1)), (0, .ref x0)]) dX12_init_271 rfl rfl (by decide) rfl ?_
      refine g_goto hC 243 dX12_init_274 (by decide) ?_
      refine g_sub [1, 0] rfl ?_
      exact ih (x1 + 1) M78 h
set_option maxHeartbeats 4000000 in
set_option maxRecDepth 100000 in
theorem l_X12_init_L279 {Γ : Gm} {X : Ct} (hC : Cx Γ X cX12_init RX12 none 2) (hR : X.2.2.2.1 = ({ frames := 1, cells := 17, slots := 17926, locals := 20 } : Room)) (M' : Mm)  (x0 : Nat) : ∀ (fu : Nat) (x1 : Int32) (M0 : Mm), F_X12_init_L279 x0 fu x1 M0 = some M' → G Γ X 2 M0 17 17926 (Fin Γ X (Qv Γ M') 17 17926) 279 ([(0, .ref x0), (1, .int x1)]) [] := by
  intro fu
  induction fu with
  | zero =>
    intro x1 M0 h
    rw [F_X12_init_L279] at h
    cases h
  | succ n81 ih =>
    intro x1 M0 h
    rw [F_X12_init_L279] at h
    refine g_iload_n hC 1 dX12_init_279 rfl ?_
    refine g_sipush hC 3208 dX12_init_280 (by decide) ?_
    refine g_icmp_ge hC 303 dX12_init_283 (by decide) (fun c82 => ?_) (fun c82 => ?_)
    · replace h := it_t c82 h
      exact g_vret hC h ⟨(Nat.le_of_ble_eq_true rfl), (Nat.le_of_ble_eq_true rfl)⟩ dX12_init_303
    · replace h := it_f c82 h
      refine g_aload_n hC 0 dX12_init_286 rfl ?_
      replace h := ob h; obtain ⟨v83, ev83, h⟩ := h
      refine g_getR hC ev83 fk_X12_13 rfl dX12_init_287 ?_
      refine g_sipush hC 4351 dX12_init_290 (by decide) ?_
      refine g_iload_n hC 1 dX12_init_293 rfl ?_
      refine g_iadd hC dX12_init_294 ?_
      refine g_iconst hC (-1) dX12_init_295 (by decide) ?_
      replace h := ob h; obtain ⟨a85, ea85, h⟩ := h
      subst ea85
      replace h := ob h; obtain ⟨M84, eM84, h⟩ := h
      refine g_iast hC eM84 dX12_init_296 ?_
      refine g_iinc hC 1 (x1 + 1) ([(1, .int (x1 + 1)), (0, .ref x0)]) dX12_init_297 rfl rfl (by decide) rfl ?_
      refine g_goto hC 279 dX12_init_300 (by decide) ?_
      refine g_sub [1, 0] rfl ?_
      exact ih (x1 + 1) M84 h
set_option maxHeartbeats 4000000 in
set_option maxRecDepth 100000 in
theorem c_X12_init (l : Launch) (Γ : Gm) (this : Nat) (M M' : Mm) (h : F_X12_init this M = some M') : Met l yX12_init (wz yX12_init cX12_init 2 none) ({ frames := 1, cells := 17, slots := 17926, locals := 20 } : Room) (Pq Γ M [.ref this]) (Qv Γ M') 17 17926 (fr Γ) := by
  refine met_of (own := RX12) (by decide +kernel) rfl (Nat.le_of_ble_eq_true rfl) ?_
  intro X hC hR hnm hXl
  unfold F_X12_init at h
  show G Γ X 2 M 0 0 _ 0 ([(0, .ref this)]) []
  refine g_aload_n hC 0 dX12_init_0 rfl ?_
  refine g_objInit hC ok_X12_7 hR (Nat.le_of_ble_eq_true rfl) ⟨(Nat.le_of_ble_eq_true rfl), (Nat.le_of_ble_eq_true rfl)⟩ dX12_init_1 ?_
  refine g_aload_n hC 0 dX12_init_4 rfl ?_
  refine g_iconst hC 0 dX12_init_5 (by decide) ?_
  replace h := ob h; obtain ⟨M1, eM1, h⟩ := h
  refine g_putI hC eM1 fk_X12_1 rfl dX12_init_6 ?_
  refine g_aload_n hC 0 dX12_init_9 rfl ?_
  refine g_sipush hC 8369 dX12_init_10 (by decide) ?_
  replace h := nv_e h; obtain ⟨a2, ea2, h⟩ := h
  replace h := nv_e h; obtain ⟨M3, eM3, h⟩ := h
  refine g_newI2 (N := 8369) hC ea2 eM3 ak_int (by decide) (by rw [hR]; exact ⟨(Nat.le_of_ble_eq_true rfl), (Nat.le_of_ble_eq_true rfl)⟩) dX12_init_13 ?_
  replace h := ob h; obtain ⟨M4, eM4, h⟩ := h
  refine g_putFR (v := (some a2)) hC eM4 fk_X12_13 (ow_12 rfl) (hnm.trans rfl) (Or.inr ⟨_, rfl⟩) rfl dX12_init_15 ?_
  refine g_aload_n hC 0 dX12_init_18 rfl ?_
  refine g_sipush hC 8369 dX12_init_19 (by decide) ?_
  replace h := nv_e h; obtain ⟨a5, ea5, h⟩ := h
  replace h := nv_e h; obtain ⟨M6, eM6, h⟩ := h
  refine g_newI2 (N := 8369) hC ea5 eM6 ak_int (by decide) (by rw [hR]; exact ⟨(Nat.le_of_ble_eq_true rfl), (Nat.le_of_ble_eq_true rfl)⟩) dX12_init_22 ?_
  replace h := ob h; obtain ⟨M7, eM7, h⟩ := h
  refine g_putFR (v := (some a5)) hC eM7 fk_X12_17 (ow_12 rfl) (hnm.trans rfl) (Or.inr ⟨_, rfl⟩) rfl dX12_init_24 ?_
  refine g_aload_n hC 0 dX12_init_27 rfl ?_
  refine g_iconst hC 0 dX12_init_28 (by decide) ?_
  replace h := ob h; obtain ⟨M8, eM8, h⟩ := h
  refine g_putZ hC eM8 fk_X12_20 rfl dX12_init_29 ?_
  refine g_aload_n hC 0 dX12_init_32 rfl ?_
  refine g_iconst hC 0 dX12_init_33 (by decide) ?_
  replace h := ob h; obtain ⟨M9, eM9, h⟩ := h
  refine g_putI hC eM9 fk_X12_24 rfl dX12_init_34 ?_
  refine g_aload_n hC 0 dX12_init_37 rfl ?_
  refine g_iconst hC 0 dX12_init_38 (by decide) ?_
  replace h := ob h; obtain ⟨M10, eM10, h⟩ := h
  refine g_putI hC eM10 fk_X12_27 rfl dX12_init_39 ?_
  refine g_aload_n hC 0 dX12_init_42 rfl ?_
  refine g_iconst hC 0 dX12_init_43 (by decide) ?_
  replace h := ob h; obtain ⟨M11, eM11, h⟩ := h
  refine g_putI hC eM11 fk_X12_30 rfl dX12_init_44 ?_
  refine g_aload_n hC 0 dX12_init_47 rfl ?_
  refine g_iconst hC 0 dX12_init_48 (by decide) ?_
  replace h := ob h; obtain ⟨M12, eM12, h⟩ := h
  refine g_putZ hC eM12 fk_X12_33 rfl dX12_init_49 ?_
  refine g_aload_n hC 0 dX12_init_52 rfl ?_
  refine g_bipush hC 80 dX12_init_53 (by decide) ?_
  replace h := nv_e h; obtain ⟨a13, ea13, h⟩ := h
  replace h := nv_e h; obtain ⟨M14, eM14, h⟩ := h
  refine g_newI2 (N := 80) hC ea13 eM14 ak_int (by decide) (by rw [hR]; exact ⟨(Nat.le_of_ble_eq_true rfl), (Nat.le_of_ble_eq_true rfl)⟩) dX12_init_55 ?_
  replace h := ob h; obtain ⟨M15, eM15, h⟩ := h
  refine g_putFR (v := (some a13)) hC eM15 fk_X12_36 (ow_12 rfl) (hnm.trans rfl) (Or.inr ⟨_, rfl⟩) rfl dX12_init_57 ?_
  refine g_aload_n hC 0 dX12_init_60 rfl ?_
  refine g_iconst hC 0 dX12_init_61 (by decide) ?_
  replace h := ob h; obtain ⟨M16, eM16, h⟩ := h
  refine g_putI hC eM16 fk_X12_39 rfl dX12_init_62 ?_
  refine g_aload_n hC 0 dX12_init_65 rfl ?_
  refine g_iconst hC 0 dX12_init_66 (by decide) ?_
  replace h := ob h; obtain ⟨M17, eM17, h⟩ := h
  refine g_putI hC eM17 fk_X12_42 rfl dX12_init_67 ?_
  refine g_aload_n hC 0 dX12_init_70 rfl ?_
  refine g_iconst hC 0 dX12_init_71 (by decide) ?_
  replace h := ob h; obtain ⟨M18, eM18, h⟩ := h
  refine g_putI hC eM18 fk_X12_45 rfl dX12_init_72 ?_
  refine g_aload_n hC 0 dX12_init_75 rfl ?_
  refine g_iconst hC 0 dX12_init_76 (by decide) ?_
  replace h := ob h; obtain ⟨M19, eM19, h⟩ := h
  refine g_putI hC eM19 fk_X12_48 rfl dX12_init_77 ?_
  refine g_aload_n hC 0 dX12_init_80 rfl ?_
  refine g_iconst hC 0 dX12_init_81 (by decide) ?_
  replace h := ob h; obtain ⟨M20, eM20, h⟩ := h
  refine g_putZ hC eM20 fk_X12_51 rfl dX12_init_82 ?_
  refine g_aload_n hC 0 dX12_init_85 rfl ?_
  refine g_iconst hC 0 dX12_init_86 (by decide) ?_
  replace h := ob h; obtain ⟨M21, eM21, h⟩ := h
  refine g_putI hC eM21 fk_X12_54 rfl dX12_init_87 ?_
  refine g_aload_n hC 0 dX12_init_90 rfl ?_
  refine g_iconst hC 0 dX12_init_91 (by decide) ?_
  replace h := ob h; obtain ⟨M22, eM22, h⟩ := h
  refine g_putZ hC eM22 fk_X12_57 rfl dX12_init_92 ?_
  refine g_aload_n hC 0 dX12_init_95 rfl ?_
  refine g_iconst hC 0 dX12_init_96 (by decide) ?_
  replace h := ob h; obtain ⟨M23, eM23, h⟩ := h
  refine g_putI hC eM23 fk_X12_60 rfl dX12_init_97 ?_
  refine g_aload_n hC 0 dX12_init_100 rfl ?_
  refine g_iconst hC 0 dX12_init_101 (by decide) ?_
  replace h := ob h; obtain ⟨M24, eM24, h⟩ := h
  refine g_putI hC eM24 fk_X12_63 rfl dX12_init_102 ?_
  refine g_aload_n hC 0 dX12_init_105 rfl ?_
  refine g_iconst hC 0 dX12_init_106 (by decide) ?_
  replace h := ob h; obtain ⟨M25, eM25, h⟩ := h
  refine g_putI hC eM25 fk_X12_66 rfl dX12_init_107 ?_
  refine g_aload_n hC 0 dX12_init_110 rfl ?_
  refine g_iconst hC 0 dX12_init_111 (by decide) ?_
  replace h := ob h; obtain ⟨M26, eM26, h⟩ := h
  refine g_putI hC eM26 fk_X12_69 rfl dX12_init_112 ?_
  refine g_aload_n hC 0 dX12_init_115 rfl ?_
  refine g_iconst hC 0 dX12_init_116 (by decide) ?_
  replace h := ob h; obtain ⟨M27, eM27, h⟩ := h
  refine g_putI hC eM27 fk_X12_72 rfl dX12_init_117 ?_
  refine g_aload_n hC 0 dX12_init_120 rfl ?_
  refine g_iconst hC 3 dX12_init_121 (by decide) ?_
  replace h := nv_e h; obtain ⟨a28, ea28, h⟩ := h
  replace h := nv_e h; obtain ⟨M29, eM29, h⟩ := h
  refine g_newI2 (N := 3) hC ea28 eM29 ak_int (by decide) (by rw [hR]; exact ⟨(Nat.le_of_ble_eq_true rfl), (Nat.le_of_ble_eq_true rfl)⟩) dX12_init_122 ?_
  replace h := ob h; obtain ⟨M30, eM30, h⟩ := h
  refine g_putFR (v := (some a28)) hC eM30 fk_X12_75 (ow_12 rfl) (hnm.trans rfl) (Or.inr ⟨_, rfl⟩) rfl dX12_init_124 ?_
  refine g_aload_n hC 0 dX12_init_127 rfl ?_
  refine g_sipush hC 243 dX12_init_128 (by decide) ?_
  replace h := nv_e h; obtain ⟨a31, ea31, h⟩ := h
  replace h := nv_e h; obtain ⟨M32, eM32, h⟩ := h
  refine g_newI2 (N := 243) hC ea31 eM32 ak_int (by decide) (by rw [hR]; exact ⟨(Nat.le_of_ble_eq_true rfl), (Nat.le_of_ble_eq_true rfl)⟩) dX12_init_131 ?_
  replace h := ob h; obtain ⟨M33, eM33, h⟩ := h
  refine g_putFR (v := (some a31)) hC eM33 fk_X12_78 (ow_12 rfl) (hnm.trans rfl) (Or.inr ⟨_, rfl⟩) rfl dX12_init_133 ?_
  refine g_aload_n hC 0 dX12_init_136 rfl ?_
  refine g_iconst hC 3 dX12_init_137 (by decide) ?_
  replace h := nv_e h; obtain ⟨a34, ea34, h⟩ := h
  replace h := nv_e h; obtain ⟨M35, eM35, h⟩ := h
  refine g_newI2 (N := 3) hC ea34 eM35 ak_int (by decide) (by rw [hR]; exact ⟨(Nat.le_of_ble_eq_true rfl), (Nat.le_of_ble_eq_true rfl)⟩) dX12_init_138 ?_
  replace h := ob h; obtain ⟨M36, eM36, h⟩ := h
  refine g_putFR (v := (some a34)) hC eM36 fk_X12_81 (ow_12 rfl) (hnm.trans rfl) (Or.inr ⟨_, rfl⟩) rfl dX12_init_140 ?_
  refine g_aload_n hC 0 dX12_init_143 rfl ?_
  refine g_iconst hC 3 dX12_init_144 (by decide) ?_
  replace h := nv_e h; obtain ⟨a37, ea37, h⟩ := h
  replace h := nv_e h; obtain ⟨M38, eM38, h⟩ := h
  refine g_newI2 (N := 3) hC ea37 eM38 ak_int (by decide) (by rw [hR]; exact ⟨(Nat.le_of_ble_eq_true rfl), (Nat.le_of_ble_eq_true rfl)⟩) dX12_init_145 ?_
  replace h := ob h; obtain ⟨M39, eM39, h⟩ := h
  refine g_putFR (v := (some a37)) hC eM39 fk_X12_84 (ow_12 rfl) (hnm.trans rfl) (Or.inr ⟨_, rfl⟩) rfl dX12_init_147 ?_
  refine g_aload_n hC 0 dX12_init_150 rfl ?_
  refine g_bipush hC 80 dX12_init_151 (by decide) ?_
  replace h := nv_e h; obtain ⟨a40, ea40, h⟩ := h
  replace h := nv_e h; obtain ⟨M41, eM41, h⟩ := h
  refine g_newI2 (N := 80) hC ea40 eM41 ak_int (by decide) (by rw [hR]; exact ⟨(Nat.le_of_ble_eq_true rfl), (Nat.le_of_ble_eq_true rfl)⟩) dX12_init_153 ?_
  replace h := ob h; obtain ⟨M42, eM42, h⟩ := h
  refine g_putFR (v := (some a40)) hC eM42 fk_X12_87 (ow_12 rfl) (hnm.trans rfl) (Or.inr ⟨_, rfl⟩) rfl dX12_init_155 ?_
  refine g_aload_n hC 0 dX12_init_158 rfl ?_
  refine g_iconst hC 0 dX12_init_159 (by decide) ?_
  replace h := ob h; obtain ⟨M43, eM43, h⟩ := h
  refine g_putI hC eM43 fk_X12_90 rfl dX12_init_160 ?_
  refine g_aload_n hC 0 dX12_init_163 rfl ?_
  refine g_iconst hC 0 dX12_init_164 (by decide) ?_
  replace h := ob h; obtain ⟨M44, eM44, h⟩ := h
  refine g_putI hC eM44 fk_X12_93 rfl dX12_init_165 ?_
  refine g_aload_n hC 0 dX12_init_168 rfl ?_
  refine g_bipush hC 8 dX12_init_169 (by decide) ?_
  replace h := nv_e h; obtain ⟨a45, ea45, h⟩ := h
  replace h := nv_e h; obtain ⟨M46, eM46, h⟩ := h
  refine g_newI2 (N := 8) hC ea45 eM46 ak_int (by decide) (by rw [hR]; exact ⟨(Nat.le_of_ble_eq_true rfl), (Nat.le_of_ble_eq_true rfl)⟩) dX12_init_171 ?_
  replace h := ob h; obtain ⟨M47, eM47, h⟩ := h
  refine g_putFR (v := (some a45)) hC eM47 fk_X12_96 (ow_12 rfl) (hnm.trans rfl) (Or.inr ⟨_, rfl⟩) rfl dX12_init_173 ?_
  refine g_aload_n hC 0 dX12_init_176 rfl ?_
  refine g_bipush hC 8 dX12_init_177 (by decide) ?_
  replace h := nv_e h; obtain ⟨a48, ea48, h⟩ := h
  replace h := nv_e h; obtain ⟨M49, eM49, h⟩ := h
  refine g_newI2 (N := 8) hC ea48 eM49 ak_int (by decide) (by rw [hR]; exact ⟨(Nat.le_of_ble_eq_true rfl), (Nat.le_of_ble_eq_true rfl)⟩) dX12_init_179 ?_
  replace h := ob h; obtain ⟨M50, eM50, h⟩ := h
  refine g_putFR (v := (some a48)) hC eM50 fk_X12_99 (ow_12 rfl) (hnm.trans rfl) (Or.inr ⟨_, rfl⟩) rfl dX12_init_181 ?_
  refine g_aload_n hC 0 dX12_init_184 rfl ?_
  refine g_bipush hC 8 dX12_init_185 (by decide) ?_
  replace h := nv_e h; obtain ⟨a51, ea51, h⟩ := h
  replace h := nv_e h; obtain ⟨M52, eM52, h⟩ := h
  refine g_newI2 (N := 8) hC ea51 eM52 ak_int (by decide) (by rw [hR]; exact ⟨(Nat.le_of_ble_eq_true rfl), (Nat.le_of_ble_eq_true rfl)⟩) dX12_init_187 ?_
  replace h := ob h; obtain ⟨M53, eM53, h⟩ := h
  refine g_putFR (v := (some a51)) hC eM53 fk_X12_102 (ow_12 rfl) (hnm.trans rfl) (Or.inr ⟨_, rfl⟩) rfl dX12_init_189 ?_
  refine g_aload_n hC 0 dX12_init_192 rfl ?_
  refine g_bipush hC 8 dX12_init_193 (by decide) ?_
  replace h := nv_e h; obtain ⟨a54, ea54, h⟩ := h
  replace h := nv_e h; obtain ⟨M55, eM55, h⟩ := h
  refine g_newI2 (N := 8) hC ea54 eM55 ak_int (by decide) (by rw [hR]; exact ⟨(Nat.le_of_ble_eq_true rfl), (Nat.le_of_ble_eq_true rfl)⟩) dX12_init_195 ?_
  replace h := ob h; obtain ⟨M56, eM56, h⟩ := h
  refine g_putFR (v := (some a54)) hC eM56 fk_X12_105 (ow_12 rfl) (hnm.trans rfl) (Or.inr ⟨_, rfl⟩) rfl dX12_init_197 ?_
  refine g_aload_n hC 0 dX12_init_200 rfl ?_
  refine g_bipush hC 8 dX12_init_201 (by decide) ?_
  replace h := nv_e h; obtain ⟨a57, ea57, h⟩ := h
  replace h := nv_e h; obtain ⟨M58, eM58, h⟩ := h
  refine g_newI2 (N := 8) hC ea57 eM58 ak_int (by decide) (by rw [hR]; exact ⟨(Nat.le_of_ble_eq_true rfl), (Nat.le_of_ble_eq_true rfl)⟩) dX12_init_203 ?_
  replace h := ob h; obtain ⟨M59, eM59, h⟩ := h
  refine g_putFR (v := (some a57)) hC eM59 fk_X12_108 (ow_12 rfl) (hnm.trans rfl) (Or.inr ⟨_, rfl⟩) rfl dX12_init_205 ?_
  refine g_aload_n hC 0 dX12_init_208 rfl ?_
  refine g_bipush hC 8 dX12_init_209 (by decide) ?_
  replace h := nv_e h; obtain ⟨a60, ea60, h⟩ := h
  replace h := nv_e h; obtain ⟨M61, eM61, h⟩ := h
  refine g_newI2 (N := 8) hC ea60 eM61 ak_int (by decide) (by rw [hR]; exact ⟨(Nat.le_of_ble_eq_true rfl), (Nat.le_of_ble_eq_true rfl)⟩) dX12_init_211 ?_
  replace h := ob h; obtain ⟨M62, eM62, h⟩ := h
  refine g_putFR (v := (some a60)) hC eM62 fk_X12_111 (ow_12 rfl) (hnm.trans rfl) (Or.inr ⟨_, rfl⟩) rfl dX12_init_213 ?_
  refine g_aload_n hC 0 dX12_init_216 rfl ?_
  refine g_bipush hC 8 dX12_init_217 (by decide) ?_
  replace h := nv_e h; obtain ⟨a63, ea63, h⟩ := h
  replace h := nv_e h; obtain ⟨M64, eM64, h⟩ := h
  refine g_newI2 (N := 8) hC ea63 eM64 ak_int (by decide) (by rw [hR]; exact ⟨(Nat.le_of_ble_eq_true rfl), (Nat.le_of_ble_eq_true rfl)⟩) dX12_init_219 ?_
  replace h := ob h; obtain ⟨M65, eM65, h⟩ := h
  refine g_putFR (v := (some a63)) hC eM65 fk_X12_114 (ow_12 rfl) (hnm.trans rfl) (Or.inr ⟨_, rfl⟩) rfl dX12_init_221 ?_
  refine g_aload_n hC 0 dX12_init_224 rfl ?_
  refine g_sipush hC 640 dX12_init_225 (by decide) ?_
  replace h := nv_e h; obtain ⟨a66, ea66, h⟩ := h
  replace h := nv_e h; obtain ⟨M67, eM67, h⟩ := h
  refine g_newI2 (N := 640) hC ea66 eM67 ak_int (by decide) (by rw [hR]; exact ⟨(Nat.le_of_ble_eq_true rfl), (Nat.le_of_ble_eq_true rfl)⟩) dX12_init_228 ?_
  replace h := ob h; obtain ⟨M68, eM68, h⟩ := h
  refine g_putFR (v := (some a66)) hC eM68 fk_X12_117 (ow_12 rfl) (hnm.trans rfl) (Or.inr ⟨_, rfl⟩) rfl dX12_init_230 ?_
  refine g_aload_n hC 0 dX12_init_233 rfl ?_
  refine g_bipush hC 80 dX12_init_234 (by decide) ?_
  replace h := nv_e h; obtain ⟨a69, ea69, h⟩ := h
  replace h := nv_e h; obtain ⟨M70, eM70, h⟩ := h
  refine g_newI2 (N := 80) hC ea69 eM70 ak_int (by decide) (by rw [hR]; exact ⟨(Nat.le_of_ble_eq_true rfl), (Nat.le_of_ble_eq_true rfl)⟩) dX12_init_236 ?_
  replace h := ob h; obtain ⟨M71, eM71, h⟩ := h
  refine g_putFR (v := (some a69)) hC eM71 fk_X12_120 (ow_12 rfl) (hnm.trans rfl) (Or.inr ⟨_, rfl⟩) rfl dX12_init_238 ?_
  refine g_iconst hC 0 dX12_init_241 (by decide) ?_
  refine g_istore_n hC ([(1, .int 0), (0, .ref this)]) dX12_init_242 (by decide) rfl ?_
  refine g_sub [1, 0] rfl ?_
  refine l_X12_init_L243 hC hR M' _ _ ?_ _ _ _ h
  intro  M80 h
  refine g_iconst hC 0 dX12_init_277 (by decide) ?_
  refine g_istore_n hC ([(1, .int 0), (0, .ref this)]) dX12_init_278 (by decide) rfl ?_
  refine g_sub [1, 0] rfl ?_
  refine l_X12_init_L279 hC hR M'  _  _ _ _ h

set_option maxHeartbeats 4000000 in
set_option maxRecDepth 100000 in
theorem c_X12_isCell (l : Launch) (Γ : Gm) (this : Nat) (p1 : Int32) (p2 : Int32) (M M' : Mm) (r : Int32) (h : F_X12_isCell this p1 p2 M = some (r, M')) : Met l yX12_isCell (wz yX12_isCell cX12_isCell 3 (some .boolean)) ({ frames := 1, cells := 0, slots := 0, locals := 23 } : Room) (Pq Γ M [.ref this, .int p1, .int p2]) (Qi Γ r M') 0 0 (fr Γ) := by
  refine met_of (own := RX12) (by decide +kernel) rfl (Nat.le_of_ble_eq_true rfl) ?_
  intro X hC hR hnm hXl
  unfold F_X12_isCell at h
  show G Γ X 3 M 0 0 _ 0 ([(0, .ref this), (1, .int p1), (2, .int p2)]) []
  refine g_aload_n hC 0 dX12_isCell_0 rfl ?_
  refine g_iload_n hC 1 dX12_isCell_1 rfl ?_
  refine g_iconst hC 0 dX12_isCell_2 (by decide) ?_
  refine g_bipush hC 9 dX12_isCell_3 (by decide) ?_
  replace h := ob h; obtain ⟨_, eu2, h⟩ := h
  replace h := ob h; obtain ⟨⟨v3, M1⟩, eM1, h⟩ := h
  refine g_calli hC (r_V hC (As := [.int p1, .int 0, .int 9]) (c_X12_is _ Γ this p1 0 9 M M1 v3 eM1) yk_X12_is lk_X12_123 eu2 ⟨_, rfl, rfl⟩ rfl rfl (Nat.le_of_ble_eq_true rfl) hR ⟨(Nat.le_of_ble_eq_true rfl), (Nat.le_of_ble_eq_true rfl)⟩ ⟨(Nat.le_of_ble_eq_true rfl), (Nat.le_of_ble_eq_true rfl)⟩ dX12_isCell_5) ?_
  refine g_if_eq hC 26 dX12_isCell_8 (by decide) (fun c4 => ?_) (fun c4 => ?_)
  · replace h := it_t c4 h
    refine g_iconst hC 0 dX12_isCell_26 (by decide) ?_
    exact g_zret hC (by decide) h ⟨(Nat.le_of_ble_eq_true rfl), (Nat.le_of_ble_eq_true rfl)⟩ dX12_isCell_27
  · replace h := it_f c4 h
    refine g_aload_n hC 0 dX12_isCell_11 rfl ?_
    refine g_iload_n hC 2 dX12_isCell_12 rfl ?_
    refine g_iconst hC 0 dX12_isCell_13 (by decide) ?_
    refine g_bipush hC 7 dX12_isCell_14 (by decide) ?_
    replace h := ob h; obtain ⟨_, eu6, h⟩ := h
    replace h := ob h; obtain ⟨⟨v7, M5⟩, eM5, h⟩ := h
    refine g_calli hC (r_V hC (As := [.int p2, .int 0, .int 7]) (c_X12_is _ Γ this p2 0 7 M1 M5 v7 eM5) yk_X12_is lk_X12_123 eu6 ⟨_, rfl, rfl⟩ rfl rfl (Nat.le_of_ble_eq_true rfl) hR ⟨(Nat.le_of_ble_eq_true rfl), (Nat.le_of_ble_eq_true rfl)⟩ ⟨(Nat.le_of_ble_eq_true rfl), (Nat.le_of_ble_eq_true rfl)⟩ dX12_isCell_16) ?_
    refine g_if_eq hC 26 dX12_isCell_19 (by decide) (fun c8 => ?_) (fun c8 => ?_)
    · replace h := it_t c8 h
      refine g_iconst hC 0 dX12_isCell_26 (by decide) ?_
      exact g_zret hC (by decide) h ⟨(Nat.le_of_ble_eq_true rfl), (Nat.le_of_ble_eq_true rfl)⟩ dX12_isCell_27
    · replace h := it_f c8 h
      refine g_iconst hC 1 dX12_isCell_22 (by decide) ?_
      refine g_goto hC 27 dX12_isCell_23 (by decide) ?_
      exact g_zret hC (by decide) h ⟨(Nat.le_of_ble_eq_true rfl), (Nat.le_of_ble_eq_true rfl)⟩ dX12_isCell_27

set_option maxHeartbeats 4000000 in
set_option maxRecDepth 100000 in
theorem c_X12_isWater (l : Launch) (Γ : Gm) (this : Nat) (p1 : Int32) (p2 : Int32) (M M' : Mm) (r : Int32) (h : F_X12_isWater this p1 p2 M = some (r, M')) : Met l yX12_isWater (wz yX12_isWater cX12_isWater 3 (some .boolean)) ({ frames := 2, cells := 0, slots := 0, locals := 45 } : Room) (Pq Γ M [.ref this, .int p1, .int p2]) (Qi Γ r M') 0 0 (fr Γ) := by
  refine met_of (own := RX12) (by decide +kernel) rfl (Nat.le_of_ble_eq_true rfl) ?_
  intro X hC hR hnm hXl
  unfold F_X12_isWater at h
  show G Γ X 3 M 0 0 _ 0 ([(0, .ref this), (1, .int p1), (2, .int p2)]) []
  refine g_aload_n hC 0 dX12_isWater_0 rfl ?_
  refine g_iload_n hC 1 dX12_isWater_1 rfl ?_
  refine g_iload_n hC 2 dX12_isWater_2 rfl ?_
  replace h := ob h; obtain ⟨_, eu2, h⟩ := h
  replace h := ob h; obtain ⟨⟨v3, M1⟩, eM1, h⟩ := h
  refine g_calli hC (r_V hC (As := [.int p1, .int p2]) (c_X12_isCell _ Γ this p1 p2 M M1 v3 eM1) yk_X12_isCell lk_X12_127 eu2 ⟨_, rfl, rfl⟩ rfl rfl (Nat.le_of_ble_eq_true rfl) hR ⟨(Nat.le_of_ble_eq_true rfl), (Nat.le_of_ble_eq_true rfl)⟩ ⟨(Nat.le_of_ble_eq_true rfl), (Nat.le_of_ble_eq_true rfl)⟩ dX12_isWater_3) ?_
  refine g_if_eq hC 30 dX12_isWater_6 (by decide) (fun c4 => ?_) (fun c4 => ?_)
  · replace h := it_t c4 h
    refine g_iconst hC 0 dX12_isWater_30 (by decide) ?_
    exact g_zret hC (by decide) h ⟨(Nat.le_of_ble_eq_true rfl), (Nat.le_of_ble_eq_true rfl)⟩ dX12_isWater_31
  · replace h := it_f c4 h
    refine g_aload_n hC 0 dX12_isWater_9 rfl ?_
    replace h := ob h; obtain ⟨v5, ev5, h⟩ := h
    refine g_getR hC ev5 fk_X12_13 rfl dX12_isWater_10 ?_
    refine g_bipush hC 10 dX12_isWater_13 (by decide) ?_
    refine g_bipush hC 8 dX12_isWater_15 (by decide) ?_
    refine g_iload_n hC 1 dX12_isWater_17 rfl ?_
    refine g_imul hC dX12_isWater_18 ?_
    refine g_iadd hC dX12_isWater_19 ?_
    refine g_iload_n hC 2 dX12_isWater_20 rfl ?_
    refine g_iadd hC dX12_isWater_21 ?_
    replace h := ob h; obtain ⟨a7, ea7, h⟩ := h
    subst ea7
    replace h := ob h; obtain ⟨v6, ev6, h⟩ := h
    refine g_iald hC ev6 dX12_isWater_22 ?_
    refine g_if_le hC 30 dX12_isWater_23 (by decide) (fun c8 => ?_) (fun c8 => ?_)
    · replace h := it_t c8 h
      refine g_iconst hC 0 dX12_isWater_30 (by decide) ?_
      exact g_zret hC (by decide) h ⟨(Nat.le_of_ble_eq_true rfl), (Nat.le_of_ble_eq_true rfl)⟩ dX12_isWater_31
    · replace h := it_f c8 h
      refine g_iconst hC 1 dX12_isWater_26 (by decide) ?_
      refine g_goto hC 31 dX12_isWater_27 (by decide) ?_
      exact g_zret hC (by decide) h ⟨(Nat.le_of_ble_eq_true rfl), (Nat.le_of_ble_eq_true rfl)⟩ dX12_isWater_31
