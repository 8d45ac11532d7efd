set_option maxHeartbeats 4000000 in
set_option maxRecDepth 100000 in
theorem c_X8_init (l : Launch) (Γ : Gm) (this : Nat) (M M' : Mm) (h : F_X8_init this M = some M') : Met l yX8_init (wz yX8_init cX8_init 1 none) ({ frames := 1, cells := 1, slots := 80, locals := 20 } : Room) (Pq Γ M [.ref this]) (Qv Γ M') 1 80 (fr Γ) := by
  refine met_of (own := RX8) (by decide +kernel) rfl (Nat.le_of_ble_eq_true rfl) ?_
  intro X hC hR hnm hXl
  unfold F_X8_init at h
  show G Γ X 1 M 0 0 _ 0 ([(0, .ref this)]) []
  refine g_aload_n hC 0 dX8_init_0 rfl ?_
  refine g_objInit hC ok_X8_3 hR (Nat.le_of_ble_eq_true rfl) ⟨(Nat.le_of_ble_eq_true rfl), (Nat.le_of_ble_eq_true rfl)⟩ dX8_init_1 ?_
  refine g_aload_n hC 0 dX8_init_4 rfl ?_
  refine g_iconst hC 0 dX8_init_5 (by decide) ?_
  replace h := ob h; obtain ⟨M1, eM1, h⟩ := h
  refine g_putI hC eM1 fk_X8_9 rfl dX8_init_6 ?_
  refine g_aload_n hC 0 dX8_init_9 rfl ?_
  refine g_iconst hC 0 dX8_init_10 (by decide) ?_
  replace h := ob h; obtain ⟨M2, eM2, h⟩ := h
  refine g_putI hC eM2 fk_X8_15 rfl dX8_init_11 ?_
  refine g_aload_n hC 0 dX8_init_14 rfl ?_
  refine g_iconst hC 0 dX8_init_15 (by decide) ?_
  replace h := ob h; obtain ⟨M3, eM3, h⟩ := h
  refine g_putI hC eM3 fk_X8_18 rfl dX8_init_16 ?_
  refine g_aload_n hC 0 dX8_init_19 rfl ?_
  refine g_bipush hC 80 dX8_init_20 (by decide) ?_
  replace h := nv_e h; obtain ⟨a4, ea4, h⟩ := h
  replace h := nv_e h; obtain ⟨M5, eM5, h⟩ := h
  refine g_newI2 (N := 80) hC ea4 eM5 ak_int (by decide) (by rw [hR]; exact ⟨(Nat.le_of_ble_eq_true rfl), (Nat.le_of_ble_eq_true rfl)⟩) dX8_init_22 ?_
  replace h := ob h; obtain ⟨M6, eM6, h⟩ := h
  refine g_putFR (v := (some a4)) hC eM6 fk_X8_21 (ow_8 rfl) (hnm.trans rfl) (Or.inr ⟨_, rfl⟩) rfl dX8_init_24 ?_
  refine g_aload_n hC 0 dX8_init_27 rfl ?_
  refine g_iconst hC 0 dX8_init_28 (by decide) ?_
  replace h := ob h; obtain ⟨M7, eM7, h⟩ := h
  refine g_putI hC eM7 fk_X8_25 rfl dX8_init_29 ?_
  refine g_aload_n hC 0 dX8_init_32 rfl ?_
  refine g_iconst hC 0 dX8_init_33 (by decide) ?_
  replace h := ob h; obtain ⟨M8, eM8, h⟩ := h
  refine g_putI hC eM8 fk_X8_28 rfl dX8_init_34 ?_
  refine g_aload_n hC 0 dX8_init_37 rfl ?_
  refine g_iconst hC 0 dX8_init_38 (by decide) ?_
  replace h := ob h; obtain ⟨M9, eM9, h⟩ := h
  refine g_putI hC eM9 fk_X8_31 rfl dX8_init_39 ?_
  refine g_aload_n hC 0 dX8_init_42 rfl ?_
  refine g_iconst hC 0 dX8_init_43 (by decide) ?_
  replace h := ob h; obtain ⟨M10, eM10, h⟩ := h
  refine g_putI hC eM10 fk_X8_34 rfl dX8_init_44 ?_
  exact g_vret hC h ⟨(Nat.le_of_ble_eq_true rfl), (Nat.le_of_ble_eq_true rfl)⟩ dX8_init_47

set_option maxHeartbeats 4000000 in
set_option maxRecDepth 100000 in
theorem c_X8_holdGlider (l : Launch) (Γ : Gm) (this : Nat) (p1 : Nat) (M M' : Mm) (h : F_X8_holdGlider this p1 M = some M') : Met l yX8_holdGlider (wz yX8_holdGlider cX8_holdGlider 2 none) ({ frames := 0, cells := 0, slots := 0, locals := 0 } : Room) (Pq Γ M [.ref this, .ref p1]) (Qv Γ M') 0 0 (fr Γ) := by
  refine met_of (own := RX8) (by decide +kernel) rfl (Nat.le_of_ble_eq_true rfl) ?_
  intro X hC hR hnm hXl
  unfold F_X8_holdGlider at h
  show G Γ X 2 M 0 0 _ 0 ([(0, .ref this), (1, .ref p1)]) []
  refine g_aload_n hC 0 dX8_holdGlider_0 rfl ?_
  refine g_iconst hC 1 dX8_holdGlider_1 (by decide) ?_
  replace h := ob h; obtain ⟨M1, eM1, h⟩ := h
  refine g_putI hC eM1 fk_X8_9 rfl dX8_holdGlider_2 ?_
  refine g_aload_n hC 0 dX8_holdGlider_5 rfl ?_
  refine g_aload_n hC 1 dX8_holdGlider_6 rfl ?_
  replace h := ob h; obtain ⟨v2, ev2, h⟩ := h
  refine g_getI hC ev2 fk_X8_37 rfl dX8_holdGlider_7 ?_
  replace h := ob h; obtain ⟨M3, eM3, h⟩ := h
  refine g_putI hC eM3 fk_X8_25 rfl dX8_holdGlider_10 ?_
  refine g_aload_n hC 0 dX8_holdGlider_13 rfl ?_
  refine g_aload_n hC 1 dX8_holdGlider_14 rfl ?_
  replace h := ob h; obtain ⟨v4, ev4, h⟩ := h
  refine g_getI hC ev4 fk_X8_40 rfl dX8_holdGlider_15 ?_
  replace h := ob h; obtain ⟨M5, eM5, h⟩ := h
  refine g_putI hC eM5 fk_X8_28 rfl dX8_holdGlider_18 ?_
  refine g_aload_n hC 0 dX8_holdGlider_21 rfl ?_
  refine g_aload_n hC 1 dX8_holdGlider_22 rfl ?_
  replace h := ob h; obtain ⟨v6, ev6, h⟩ := h
  refine g_getI hC ev6 fk_X8_41 rfl dX8_holdGlider_23 ?_
  replace h := ob h; obtain ⟨M7, eM7, h⟩ := h
  refine g_putI hC eM7 fk_X8_31 rfl dX8_holdGlider_26 ?_
  refine g_aload_n hC 0 dX8_holdGlider_29 rfl ?_
  refine g_aload_n hC 1 dX8_holdGlider_30 rfl ?_
  replace h := ob h; obtain ⟨v8, ev8, h⟩ := h
  refine g_getI hC ev8 fk_X8_42 rfl dX8_holdGlider_31 ?_
  replace h := ob h; obtain ⟨M9, eM9, h⟩ := h
  refine g_putI hC eM9 fk_X8_34 rfl dX8_holdGlider_34 ?_
  exact g_vret hC h ⟨(Nat.le_of_ble_eq_true rfl), (Nat.le_of_ble_eq_true rfl)⟩ dX8_holdGlider_37

set_option maxHeartbeats 4000000 in
set_option maxRecDepth 100000 in
theorem c_X8_holdRow (l : Launch) (Γ : Gm) (this : Nat) (p1 : Int32) (p2 : Int32) (M M' : Mm) (h : F_X8_holdRow this p1 p2 M = some M') : Met l yX8_holdRow (wz yX8_holdRow cX8_holdRow 3 none) ({ frames := 1, cells := 0, slots := 0, locals := 23 } : Room) (Pq Γ M [.ref this, .int p1, .int p2]) (Qv Γ M') 0 0 (fr Γ) := by
  refine met_of (own := RX8) (by decide +kernel) rfl (Nat.le_of_ble_eq_true rfl) ?_
  intro X hC hR hnm hXl
  unfold F_X8_holdRow at h
  show G Γ X 3 M 0 0 _ 0 ([(0, .ref this), (1, .int p1), (2, .int p2)]) []
  refine g_aload_n hC 0 dX8_holdRow_0 rfl ?_
  refine g_iconst hC 2 dX8_holdRow_1 (by decide) ?_
  replace h := ob h; obtain ⟨M1, eM1, h⟩ := h
  refine g_putI hC eM1 fk_X8_9 rfl dX8_holdRow_2 ?_
  refine g_aload_n hC 0 dX8_holdRow_5 rfl ?_
  refine g_iload_n hC 1 dX8_holdRow_6 rfl ?_
  replace h := ob h; obtain ⟨M2, eM2, h⟩ := h
  refine g_putI hC eM2 fk_X8_15 rfl dX8_holdRow_7 ?_
  refine g_aload_n hC 0 dX8_holdRow_10 rfl ?_
  refine g_iload_n hC 2 dX8_holdRow_11 rfl ?_
  replace h := ob h; obtain ⟨M3, eM3, h⟩ := h
  refine g_putI hC eM3 fk_X8_18 rfl dX8_holdRow_12 ?_
  refine g_aload_n hC 0 dX8_holdRow_15 rfl ?_
  replace h := ob h; obtain ⟨v4, ev4, h⟩ := h
  refine g_getR hC ev4 fk_X8_21 rfl dX8_holdRow_16 ?_
  refine g_iconst hC 0 dX8_holdRow_19 (by decide) ?_
  replace h := ob h; obtain ⟨a5, ea5, h⟩ := h
  subst ea5
  replace h := ob h; obtain ⟨M6, eM6, h⟩ := h
  refine g_callv hC (r_S hC (As := [.ref a5, .int 0]) (c_J7_fill_53178 _ Γ a5 0 M3 M6 eM6) yk_J7_fill_53178 lk_X8_43 rfl rfl (Nat.le_of_ble_eq_true rfl) hR ⟨(Nat.le_of_ble_eq_true rfl), (Nat.le_of_ble_eq_true rfl)⟩ ⟨(Nat.le_of_ble_eq_true rfl), (Nat.le_of_ble_eq_true rfl)⟩ dX8_holdRow_20) ?_
  exact g_vret hC h ⟨(Nat.le_of_ble_eq_true rfl), (Nat.le_of_ble_eq_true rfl)⟩ dX8_holdRow_23

set_option maxHeartbeats 4000000 in
set_option maxRecDepth 100000 in
theorem c_X8_refusesAsText (l : Launch) (Γ : Gm) (this : Nat) (M M' : Mm) (r : Int32) (h : F_X8_refusesAsText this M = some (r, M')) : Met l yX8_refusesAsText (wz yX8_refusesAsText cX8_refusesAsText 1 (some .int)) ({ frames := 0, cells := 0, slots := 0, locals := 0 } : Room) (Pq Γ M [.ref this]) (Qi Γ r M') 0 0 (fr Γ) := by
  refine met_of (own := RX8) (by decide +kernel) rfl (Nat.le_of_ble_eq_true rfl) ?_
  intro X hC hR hnm hXl
  unfold F_X8_refusesAsText at h
  show G Γ X 1 M 0 0 _ 0 ([(0, .ref this)]) []
  refine g_aload_n hC 0 dX8_refusesAsText_0 rfl ?_
  replace h := ob h; obtain ⟨v1, ev1, h⟩ := h
  refine g_getI hC ev1 fk_X8_9 rfl dX8_refusesAsText_1 ?_
  refine g_if_ne hC 10 dX8_refusesAsText_4 (by decide) (fun c2 => ?_) (fun c2 => ?_)
  · replace h := it_f c2 h
    refine g_aload_n hC 0 dX8_refusesAsText_10 rfl ?_
    replace h := ob h; obtain ⟨v3, ev3, h⟩ := h
    refine g_getI hC ev3 fk_X8_9 rfl dX8_refusesAsText_11 ?_
    refine g_iconst hC 2 dX8_refusesAsText_14 (by decide) ?_
    refine g_icmp_ne hC 29 dX8_refusesAsText_15 (by decide) (fun c4 => ?_) (fun c4 => ?_)
    · replace h := it_f c4 h
      refine g_bipush hC (-12) dX8_refusesAsText_29 (by decide) ?_
      exact g_iret hC h ⟨(Nat.le_of_ble_eq_true rfl), (Nat.le_of_ble_eq_true rfl)⟩ dX8_refusesAsText_31
    · replace h := it_t c4 h
      refine g_aload_n hC 0 dX8_refusesAsText_18 rfl ?_
      replace h := ob h; obtain ⟨v5, ev5, h⟩ := h
      refine g_getI hC ev5 fk_X8_15 rfl dX8_refusesAsText_19 ?_
      refine g_if_ne hC 29 dX8_refusesAsText_22 (by decide) (fun c6 => ?_) (fun c6 => ?_)
      · replace h := it_f c6 h
        refine g_bipush hC (-12) dX8_refusesAsText_29 (by decide) ?_
        exact g_iret hC h ⟨(Nat.le_of_ble_eq_true rfl), (Nat.le_of_ble_eq_true rfl)⟩ dX8_refusesAsText_31
      · replace h := it_t c6 h
        refine g_iconst hC 0 dX8_refusesAsText_25 (by decide) ?_
        refine g_goto hC 31 dX8_refusesAsText_26 (by decide) ?_
        exact g_iret hC h ⟨(Nat.le_of_ble_eq_true rfl), (Nat.le_of_ble_eq_true rfl)⟩ dX8_refusesAsText_31
  · replace h := it_t c2 h
    refine g_bipush hC (-11) dX8_refusesAsText_7 (by decide) ?_
    exact g_iret hC h ⟨(Nat.le_of_ble_eq_true rfl), (Nat.le_of_ble_eq_true rfl)⟩ dX8_refusesAsText_9

set_option maxHeartbeats 4000000 in
set_option maxRecDepth 100000 in
theorem c_X10_init (l : Launch) (Γ : Gm) (this : Nat) (M M' : Mm) (h : F_X10_init this M = some M') : Met l yX10_init (wz yX10_init cX10_init 1 none) ({ frames := 3, cells := 32, slots := 4290, locals := 60 } : Room) (Pq Γ M [.ref this]) (Qv Γ M') 32 4290 (fr Γ) := by
  refine met_of (own := RX10) (by decide +kernel) rfl (Nat.le_of_ble_eq_true rfl) ?_
  intro X hC hR hnm hXl
  unfold F_X10_init at h
  show G Γ X 1 M 0 0 _ 0 ([(0, .ref this)]) []
  refine g_aload_n hC 0 dX10_init_0 rfl ?_
  refine g_objInit hC ok_X10_3 hR (Nat.le_of_ble_eq_true rfl) ⟨(Nat.le_of_ble_eq_true rfl), (Nat.le_of_ble_eq_true rfl)⟩ dX10_init_1 ?_
  refine g_aload_n hC 0 dX10_init_4 rfl ?_
  replace h := nv_e h; obtain ⟨a1, ea1, h⟩ := h
  replace h := nv_e h; obtain ⟨M2, eM2, h⟩ := h
  refine g_newO2 (n := 7) hC ea1 eM2 cl_7 rfl ck_X10_9.1 ck_X10_9.2.1 ck_X10_9.2.2 nd_7 (by rw [hR]; exact ⟨(Nat.le_of_ble_eq_true rfl), (Nat.le_of_ble_eq_true rfl)⟩) dX10_init_5 ?_
  refine g_dup hC dX10_init_8 rfl ?_
  replace h := ob h; obtain ⟨M3, eM3, h⟩ := h
  refine g_callv hC (r_I hC (As := []) (c_X7_init _ Γ a1 M2 M3 eM3) yk_X7_init lk_X10_11 rfl rfl (Nat.le_of_ble_eq_true rfl) hR ⟨(Nat.le_of_ble_eq_true rfl), (Nat.le_of_ble_eq_true rfl)⟩ ⟨(Nat.le_of_ble_eq_true rfl), (Nat.le_of_ble_eq_true rfl)⟩ dX10_init_9) ?_
  replace h := ob h; obtain ⟨M4, eM4, h⟩ := h
  refine g_putFR (v := (some a1)) hC eM4 fk_X10_12 (ow_10 rfl) (hnm.trans rfl) (Or.inl ⟨_, rfl⟩) rfl dX10_init_12 ?_
  refine g_aload_n hC 0 dX10_init_15 rfl ?_
  refine g_bipush hC 8 dX10_init_16 (by decide) ?_
  replace h := nv_e h; obtain ⟨a5, ea5, h⟩ := h
  replace h := nv_e h; obtain ⟨M6, eM6, h⟩ := h
  refine g_newR2 (N := 8) (t := 3) hC ea5 eM6 (by decide) rk_X10_18 (by decide) (by rw [hR]; exact ⟨(Nat.le_of_ble_eq_true rfl), (Nat.le_of_ble_eq_true rfl)⟩) dX10_init_18 ?_
  replace h := ob h; obtain ⟨M7, eM7, h⟩ := h
  refine g_putFR (v := (some a5)) hC eM7 fk_X10_20 (ow_10 rfl) (hnm.trans rfl) (Or.inr ⟨_, rfl⟩) rfl dX10_init_21 ?_
  refine g_aload_n hC 0 dX10_init_24 rfl ?_
  refine g_iconst hC 0 dX10_init_25 (by decide) ?_
  replace h := ob h; obtain ⟨M8, eM8, h⟩ := h
  refine g_putI hC eM8 fk_X10_24 rfl dX10_init_26 ?_
  refine g_aload_n hC 0 dX10_init_29 rfl ?_
  refine g_iconst hC 0 dX10_init_30 (by decide) ?_
  replace h := ob h; obtain ⟨M9, eM9, h⟩ := h
  refine g_putI hC eM9 fk_X10_28 rfl dX10_init_31 ?_
  refine g_aload_n hC 0 dX10_init_34 rfl ?_
  refine g_iconst hC 0 dX10_init_35 (by decide) ?_
  replace h := ob h; obtain ⟨M10, eM10, h⟩ := h
  refine g_putI hC eM10 fk_X10_31 rfl dX10_init_36 ?_
  refine g_aload_n hC 0 dX10_init_39 rfl ?_
  refine g_sipush hC 401 dX10_init_40 (by decide) ?_
  replace h := nv_e h; obtain ⟨a11, ea11, h⟩ := h
  replace h := nv_e h; obtain ⟨M12, eM12, h⟩ := h
  refine g_newI2 (N := 401) hC ea11 eM12 ak_int (by decide) (by rw [hR]; exact ⟨(Nat.le_of_ble_eq_true rfl), (Nat.le_of_ble_eq_true rfl)⟩) dX10_init_43 ?_
  replace h := ob h; obtain ⟨M13, eM13, h⟩ := h
  refine g_putFR (v := (some a11)) hC eM13 fk_X10_34 (ow_10 rfl) (hnm.trans rfl) (Or.inr ⟨_, rfl⟩) rfl dX10_init_45 ?_
  refine g_aload_n hC 0 dX10_init_48 rfl ?_
  refine g_bipush hC 10 dX10_init_49 (by decide) ?_
  replace h := nv_e h; obtain ⟨a14, ea14, h⟩ := h
  replace h := nv_e h; obtain ⟨M15, eM15, h⟩ := h
  refine g_newR2 (N := 10) (t := 4) hC ea14 eM15 (by decide) rk_X10_38 (by decide) (by rw [hR]; exact ⟨(Nat.le_of_ble_eq_true rfl), (Nat.le_of_ble_eq_true rfl)⟩) dX10_init_51 ?_
  replace h := ob h; obtain ⟨M16, eM16, h⟩ := h
  refine g_putFR (v := (some a14)) hC eM16 fk_X10_40 (ow_10 rfl) (hnm.trans rfl) (Or.inr ⟨_, rfl⟩) rfl dX10_init_54 ?_
  refine g_aload_n hC 0 dX10_init_57 rfl ?_
  refine g_iconst hC 0 dX10_init_58 (by decide) ?_
  replace h := ob h; obtain ⟨M17, eM17, h⟩ := h
  refine g_putI hC eM17 fk_X10_44 rfl dX10_init_59 ?_
  refine g_aload_n hC 0 dX10_init_62 rfl ?_
  replace h := nv_e h; obtain ⟨a18, ea18, h⟩ := h
  replace h := nv_e h; obtain ⟨M19, eM19, h⟩ := h
  refine g_newO2 (n := 5) hC ea18 eM19 cl_1 rfl ck_X10_47.1 ck_X10_47.2.1 ck_X10_47.2.2 nd_1 (by rw [hR]; exact ⟨(Nat.le_of_ble_eq_true rfl), (Nat.le_of_ble_eq_true rfl)⟩) dX10_init_63 ?_
  refine g_dup hC dX10_init_66 rfl ?_
  replace h := ob h; obtain ⟨M20, eM20, h⟩ := h
  refine g_callv hC (r_IN hC (As := []) (c_X1_init _ Γ a18 M19 M20 eM20) yk_X1_init lk_X10_49 rfl rfl (Nat.le_of_ble_eq_true rfl) hR ⟨(Nat.le_of_ble_eq_true rfl), (Nat.le_of_ble_eq_true rfl)⟩ ⟨(Nat.le_of_ble_eq_true rfl), (Nat.le_of_ble_eq_true rfl)⟩ dX10_init_67) ?_
  replace h := ob h; obtain ⟨M21, eM21, h⟩ := h
  refine g_putFR (v := (some a18)) hC eM21 fk_X10_50 (ow_10 rfl) (hnm.trans rfl) (Or.inl ⟨_, rfl⟩) rfl dX10_init_70 ?_
  refine g_aload_n hC 0 dX10_init_73 rfl ?_
  replace h := nv_e h; obtain ⟨a22, ea22, h⟩ := h
  replace h := nv_e h; obtain ⟨M23, eM23, h⟩ := h
  refine g_newO2 (n := 12) hC ea22 eM23 cl_6 rfl ck_X10_54.1 ck_X10_54.2.1 ck_X10_54.2.2 nd_6 (by rw [hR]; exact ⟨(Nat.le_of_ble_eq_true rfl), (Nat.le_of_ble_eq_true rfl)⟩) dX10_init_74 ?_
  refine g_dup hC dX10_init_77 rfl ?_
  replace h := ob h; obtain ⟨M24, eM24, h⟩ := h
  refine g_callv hC (r_IN hC (As := []) (c_X6_init _ Γ a22 M23 M24 eM24) yk_X6_init lk_X10_56 rfl rfl (Nat.le_of_ble_eq_true rfl) hR ⟨(Nat.le_of_ble_eq_true rfl), (Nat.le_of_ble_eq_true rfl)⟩ ⟨(Nat.le_of_ble_eq_true rfl), (Nat.le_of_ble_eq_true rfl)⟩ dX10_init_78) ?_
  replace h := ob h; obtain ⟨M25, eM25, h⟩ := h
  refine g_putFR (v := (some a22)) hC eM25 fk_X10_57 (ow_10 rfl) (hnm.trans rfl) (Or.inl ⟨_, rfl⟩) rfl dX10_init_81 ?_
  refine g_aload_n hC 0 dX10_init_84 rfl ?_
  replace h := nv_e h; obtain ⟨a26, ea26, h⟩ := h
  replace h := nv_e h; obtain ⟨M27, eM27, h⟩ := h
  refine g_newO2 (n := 3) hC ea26 eM27 cl_4 rfl ck_X10_61.1 ck_X10_61.2.1 ck_X10_61.2.2 nd_4 (by rw [hR]; exact ⟨(Nat.le_of_ble_eq_true rfl), (Nat.le_of_ble_eq_true rfl)⟩) dX10_init_85 ?_
  refine g_dup hC dX10_init_88 rfl ?_
  replace h := ob h; obtain ⟨M28, eM28, h⟩ := h
  refine g_callv hC (r_IN hC (As := []) (c_X4_init _ Γ a26 M27 M28 eM28) yk_X4_init lk_X10_63 rfl rfl (Nat.le_of_ble_eq_true rfl) hR ⟨(Nat.le_of_ble_eq_true rfl), (Nat.le_of_ble_eq_true rfl)⟩ ⟨(Nat.le_of_ble_eq_true rfl), (Nat.le_of_ble_eq_true rfl)⟩ dX10_init_89) ?_
  replace h := ob h; obtain ⟨M29, eM29, h⟩ := h
  refine g_putFR (v := (some a26)) hC eM29 fk_X10_64 (ow_10 rfl) (hnm.trans rfl) (Or.inl ⟨_, rfl⟩) rfl dX10_init_92 ?_
  exact g_vret hC h ⟨(Nat.le_of_ble_eq_true rfl), (Nat.le_of_ble_eq_true rfl)⟩ dX10_init_95

set_option maxHeartbeats 4000000 in
set_option maxRecDepth 100000 in
theorem c_X10_roomFor (l : Launch) (Γ : Gm) (this : Nat) (p1 : Int32) (M M' : Mm) (r : Option Nat) (h : F_X10_roomFor this p1 M = some (r, M')) : Met l yX10_roomFor (wz yX10_roomFor cX10_roomFor 2 (some (.object "DeepWings$Glider"))) ({ frames := 2, cells := 2, slots := 412, locals := 40 } : Room) (Pq Γ M [.ref this, .int p1]) (Qr Γ r M') 2 412 (fr Γ) := by
  refine met_of (own := RX10) (by decide +kernel) rfl (Nat.le_of_ble_eq_true rfl) ?_
  intro X hC hR hnm hXl
  unfold F_X10_roomFor at h
  show G Γ X 2 M 0 0 _ 0 ([(0, .ref this), (1, .int p1)]) []
  refine g_aload_n hC 0 dX10_roomFor_0 rfl ?_
  replace h := ob h; obtain ⟨v1, ev1, h⟩ := h
  refine g_getR hC ev1 fk_X10_20 rfl dX10_roomFor_1 ?_
  refine g_iload_n hC 1 dX10_roomFor_4 rfl ?_
  replace h := ob h; obtain ⟨a3, ea3, h⟩ := h
  subst ea3
  replace h := ob h; obtain ⟨v2, ev2, h⟩ := h
  refine g_aald hC ev2 (by decide) dX10_roomFor_5 ?_
  refine g_ifnonnull hC 22 dX10_roomFor_6 (by decide) (fun a4 ca4 => ?_) (fun ca4 => ?_)
  · subst ca4
    replace h := oe_s h
    refine g_aload_n hC 0 dX10_roomFor_22 rfl ?_
    replace h := ob h; obtain ⟨v14, ev14, h⟩ := h
    refine g_getR hC ev14 fk_X10_20 rfl dX10_roomFor_23 ?_
    refine g_iload_n hC 1 dX10_roomFor_26 rfl ?_
    replace h := ob h; obtain ⟨a16, ea16, h⟩ := h
    subst ea16
    replace h := ob h; obtain ⟨v15, ev15, h⟩ := h
    refine g_aald hC ev15 (by decide) dX10_roomFor_27 ?_
    exact g_aret (v := v15) hC rfl (Or.inl ⟨_, rfl⟩) h ⟨(Nat.le_of_ble_eq_true rfl), (Nat.le_of_ble_eq_true rfl)⟩ dX10_roomFor_28
  · subst ca4
    replace h := oe_n h
    refine g_aload_n hC 0 dX10_roomFor_9 rfl ?_
    replace h := ob h; obtain ⟨v5, ev5, h⟩ := h
    refine g_getR hC ev5 fk_X10_20 rfl dX10_roomFor_10 ?_
    refine g_iload_n hC 1 dX10_roomFor_13 rfl ?_
    replace h := nv_e h; obtain ⟨a6, ea6, h⟩ := h
    replace h := nv_e h; obtain ⟨M7, eM7, h⟩ := h
    refine g_newO2 (n := 12) hC ea6 eM7 cl_0 rfl ck_X10_18.1 ck_X10_18.2.1 ck_X10_18.2.2 nd_0 (by rw [hR]; exact ⟨(Nat.le_of_ble_eq_true rfl), (Nat.le_of_ble_eq_true rfl)⟩) dX10_roomFor_14 ?_
    refine g_dup hC dX10_roomFor_17 rfl ?_
    replace h := ob h; obtain ⟨M8, eM8, h⟩ := h
    refine g_callv hC (r_IN hC (As := []) (c_X0_init _ Γ a6 M7 M8 eM8) yk_X0_init lk_X10_89 rfl rfl (by simp only [List.map, cat_rf]; exact Nat.le_of_ble_eq_true rfl) hR ⟨(Nat.le_of_ble_eq_true rfl), (Nat.le_of_ble_eq_true rfl)⟩ ⟨(Nat.le_of_ble_eq_true rfl), (Nat.le_of_ble_eq_true rfl)⟩ dX10_roomFor_18) ?_
    replace h := ob h; obtain ⟨a10, ea10, h⟩ := h
    subst ea10
    replace h := ob h; obtain ⟨M9, eM9, h⟩ := h
    refine g_aast hC eM9 (by decide) ⟨_, rfl, rfl⟩ dX10_roomFor_21 ?_
    refine g_aload_n hC 0 dX10_roomFor_22 rfl ?_
    replace h := ob h; obtain ⟨v11, ev11, h⟩ := h
    refine g_getR hC ev11 fk_X10_20 rfl dX10_roomFor_23 ?_
    refine g_iload_n hC 1 dX10_roomFor_26 rfl ?_
    replace h := ob h; obtain ⟨a13, ea13, h⟩ := h
    subst ea13
    replace h := ob h; obtain ⟨v12, ev12, h⟩ := h
    refine g_aald hC ev12 (by decide) dX10_roomFor_27 ?_
    exact g_aret (v := v12) hC rfl (Or.inl ⟨_, rfl⟩) h ⟨(Nat.le_of_ble_eq_true rfl), (Nat.le_of_ble_eq_true rfl)⟩ dX10_roomFor_28

set_option maxHeartbeats 4000000 in
set_option maxRecDepth 100000 in
theorem l_X10_become_L21 {Γ : Gm} {X : Ct} (hC : Cx Γ X cX10_become RX10 none 3) (hR : X.2.2.2.1 = ({ frames := 4, cells := 18, slots := 3708, locals := 89 } : Room)) (M' : Mm) {CE SE : Nat} (hCE : CE ≤ 18) (hSE : SE ≤ 3708) (k49 : Mm → Option Mm) (x0 : Nat) (x1 : Nat) (hk49 : ∀  (M1 : Mm), k49  M1 = some M' → G Γ X 3 M1 CE SE (Fin Γ X (Qv Γ M') 18 3708) 49 ([(0, .ref x0), (1, .ref x1)]) []) : ∀ (fu : Nat) (cs sl : Nat) (x2 : Int32) (M0 : Mm) (h1 : cs + fu * 2 ≤ CE) (h2 : sl + fu * 412 ≤ SE), F_X10_become_L21 k49 x0 x1 fu x2 M0 = some M' → G Γ X 3 M0 cs sl (Fin Γ X (Qv Γ M') 18 3708) 21 ([(0, .ref x0), (1, .ref x1), (2, .int x2)]) [] := by
  intro fu
  induction fu with
  | zero =>
    intro cs sl x2 M0 h1 h2 h
    rw [F_X10_become_L21] at h
    cases h
  | succ n9 ih =>
    intro cs sl x2 M0 h1 h2 h
    rw [F_X10_become_L21] at h
    refine g_iload_n hC 2 dX10_become_21 rfl ?_
    refine g_aload_n hC 0 dX10_become_22 rfl ?_
    replace h := ob h; obtain ⟨v10, ev10, h⟩ := h
    refine g_getI hC ev10 fk_X10_24 rfl dX10_become_23 ?_
    refine g_icmp_ge hC 49 dX10_become_26 (by decide) (fun c11 => ?_) (fun c11 => ?_)
    · replace h := it_t c11 h
      refine g_sub [0, 1] rfl ?_
      refine g_widen (c' := CE) (s' := SE) (by omega) (by omega) ?_
      exact hk49  M0 h
    · replace h := it_f c11 h
      refine g_aload_n hC 0 dX10_become_29 rfl ?_
      refine g_iload_n hC 2 dX10_become_30 rfl ?_
      replace h := ob h; obtain ⟨_, eu13, h⟩ := h
      replace h := ob h; obtain ⟨⟨v14, M12⟩, eM12, h⟩ := h
      refine g_callr hC (r_V hC (As := [.int x2]) (c_X10_roomFor _ Γ x0 x2 M0 M12 v14 eM12) yk_X10_roomFor lk_X10_72 eu13 ⟨_, rfl, rfl⟩ rfl rfl (Nat.le_of_ble_eq_true rfl) hR ⟨(Nat.le_of_ble_eq_true rfl), (Nat.le_of_ble_eq_true rfl)⟩ ⟨(by omega), (by omega)⟩ dX10_become_31) ?_
      refine g_aload_n hC 1 dX10_become_34 rfl ?_
      replace h := ob h; obtain ⟨v15, ev15, h⟩ := h
      refine g_getR hC ev15 fk_X10_20 rfl dX10_become_35 ?_
      refine g_iload_n hC 2 dX10_become_38 rfl ?_
      replace h := ob h; obtain ⟨a17, ea17, h⟩ := h
      subst ea17
      replace h := ob h; obtain ⟨v16, ev16, h⟩ := h
      refine g_aald hC ev16 (by decide) dX10_become_39 ?_
      replace h := ob h; obtain ⟨a18, ea18, h⟩ := h
      subst ea18
      replace h := ob h; obtain ⟨a19, ea19, h⟩ := h
      subst ea19
      replace h := ob h; obtain ⟨_, eu21, h⟩ := h
      replace h := ob h; obtain ⟨M20, eM20, h⟩ := h
      refine g_callv hC (r_V hC (As := [.ref a18]) (c_X0_become _ Γ a19 a18 M12 M20 eM20) yk_X0_become lk_X10_76 eu21 ⟨_, rfl, rfl⟩ rfl rfl (Nat.le_of_ble_eq_true rfl) hR ⟨(Nat.le_of_ble_eq_true rfl), (Nat.le_of_ble_eq_true rfl)⟩ ⟨(by omega), (by omega)⟩ dX10_become_40) ?_
      refine g_iinc hC 2 (x2 + 1) ([(2, .int (x2 + 1)), (0, .ref x0), (1, .ref x1)]) dX10_become_43 rfl rfl (by decide) rfl ?_
      refine g_goto hC 21 dX10_become_46 (by decide) ?_
      refine g_sub [1, 2, 0] rfl ?_
      exact ih _ _ (x2 + 1) M20 (by omega) (by omega) h
set_option maxHeartbeats 4000000 in
set_option maxRecDepth 100000 in
theorem l_X10_become_L86 {Γ : Gm} {X : Ct} (hC : Cx Γ X cX10_become RX10 none 3) (hR : X.2.2.2.1 = ({ frames := 4, cells := 18, slots := 3708, locals := 89 } : Room)) (M' : Mm)  (x0 : Nat) (x1 : Nat) : ∀ (fu : Nat) (x2 : Int32) (M0 : Mm), F_X10_become_L86 x0 x1 fu x2 M0 = some M' → G Γ X 3 M0 18 3708 (Fin Γ X (Qv Γ M') 18 3708) 86 ([(0, .ref x0), (1, .ref x1), (2, .int x2)]) [] := by
  intro fu
  induction fu with
  | zero =>
    intro x2 M0 h
    rw [F_X10_become_L86] at h
    cases h
  | succ n34 ih =>
    intro x2 M0 h
    rw [F_X10_become_L86] at h
    refine g_iload_n hC 2 dX10_become_86 rfl ?_
    refine g_aload_n hC 0 dX10_become_87 rfl ?_
    replace h := ob h; obtain ⟨v35, ev35, h⟩ := h
    refine g_getI hC ev35 fk_X10_44 rfl dX10_become_88 ?_
    refine g_icmp_ge hC 112 dX10_become_91 (by decide) (fun c36 => ?_) (fun c36 => ?_)
    · replace h := it_t c36 h
      refine g_aload_n hC 0 dX10_become_112 rfl ?_
      replace h := ob h; obtain ⟨v37, ev37, h⟩ := h
      refine g_getR hC ev37 fk_X10_50 rfl dX10_become_113 ?_
      refine g_aload_n hC 1 dX10_become_116 rfl ?_
      replace h := ob h; obtain ⟨v38, ev38, h⟩ := h
      refine g_getR hC ev38 fk_X10_50 rfl dX10_become_117 ?_
      replace h := ob h; obtain ⟨a39, ea39, h⟩ := h
      subst ea39
      replace h := ob h; obtain ⟨a40, ea40, h⟩ := h
      subst ea40
      replace h := ob h; obtain ⟨_, eu42, h⟩ := h
      replace h := ob h; obtain ⟨M41, eM41, h⟩ := h
      refine g_callv hC (r_V hC (As := [.ref a39]) (c_X1_become _ Γ a40 a39 M0 M41 eM41) yk_X1_become lk_X10_83 eu42 ⟨_, rfl, rfl⟩ rfl rfl (Nat.le_of_ble_eq_true rfl) hR ⟨(Nat.le_of_ble_eq_true rfl), (Nat.le_of_ble_eq_true rfl)⟩ ⟨(Nat.le_of_ble_eq_true rfl), (Nat.le_of_ble_eq_true rfl)⟩ dX10_become_120) ?_
      refine g_aload_n hC 0 dX10_become_123 rfl ?_
      replace h := ob h; obtain ⟨v43, ev43, h⟩ := h
      refine g_getR hC ev43 fk_X10_57 rfl dX10_become_124 ?_
      refine g_aload_n hC 1 dX10_become_127 rfl ?_
      replace h := ob h; obtain ⟨v44, ev44, h⟩ := h
      refine g_getR hC ev44 fk_X10_57 rfl dX10_become_128 ?_
      replace h := ob h; obtain ⟨a45, ea45, h⟩ := h
      subst ea45
      replace h := ob h; obtain ⟨a46, ea46, h⟩ := h
      subst ea46
      replace h := ob h; obtain ⟨_, eu48, h⟩ := h
      replace h := ob h; obtain ⟨M47, eM47, h⟩ := h
      refine g_callv hC (r_V hC (As := [.ref a45]) (c_X6_become _ Γ a46 a45 M41 M47 eM47) yk_X6_become lk_X10_86 eu48 ⟨_, rfl, rfl⟩ rfl rfl (Nat.le_of_ble_eq_true rfl) hR ⟨(Nat.le_of_ble_eq_true rfl), (Nat.le_of_ble_eq_true rfl)⟩ ⟨(Nat.le_of_ble_eq_true rfl), (Nat.le_of_ble_eq_true rfl)⟩ dX10_become_131) ?_
      exact g_vret hC h ⟨(Nat.le_of_ble_eq_true rfl), (Nat.le_of_ble_eq_true rfl)⟩ dX10_become_134
    · replace h := it_f c36 h
      refine g_aload_n hC 0 dX10_become_94 rfl ?_
      replace h := ob h; obtain ⟨v49, ev49, h⟩ := h
      refine g_getR hC ev49 fk_X10_40 rfl dX10_become_95 ?_
      refine g_iload_n hC 2 dX10_become_98 rfl ?_
      refine g_aload_n hC 1 dX10_become_99 rfl ?_
      replace h := ob h; obtain ⟨v50, ev50, h⟩ := h
      refine g_getR hC ev50 fk_X10_40 rfl dX10_become_100 ?_
      refine g_iload_n hC 2 dX10_become_103 rfl ?_
      replace h := ob h; obtain ⟨a52, ea52, h⟩ := h
      subst ea52
      replace h := ob h; obtain ⟨v51, ev51, h⟩ := h
      refine g_aald hC ev51 (by decide) dX10_become_104 ?_
      replace h := ob h; obtain ⟨a54, ea54, h⟩ := h
      subst ea54
      replace h := ob h; obtain ⟨a55, ea55, h⟩ := h
      subst ea55
      replace h := ob h; obtain ⟨M53, eM53, h⟩ := h
      refine g_aast hC eM53 (by decide) ⟨_, rfl, rfl⟩ dX10_become_105 ?_
      refine g_iinc hC 2 (x2 + 1) ([(2, .int (x2 + 1)), (0, .ref x0), (1, .ref x1)]) dX10_become_106 rfl rfl (by decide) rfl ?_
      refine g_goto hC 86 dX10_become_109 (by decide) ?_
      refine g_sub [1, 2, 0] rfl ?_
      exact ih (x2 + 1) M53 h
set_option maxHeartbeats 4000000 in
set_option maxRecDepth 100000 in
theorem c_X10_become (l : Launch) (Γ : Gm) (this : Nat) (p1 : Nat) (M M' : Mm) (h : F_X10_become this p1 M = some M') : Met l yX10_become (wz yX10_become cX10_become 3 none) ({ frames := 4, cells := 18, slots := 3708, locals := 89 } : Room) (Pq Γ M [.ref this, .ref p1]) (Qv Γ M') 18 3708 (fr Γ) := by
  refine met_of (own := RX10) (by decide +kernel) rfl (Nat.le_of_ble_eq_true rfl) ?_
  intro X hC hR hnm hXl
  unfold F_X10_become at h
  show G Γ X 3 M 0 0 _ 0 ([(0, .ref this), (1, .ref p1)]) []
  refine g_aload_n hC 0 dX10_become_0 rfl ?_
  replace h := ob h; obtain ⟨v1, ev1, h⟩ := h
  refine g_getR hC ev1 fk_X10_12 rfl dX10_become_1 ?_
  refine g_aload_n hC 1 dX10_become_4 rfl ?_
  replace h := ob h; obtain ⟨v2, ev2, h⟩ := h
  refine g_getR hC ev2 fk_X10_12 rfl dX10_become_5 ?_
  replace h := ob h; obtain ⟨a3, ea3, h⟩ := h
  subst ea3
  replace h := ob h; obtain ⟨a4, ea4, h⟩ := h
  subst ea4
  replace h := ob h; obtain ⟨_, eu6, h⟩ := h
  replace h := ob h; obtain ⟨M5, eM5, h⟩ := h
  refine g_callv hC (r_V hC (As := [.ref a3]) (c_X7_become _ Γ a4 a3 M M5 eM5) yk_X7_become lk_X10_68 eu6 ⟨_, rfl, rfl⟩ rfl rfl (Nat.le_of_ble_eq_true rfl) hR ⟨(Nat.le_of_ble_eq_true rfl), (Nat.le_of_ble_eq_true rfl)⟩ ⟨(Nat.le_of_ble_eq_true rfl), (Nat.le_of_ble_eq_true rfl)⟩ dX10_become_8) ?_
  refine g_aload_n hC 0 dX10_become_11 rfl ?_
  refine g_aload_n hC 1 dX10_become_12 rfl ?_
  replace h := ob h; obtain ⟨v7, ev7, h⟩ := h
  refine g_getI hC ev7 fk_X10_24 rfl dX10_become_13 ?_
  replace h := ob h; obtain ⟨M8, eM8, h⟩ := h
  refine g_putI hC eM8 fk_X10_24 rfl dX10_become_16 ?_
  refine g_iconst hC 0 dX10_become_19 (by decide) ?_
  refine g_istore_n hC ([(2, .int 0), (0, .ref this), (1, .ref p1)]) dX10_become_20 (by decide) rfl ?_
  refine g_sub [1, 2, 0] rfl ?_
  refine l_X10_become_L21 hC hR M' (CE := 18) (SE := 3708) (Nat.le_of_ble_eq_true rfl) (Nat.le_of_ble_eq_true rfl) _ _ _ ?_ _ _ _ _ _ (Nat.le_of_ble_eq_true rfl) (Nat.le_of_ble_eq_true rfl) h
  intro  M22 h
  refine g_aload_n hC 0 dX10_become_49 rfl ?_
  refine g_aload_n hC 1 dX10_become_50 rfl ?_
  replace h := ob h; obtain ⟨v23, ev23, h⟩ := h
  refine g_getI hC ev23 fk_X10_28 rfl dX10_become_51 ?_
  replace h := ob h; obtain ⟨M24, eM24, h⟩ := h
  refine g_putI hC eM24 fk_X10_28 rfl dX10_become_54 ?_
  refine g_aload_n hC 0 dX10_become_57 rfl ?_
  refine g_aload_n hC 1 dX10_become_58 rfl ?_
  replace h := ob h; obtain ⟨v25, ev25, h⟩ := h
  refine g_getI hC ev25 fk_X10_31 rfl dX10_become_59 ?_
  replace h := ob h; obtain ⟨M26, eM26, h⟩ := h
  refine g_putI hC eM26 fk_X10_31 rfl dX10_become_62 ?_
  refine g_aload_n hC 1 dX10_become_65 rfl ?_
  replace h := ob h; obtain ⟨v27, ev27, h⟩ := h
  refine g_getR hC ev27 fk_X10_34 rfl dX10_become_66 ?_
  refine g_aload_n hC 0 dX10_become_69 rfl ?_
  replace h := ob h; obtain ⟨v28, ev28, h⟩ := h
  refine g_getR hC ev28 fk_X10_34 rfl dX10_become_70 ?_
  replace h := ob h; obtain ⟨a29, ea29, h⟩ := h
  subst ea29
  replace h := ob h; obtain ⟨a30, ea30, h⟩ := h
  subst ea30
  replace h := ob h; obtain ⟨M31, eM31, h⟩ := h
  refine g_callv hC (r_SN hC (As := [.ref a30, .ref a29]) (c_X11_copyAll _ Γ a30 a29 M26 M31 eM31) yk_X11_copyAll lk_X10_79 rfl rfl (Nat.le_of_ble_eq_true rfl) hR ⟨(Nat.le_of_ble_eq_true rfl), (Nat.le_of_ble_eq_true rfl)⟩ ⟨(Nat.le_of_ble_eq_true rfl), (Nat.le_of_ble_eq_true rfl)⟩ dX10_become_73) ?_
  refine g_aload_n hC 0 dX10_become_76 rfl ?_
  refine g_aload_n hC 1 dX10_become_77 rfl ?_
  replace h := ob h; obtain ⟨v32, ev32, h⟩ := h
  refine g_getI hC ev32 fk_X10_44 rfl dX10_become_78 ?_
  replace h := ob h; obtain ⟨M33, eM33, h⟩ := h
  refine g_putI hC eM33 fk_X10_44 rfl dX10_become_81 ?_
  refine g_iconst hC 0 dX10_become_84 (by decide) ?_
  refine g_istore_n hC ([(2, .int 0), (0, .ref this), (1, .ref p1)]) dX10_become_85 (by decide) rfl ?_
  refine g_sub [1, 2, 0] rfl ?_
  refine l_X10_become_L86 hC hR M'  _ _  _ _ _ h

set_option maxHeartbeats 4000000 in
set_option maxRecDepth 100000 in
theorem c_X10_addGlider (l : Launch) (Γ : Gm) (this : Nat) (p1 : Int32) (p2 : Int32) (p3 : Int32) (M M' : Mm) (r : Int32) (h : F_X10_addGlider this p1 p2 p3 M = some (r, M')) : Met l yX10_addGlider (wz yX10_addGlider cX10_addGlider 4 (some .int)) ({ frames := 3, cells := 2, slots := 412, locals := 61 } : Room) (Pq Γ M [.ref this, .int p1, .int p2, .int p3]) (Qi Γ r M') 2 412 (fr Γ) := by
  refine met_of (own := RX10) (by decide +kernel) rfl (Nat.le_of_ble_eq_true rfl) ?_
  intro X hC hR hnm hXl
  unfold F_X10_addGlider at h
  show G Γ X 4 M 0 0 _ 0 ([(0, .ref this), (1, .int p1), (2, .int p2), (3, .int p3)]) []
  refine g_aload_n hC 0 dX10_addGlider_0 rfl ?_
  refine g_aload_n hC 0 dX10_addGlider_1 rfl ?_
  replace h := ob h; obtain ⟨v1, ev1, h⟩ := h
  refine g_getI hC ev1 fk_X10_24 rfl dX10_addGlider_2 ?_
  replace h := ob h; obtain ⟨_, eu3, h⟩ := h
  replace h := ob h; obtain ⟨⟨v4, M2⟩, eM2, h⟩ := h
  refine g_callr hC (r_V hC (As := [.int v1]) (c_X10_roomFor _ Γ this v1 M M2 v4 eM2) yk_X10_roomFor lk_X10_72 eu3 ⟨_, rfl, rfl⟩ rfl rfl (Nat.le_of_ble_eq_true rfl) hR ⟨(Nat.le_of_ble_eq_true rfl), (Nat.le_of_ble_eq_true rfl)⟩ ⟨(Nat.le_of_ble_eq_true rfl), (Nat.le_of_ble_eq_true rfl)⟩ dX10_addGlider_5) ?_
  refine g_iload_n hC 1 dX10_addGlider_8 rfl ?_
  refine g_iload_n hC 2 dX10_addGlider_9 rfl ?_
  refine g_iload_n hC 3 dX10_addGlider_10 rfl ?_
  replace h := ob h; obtain ⟨a5, ea5, h⟩ := h
  subst ea5
  replace h := ob h; obtain ⟨_, eu7, h⟩ := h
  replace h := ob h; obtain ⟨M6, eM6, h⟩ := h
  refine g_callv hC (r_V hC (As := [.int p1, .int p2, .int p3]) (c_X0_begin _ Γ a5 p1 p2 p3 M2 M6 eM6) yk_X0_begin lk_X10_90 eu7 ⟨_, rfl, rfl⟩ rfl rfl (Nat.le_of_ble_eq_true rfl) hR ⟨(Nat.le_of_ble_eq_true rfl), (Nat.le_of_ble_eq_true rfl)⟩ ⟨(Nat.le_of_ble_eq_true rfl), (Nat.le_of_ble_eq_true rfl)⟩ dX10_addGlider_11) ?_
  refine g_aload_n hC 0 dX10_addGlider_14 rfl ?_
  refine g_dup hC dX10_addGlider_15 rfl ?_
  replace h := ob h; obtain ⟨v8, ev8, h⟩ := h
  refine g_getI hC ev8 fk_X10_24 rfl dX10_addGlider_16 ?_
  refine g_dup_x1 hC dX10_addGlider_19 rfl rfl ?_
  refine g_iconst hC 1 dX10_addGlider_20 (by decide) ?_
  refine g_iadd hC dX10_addGlider_21 ?_
  replace h := ob h; obtain ⟨M9, eM9, h⟩ := h
  refine g_putI hC eM9 fk_X10_24 rfl dX10_addGlider_22 ?_
  exact g_iret hC h ⟨(Nat.le_of_ble_eq_true rfl), (Nat.le_of_ble_eq_true rfl)⟩ dX10_addGlider_25

set_option maxHeartbeats 4000000 in
set_option maxRecDepth 100000 in
theorem c_X10_gliderAt (l : Launch) (Γ : Gm) (this : Nat) (p1 : Int32) (M M' : Mm) (r : Option Nat) (h : F_X10_gliderAt this p1 M = some (r, M')) : Met l yX10_gliderAt (wz yX10_gliderAt cX10_gliderAt 2 (some (.object "DeepWings$Glider"))) ({ frames := 0, cells := 0, slots := 0, locals := 0 } : Room) (Pq Γ M [.ref this, .int p1]) (Qr Γ r M') 0 0 (fr Γ) := by
  refine met_of (own := RX10) (by decide +kernel) rfl (Nat.le_of_ble_eq_true rfl) ?_
  intro X hC hR hnm hXl
  unfold F_X10_gliderAt at h
  show G Γ X 2 M 0 0 _ 0 ([(0, .ref this), (1, .int p1)]) []
  refine g_iload_n hC 1 dX10_gliderAt_0 rfl ?_
  refine g_if_lt hC 21 dX10_gliderAt_1 (by decide) (fun c1 => ?_) (fun c1 => ?_)
  · replace h := it_t c1 h
    refine g_null hC dX10_gliderAt_21 ?_
    exact g_aret (v := none) hC rfl (Or.inl ⟨_, rfl⟩) h ⟨(Nat.le_of_ble_eq_true rfl), (Nat.le_of_ble_eq_true rfl)⟩ dX10_gliderAt_22
  · replace h := it_f c1 h
    refine g_iload_n hC 1 dX10_gliderAt_4 rfl ?_
    refine g_aload_n hC 0 dX10_gliderAt_5 rfl ?_
    replace h := ob h; obtain ⟨v2, ev2, h⟩ := h
    refine g_getI hC ev2 fk_X10_24 rfl dX10_gliderAt_6 ?_
    refine g_icmp_ge hC 21 dX10_gliderAt_9 (by decide) (fun c3 => ?_) (fun c3 => ?_)
    · replace h := it_t c3 h
      refine g_null hC dX10_gliderAt_21 ?_
      exact g_aret (v := none) hC rfl (Or.inl ⟨_, rfl⟩) h ⟨(Nat.le_of_ble_eq_true rfl), (Nat.le_of_ble_eq_true rfl)⟩ dX10_gliderAt_22
    · replace h := it_f c3 h
      refine g_aload_n hC 0 dX10_gliderAt_12 rfl ?_
      replace h := ob h; obtain ⟨v4, ev4, h⟩ := h
      refine g_getR hC ev4 fk_X10_20 rfl dX10_gliderAt_13 ?_
      refine g_iload_n hC 1 dX10_gliderAt_16 rfl ?_
      replace h := ob h; obtain ⟨a6, ea6, h⟩ := h
      subst ea6
      replace h := ob h; obtain ⟨v5, ev5, h⟩ := h
      refine g_aald hC ev5 (by decide) dX10_gliderAt_17 ?_
      refine g_goto hC 22 dX10_gliderAt_18 (by decide) ?_
      exact g_aret (v := v5) hC rfl (Or.inl ⟨_, rfl⟩) h ⟨(Nat.le_of_ble_eq_true rfl), (Nat.le_of_ble_eq_true rfl)⟩ dX10_gliderAt_22

set_option maxHeartbeats 4000000 in
set_option maxRecDepth 100000 in
theorem c_X10_orderOf (l : Launch) (Γ : Gm) (this : Nat) (p1 : Nat) (M M' : Mm) (r : Option Nat) (h : F_X10_orderOf this p1 M = some (r, M')) : Met l yX10_orderOf (wz yX10_orderOf cX10_orderOf 2 (some (.object "DeepWings$Order"))) ({ frames := 0, cells := 0, slots := 0, locals := 0 } : Room) (Pq Γ M [.ref this, .ref p1]) (Qr Γ r M') 0 0 (fr Γ) := by
  refine met_of (own := RX10) (by decide +kernel) rfl (Nat.le_of_ble_eq_true rfl) ?_
  intro X hC hR hnm hXl
  unfold F_X10_orderOf at h
  show G Γ X 2 M 0 0 _ 0 ([(0, .ref this), (1, .ref p1)]) []
  refine g_aload_n hC 1 dX10_orderOf_0 rfl ?_
  replace h := ob h; obtain ⟨v1, ev1, h⟩ := h
  refine g_getI hC ev1 fk_X10_94 rfl dX10_orderOf_1 ?_
  refine g_if_lt hC 30 dX10_orderOf_4 (by decide) (fun c2 => ?_) (fun c2 => ?_)
  · replace h := it_t c2 h
    refine g_null hC dX10_orderOf_30 ?_
    exact g_aret (v := none) hC rfl (Or.inl ⟨_, rfl⟩) h ⟨(Nat.le_of_ble_eq_true rfl), (Nat.le_of_ble_eq_true rfl)⟩ dX10_orderOf_31
  · replace h := it_f c2 h
    refine g_aload_n hC 1 dX10_orderOf_7 rfl ?_
    replace h := ob h; obtain ⟨v3, ev3, h⟩ := h
    refine g_getI hC ev3 fk_X10_94 rfl dX10_orderOf_8 ?_
    refine g_aload_n hC 0 dX10_orderOf_11 rfl ?_
    replace h := ob h; obtain ⟨v4, ev4, h⟩ := h
    refine g_getI hC ev4 fk_X10_44 rfl dX10_orderOf_12 ?_
    refine g_icmp_ge hC 30 dX10_orderOf_15 (by decide) (fun c5 => ?_) (fun c5 => ?_)
    · replace h := it_t c5 h
      refine g_null hC dX10_orderOf_30 ?_
      exact g_aret (v := none) hC rfl (Or.inl ⟨_, rfl⟩) h ⟨(Nat.le_of_ble_eq_true rfl), (Nat.le_of_ble_eq_true rfl)⟩ dX10_orderOf_31
    · replace h := it_f c5 h
      refine g_aload_n hC 0 dX10_orderOf_18 rfl ?_
      replace h := ob h; obtain ⟨v6, ev6, h⟩ := h
      refine g_getR hC ev6 fk_X10_40 rfl dX10_orderOf_19 ?_
      refine g_aload_n hC 1 dX10_orderOf_22 rfl ?_
      replace h := ob h; obtain ⟨v7, ev7, h⟩ := h
      refine g_getI hC ev7 fk_X10_94 rfl dX10_orderOf_23 ?_
      replace h := ob h; obtain ⟨a9, ea9, h⟩ := h
      subst ea9
      replace h := ob h; obtain ⟨v8, ev8, h⟩ := h
      refine g_aald hC ev8 (by decide) dX10_orderOf_26 ?_
      refine g_goto hC 31 dX10_orderOf_27 (by decide) ?_
      exact g_aret (v := v8) hC rfl (Or.inl ⟨_, rfl⟩) h ⟨(Nat.le_of_ble_eq_true rfl), (Nat.le_of_ble_eq_true rfl)⟩ dX10_orderOf_31

set_option maxHeartbeats 4000000 in
set_option maxRecDepth 100000 in
theorem l_X10_isAnyUpWithin_L2 {Γ : Gm} {X : Ct} (hC : Cx Γ X cX10_isAnyUpWithin RX10 (some .boolean) 6) (hR : X.2.2.2.1 = ({ frames := 1, cells := 0, slots := 0, locals := 20 } : Room)) (r : Int32) (M' : Mm)  (x0 : Nat) (x1 : Int32) (x2 : Int32) : ∀ (fu : Nat) (x3 : Int32) (M0 : Mm), F_X10_isAnyUpWithin_L2 x0 x1 x2 fu x3 M0 = some (r, M') → G Γ X 6 M0 0 0 (Fin Γ X (Qi Γ r M') 0 0) 2 ([(0, .ref x0), (1, .int x1), (2, .int x2), (3, .int x3)]) [] := by
  intro fu
  induction fu with
  | zero =>
    intro x3 M0 h
    rw [F_X10_isAnyUpWithin_L2] at h
    cases h
  | succ n1 ih =>
    intro x3 M0 h
    rw [F_X10_isAnyUpWithin_L2] at h
    refine g_iload_n hC 3 dX10_isAnyUpWithin_2 rfl ?_
    refine g_aload_n hC 0 dX10_isAnyUpWithin_3 rfl ?_
    replace h := ob h; obtain ⟨v2, ev2, h⟩ := h
    refine g_getI hC ev2 fk_X10_24 rfl dX10_isAnyUpWithin_4 ?_
    refine g_icmp_ge hC 94 dX10_isAnyUpWithin_7 (by decide) (fun c3 => ?_) (fun c3 => ?_)
    · replace h := it_t c3 h
      refine g_iconst hC 0 dX10_isAnyUpWithin_94 (by decide) ?_
      exact g_zret hC (by decide) h ⟨(Nat.le_of_ble_eq_true rfl), (Nat.le_of_ble_eq_true rfl)⟩ dX10_isAnyUpWithin_95
    · replace h := it_f c3 h
      refine g_aload_n hC 0 dX10_isAnyUpWithin_10 rfl ?_
      replace h := ob h; obtain ⟨v4, ev4, h⟩ := h
      refine g_getR hC ev4 fk_X10_20 rfl dX10_isAnyUpWithin_11 ?_
      refine g_iload_n hC 3 dX10_isAnyUpWithin_14 rfl ?_
      replace h := ob h; obtain ⟨a6, ea6, h⟩ := h
      subst ea6
      replace h := ob h; obtain ⟨v5, ev5, h⟩ := h
      refine g_aald hC ev5 (by decide) dX10_isAnyUpWithin_15 ?_
      replace h := ob h; obtain ⟨a7, ea7, h⟩ := h
      subst ea7
      replace h := ob h; obtain ⟨v8, ev8, h⟩ := h
      refine g_getI hC ev8 fk_X10_97 rfl dX10_isAnyUpWithin_16 ?_
      replace h := ob h; obtain ⟨⟨v10, M9⟩, eM9, h⟩ := h
      refine g_calli hC (r_SN hC (As := [.int v8]) (c_X11_xOf _ Γ v8 M0 M9 v10 eM9) yk_X11_xOf lk_X10_100 rfl rfl (Nat.le_of_ble_eq_true rfl) hR ⟨(Nat.le_of_ble_eq_true rfl), (Nat.le_of_ble_eq_true rfl)⟩ ⟨(Nat.le_of_ble_eq_true rfl), (Nat.le_of_ble_eq_true rfl)⟩ dX10_isAnyUpWithin_19) ?_
      refine g_istore hC ([(4, .int v10), (0, .ref x0), (1, .int x1), (2, .int x2), (3, .int x3)]) dX10_isAnyUpWithin_22 (by decide) rfl ?_
      refine g_aload_n hC 1 dX10_isAnyUpWithin_24 rfl ?_
      replace h := ob h; obtain ⟨v11, ev11, h⟩ := h
      refine g_getR hC ev11 fk_X10_20 rfl dX10_isAnyUpWithin_25 ?_
      refine g_iload_n hC 4 dX10_isAnyUpWithin_28 rfl ?_
      replace h := ob h; obtain ⟨a13, ea13, h⟩ := h
      subst ea13
      replace h := ob h; obtain ⟨v12, ev12, h⟩ := h
      refine g_aald hC ev12 (by decide) dX10_isAnyUpWithin_29 ?_
      replace h := ob h; obtain ⟨a14, ea14, h⟩ := h
      subst ea14
      replace h := ob h; obtain ⟨v15, ev15, h⟩ := h
      refine g_getI hC ev15 fk_X10_97 rfl dX10_isAnyUpWithin_30 ?_
      replace h := ob h; obtain ⟨⟨v17, M16⟩, eM16, h⟩ := h
      refine g_calli hC (r_SN hC (As := [.int v15]) (c_X11_yOf _ Γ v15 M9 M16 v17 eM16) yk_X11_yOf lk_X10_104 rfl rfl (Nat.le_of_ble_eq_true rfl) hR ⟨(Nat.le_of_ble_eq_true rfl), (Nat.le_of_ble_eq_true rfl)⟩ ⟨(Nat.le_of_ble_eq_true rfl), (Nat.le_of_ble_eq_true rfl)⟩ dX10_isAnyUpWithin_33) ?_
      refine g_istore hC ([(5, .int v17), (4, .int v10), (0, .ref x0), (1, .int x1), (2, .int x2), (3, .int x3)]) dX10_isAnyUpWithin_36 (by decide) rfl ?_
      refine g_aload_n hC 2 dX10_isAnyUpWithin_38 rfl ?_
      replace h := ob h; obtain ⟨v18, ev18, h⟩ := h
      refine g_getR hC ev18 fk_X10_20 rfl dX10_isAnyUpWithin_39 ?_
      refine g_iload_n hC 5 dX10_isAnyUpWithin_42 rfl ?_
      replace h := ob h; obtain ⟨a20, ea20, h⟩ := h
      subst ea20
      replace h := ob h; obtain ⟨v19, ev19, h⟩ := h
      refine g_aald hC ev19 (by decide) dX10_isAnyUpWithin_43 ?_
      replace h := ob h; obtain ⟨a21, ea21, h⟩ := h
      subst ea21
      replace h := ob h; obtain ⟨v22, ev22, h⟩ := h
      refine g_getI hC ev22 fk_X10_107 rfl dX10_isAnyUpWithin_44 ?_
      refine g_if_ne hC 88 dX10_isAnyUpWithin_47 (by decide) (fun c23 => ?_) (fun c23 => ?_)
      · replace h := it_f c23 h
        refine g_iinc hC 5 (x3 + 1) ([(3, .int (x3 + 1)), (5, .int v17), (4, .int v10), (0, .ref x0), (1, .int x1), (2, .int x2)]) dX10_isAnyUpWithin_88 rfl rfl (by decide) rfl ?_
        refine g_goto hC 2 dX10_isAnyUpWithin_91 (by decide) ?_
        refine g_sub [3, 4, 5, 0] rfl ?_
        exact ih (x3 + 1) M16 h
      · replace h := it_t c23 h
        refine g_iload hC 1 dX10_isAnyUpWithin_50 rfl ?_
        refine g_iload_n hC 3 dX10_isAnyUpWithin_52 rfl ?_
        refine g_bipush hC 10 dX10_isAnyUpWithin_53 (by decide) ?_
        replace h := ob h; obtain ⟨v24, ev24, h⟩ := h
        refine g_idiv hC ev24 dX10_isAnyUpWithin_55 ?_
        refine g_icmp_lt hC 88 dX10_isAnyUpWithin_56 (by decide) (fun c25 => ?_) (fun c25 => ?_)
        · replace h := it_t c25 h
          refine g_iinc hC 5 (x3 + 1) ([(3, .int (x3 + 1)), (5, .int v17), (4, .int v10), (0, .ref x0), (1, .int x1), (2, .int x2)]) dX10_isAnyUpWithin_88 rfl rfl (by decide) rfl ?_
          refine g_goto hC 2 dX10_isAnyUpWithin_91 (by decide) ?_
          refine g_sub [3, 4, 5, 0] rfl ?_
          exact ih (x3 + 1) M16 h
        · replace h := it_f c25 h
          refine g_iload hC 1 dX10_isAnyUpWithin_59 rfl ?_
          refine g_iload_n hC 3 dX10_isAnyUpWithin_61 rfl ?_
          refine g_bipush hC 10 dX10_isAnyUpWithin_62 (by decide) ?_
          replace h := ob h; obtain ⟨v26, ev26, h⟩ := h
          refine g_irem hC ev26 dX10_isAnyUpWithin_64 ?_
          refine g_icmp_gt hC 88 dX10_isAnyUpWithin_65 (by decide) (fun c27 => ?_) (fun c27 => ?_)
          · replace h := it_t c27 h
            refine g_iinc hC 5 (x3 + 1) ([(3, .int (x3 + 1)), (5, .int v17), (4, .int v10), (0, .ref x0), (1, .int x1), (2, .int x2)]) dX10_isAnyUpWithin_88 rfl rfl (by decide) rfl ?_
            refine g_goto hC 2 dX10_isAnyUpWithin_91 (by decide) ?_
            refine g_sub [3, 4, 5, 0] rfl ?_
            exact ih (x3 + 1) M16 h
          · replace h := it_f c27 h
            refine g_iload hC 0 dX10_isAnyUpWithin_68 rfl ?_
            refine g_iload_n hC 4 dX10_isAnyUpWithin_70 rfl ?_
            refine g_bipush hC 10 dX10_isAnyUpWithin_71 (by decide) ?_
            replace h := ob h; obtain ⟨v28, ev28, h⟩ := h
            refine g_idiv hC ev28 dX10_isAnyUpWithin_73 ?_
            refine g_icmp_lt hC 88 dX10_isAnyUpWithin_74 (by decide) (fun c29 => ?_) (fun c29 => ?_)
            · replace h := it_t c29 h
              refine g_iinc hC 5 (x3 + 1) ([(3, .int (x3 + 1)), (5, .int v17), (4, .int v10), (0, .ref x0), (1, .int x1), (2, .int x2)]) dX10_isAnyUpWithin_88 rfl rfl (by decide) rfl ?_
              refine g_goto hC 2 dX10_isAnyUpWithin_91 (by decide) ?_
              refine g_sub [3, 4, 5, 0] rfl ?_
              exact ih (x3 + 1) M16 h
            · replace h := it_f c29 h
              refine g_iload hC 0 dX10_isAnyUpWithin_77 rfl ?_
              refine g_iload_n hC 4 dX10_isAnyUpWithin_79 rfl ?_
              refine g_bipush hC 10 dX10_isAnyUpWithin_80 (by decide) ?_
              replace h := ob h; obtain ⟨v30, ev30, h⟩ := h
              refine g_irem hC ev30 dX10_isAnyUpWithin_82 ?_
              refine g_icmp_gt hC 88 dX10_isAnyUpWithin_83 (by decide) (fun c31 => ?_) (fun c31 => ?_)
              · replace h := it_t c31 h
                refine g_iinc hC 5 (x3 + 1) ([(3, .int (x3 + 1)), (5, .int v17), (4, .int v10), (0, .ref x0), (1, .int x1), (2, .int x2)]) dX10_isAnyUpWithin_88 rfl rfl (by decide) rfl ?_
                refine g_goto hC 2 dX10_isAnyUpWithin_91 (by decide) ?_
                refine g_sub [3, 4, 5, 0] rfl ?_
                exact ih (x3 + 1) M16 h
              · replace h := it_f c31 h
                refine g_iconst hC 1 dX10_isAnyUpWithin_86 (by decide) ?_
                exact g_zret hC (by decide) h ⟨(Nat.le_of_ble_eq_true rfl), (Nat.le_of_ble_eq_true rfl)⟩ dX10_isAnyUpWithin_87
set_option maxHeartbeats 4000000 in
set_option maxRecDepth 100000 in
theorem c_X10_isAnyUpWithin (l : Launch) (Γ : Gm) (this : Nat) (p1 : Int32) (p2 : Int32) (M M' : Mm) (r : Int32) (h : F_X10_isAnyUpWithin this p1 p2 M = some (r, M')) : Met l yX10_isAnyUpWithin (wz yX10_isAnyUpWithin cX10_isAnyUpWithin 6 (some .boolean)) ({ frames := 1, cells := 0, slots := 0, locals := 20 } : Room) (Pq Γ M [.ref this, .int p1, .int p2]) (Qi Γ r M') 0 0 (fr Γ) := by
  refine met_of (own := RX10) (by decide +kernel) rfl (Nat.le_of_ble_eq_true rfl) ?_
  intro X hC hR hnm hXl
  unfold F_X10_isAnyUpWithin at h
  show G Γ X 6 M 0 0 _ 0 ([(0, .ref this), (1, .int p1), (2, .int p2)]) []
  refine g_iconst hC 0 dX10_isAnyUpWithin_0 (by decide) ?_
  refine g_istore_n hC ([(3, .int 0), (0, .ref this), (1, .int p1), (2, .int p2)]) dX10_isAnyUpWithin_1 (by decide) rfl ?_
  refine g_sub [1, 2, 3, 0] rfl ?_
  refine l_X10_isAnyUpWithin_L2 hC hR r M'  _ _ _  _ _ _ h

set_option maxHeartbeats 4000000 in
set_option maxRecDepth 100000 in
theorem l_X10_howMany_L4 {Γ : Gm} {X : Ct} (hC : Cx Γ X cX10_howMany RX10 (some .int) 4) (hR : X.2.2.2.1 = ({ frames := 0, cells := 0, slots := 0, locals := 0 } : Room)) (r : Int32) (M' : Mm)  (x0 : Nat) (x1 : Int32) : ∀ (fu : Nat) (x2 : Int32) (x3 : Int32) (M0 : Mm), F_X10_howMany_L4 x0 x1 fu x2 x3 M0 = some (r, M') → G Γ X 4 M0 0 0 (Fin Γ X (Qi Γ r M') 0 0) 4 ([(0, .ref x0), (1, .int x1), (2, .int x2), (3, .int x3)]) [] := by
  intro fu
  induction fu with
  | zero =>
    intro x2 x3 M0 h
    rw [F_X10_howMany_L4] at h
    cases h
  | succ n1 ih =>
    intro x2 x3 M0 h
    rw [F_X10_howMany_L4] at h
    refine g_iload_n hC 3 dX10_howMany_4 rfl ?_
    refine g_aload_n hC 0 dX10_howMany_5 rfl ?_
    replace h := ob h; obtain ⟨v2, ev2, h⟩ := h
    refine g_getI hC ev2 fk_X10_24 rfl dX10_howMany_6 ?_
    refine g_icmp_ge hC 34 dX10_howMany_9 (by decide) (fun c3 => ?_) (fun c3 => ?_)
    · replace h := it_t c3 h
      refine g_iload_n hC 2 dX10_howMany_34 rfl ?_
      exact g_iret hC h ⟨(Nat.le_of_ble_eq_true rfl), (Nat.le_of_ble_eq_true rfl)⟩ dX10_howMany_35
    · replace h := it_f c3 h
      refine g_aload_n hC 0 dX10_howMany_12 rfl ?_
      replace h := ob h; obtain ⟨v4, ev4, h⟩ := h
      refine g_getR hC ev4 fk_X10_20 rfl dX10_howMany_13 ?_
      refine g_iload_n hC 3 dX10_howMany_16 rfl ?_
      replace h := ob h; obtain ⟨a6, ea6, h⟩ := h
      subst ea6
      replace h := ob h; obtain ⟨v5, ev5, h⟩ := h
      refine g_aald hC ev5 (by decide) dX10_howMany_17 ?_
      replace h := ob h; obtain ⟨a7, ea7, h⟩ := h
      subst ea7
      replace h := ob h; obtain ⟨v8, ev8, h⟩ := h
      refine g_getI hC ev8 fk_X10_107 rfl dX10_howMany_18 ?_
      refine g_iload_n hC 1 dX10_howMany_21 rfl ?_
      refine g_icmp_ne hC 28 dX10_howMany_22 (by decide) (fun c9 => ?_) (fun c9 => ?_)
      · replace h := it_f c9 h
        refine g_iinc hC 3 (x3 + 1) ([(3, .int (x3 + 1)), (0, .ref x0), (1, .int x1), (2, .int x2)]) dX10_howMany_28 rfl rfl (by decide) rfl ?_
        refine g_goto hC 4 dX10_howMany_31 (by decide) ?_
        refine g_sub [1, 2, 3, 0] rfl ?_
        exact ih x2 (x3 + 1) M0 h
      · replace h := it_t c9 h
        refine g_iinc hC 2 (x2 + 1) ([(2, .int (x2 + 1)), (0, .ref x0), (1, .int x1), (3, .int x3)]) dX10_howMany_25 rfl rfl (by decide) rfl ?_
        refine g_iinc hC 3 (x3 + 1) ([(3, .int (x3 + 1)), (2, .int (x2 + 1)), (0, .ref x0), (1, .int x1)]) dX10_howMany_28 rfl rfl (by decide) rfl ?_
        refine g_goto hC 4 dX10_howMany_31 (by decide) ?_
        refine g_sub [2, 3, 1, 0] rfl ?_
        exact ih (x2 + 1) (x3 + 1) M0 h
set_option maxHeartbeats 4000000 in
set_option maxRecDepth 100000 in
theorem c_X10_howMany (l : Launch) (Γ : Gm) (this : Nat) (p1 : Int32) (M M' : Mm) (r : Int32) (h : F_X10_howMany this p1 M = some (r, M')) : Met l yX10_howMany (wz yX10_howMany cX10_howMany 4 (some .int)) ({ frames := 0, cells := 0, slots := 0, locals := 0 } : Room) (Pq Γ M [.ref this, .int p1]) (Qi Γ r M') 0 0 (fr Γ) := by
  refine met_of (own := RX10) (by decide +kernel) rfl (Nat.le_of_ble_eq_true rfl) ?_
  intro X hC hR hnm hXl
  unfold F_X10_howMany at h
  show G Γ X 4 M 0 0 _ 0 ([(0, .ref this), (1, .int p1)]) []
  refine g_iconst hC 0 dX10_howMany_0 (by decide) ?_
  refine g_istore_n hC ([(2, .int 0), (0, .ref this), (1, .int p1)]) dX10_howMany_1 (by decide) rfl ?_
  refine g_iconst hC 0 dX10_howMany_2 (by decide) ?_
  refine g_istore_n hC ([(3, .int 0), (2, .int 0), (0, .ref this), (1, .int p1)]) dX10_howMany_3 (by decide) rfl ?_
  refine g_sub [2, 3, 1, 0] rfl ?_
  refine l_X10_howMany_L4 hC hR r M'  _ _  _ _ _ _ h

set_option maxHeartbeats 4000000 in
set_option maxRecDepth 100000 in
theorem l_X10_allPower_L4 {Γ : Gm} {X : Ct} (hC : Cx Γ X cX10_allPower RX10 (some .int) 3) (hR : X.2.2.2.1 = ({ frames := 0, cells := 0, slots := 0, locals := 0 } : Room)) (r : Int32) (M' : Mm)  (x0 : Nat) : ∀ (fu : Nat) (x1 : Int32) (x2 : Int32) (M0 : Mm), F_X10_allPower_L4 x0 fu x1 x2 M0 = some (r, M') → G Γ X 3 M0 0 0 (Fin Γ X (Qi Γ r M') 0 0) 4 ([(0, .ref x0), (1, .int x1), (2, .int x2)]) [] := by
  intro fu
  induction fu with
  | zero =>
    intro x1 x2 M0 h
    rw [F_X10_allPower_L4] at h
    cases h
  | succ n1 ih =>
    intro x1 x2 M0 h
    rw [F_X10_allPower_L4] at h
    refine g_iload_n hC 2 dX10_allPower_4 rfl ?_
    refine g_aload_n hC 0 dX10_allPower_5 rfl ?_
    replace h := ob h; obtain ⟨v2, ev2, h⟩ := h
    refine g_getI hC ev2 fk_X10_24 rfl dX10_allPower_6 ?_
    refine g_icmp_ge hC 30 dX10_allPower_9 (by decide) (fun c3 => ?_) (fun c3 => ?_)
    · replace h := it_t c3 h
      refine g_iload_n hC 1 dX10_allPower_30 rfl ?_
      exact g_iret hC h ⟨(Nat.le_of_ble_eq_true rfl), (Nat.le_of_ble_eq_true rfl)⟩ dX10_allPower_31
    · replace h := it_f c3 h
      refine g_iload_n hC 1 dX10_allPower_12 rfl ?_
      refine g_aload_n hC 0 dX10_allPower_13 rfl ?_
      replace h := ob h; obtain ⟨v4, ev4, h⟩ := h
      refine g_getR hC ev4 fk_X10_20 rfl dX10_allPower_14 ?_
      refine g_iload_n hC 2 dX10_allPower_17 rfl ?_
      replace h := ob h; obtain ⟨a6, ea6, h⟩ := h
      subst ea6
      replace h := ob h; obtain ⟨v5, ev5, h⟩ := h
      refine g_aald hC ev5 (by decide) dX10_allPower_18 ?_
      replace h := ob h; obtain ⟨a7, ea7, h⟩ := h
      subst ea7
      replace h := ob h; obtain ⟨v8, ev8, h⟩ := h
      refine g_getI hC ev8 fk_X10_110 rfl dX10_allPower_19 ?_
      refine g_iadd hC dX10_allPower_22 ?_
      refine g_istore_n hC ([(1, .int (x1 + v8)), (0, .ref x0), (2, .int x2)]) dX10_allPower_23 (by decide) rfl ?_
      refine g_iinc hC 2 (x2 + 1) ([(2, .int (x2 + 1)), (1, .int (x1 + v8)), (0, .ref x0)]) dX10_allPower_24 rfl rfl (by decide) rfl ?_
      refine g_goto hC 4 dX10_allPower_27 (by decide) ?_
      refine g_sub [2, 1, 0] rfl ?_
      exact ih (x1 + v8) (x2 + 1) M0 h
set_option maxHeartbeats 4000000 in
set_option maxRecDepth 100000 in
theorem c_X10_allPower (l : Launch) (Γ : Gm) (this : Nat) (M M' : Mm) (r : Int32) (h : F_X10_allPower this M = some (r, M')) : Met l yX10_allPower (wz yX10_allPower cX10_allPower 3 (some .int)) ({ frames := 0, cells := 0, slots := 0, locals := 0 } : Room) (Pq Γ M [.ref this]) (Qi Γ r M') 0 0 (fr Γ) := by
  refine met_of (own := RX10) (by decide +kernel) rfl (Nat.le_of_ble_eq_true rfl) ?_
  intro X hC hR hnm hXl
  unfold F_X10_allPower at h
  show G Γ X 3 M 0 0 _ 0 ([(0, .ref this)]) []
  refine g_iconst hC 0 dX10_allPower_0 (by decide) ?_
  refine g_istore_n hC ([(1, .int 0), (0, .ref this)]) dX10_allPower_1 (by decide) rfl ?_
  refine g_iconst hC 0 dX10_allPower_2 (by decide) ?_
  refine g_istore_n hC ([(2, .int 0), (1, .int 0), (0, .ref this)]) dX10_allPower_3 (by decide) rfl ?_
  refine g_sub [2, 1, 0] rfl ?_
  refine l_X10_allPower_L4 hC hR r M'  _  _ _ _ _ h

set_option maxHeartbeats 4000000 in
set_option maxRecDepth 100000 in
theorem l_X10_hearAll_L16 {Γ : Gm} {X : Ct} (hC : Cx Γ X cX10_hearAll RX10 none 3) (hR : X.2.2.2.1 = ({ frames := 1, cells := 0, slots := 0, locals := 25 } : Room)) (M' : Mm)  (x0 : Nat) : ∀ (fu : Nat) (x1 : Int32) (M0 : Mm), F_X10_hearAll_L16 x0 fu x1 M0 = some M' → G Γ X 3 M0 0 0 (Fin Γ X (Qv Γ M') 0 0) 16 ([(0, .ref x0), (1, .int x1)]) [] := by
  intro fu
  induction fu with
  | zero =>
    intro x1 M0 h
    rw [F_X10_hearAll_L16] at h
    cases h
  | succ n6 ih =>
    intro x1 M0 h
    rw [F_X10_hearAll_L16] at h
    refine g_iload_n hC 1 dX10_hearAll_16 rfl ?_
    refine g_aload_n hC 0 dX10_hearAll_17 rfl ?_
    replace h := ob h; obtain ⟨v7, ev7, h⟩ := h
    refine g_getI hC ev7 fk_X10_24 rfl dX10_hearAll_18 ?_
    refine g_icmp_ge hC 85 dX10_hearAll_21 (by decide) (fun c8 => ?_) (fun c8 => ?_)
    · replace h := it_t c8 h
      exact g_vret hC h ⟨(Nat.le_of_ble_eq_true rfl), (Nat.le_of_ble_eq_true rfl)⟩ dX10_hearAll_85
    · replace h := it_f c8 h
      refine g_aload_n hC 0 dX10_hearAll_24 rfl ?_
      replace h := ob h; obtain ⟨v9, ev9, h⟩ := h
      refine g_getR hC ev9 fk_X10_20 rfl dX10_hearAll_25 ?_
      refine g_iload_n hC 1 dX10_hearAll_28 rfl ?_
      replace h := ob h; obtain ⟨a11, ea11, h⟩ := h
      subst ea11
      replace h := ob h; obtain ⟨v10, ev10, h⟩ := h
      refine g_aald hC ev10 (by decide) dX10_hearAll_29 ?_
      refine g_astore_nq hC (x := v10) ([(2, va_rf v10), (0, .ref x0), (1, .int x1)]) dX10_hearAll_30 (by decide) rfl ?_
      refine g_aload_nq hC 0 (x := v10) dX10_hearAll_31 rfl ?_
      replace h := ob h; obtain ⟨a12, ea12, h⟩ := h
      subst ea12
      replace h := ob h; obtain ⟨v13, ev13, h⟩ := h
      refine g_getI hC ev13 fk_X10_107 rfl dX10_hearAll_32 ?_
      refine g_if_ne hC 79 dX10_hearAll_35 (by decide) (fun c14 => ?_) (fun c14 => ?_)
      · replace h := it_f c14 h
        refine g_iinc hC 2 (x1 + 1) ([(1, .int (x1 + 1)), (2, .ref a12), (0, .ref x0)]) dX10_hearAll_79 rfl rfl (by decide) rfl ?_
        refine g_goto hC 16 dX10_hearAll_82 (by decide) ?_
        refine g_sub [2, 0] rfl ?_
        exact ih (x1 + 1) M0 h
      · replace h := it_t c14 h
        refine g_aload_n hC 0 dX10_hearAll_38 rfl ?_
        refine g_aload_n hC 1 dX10_hearAll_39 rfl ?_
        replace h := ob h; obtain ⟨v15, ev15, h⟩ := h
        refine g_getR hC ev15 fk_X10_50 rfl dX10_hearAll_40 ?_
        refine g_iload_n hC 2 dX10_hearAll_43 rfl ?_
        refine g_aload_n hC 1 dX10_hearAll_44 rfl ?_
        replace h := ob h; obtain ⟨v16, ev16, h⟩ := h
        refine g_getI hC ev16 fk_X10_28 rfl dX10_hearAll_45 ?_
        refine g_aload_n hC 0 dX10_hearAll_48 rfl ?_
        replace h := ob h; obtain ⟨v17, ev17, h⟩ := h
        refine g_getI hC ev17 fk_X10_94 rfl dX10_hearAll_49 ?_
        replace h := ob h; obtain ⟨a18, ea18, h⟩ := h
        subst ea18
        replace h := ob h; obtain ⟨_, eu20, h⟩ := h
        replace h := ob h; obtain ⟨⟨v21, M19⟩, eM19, h⟩ := h
        refine g_calli hC (r_V hC (As := [.int x1, .int v16, .int v17]) (c_X1_hearBy _ Γ a18 x1 v16 v17 M0 M19 v21 eM19) yk_X1_hearBy lk_X10_113 eu20 ⟨_, rfl, rfl⟩ rfl rfl (Nat.le_of_ble_eq_true rfl) hR ⟨(Nat.le_of_ble_eq_true rfl), (Nat.le_of_ble_eq_true rfl)⟩ ⟨(Nat.le_of_ble_eq_true rfl), (Nat.le_of_ble_eq_true rfl)⟩ dX10_hearAll_52) ?_
        replace h := ob h; obtain ⟨M22, eM22, h⟩ := h
        refine g_putI hC eM22 fk_X10_94 rfl dX10_hearAll_55 ?_
        refine g_aload_n hC 0 dX10_hearAll_58 rfl ?_
        refine g_aload_n hC 1 dX10_hearAll_59 rfl ?_
        replace h := ob h; obtain ⟨v23, ev23, h⟩ := h
        refine g_getI hC ev23 fk_X10_28 rfl dX10_hearAll_60 ?_
        replace h := ob h; obtain ⟨M24, eM24, h⟩ := h
        refine g_putI hC eM24 fk_X10_117 rfl dX10_hearAll_63 ?_
        refine g_aload_n hC 0 dX10_hearAll_66 rfl ?_
        replace h := ob h; obtain ⟨v25, ev25, h⟩ := h
        refine g_getR hC ev25 fk_X10_120 rfl dX10_hearAll_67 ?_
        refine g_aload_n hC 1 dX10_hearAll_70 rfl ?_
        replace h := ob h; obtain ⟨v26, ev26, h⟩ := h
        refine g_getI hC ev26 fk_X10_28 rfl dX10_hearAll_71 ?_
        refine g_aload_n hC 0 dX10_hearAll_74 rfl ?_
        replace h := ob h; obtain ⟨v27, ev27, h⟩ := h
        refine g_getI hC ev27 fk_X10_97 rfl dX10_hearAll_75 ?_
        replace h := ob h; obtain ⟨a29, ea29, h⟩ := h
        subst ea29
        replace h := ob h; obtain ⟨M28, eM28, h⟩ := h
        refine g_iast hC eM28 dX10_hearAll_78 ?_
        refine g_iinc hC 2 (x1 + 1) ([(1, .int (x1 + 1)), (2, .ref a12), (0, .ref x0)]) dX10_hearAll_79 rfl rfl (by decide) rfl ?_
        refine g_goto hC 16 dX10_hearAll_82 (by decide) ?_
        refine g_sub [2, 0] rfl ?_
        exact ih (x1 + 1) M28 h
set_option maxHeartbeats 4000000 in
set_option maxRecDepth 100000 in
theorem c_X10_hearAll (l : Launch) (Γ : Gm) (this : Nat) (M M' : Mm) (h : F_X10_hearAll this M = some M') : Met l yX10_hearAll (wz yX10_hearAll cX10_hearAll 3 none) ({ frames := 1, cells := 0, slots := 0, locals := 25 } : Room) (Pq Γ M [.ref this]) (Qv Γ M') 0 0 (fr Γ) := by
  refine met_of (own := RX10) (by decide +kernel) rfl (Nat.le_of_ble_eq_true rfl) ?_
  intro X hC hR hnm hXl
  unfold F_X10_hearAll at h
  show G Γ X 3 M 0 0 _ 0 ([(0, .ref this)]) []
  refine g_aload_n hC 0 dX10_hearAll_0 rfl ?_
  replace h := ob h; obtain ⟨v1, ev1, h⟩ := h
  refine g_getR hC ev1 fk_X10_34 rfl dX10_hearAll_1 ?_
  refine g_aload_n hC 0 dX10_hearAll_4 rfl ?_
  replace h := ob h; obtain ⟨v2, ev2, h⟩ := h
  refine g_getI hC ev2 fk_X10_28 rfl dX10_hearAll_5 ?_
  replace h := ob h; obtain ⟨a4, ea4, h⟩ := h
  subst ea4
  replace h := ob h; obtain ⟨v3, ev3, h⟩ := h
  refine g_iald hC ev3 dX10_hearAll_8 ?_
  refine g_iconst hC 1 dX10_hearAll_9 (by decide) ?_
  refine g_icmp_ne hC 14 dX10_hearAll_10 (by decide) (fun c5 => ?_) (fun c5 => ?_)
  · replace h := it_f c5 h
    refine g_iconst hC 0 dX10_hearAll_14 (by decide) ?_
    refine g_istore_n hC ([(1, .int 0), (0, .ref this)]) dX10_hearAll_15 (by decide) rfl ?_
    refine g_sub [1, 0] rfl ?_
    refine l_X10_hearAll_L16 hC hR M'  _  _ _ _ h
  · replace h := it_t c5 h
    exact g_vret hC h ⟨(Nat.le_of_ble_eq_true rfl), (Nat.le_of_ble_eq_true rfl)⟩ dX10_hearAll_13

set_option maxHeartbeats 4000000 in
set_option maxRecDepth 100000 in
theorem c_X10_sensed (l : Launch) (Γ : Gm) (this : Nat) (p1 : Nat) (p2 : Int32) (M M' : Mm) (r : Int32) (h : F_X10_sensed this p1 p2 M = some (r, M')) : Met l yX10_sensed (wz yX10_sensed cX10_sensed 3 (some .int)) ({ frames := 1, cells := 0, slots := 0, locals := 20 } : Room) (Pq Γ M [.ref this, .ref p1, .int p2]) (Qi Γ r M') 0 0 (fr Γ) := by
  refine met_of (own := RX10) (by decide +kernel) rfl (Nat.le_of_ble_eq_true rfl) ?_
  intro X hC hR hnm hXl
  unfold F_X10_sensed at h
  show G Γ X 3 M 0 0 _ 0 ([(0, .ref this), (1, .ref p1), (2, .int p2)]) []
  refine g_iload_n hC 2 dX10_sensed_0 rfl ?_
  by_cases c1 : p2 = 102
  · replace h := it_t c1 h
    refine g_tbl (off := 129) hC 130 c1 dX10_sensed_1 (by decide) ?_
    refine g_aload_n hC 1 dX10_sensed_130 rfl ?_
    replace h := ob h; obtain ⟨v2, ev2, h⟩ := h
    refine g_getI hC ev2 fk_X10_194 rfl dX10_sensed_131 ?_
    exact g_iret hC h ⟨(Nat.le_of_ble_eq_true rfl), (Nat.le_of_ble_eq_true rfl)⟩ dX10_sensed_134
  replace h := it_f c1 h
  by_cases c3 : p2 = 104
  · replace h := it_t c3 h
    refine g_tbl (off := 134) hC 135 c3 dX10_sensed_1 (by decide) ?_
    refine g_aload_n hC 1 dX10_sensed_135 rfl ?_
    replace h := ob h; obtain ⟨v4, ev4, h⟩ := h
    refine g_getI hC ev4 fk_X10_117 rfl dX10_sensed_136 ?_
    refine g_bipush hC (-4) dX10_sensed_139 (by decide) ?_
    refine g_icmp_ne hC 151 dX10_sensed_141 (by decide) (fun c5 => ?_) (fun c5 => ?_)
    · replace h := it_f c5 h
      refine g_aload_n hC 0 dX10_sensed_151 rfl ?_
      replace h := ob h; obtain ⟨v6, ev6, h⟩ := h
      refine g_getI hC ev6 fk_X10_28 rfl dX10_sensed_152 ?_
      refine g_aload_n hC 1 dX10_sensed_155 rfl ?_
      replace h := ob h; obtain ⟨v7, ev7, h⟩ := h
      refine g_getI hC ev7 fk_X10_117 rfl dX10_sensed_156 ?_
      refine g_isub hC dX10_sensed_159 ?_
      exact g_iret hC h ⟨(Nat.le_of_ble_eq_true rfl), (Nat.le_of_ble_eq_true rfl)⟩ dX10_sensed_160
    · replace h := it_t c5 h
      refine g_aload_n hC 0 dX10_sensed_144 rfl ?_
      replace h := ob h; obtain ⟨v8, ev8, h⟩ := h
      refine g_getI hC ev8 fk_X10_28 rfl dX10_sensed_145 ?_
      refine g_goto hC 160 dX10_sensed_148 (by decide) ?_
      exact g_iret hC h ⟨(Nat.le_of_ble_eq_true rfl), (Nat.le_of_ble_eq_true rfl)⟩ dX10_sensed_160
  replace h := it_f c3 h
  by_cases c9 : p2 = 108
  · replace h := it_t c9 h
    refine g_tbl (off := 116) hC 117 c9 dX10_sensed_1 (by decide) ?_
    refine g_aload_n hC 1 dX10_sensed_117 rfl ?_
    replace h := ob h; obtain ⟨v10, ev10, h⟩ := h
    refine g_getI hC ev10 fk_X10_190 rfl dX10_sensed_118 ?_
    refine g_if_eq hC 128 dX10_sensed_121 (by decide) (fun c11 => ?_) (fun c11 => ?_)
    · replace h := it_t c11 h
      refine g_iconst hC 0 dX10_sensed_128 (by decide) ?_
      exact g_iret hC h ⟨(Nat.le_of_ble_eq_true rfl), (Nat.le_of_ble_eq_true rfl)⟩ dX10_sensed_129
    · replace h := it_f c11 h
      refine g_iconst hC 1 dX10_sensed_124 (by decide) ?_
      refine g_goto hC 129 dX10_sensed_125 (by decide) ?_
      exact g_iret hC h ⟨(Nat.le_of_ble_eq_true rfl), (Nat.le_of_ble_eq_true rfl)⟩ dX10_sensed_129
  replace h := it_f c9 h
  by_cases c12 : p2 = 112
  · replace h := it_t c12 h
    refine g_tbl (off := 95) hC 96 c12 dX10_sensed_1 (by decide) ?_
    refine g_aload_n hC 1 dX10_sensed_96 rfl ?_
    replace h := ob h; obtain ⟨v13, ev13, h⟩ := h
    refine g_getI hC ev13 fk_X10_110 rfl dX10_sensed_97 ?_
    exact g_iret hC h ⟨(Nat.le_of_ble_eq_true rfl), (Nat.le_of_ble_eq_true rfl)⟩ dX10_sensed_100
  replace h := it_f c12 h
  by_cases c14 : p2 = 115
  · replace h := it_t c14 h
    refine g_tbl (off := 168) hC 169 c14 dX10_sensed_1 (by decide) ?_
    refine g_aload_n hC 1 dX10_sensed_169 rfl ?_
    replace h := ob h; obtain ⟨v15, ev15, h⟩ := h
    refine g_getI hC ev15 fk_X10_197 rfl dX10_sensed_170 ?_
    exact g_iret hC h ⟨(Nat.le_of_ble_eq_true rfl), (Nat.le_of_ble_eq_true rfl)⟩ dX10_sensed_173
  replace h := it_f c14 h
  by_cases c16 : p2 = 116
  · replace h := it_t c16 h
    refine g_tbl (off := 160) hC 161 c16 dX10_sensed_1 (by decide) ?_
    refine g_aload_n hC 0 dX10_sensed_161 rfl ?_
    replace h := ob h; obtain ⟨v17, ev17, h⟩ := h
    refine g_getI hC ev17 fk_X10_28 rfl dX10_sensed_162 ?_
    refine g_bipush hC 10 dX10_sensed_165 (by decide) ?_
    replace h := ob h; obtain ⟨v18, ev18, h⟩ := h
    refine g_irem hC ev18 dX10_sensed_167 ?_
    exact g_iret hC h ⟨(Nat.le_of_ble_eq_true rfl), (Nat.le_of_ble_eq_true rfl)⟩ dX10_sensed_168
  replace h := it_f c16 h
  by_cases c19 : p2 = 120
  · replace h := it_t c19 h
    refine g_tbl (off := 100) hC 101 c19 dX10_sensed_1 (by decide) ?_
    refine g_aload_n hC 1 dX10_sensed_101 rfl ?_
    replace h := ob h; obtain ⟨v20, ev20, h⟩ := h
    refine g_getI hC ev20 fk_X10_97 rfl dX10_sensed_102 ?_
    replace h := ob h; obtain ⟨⟨v22, M21⟩, eM21, h⟩ := h
    refine g_calli hC (r_SN hC (As := [.int v20]) (c_X11_xOf _ Γ v20 M M21 v22 eM21) yk_X11_xOf lk_X10_100 rfl rfl (Nat.le_of_ble_eq_true rfl) hR ⟨(Nat.le_of_ble_eq_true rfl), (Nat.le_of_ble_eq_true rfl)⟩ ⟨(Nat.le_of_ble_eq_true rfl), (Nat.le_of_ble_eq_true rfl)⟩ dX10_sensed_105) ?_
    exact g_iret hC h ⟨(Nat.le_of_ble_eq_true rfl), (Nat.le_of_ble_eq_true rfl)⟩ dX10_sensed_108
  replace h := it_f c19 h
  by_cases c23 : p2 = 121
  · replace h := it_t c23 h
    refine g_tbl (off := 108) hC 109 c23 dX10_sensed_1 (by decide) ?_
    refine g_aload_n hC 1 dX10_sensed_109 rfl ?_
    replace h := ob h; obtain ⟨v24, ev24, h⟩ := h
    refine g_getI hC ev24 fk_X10_97 rfl dX10_sensed_110 ?_
    replace h := ob h; obtain ⟨⟨v26, M25⟩, eM25, h⟩ := h
    refine g_calli hC (r_SN hC (As := [.int v24]) (c_X11_yOf _ Γ v24 M M25 v26 eM25) yk_X11_yOf lk_X10_104 rfl rfl (Nat.le_of_ble_eq_true rfl) hR ⟨(Nat.le_of_ble_eq_true rfl), (Nat.le_of_ble_eq_true rfl)⟩ ⟨(Nat.le_of_ble_eq_true rfl), (Nat.le_of_ble_eq_true rfl)⟩ dX10_sensed_113) ?_
    exact g_iret hC h ⟨(Nat.le_of_ble_eq_true rfl), (Nat.le_of_ble_eq_true rfl)⟩ dX10_sensed_116
  replace h := it_f c23 h
  by_cases c33 : p2 = 103
  · refine g_tbl (off := 173) hC 174 c33 dX10_sensed_1 (by decide) ?_
    refine g_aload_n hC 0 dX10_sensed_174 rfl ?_
    replace h := ob h; obtain ⟨v27, ev27, h⟩ := h
    refine g_getR hC ev27 fk_X10_12 rfl dX10_sensed_175 ?_
    replace h := ob h; obtain ⟨a28, ea28, h⟩ := h
    subst ea28
    replace h := ob h; obtain ⟨v29, ev29, h⟩ := h
    refine g_getR hC ev29 fk_X10_200 rfl dX10_sensed_178 ?_
    refine g_aload_n hC 1 dX10_sensed_181 rfl ?_
    replace h := ob h; obtain ⟨v30, ev30, h⟩ := h
    refine g_getI hC ev30 fk_X10_97 rfl dX10_sensed_182 ?_
    replace h := ob h; obtain ⟨a32, ea32, h⟩ := h
    subst ea32
    replace h := ob h; obtain ⟨v31, ev31, h⟩ := h
    refine g_iald hC ev31 dX10_sensed_185 ?_
    exact g_iret hC h ⟨(Nat.le_of_ble_eq_true rfl), (Nat.le_of_ble_eq_true rfl)⟩ dX10_sensed_186
  by_cases c35 : p2 = 105
  · refine g_tbl (off := 173) hC 174 c35 dX10_sensed_1 (by decide) ?_
    refine g_aload_n hC 0 dX10_sensed_174 rfl ?_
    replace h := ob h; obtain ⟨v27, ev27, h⟩ := h
    refine g_getR hC ev27 fk_X10_12 rfl dX10_sensed_175 ?_
    replace h := ob h; obtain ⟨a28, ea28, h⟩ := h
    subst ea28
    replace h := ob h; obtain ⟨v29, ev29, h⟩ := h
    refine g_getR hC ev29 fk_X10_200 rfl dX10_sensed_178 ?_
    refine g_aload_n hC 1 dX10_sensed_181 rfl ?_
    replace h := ob h; obtain ⟨v30, ev30, h⟩ := h
    refine g_getI hC ev30 fk_X10_97 rfl dX10_sensed_182 ?_
    replace h := ob h; obtain ⟨a32, ea32, h⟩ := h
    subst ea32
    replace h := ob h; obtain ⟨v31, ev31, h⟩ := h
    refine g_iald hC ev31 dX10_sensed_185 ?_
    exact g_iret hC h ⟨(Nat.le_of_ble_eq_true rfl), (Nat.le_of_ble_eq_true rfl)⟩ dX10_sensed_186
  by_cases c37 : p2 = 106
  · refine g_tbl (off := 173) hC 174 c37 dX10_sensed_1 (by decide) ?_
    refine g_aload_n hC 0 dX10_sensed_174 rfl ?_
    replace h := ob h; obtain ⟨v27, ev27, h⟩ := h
    refine g_getR hC ev27 fk_X10_12 rfl dX10_sensed_175 ?_
    replace h := ob h; obtain ⟨a28, ea28, h⟩ := h
    subst ea28
    replace h := ob h; obtain ⟨v29, ev29, h⟩ := h
    refine g_getR hC ev29 fk_X10_200 rfl dX10_sensed_178 ?_
    refine g_aload_n hC 1 dX10_sensed_181 rfl ?_
    replace h := ob h; obtain ⟨v30, ev30, h⟩ := h
    refine g_getI hC ev30 fk_X10_97 rfl dX10_sensed_182 ?_
    replace h := ob h; obtain ⟨a32, ea32, h⟩ := h
    subst ea32
    replace h := ob h; obtain ⟨v31, ev31, h⟩ := h
    refine g_iald hC ev31 dX10_sensed_185 ?_
    exact g_iret hC h ⟨(Nat.le_of_ble_eq_true rfl), (Nat.le_of_ble_eq_true rfl)⟩ dX10_sensed_186
  by_cases c39 : p2 = 107
  · refine g_tbl (off := 173) hC 174 c39 dX10_sensed_1 (by decide) ?_
    refine g_aload_n hC 0 dX10_sensed_174 rfl ?_
    replace h := ob h; obtain ⟨v27, ev27, h⟩ := h
    refine g_getR hC ev27 fk_X10_12 rfl dX10_sensed_175 ?_
    replace h := ob h; obtain ⟨a28, ea28, h⟩ := h
    subst ea28
    replace h := ob h; obtain ⟨v29, ev29, h⟩ := h
    refine g_getR hC ev29 fk_X10_200 rfl dX10_sensed_178 ?_
    refine g_aload_n hC 1 dX10_sensed_181 rfl ?_
    replace h := ob h; obtain ⟨v30, ev30, h⟩ := h
    refine g_getI hC ev30 fk_X10_97 rfl dX10_sensed_182 ?_
    replace h := ob h; obtain ⟨a32, ea32, h⟩ := h
    subst ea32
    replace h := ob h; obtain ⟨v31, ev31, h⟩ := h
    refine g_iald hC ev31 dX10_sensed_185 ?_
    exact g_iret hC h ⟨(Nat.le_of_ble_eq_true rfl), (Nat.le_of_ble_eq_true rfl)⟩ dX10_sensed_186
  by_cases c41 : p2 = 109
  · refine g_tbl (off := 173) hC 174 c41 dX10_sensed_1 (by decide) ?_
    refine g_aload_n hC 0 dX10_sensed_174 rfl ?_
    replace h := ob h; obtain ⟨v27, ev27, h⟩ := h
    refine g_getR hC ev27 fk_X10_12 rfl dX10_sensed_175 ?_
    replace h := ob h; obtain ⟨a28, ea28, h⟩ := h
    subst ea28
    replace h := ob h; obtain ⟨v29, ev29, h⟩ := h
    refine g_getR hC ev29 fk_X10_200 rfl dX10_sensed_178 ?_
    refine g_aload_n hC 1 dX10_sensed_181 rfl ?_
    replace h := ob h; obtain ⟨v30, ev30, h⟩ := h
    refine g_getI hC ev30 fk_X10_97 rfl dX10_sensed_182 ?_
    replace h := ob h; obtain ⟨a32, ea32, h⟩ := h
    subst ea32
    replace h := ob h; obtain ⟨v31, ev31, h⟩ := h
    refine g_iald hC ev31 dX10_sensed_185 ?_
    exact g_iret hC h ⟨(Nat.le_of_ble_eq_true rfl), (Nat.le_of_ble_eq_true rfl)⟩ dX10_sensed_186
  by_cases c43 : p2 = 110
  · refine g_tbl (off := 173) hC 174 c43 dX10_sensed_1 (by decide) ?_
    refine g_aload_n hC 0 dX10_sensed_174 rfl ?_
    replace h := ob h; obtain ⟨v27, ev27, h⟩ := h
    refine g_getR hC ev27 fk_X10_12 rfl dX10_sensed_175 ?_
    replace h := ob h; obtain ⟨a28, ea28, h⟩ := h
    subst ea28
    replace h := ob h; obtain ⟨v29, ev29, h⟩ := h
    refine g_getR hC ev29 fk_X10_200 rfl dX10_sensed_178 ?_
    refine g_aload_n hC 1 dX10_sensed_181 rfl ?_
    replace h := ob h; obtain ⟨v30, ev30, h⟩ := h
    refine g_getI hC ev30 fk_X10_97 rfl dX10_sensed_182 ?_
    replace h := ob h; obtain ⟨a32, ea32, h⟩ := h
    subst ea32
    replace h := ob h; obtain ⟨v31, ev31, h⟩ := h
    refine g_iald hC ev31 dX10_sensed_185 ?_
    exact g_iret hC h ⟨(Nat.le_of_ble_eq_true rfl), (Nat.le_of_ble_eq_true rfl)⟩ dX10_sensed_186
  by_cases c45 : p2 = 111
  · refine g_tbl (off := 173) hC 174 c45 dX10_sensed_1 (by decide) ?_
    refine g_aload_n hC 0 dX10_sensed_174 rfl ?_
    replace h := ob h; obtain ⟨v27, ev27, h⟩ := h
    refine g_getR hC ev27 fk_X10_12 rfl dX10_sensed_175 ?_
    replace h := ob h; obtain ⟨a28, ea28, h⟩ := h
    subst ea28
    replace h := ob h; obtain ⟨v29, ev29, h⟩ := h
    refine g_getR hC ev29 fk_X10_200 rfl dX10_sensed_178 ?_
    refine g_aload_n hC 1 dX10_sensed_181 rfl ?_
    replace h := ob h; obtain ⟨v30, ev30, h⟩ := h
    refine g_getI hC ev30 fk_X10_97 rfl dX10_sensed_182 ?_
    replace h := ob h; obtain ⟨a32, ea32, h⟩ := h
    subst ea32
    replace h := ob h; obtain ⟨v31, ev31, h⟩ := h
    refine g_iald hC ev31 dX10_sensed_185 ?_
    exact g_iret hC h ⟨(Nat.le_of_ble_eq_true rfl), (Nat.le_of_ble_eq_true rfl)⟩ dX10_sensed_186
  by_cases c47 : p2 = 113
  · refine g_tbl (off := 173) hC 174 c47 dX10_sensed_1 (by decide) ?_
    refine g_aload_n hC 0 dX10_sensed_174 rfl ?_
    replace h := ob h; obtain ⟨v27, ev27, h⟩ := h
    refine g_getR hC ev27 fk_X10_12 rfl dX10_sensed_175 ?_
    replace h := ob h; obtain ⟨a28, ea28, h⟩ := h
    subst ea28
    replace h := ob h; obtain ⟨v29, ev29, h⟩ := h
    refine g_getR hC ev29 fk_X10_200 rfl dX10_sensed_178 ?_
    refine g_aload_n hC 1 dX10_sensed_181 rfl ?_
    replace h := ob h; obtain ⟨v30, ev30, h⟩ := h
    refine g_getI hC ev30 fk_X10_97 rfl dX10_sensed_182 ?_
    replace h := ob h; obtain ⟨a32, ea32, h⟩ := h
    subst ea32
    replace h := ob h; obtain ⟨v31, ev31, h⟩ := h
    refine g_iald hC ev31 dX10_sensed_185 ?_
    exact g_iret hC h ⟨(Nat.le_of_ble_eq_true rfl), (Nat.le_of_ble_eq_true rfl)⟩ dX10_sensed_186
  by_cases c49 : p2 = 114
  · refine g_tbl (off := 173) hC 174 c49 dX10_sensed_1 (by decide) ?_
    refine g_aload_n hC 0 dX10_sensed_174 rfl ?_
    replace h := ob h; obtain ⟨v27, ev27, h⟩ := h
    refine g_getR hC ev27 fk_X10_12 rfl dX10_sensed_175 ?_
    replace h := ob h; obtain ⟨a28, ea28, h⟩ := h
    subst ea28
    replace h := ob h; obtain ⟨v29, ev29, h⟩ := h
    refine g_getR hC ev29 fk_X10_200 rfl dX10_sensed_178 ?_
    refine g_aload_n hC 1 dX10_sensed_181 rfl ?_
    replace h := ob h; obtain ⟨v30, ev30, h⟩ := h
    refine g_getI hC ev30 fk_X10_97 rfl dX10_sensed_182 ?_
    replace h := ob h; obtain ⟨a32, ea32, h⟩ := h
    subst ea32
    replace h := ob h; obtain ⟨v31, ev31, h⟩ := h
    refine g_iald hC ev31 dX10_sensed_185 ?_
    exact g_iret hC h ⟨(Nat.le_of_ble_eq_true rfl), (Nat.le_of_ble_eq_true rfl)⟩ dX10_sensed_186
  by_cases c51 : p2 = 117
  · refine g_tbl (off := 173) hC 174 c51 dX10_sensed_1 (by decide) ?_
    refine g_aload_n hC 0 dX10_sensed_174 rfl ?_
    replace h := ob h; obtain ⟨v27, ev27, h⟩ := h
    refine g_getR hC ev27 fk_X10_12 rfl dX10_sensed_175 ?_
    replace h := ob h; obtain ⟨a28, ea28, h⟩ := h
    subst ea28
    replace h := ob h; obtain ⟨v29, ev29, h⟩ := h
    refine g_getR hC ev29 fk_X10_200 rfl dX10_sensed_178 ?_
    refine g_aload_n hC 1 dX10_sensed_181 rfl ?_
    replace h := ob h; obtain ⟨v30, ev30, h⟩ := h
    refine g_getI hC ev30 fk_X10_97 rfl dX10_sensed_182 ?_
    replace h := ob h; obtain ⟨a32, ea32, h⟩ := h
    subst ea32
    replace h := ob h; obtain ⟨v31, ev31, h⟩ := h
    refine g_iald hC ev31 dX10_sensed_185 ?_
    exact g_iret hC h ⟨(Nat.le_of_ble_eq_true rfl), (Nat.le_of_ble_eq_true rfl)⟩ dX10_sensed_186
  by_cases c53 : p2 = 118
  · refine g_tbl (off := 173) hC 174 c53 dX10_sensed_1 (by decide) ?_
    refine g_aload_n hC 0 dX10_sensed_174 rfl ?_
    replace h := ob h; obtain ⟨v27, ev27, h⟩ := h
    refine g_getR hC ev27 fk_X10_12 rfl dX10_sensed_175 ?_
    replace h := ob h; obtain ⟨a28, ea28, h⟩ := h
    subst ea28
    replace h := ob h; obtain ⟨v29, ev29, h⟩ := h
    refine g_getR hC ev29 fk_X10_200 rfl dX10_sensed_178 ?_
    refine g_aload_n hC 1 dX10_sensed_181 rfl ?_
    replace h := ob h; obtain ⟨v30, ev30, h⟩ := h
    refine g_getI hC ev30 fk_X10_97 rfl dX10_sensed_182 ?_
    replace h := ob h; obtain ⟨a32, ea32, h⟩ := h
    subst ea32
    replace h := ob h; obtain ⟨v31, ev31, h⟩ := h
    refine g_iald hC ev31 dX10_sensed_185 ?_
    exact g_iret hC h ⟨(Nat.le_of_ble_eq_true rfl), (Nat.le_of_ble_eq_true rfl)⟩ dX10_sensed_186
  by_cases c55 : p2 = 119
  · refine g_tbl (off := 173) hC 174 c55 dX10_sensed_1 (by decide) ?_
    refine g_aload_n hC 0 dX10_sensed_174 rfl ?_
    replace h := ob h; obtain ⟨v27, ev27, h⟩ := h
    refine g_getR hC ev27 fk_X10_12 rfl dX10_sensed_175 ?_
    replace h := ob h; obtain ⟨a28, ea28, h⟩ := h
    subst ea28
    replace h := ob h; obtain ⟨v29, ev29, h⟩ := h
    refine g_getR hC ev29 fk_X10_200 rfl dX10_sensed_178 ?_
    refine g_aload_n hC 1 dX10_sensed_181 rfl ?_
    replace h := ob h; obtain ⟨v30, ev30, h⟩ := h
    refine g_getI hC ev30 fk_X10_97 rfl dX10_sensed_182 ?_
    replace h := ob h; obtain ⟨a32, ea32, h⟩ := h
    subst ea32
    replace h := ob h; obtain ⟨v31, ev31, h⟩ := h
    refine g_iald hC ev31 dX10_sensed_185 ?_
    exact g_iret hC h ⟨(Nat.le_of_ble_eq_true rfl), (Nat.le_of_ble_eq_true rfl)⟩ dX10_sensed_186
  refine g_tbd (n := 20) hC 174 (fun j hj => ?_) (by decide) dX10_sensed_1 (by decide) ?_
  · match j, hj with
    | 0, _ => exact c1
    | 1, _ => exact c33
    | 2, _ => exact c3
    | 3, _ => exact c35
    | 4, _ => exact c37
    | 5, _ => exact c39
    | 6, _ => exact c9
    | 7, _ => exact c41
    | 8, _ => exact c43
    | 9, _ => exact c45
    | 10, _ => exact c12
    | 11, _ => exact c47
    | 12, _ => exact c49
    | 13, _ => exact c14
    | 14, _ => exact c16
    | 15, _ => exact c51
    | 16, _ => exact c53
    | 17, _ => exact c55
    | 18, _ => exact c19
    | 19, _ => exact c23
    | j + 20, hj => exact absurd hj (by omega)
  refine g_aload_n hC 0 dX10_sensed_174 rfl ?_
  replace h := ob h; obtain ⟨v27, ev27, h⟩ := h
  refine g_getR hC ev27 fk_X10_12 rfl dX10_sensed_175 ?_
  replace h := ob h; obtain ⟨a28, ea28, h⟩ := h
  subst ea28
  replace h := ob h; obtain ⟨v29, ev29, h⟩ := h
  refine g_getR hC ev29 fk_X10_200 rfl dX10_sensed_178 ?_
  refine g_aload_n hC 1 dX10_sensed_181 rfl ?_
  replace h := ob h; obtain ⟨v30, ev30, h⟩ := h
  refine g_getI hC ev30 fk_X10_97 rfl dX10_sensed_182 ?_
  replace h := ob h; obtain ⟨a32, ea32, h⟩ := h
  subst ea32
  replace h := ob h; obtain ⟨v31, ev31, h⟩ := h
  refine g_iald hC ev31 dX10_sensed_185 ?_
  exact g_iret hC h ⟨(Nat.le_of_ble_eq_true rfl), (Nat.le_of_ble_eq_true rfl)⟩ dX10_sensed_186

set_option maxHeartbeats 4000000 in
set_option maxRecDepth 100000 in
theorem l_X10_ruleFor_L17 {Γ : Gm} {X : Ct} (hC : Cx Γ X cX10_ruleFor RX10 (some .int) 6) (hR : X.2.2.2.1 = ({ frames := 2, cells := 0, slots := 0, locals := 42 } : Room)) (r : Int32) (M' : Mm) (k65 : Int32 → Int32 → Mm → Option (Int32 × Mm)) (x0 : Nat) (x1 : Nat) (x2 : Nat) (x4 : Int32) (hk65 : ∀ (y3 : Int32) (y5 : Int32) (M1 : Mm), k65 y3 y5 M1 = some (r, M') → G Γ X 6 M1 0 0 (Fin Γ X (Qi Γ r M') 0 0) 65 ([(0, .ref x0), (1, .ref x1), (2, .ref x2), (3, .int y3), (4, .int x4), (5, .int y5)]) []) : ∀ (fu : Nat) (x3 : Int32) (x5 : Int32) (M0 : Mm), F_X10_ruleFor_L17 k65 x0 x1 x2 x4 fu x3 x5 M0 = some (r, M') → G Γ X 6 M0 0 0 (Fin Γ X (Qi Γ r M') 0 0) 17 ([(0, .ref x0), (1, .ref x1), (2, .ref x2), (4, .int x4), (3, .int x3), (5, .int x5)]) [] := by
  intro fu
  induction fu with
  | zero =>
    intro x3 x5 M0 h
    rw [F_X10_ruleFor_L17] at h
    cases h
  | succ n4 ih =>
    intro x3 x5 M0 h
    rw [F_X10_ruleFor_L17] at h
    refine g_iload_n hC 4 dX10_ruleFor_17 rfl ?_
    refine g_aload_n hC 2 dX10_ruleFor_18 rfl ?_
    replace h := ob h; obtain ⟨v5, ev5, h⟩ := h
    refine g_getR hC ev5 fk_X10_176 rfl dX10_ruleFor_19 ?_
    refine g_iload hC 3 dX10_ruleFor_22 rfl ?_
    replace h := ob h; obtain ⟨a7, ea7, h⟩ := h
    subst ea7
    replace h := ob h; obtain ⟨v6, ev6, h⟩ := h
    refine g_iald hC ev6 dX10_ruleFor_24 ?_
    refine g_icmp_ge hC 65 dX10_ruleFor_25 (by decide) (fun c8 => ?_) (fun c8 => ?_)
    · replace h := it_t c8 h
      refine g_sub [0, 1, 2, 4, 3, 5] rfl ?_
      exact hk65 x3 x5 M0 h
    · replace h := it_f c8 h
      refine g_iload hC 5 dX10_ruleFor_28 rfl ?_
      refine g_if_eq hC 56 dX10_ruleFor_30 (by decide) (fun c9 => ?_) (fun c9 => ?_)
      · replace h := it_t c9 h
        refine g_iconst hC 0 dX10_ruleFor_56 (by decide) ?_
        refine g_istore hC ([(5, .int 0), (0, .ref x0), (1, .ref x1), (2, .ref x2), (4, .int x4), (3, .int x3)]) dX10_ruleFor_57 (by decide) rfl ?_
        refine g_iinc hC 5 (x3 + 1) ([(3, .int (x3 + 1)), (5, .int 0), (0, .ref x0), (1, .ref x1), (2, .ref x2), (4, .int x4)]) dX10_ruleFor_59 rfl rfl (by decide) rfl ?_
        refine g_goto hC 17 dX10_ruleFor_62 (by decide) ?_
        refine g_sub [2, 3, 4, 5, 0, 1] rfl ?_
        exact ih (x3 + 1) 0 M0 h
      · replace h := it_f c9 h
        refine g_aload_n hC 2 dX10_ruleFor_33 rfl ?_
        refine g_iload_n hC 4 dX10_ruleFor_34 rfl ?_
        refine g_aload_n hC 0 dX10_ruleFor_35 rfl ?_
        refine g_aload_n hC 1 dX10_ruleFor_36 rfl ?_
        refine g_aload_n hC 2 dX10_ruleFor_37 rfl ?_
        replace h := ob h; obtain ⟨v10, ev10, h⟩ := h
        refine g_getR hC ev10 fk_X10_179 rfl dX10_ruleFor_38 ?_
        refine g_iload_n hC 4 dX10_ruleFor_41 rfl ?_
        replace h := ob h; obtain ⟨a12, ea12, h⟩ := h
        subst ea12
        replace h := ob h; obtain ⟨v11, ev11, h⟩ := h
        refine g_iald hC ev11 dX10_ruleFor_42 ?_
        replace h := ob h; obtain ⟨_, eu14, h⟩ := h
        replace h := ob h; obtain ⟨⟨v15, M13⟩, eM13, h⟩ := h
        refine g_calli hC (r_V hC (As := [.ref x1, .int v11]) (c_X10_sensed _ Γ x0 x1 v11 M0 M13 v15 eM13) yk_X10_sensed lk_X10_182 eu14 ⟨_, rfl, rfl⟩ rfl rfl (Nat.le_of_ble_eq_true rfl) hR ⟨(Nat.le_of_ble_eq_true rfl), (Nat.le_of_ble_eq_true rfl)⟩ ⟨(Nat.le_of_ble_eq_true rfl), (Nat.le_of_ble_eq_true rfl)⟩ dX10_ruleFor_43) ?_
        replace h := ob h; obtain ⟨_, eu17, h⟩ := h
        replace h := ob h; obtain ⟨⟨v18, M16⟩, eM16, h⟩ := h
        refine g_calli hC (r_V hC (As := [.int x3, .int v15]) (c_X2_holds _ Γ x2 x3 v15 M13 M16 v18 eM16) yk_X2_holds lk_X10_186 eu17 ⟨_, rfl, rfl⟩ rfl rfl (Nat.le_of_ble_eq_true rfl) hR ⟨(Nat.le_of_ble_eq_true rfl), (Nat.le_of_ble_eq_true rfl)⟩ ⟨(Nat.le_of_ble_eq_true rfl), (Nat.le_of_ble_eq_true rfl)⟩ dX10_ruleFor_46) ?_
        replace h := nv_e h; obtain ⟨v19, ev19, h⟩ := h
        have J20 : G Γ X 6 M16 0 0 (Fin Γ X (Qi Γ r M') 0 0) 57 ([(0, .ref x0), (1, .ref x1), (2, .ref x2), (4, .int x4), (3, .int x3), (5, .int x5)]) ([.int v19]) := by
          refine g_istore hC ([(5, .int v19), (0, .ref x0), (1, .ref x1), (2, .ref x2), (4, .int x4), (3, .int x3)]) dX10_ruleFor_57 (by decide) rfl ?_
          refine g_iinc hC 5 (x3 + 1) ([(3, .int (x3 + 1)), (5, .int v19), (0, .ref x0), (1, .ref x1), (2, .ref x2), (4, .int x4)]) dX10_ruleFor_59 rfl rfl (by decide) rfl ?_
          refine g_goto hC 17 dX10_ruleFor_62 (by decide) ?_
          refine g_sub [2, 3, 4, 5, 0, 1] rfl ?_
          exact ih (x3 + 1) v19 M16 h
        refine g_if_eq hC 56 dX10_ruleFor_49 (by decide) (fun c21 => ?_) (fun c21 => ?_)
        · refine g_iconst hC 0 dX10_ruleFor_56 (by decide) ?_
          rw [show v19 = _ from ev19.trans (if_pos c21)] at J20
          exact J20
        · refine g_iconst hC 1 dX10_ruleFor_52 (by decide) ?_
          refine g_goto hC 57 dX10_ruleFor_53 (by decide) ?_
          rw [show v19 = _ from ev19.trans (if_neg c21)] at J20
          exact J20
set_option maxHeartbeats 4000000 in
set_option maxRecDepth 100000 in
theorem l_X10_ruleFor_L5 {Γ : Gm} {X : Ct} (hC : Cx Γ X cX10_ruleFor RX10 (some .int) 6) (hR : X.2.2.2.1 = ({ frames := 2, cells := 0, slots := 0, locals := 42 } : Room)) (r : Int32) (M' : Mm)  (x0 : Nat) (x1 : Nat) (x2 : Nat) : ∀ (fu : Nat) (x3 : Int32) (x4 : Int32) (M0 : Mm), F_X10_ruleFor_L5 x0 x1 x2 fu x3 x4 M0 = some (r, M') → G Γ X 6 M0 0 0 (Fin Γ X (Qi Γ r M') 0 0) 5 ([(0, .ref x0), (1, .ref x1), (2, .ref x2), (3, .int x3), (4, .int x4)]) [] := by
  intro fu
  induction fu with
  | zero =>
    intro x3 x4 M0 h
    rw [F_X10_ruleFor_L5] at h
    cases h
  | succ n1 ih =>
    intro x3 x4 M0 h
    rw [F_X10_ruleFor_L5] at h
    refine g_iload hC 4 dX10_ruleFor_5 rfl ?_
    refine g_aload_n hC 2 dX10_ruleFor_7 rfl ?_
    replace h := ob h; obtain ⟨v2, ev2, h⟩ := h
    refine g_getI hC ev2 fk_X10_173 rfl dX10_ruleFor_8 ?_
    refine g_icmp_ge hC 79 dX10_ruleFor_11 (by decide) (fun c3 => ?_) (fun c3 => ?_)
    · replace h := it_t c3 h
      refine g_bipush hC (-4) dX10_ruleFor_79 (by decide) ?_
      exact g_iret hC h ⟨(Nat.le_of_ble_eq_true rfl), (Nat.le_of_ble_eq_true rfl)⟩ dX10_ruleFor_81
    · replace h := it_f c3 h
      refine g_iconst hC 1 dX10_ruleFor_14 (by decide) ?_
      refine g_istore hC ([(5, .int 1), (0, .ref x0), (1, .ref x1), (2, .ref x2), (3, .int x3), (4, .int x4)]) dX10_ruleFor_15 (by decide) rfl ?_
      refine g_sub [1, 2, 3, 5, 4, 0] rfl ?_
      refine l_X10_ruleFor_L17 hC hR r M' _ _ _ _ _ ?_ _ _ _ _ h
      intro y22 y23 M24 h
      refine g_iload hC 5 dX10_ruleFor_65 rfl ?_
      refine g_if_eq hC 73 dX10_ruleFor_67 (by decide) (fun c25 => ?_) (fun c25 => ?_)
      · replace h := it_t c25 h
        refine g_iinc hC 4 (x4 + 1) ([(4, .int (x4 + 1)), (0, .ref x0), (1, .ref x1), (2, .ref x2), (3, .int y22), (5, .int y23)]) dX10_ruleFor_73 rfl rfl (by decide) rfl ?_
        refine g_goto hC 5 dX10_ruleFor_76 (by decide) ?_
        refine g_sub [1, 2, 3, 4, 0] rfl ?_
        exact ih y22 (x4 + 1) M24 h
      · replace h := it_f c25 h
        refine g_iload hC 4 dX10_ruleFor_70 rfl ?_
        exact g_iret hC h ⟨(Nat.le_of_ble_eq_true rfl), (Nat.le_of_ble_eq_true rfl)⟩ dX10_ruleFor_72
set_option maxHeartbeats 4000000 in
set_option maxRecDepth 100000 in
theorem c_X10_ruleFor (l : Launch) (Γ : Gm) (this : Nat) (p1 : Nat) (p2 : Nat) (M M' : Mm) (r : Int32) (h : F_X10_ruleFor this p1 p2 M = some (r, M')) : Met l yX10_ruleFor (wz yX10_ruleFor cX10_ruleFor 6 (some .int)) ({ frames := 2, cells := 0, slots := 0, locals := 42 } : Room) (Pq Γ M [.ref this, .ref p1, .ref p2]) (Qi Γ r M') 0 0 (fr Γ) := by
  refine met_of (own := RX10) (by decide +kernel) rfl (Nat.le_of_ble_eq_true rfl) ?_
  intro X hC hR hnm hXl
  unfold F_X10_ruleFor at h
  show G Γ X 6 M 0 0 _ 0 ([(0, .ref this), (1, .ref p1), (2, .ref p2)]) []
  refine g_iconst hC 0 dX10_ruleFor_0 (by decide) ?_
  refine g_istore_n hC ([(3, .int 0), (0, .ref this), (1, .ref p1), (2, .ref p2)]) dX10_ruleFor_1 (by decide) rfl ?_
  refine g_iconst hC 0 dX10_ruleFor_2 (by decide) ?_
  refine g_istore hC ([(4, .int 0), (3, .int 0), (0, .ref this), (1, .ref p1), (2, .ref p2)]) dX10_ruleFor_3 (by decide) rfl ?_
  refine g_sub [2, 3, 4, 1, 0] rfl ?_
  refine l_X10_ruleFor_L5 hC hR r M'  _ _ _  _ _ _ _ h

set_option maxHeartbeats 4000000 in
set_option maxRecDepth 100000 in
theorem c_X10_cut (l : Launch) (Γ : Gm) (p1 : Int32) (p2 : Int32) (M M' : Mm) (r : Int32) (h : F_X10_cut p1 p2 M = some (r, M')) : Met l yX10_cut (wz yX10_cut cX10_cut 2 (some .int)) ({ frames := 1, cells := 0, slots := 0, locals := 21 } : Room) (Pq Γ M [.int p1, .int p2]) (Qi Γ r M') 0 0 (fr Γ) := by
  refine met_of (own := RX10) (by decide +kernel) rfl (Nat.le_of_ble_eq_true rfl) ?_
  intro X hC hR hnm hXl
  unfold F_X10_cut at h
  show G Γ X 2 M 0 0 _ 0 ([(0, .int p1), (1, .int p2)]) []
  refine g_iload_n hC 1 dX10_cut_0 rfl ?_
  refine g_ineg hC dX10_cut_1 ?_
  refine g_iload_n hC 1 dX10_cut_2 rfl ?_
  refine g_iload_n hC 0 dX10_cut_3 rfl ?_
  refine g_min hC lk_X10_145 hR (Nat.le_of_ble_eq_true rfl) ⟨(Nat.le_of_ble_eq_true rfl), (Nat.le_of_ble_eq_true rfl), (Nat.le_of_ble_eq_true rfl), (Nat.le_of_ble_eq_true rfl)⟩ dX10_cut_4 ?_
  refine g_max hC lk_X10_170 hR (Nat.le_of_ble_eq_true rfl) ⟨(Nat.le_of_ble_eq_true rfl), (Nat.le_of_ble_eq_true rfl), (Nat.le_of_ble_eq_true rfl), (Nat.le_of_ble_eq_true rfl)⟩ dX10_cut_7 ?_
  exact g_iret hC h ⟨(Nat.le_of_ble_eq_true rfl), (Nat.le_of_ble_eq_true rfl)⟩ dX10_cut_10

set_option maxHeartbeats 4000000 in
set_option maxRecDepth 100000 in
theorem l_X10_numberOf_L2 {Γ : Gm} {X : Ct} (hC : Cx Γ X cX10_numberOf RX10 (some .int) 3) (hR : X.2.2.2.1 = ({ frames := 0, cells := 0, slots := 0, locals := 0 } : Room)) (r : Int32) (M' : Mm)  (x0 : Nat) (x1 : Nat) : ∀ (fu : Nat) (x2 : Int32) (M0 : Mm), F_X10_numberOf_L2 x0 x1 fu x2 M0 = some (r, M') → G Γ X 3 M0 0 0 (Fin Γ X (Qi Γ r M') 0 0) 2 ([(0, .ref x0), (1, .ref x1), (2, .int x2)]) [] := by
  intro fu
  induction fu with
  | zero =>
    intro x2 M0 h
    rw [F_X10_numberOf_L2] at h
    cases h
  | succ n1 ih =>
    intro x2 M0 h
    rw [F_X10_numberOf_L2] at h
    refine g_iload_n hC 2 dX10_numberOf_2 rfl ?_
    refine g_aload_n hC 0 dX10_numberOf_3 rfl ?_
    replace h := ob h; obtain ⟨v2, ev2, h⟩ := h
    refine g_getI hC ev2 fk_X10_24 rfl dX10_numberOf_4 ?_
    refine g_icmp_ge hC 28 dX10_numberOf_7 (by decide) (fun c3 => ?_) (fun c3 => ?_)
    · replace h := it_t c3 h
      refine g_bipush hC (-4) dX10_numberOf_28 (by decide) ?_
      exact g_iret hC h ⟨(Nat.le_of_ble_eq_true rfl), (Nat.le_of_ble_eq_true rfl)⟩ dX10_numberOf_30
    · replace h := it_f c3 h
      refine g_aload_n hC 0 dX10_numberOf_10 rfl ?_
      replace h := ob h; obtain ⟨v4, ev4, h⟩ := h
      refine g_getR hC ev4 fk_X10_20 rfl dX10_numberOf_11 ?_
      refine g_iload_n hC 2 dX10_numberOf_14 rfl ?_
      replace h := ob h; obtain ⟨a6, ea6, h⟩ := h
      subst ea6
      replace h := ob h; obtain ⟨v5, ev5, h⟩ := h
      refine g_aald hC ev5 (by decide) dX10_numberOf_15 ?_
      refine g_aload_n hC 1 dX10_numberOf_16 rfl ?_
      refine g_acmp_ne (x := v5) (y := (some x1)) hC 22 dX10_numberOf_17 (by decide) (fun c7 => ?_) (fun c7 => ?_)
      · replace h := it_f c7 h
        refine g_iinc hC 2 (x2 + 1) ([(2, .int (x2 + 1)), (0, .ref x0), (1, .ref x1)]) dX10_numberOf_22 rfl rfl (by decide) rfl ?_
        refine g_goto hC 2 dX10_numberOf_25 (by decide) ?_
        refine g_sub [1, 2, 0] rfl ?_
        exact ih (x2 + 1) M0 h
      · replace h := it_t c7 h
        refine g_iload_n hC 2 dX10_numberOf_20 rfl ?_
        exact g_iret hC h ⟨(Nat.le_of_ble_eq_true rfl), (Nat.le_of_ble_eq_true rfl)⟩ dX10_numberOf_21
set_option maxHeartbeats 4000000 in
set_option maxRecDepth 100000 in
theorem c_X10_numberOf (l : Launch) (Γ : Gm) (this : Nat) (p1 : Nat) (M M' : Mm) (r : Int32) (h : F_X10_numberOf this p1 M = some (r, M')) : Met l yX10_numberOf (wz yX10_numberOf cX10_numberOf 3 (some .int)) ({ frames := 0, cells := 0, slots := 0, locals := 0 } : Room) (Pq Γ M [.ref this, .ref p1]) (Qi Γ r M') 0 0 (fr Γ) := by
  refine met_of (own := RX10) (by decide +kernel) rfl (Nat.le_of_ble_eq_true rfl) ?_
  intro X hC hR hnm hXl
  unfold F_X10_numberOf at h
  show G Γ X 3 M 0 0 _ 0 ([(0, .ref this), (1, .ref p1)]) []
  refine g_iconst hC 0 dX10_numberOf_0 (by decide) ?_
  refine g_istore_n hC ([(2, .int 0), (0, .ref this), (1, .ref p1)]) dX10_numberOf_1 (by decide) rfl ?_
  refine g_sub [1, 2, 0] rfl ?_
  refine l_X10_numberOf_L2 hC hR r M'  _ _  _ _ _ h

set_option maxHeartbeats 4000000 in
set_option maxRecDepth 100000 in
theorem c_X10_measure (l : Launch) (Γ : Gm) (this : Nat) (p1 : Nat) (p2 : Int32) (M M' : Mm) (h : F_X10_measure this p1 p2 M = some M') : Met l yX10_measure (wz yX10_measure cX10_measure 4 none) ({ frames := 3, cells := 0, slots := 0, locals := 68 } : Room) (Pq Γ M [.ref this, .ref p1, .int p2]) (Qv Γ M') 0 0 (fr Γ) := by
  refine met_of (own := RX10) (by decide +kernel) rfl (Nat.le_of_ble_eq_true rfl) ?_
  intro X hC hR hnm hXl
  unfold F_X10_measure at h
  show G Γ X 4 M 0 0 _ 0 ([(0, .ref this), (1, .ref p1), (2, .int p2)]) []
  refine g_iconst hC 0 dX10_measure_0 (by decide) ?_
  refine g_iload_n hC 2 dX10_measure_1 rfl ?_
  refine g_aload_n hC 0 dX10_measure_2 rfl ?_
  replace h := ob h; obtain ⟨v1, ev1, h⟩ := h
  refine g_getR hC ev1 fk_X10_12 rfl dX10_measure_3 ?_
  replace h := ob h; obtain ⟨a2, ea2, h⟩ := h
  subst ea2
  replace h := ob h; obtain ⟨v3, ev3, h⟩ := h
  refine g_getR hC ev3 fk_X10_200 rfl dX10_measure_6 ?_
  refine g_aload_n hC 1 dX10_measure_9 rfl ?_
  replace h := ob h; obtain ⟨v4, ev4, h⟩ := h
  refine g_getI hC ev4 fk_X10_97 rfl dX10_measure_10 ?_
  replace h := ob h; obtain ⟨a6, ea6, h⟩ := h
  subst ea6
  replace h := ob h; obtain ⟨v5, ev5, h⟩ := h
  refine g_iald hC ev5 dX10_measure_13 ?_
  refine g_iconst hC 1 dX10_measure_14 (by decide) ?_
  refine g_isub hC dX10_measure_15 ?_
  refine g_min hC lk_X10_145 hR (Nat.le_of_ble_eq_true rfl) ⟨(Nat.le_of_ble_eq_true rfl), (Nat.le_of_ble_eq_true rfl), (Nat.le_of_ble_eq_true rfl), (Nat.le_of_ble_eq_true rfl)⟩ dX10_measure_16 ?_
  refine g_max hC lk_X10_170 hR (Nat.le_of_ble_eq_true rfl) ⟨(Nat.le_of_ble_eq_true rfl), (Nat.le_of_ble_eq_true rfl), (Nat.le_of_ble_eq_true rfl), (Nat.le_of_ble_eq_true rfl)⟩ dX10_measure_19 ?_
  refine g_istore_n hC ([(3, .int (mxI 0 (mnI p2 (v5 - 1)))), (0, .ref this), (1, .ref p1), (2, .int p2)]) dX10_measure_22 (by decide) rfl ?_
  refine g_aload_n hC 2 dX10_measure_23 rfl ?_
  refine g_aload_n hC 1 dX10_measure_24 rfl ?_
  replace h := ob h; obtain ⟨v7, ev7, h⟩ := h
  refine g_getR hC ev7 fk_X10_12 rfl dX10_measure_25 ?_
  replace h := ob h; obtain ⟨a8, ea8, h⟩ := h
  subst ea8
  replace h := ob h; obtain ⟨v9, ev9, h⟩ := h
  refine g_getR hC ev9 fk_X10_235 rfl dX10_measure_28 ?_
  refine g_aload_n hC 2 dX10_measure_31 rfl ?_
  replace h := ob h; obtain ⟨v10, ev10, h⟩ := h
  refine g_getI hC ev10 fk_X10_97 rfl dX10_measure_32 ?_
  refine g_iload_n hC 0 dX10_measure_35 rfl ?_
  replace h := ob h; obtain ⟨⟨v12, M11⟩, eM11, h⟩ := h
  refine g_calli hC (r_SN hC (As := [.int v10, .int (mxI 0 (mnI p2 (v5 - 1)))]) (c_X11_placeOf _ Γ v10 (mxI 0 (mnI p2 (v5 - 1))) M M11 v12 eM11) yk_X11_placeOf lk_X10_238 rfl rfl (by simp only [List.map, cat_rf]; exact Nat.le_of_ble_eq_true rfl) hR ⟨(Nat.le_of_ble_eq_true rfl), (Nat.le_of_ble_eq_true rfl)⟩ ⟨(Nat.le_of_ble_eq_true rfl), (Nat.le_of_ble_eq_true rfl)⟩ dX10_measure_36) ?_
  replace h := ob h; obtain ⟨a14, ea14, h⟩ := h
  subst ea14
  replace h := ob h; obtain ⟨v13, ev13, h⟩ := h
  refine g_iald hC ev13 dX10_measure_39 ?_
  refine g_iconst hC 3 dX10_measure_40 (by decide) ?_
  refine g_aload_n hC 2 dX10_measure_41 rfl ?_
  replace h := ob h; obtain ⟨v15, ev15, h⟩ := h
  refine g_getI hC ev15 fk_X10_194 rfl dX10_measure_42 ?_
  refine g_imul hC dX10_measure_45 ?_
  refine g_iadd hC dX10_measure_46 ?_
  replace h := ob h; obtain ⟨M16, eM16, h⟩ := h
  refine g_putI hC eM16 fk_X10_197 rfl dX10_measure_47 ?_
  refine g_aload_n hC 2 dX10_measure_50 rfl ?_
  refine g_iconst hC 1 dX10_measure_51 (by decide) ?_
  replace h := ob h; obtain ⟨M17, eM17, h⟩ := h
  refine g_putZ hC eM17 fk_X10_241 rfl dX10_measure_52 ?_
  refine g_aload_n hC 1 dX10_measure_55 rfl ?_
  replace h := ob h; obtain ⟨v18, ev18, h⟩ := h
  refine g_getR hC ev18 fk_X10_57 rfl dX10_measure_56 ?_
  refine g_aload_n hC 1 dX10_measure_59 rfl ?_
  refine g_aload_n hC 2 dX10_measure_60 rfl ?_
  replace h := ob h; obtain ⟨_, eu20, h⟩ := h
  replace h := ob h; obtain ⟨⟨v21, M19⟩, eM19, h⟩ := h
  refine g_calli hC (r_V hC (As := [.ref p1]) (c_X10_numberOf _ Γ this p1 M17 M19 v21 eM19) yk_X10_numberOf lk_X10_244 eu20 ⟨_, rfl, rfl⟩ rfl rfl (by simp only [List.map, cat_rf]; exact Nat.le_of_ble_eq_true rfl) hR ⟨(Nat.le_of_ble_eq_true rfl), (Nat.le_of_ble_eq_true rfl)⟩ ⟨(Nat.le_of_ble_eq_true rfl), (Nat.le_of_ble_eq_true rfl)⟩ dX10_measure_61) ?_
  refine g_aload_n hC 2 dX10_measure_64 rfl ?_
  refine g_aload_n hC 1 dX10_measure_65 rfl ?_
  replace h := ob h; obtain ⟨v22, ev22, h⟩ := h
  refine g_getI hC ev22 fk_X10_28 rfl dX10_measure_66 ?_
  refine g_iload_n hC 0 dX10_measure_69 rfl ?_
  replace h := ob h; obtain ⟨a23, ea23, h⟩ := h
  subst ea23
  replace h := ob h; obtain ⟨_, eu25, h⟩ := h
  replace h := ob h; obtain ⟨M24, eM24, h⟩ := h
  refine g_callv hC (r_V hC (As := [.int v21, .ref p1, .int v22, .int (mxI 0 (mnI p2 (v5 - 1)))]) (c_X6_addReading _ Γ a23 v21 p1 v22 (mxI 0 (mnI p2 (v5 - 1))) M19 M24 eM24) yk_X6_addReading lk_X10_248 eu25 ⟨_, rfl, rfl⟩ rfl rfl (Nat.le_of_ble_eq_true rfl) hR ⟨(Nat.le_of_ble_eq_true rfl), (Nat.le_of_ble_eq_true rfl)⟩ ⟨(Nat.le_of_ble_eq_true rfl), (Nat.le_of_ble_eq_true rfl)⟩ dX10_measure_70) ?_
  refine g_aload_n hC 1 dX10_measure_73 rfl ?_
  replace h := ob h; obtain ⟨v26, ev26, h⟩ := h
  refine g_getR hC ev26 fk_X10_12 rfl dX10_measure_74 ?_
  refine g_aload_n hC 2 dX10_measure_77 rfl ?_
  replace h := ob h; obtain ⟨v27, ev27, h⟩ := h
  refine g_getI hC ev27 fk_X10_97 rfl dX10_measure_78 ?_
  replace h := ob h; obtain ⟨a28, ea28, h⟩ := h
  subst ea28
  replace h := ob h; obtain ⟨_, eu30, h⟩ := h
  replace h := ob h; obtain ⟨M29, eM29, h⟩ := h
  refine g_callv hC (r_V hC (As := [.int v27]) (c_X7_lessenDoubt _ Γ a28 v27 M24 M29 eM29) yk_X7_lessenDoubt lk_X10_252 eu30 ⟨_, rfl, rfl⟩ rfl rfl (Nat.le_of_ble_eq_true rfl) hR ⟨(Nat.le_of_ble_eq_true rfl), (Nat.le_of_ble_eq_true rfl)⟩ ⟨(Nat.le_of_ble_eq_true rfl), (Nat.le_of_ble_eq_true rfl)⟩ dX10_measure_81) ?_
  refine g_aload_n hC 2 dX10_measure_84 rfl ?_
  refine g_dup hC dX10_measure_85 rfl ?_
  replace h := ob h; obtain ⟨v31, ev31, h⟩ := h
  refine g_getI hC ev31 fk_X10_194 rfl dX10_measure_86 ?_
  refine g_iconst hC 1 dX10_measure_89 (by decide) ?_
  refine g_iadd hC dX10_measure_90 ?_
  replace h := ob h; obtain ⟨M32, eM32, h⟩ := h
  refine g_putI hC eM32 fk_X10_194 rfl dX10_measure_91 ?_
  exact g_vret hC h ⟨(Nat.le_of_ble_eq_true rfl), (Nat.le_of_ble_eq_true rfl)⟩ dX10_measure_94

set_option maxHeartbeats 4000000 in
set_option maxRecDepth 100000 in
theorem c_X10_descend (l : Launch) (Γ : Gm) (this : Nat) (p1 : Nat) (p2 : Int32) (p3 : Int32) (p4 : Int32) (M M' : Mm) (r : Int32) (h : F_X10_descend this p1 p2 p3 p4 M = some (r, M')) : Met l yX10_descend (wz yX10_descend cX10_descend 7 (some .int)) ({ frames := 4, cells := 0, slots := 0, locals := 98 } : Room) (Pq Γ M [.ref this, .ref p1, .int p2, .int p3, .int p4]) (Qi Γ r M') 0 0 (fr Γ) := by
  refine met_of (own := RX10) (by decide +kernel) rfl (Nat.le_of_ble_eq_true rfl) ?_
  intro X hC hR hnm hXl
  unfold F_X10_descend at h
  show G Γ X 7 M 0 0 _ 0 ([(0, .ref this), (1, .ref p1), (2, .int p2), (3, .int p3), (4, .int p4)]) []
  refine g_aload_n hC 1 dX10_descend_0 rfl ?_
  replace h := ob h; obtain ⟨v1, ev1, h⟩ := h
  refine g_getI hC ev1 fk_X10_97 rfl dX10_descend_1 ?_
  refine g_istore hC ([(5, .int v1), (0, .ref this), (1, .ref p1), (2, .int p2), (3, .int p3), (4, .int p4)]) dX10_descend_4 (by decide) rfl ?_
  refine g_aload_n hC 2 dX10_descend_6 rfl ?_
  refine g_dup hC dX10_descend_7 rfl ?_
  replace h := ob h; obtain ⟨v2, ev2, h⟩ := h
  refine g_getI hC ev2 fk_X10_110 rfl dX10_descend_8 ?_
  refine g_aload_n hC 2 dX10_descend_11 rfl ?_
  refine g_iload_n hC 3 dX10_descend_12 rfl ?_
  replace h := ob h; obtain ⟨_, eu4, h⟩ := h
  replace h := ob h; obtain ⟨⟨v5, M3⟩, eM3, h⟩ := h
  refine g_calli hC (r_V hC (As := [.int p2]) (c_X0_costTo _ Γ p1 p2 M M3 v5 eM3) yk_X0_costTo lk_X10_151 eu4 ⟨_, rfl, rfl⟩ rfl rfl (Nat.le_of_ble_eq_true rfl) hR ⟨(Nat.le_of_ble_eq_true rfl), (Nat.le_of_ble_eq_true rfl)⟩ ⟨(Nat.le_of_ble_eq_true rfl), (Nat.le_of_ble_eq_true rfl)⟩ dX10_descend_13) ?_
  refine g_isub hC dX10_descend_16 ?_
  replace h := ob h; obtain ⟨M6, eM6, h⟩ := h
  refine g_putI hC eM6 fk_X10_110 rfl dX10_descend_17 ?_
  refine g_aload_n hC 2 dX10_descend_20 rfl ?_
  refine g_dup hC dX10_descend_21 rfl ?_
  replace h := ob h; obtain ⟨v7, ev7, h⟩ := h
  refine g_getI hC ev7 fk_X10_203 rfl dX10_descend_22 ?_
  refine g_iconst hC 1 dX10_descend_25 (by decide) ?_
  refine g_iadd hC dX10_descend_26 ?_
  replace h := ob h; obtain ⟨M8, eM8, h⟩ := h
  refine g_putI hC eM8 fk_X10_203 rfl dX10_descend_27 ?_
  refine g_aload_n hC 1 dX10_descend_30 rfl ?_
  replace h := ob h; obtain ⟨v9, ev9, h⟩ := h
  refine g_getR hC ev9 fk_X10_64 rfl dX10_descend_31 ?_
  refine g_aload_n hC 1 dX10_descend_34 rfl ?_
  replace h := ob h; obtain ⟨v10, ev10, h⟩ := h
  refine g_getR hC ev10 fk_X10_12 rfl dX10_descend_35 ?_
  refine g_aload_n hC 1 dX10_descend_38 rfl ?_
  replace h := ob h; obtain ⟨v11, ev11, h⟩ := h
  refine g_getR hC ev11 fk_X10_12 rfl dX10_descend_39 ?_
  replace h := ob h; obtain ⟨a12, ea12, h⟩ := h
  subst ea12
  replace h := ob h; obtain ⟨v13, ev13, h⟩ := h
  refine g_getR hC ev13 fk_X10_206 rfl dX10_descend_42 ?_
  refine g_iload hC 0 dX10_descend_45 rfl ?_
  refine g_iload_n hC 3 dX10_descend_47 rfl ?_
  refine g_iconst hC 1 dX10_descend_48 (by decide) ?_
  replace h := ob h; obtain ⟨a14, ea14, h⟩ := h
  subst ea14
  replace h := ob h; obtain ⟨a15, ea15, h⟩ := h
  subst ea15
  replace h := ob h; obtain ⟨a16, ea16, h⟩ := h
  subst ea16
  replace h := ob h; obtain ⟨_, eu18, h⟩ := h
  replace h := ob h; obtain ⟨M17, eM17, h⟩ := h
  refine g_callv hC (r_V hC (As := [.ref a15, .ref a14, .int v1, .int p2, .int 1]) (c_X4_sink _ Γ a16 a15 a14 v1 p2 1 M8 M17 eM17) yk_X4_sink lk_X10_210 eu18 ⟨_, rfl, rfl⟩ rfl rfl (Nat.le_of_ble_eq_true rfl) hR ⟨(Nat.le_of_ble_eq_true rfl), (Nat.le_of_ble_eq_true rfl)⟩ ⟨(Nat.le_of_ble_eq_true rfl), (Nat.le_of_ble_eq_true rfl)⟩ dX10_descend_49) ?_
  refine g_aload_n hC 2 dX10_descend_52 rfl ?_
  refine g_aload_n hC 1 dX10_descend_53 rfl ?_
  replace h := ob h; obtain ⟨v19, ev19, h⟩ := h
  refine g_getR hC ev19 fk_X10_64 rfl dX10_descend_54 ?_
  replace h := ob h; obtain ⟨a20, ea20, h⟩ := h
  subst ea20
  replace h := ob h; obtain ⟨v21, ev21, h⟩ := h
  refine g_getI hC ev21 fk_X10_214 rfl dX10_descend_57 ?_
  replace h := ob h; obtain ⟨M22, eM22, h⟩ := h
  refine g_putI hC eM22 fk_X10_97 rfl dX10_descend_60 ?_
  refine g_aload_n hC 1 dX10_descend_63 rfl ?_
  replace h := ob h; obtain ⟨v23, ev23, h⟩ := h
  refine g_getR hC ev23 fk_X10_64 rfl dX10_descend_64 ?_
  replace h := ob h; obtain ⟨a24, ea24, h⟩ := h
  subst ea24
  replace h := ob h; obtain ⟨v25, ev25, h⟩ := h
  refine g_getI hC ev25 fk_X10_215 rfl dX10_descend_67 ?_
  refine g_if_eq hC 81 dX10_descend_70 (by decide) (fun c26 => ?_) (fun c26 => ?_)
  · replace h := it_t c26 h
    refine g_aload_n hC 2 dX10_descend_81 rfl ?_
    refine g_aload_n hC 1 dX10_descend_82 rfl ?_
    replace h := ob h; obtain ⟨v27, ev27, h⟩ := h
    refine g_getR hC ev27 fk_X10_12 rfl dX10_descend_83 ?_
    refine g_aload_n hC 1 dX10_descend_86 rfl ?_
    replace h := ob h; obtain ⟨v28, ev28, h⟩ := h
    refine g_getR hC ev28 fk_X10_64 rfl dX10_descend_87 ?_
    replace h := ob h; obtain ⟨a29, ea29, h⟩ := h
    subst ea29
    replace h := ob h; obtain ⟨v30, ev30, h⟩ := h
    refine g_getI hC ev30 fk_X10_214 rfl dX10_descend_90 ?_
    refine g_iload_n hC 4 dX10_descend_93 rfl ?_
    refine g_iload hC 5 dX10_descend_94 rfl ?_
    replace h := ob h; obtain ⟨a31, ea31, h⟩ := h
    subst ea31
    replace h := ob h; obtain ⟨_, eu33, h⟩ := h
    replace h := ob h; obtain ⟨⟨v34, M32⟩, eM32, h⟩ := h
    refine g_calli hC (r_V hC (As := [.int v30, .int p3, .int p4]) (c_X7_walked _ Γ a31 v30 p3 p4 M22 M32 v34 eM32) yk_X7_walked lk_X10_218 eu33 ⟨_, rfl, rfl⟩ rfl rfl (Nat.le_of_ble_eq_true rfl) hR ⟨(Nat.le_of_ble_eq_true rfl), (Nat.le_of_ble_eq_true rfl)⟩ ⟨(Nat.le_of_ble_eq_true rfl), (Nat.le_of_ble_eq_true rfl)⟩ dX10_descend_96) ?_
    replace h := ob h; obtain ⟨M35, eM35, h⟩ := h
    refine g_putI hC eM35 fk_X10_97 rfl dX10_descend_99 ?_
    refine g_aload_n hC 1 dX10_descend_102 rfl ?_
    refine g_aload_n hC 2 dX10_descend_103 rfl ?_
    refine g_aload_n hC 1 dX10_descend_104 rfl ?_
    replace h := ob h; obtain ⟨v36, ev36, h⟩ := h
    refine g_getR hC ev36 fk_X10_64 rfl dX10_descend_105 ?_
    replace h := ob h; obtain ⟨a37, ea37, h⟩ := h
    subst ea37
    replace h := ob h; obtain ⟨v38, ev38, h⟩ := h
    refine g_getI hC ev38 fk_X10_221 rfl dX10_descend_108 ?_
    replace h := ob h; obtain ⟨_, eu40, h⟩ := h
    replace h := ob h; obtain ⟨M39, eM39, h⟩ := h
    refine g_callv hC (r_V hC (As := [.ref p1, .int v38]) (c_X10_measure _ Γ this p1 v38 M35 M39 eM39) yk_X10_measure lk_X10_224 eu40 ⟨_, rfl, rfl⟩ rfl rfl (Nat.le_of_ble_eq_true rfl) hR ⟨(Nat.le_of_ble_eq_true rfl), (Nat.le_of_ble_eq_true rfl)⟩ ⟨(Nat.le_of_ble_eq_true rfl), (Nat.le_of_ble_eq_true rfl)⟩ dX10_descend_111) ?_
    refine g_aload_n hC 1 dX10_descend_114 rfl ?_
    replace h := ob h; obtain ⟨v41, ev41, h⟩ := h
    refine g_getR hC ev41 fk_X10_12 rfl dX10_descend_115 ?_
    replace h := ob h; obtain ⟨a42, ea42, h⟩ := h
    subst ea42
    replace h := ob h; obtain ⟨v43, ev43, h⟩ := h
    refine g_getR hC ev43 fk_X10_228 rfl dX10_descend_118 ?_
    refine g_aload_n hC 2 dX10_descend_121 rfl ?_
    replace h := ob h; obtain ⟨v44, ev44, h⟩ := h
    refine g_getI hC ev44 fk_X10_97 rfl dX10_descend_122 ?_
    replace h := ob h; obtain ⟨a46, ea46, h⟩ := h
    subst ea46
    replace h := ob h; obtain ⟨v45, ev45, h⟩ := h
    refine g_iald hC ev45 dX10_descend_125 ?_
    refine g_iconst hC 1 dX10_descend_126 (by decide) ?_
    replace h := jp_e h; obtain ⟨k47, ek47, h⟩ := h
    have J72 : ∀  (M48 : Mm), k47  M48 = some (r, M') → G Γ X 7 M48 0 0 (Fin Γ X (Qi Γ r M') 0 0) 144 ([(0, .ref this), (1, .ref p1), (3, .int p3), (4, .int p4), (5, .int v1)]) ([]) := by
      intro  M48 h
      rw [ek47] at h
      refine g_aload_n hC 0 dX10_descend_144 rfl ?_
      replace h := ob h; obtain ⟨v49, ev49, h⟩ := h
      refine g_getR hC ev49 fk_X10_12 rfl dX10_descend_145 ?_
      refine g_iload hC 4 dX10_descend_148 rfl ?_
      refine g_iload_n hC 2 dX10_descend_150 rfl ?_
      refine g_iload hC 3 dX10_descend_151 rfl ?_
      replace h := ob h; obtain ⟨a50, ea50, h⟩ := h
      subst ea50
      replace h := ob h; obtain ⟨_, eu52, h⟩ := h
      replace h := ob h; obtain ⟨⟨v53, M51⟩, eM51, h⟩ := h
      refine g_calli hC (r_V hC (As := [.int v1, .int p3, .int p4]) (c_X7_walked _ Γ a50 v1 p3 p4 M48 M51 v53 eM51) yk_X7_walked lk_X10_218 eu52 ⟨_, rfl, rfl⟩ rfl rfl (Nat.le_of_ble_eq_true rfl) hR ⟨(Nat.le_of_ble_eq_true rfl), (Nat.le_of_ble_eq_true rfl)⟩ ⟨(Nat.le_of_ble_eq_true rfl), (Nat.le_of_ble_eq_true rfl)⟩ dX10_descend_153) ?_
      refine g_istore hC ([(6, .int v53), (0, .ref this), (1, .ref p1), (3, .int p3), (4, .int p4), (5, .int v1)]) dX10_descend_156 (by decide) rfl ?_
      refine g_aload_n hC 1 dX10_descend_158 rfl ?_
      replace h := ob h; obtain ⟨v54, ev54, h⟩ := h
      refine g_getR hC ev54 fk_X10_12 rfl dX10_descend_159 ?_
      refine g_iload hC 5 dX10_descend_162 rfl ?_
      refine g_aload_n hC 1 dX10_descend_164 rfl ?_
      replace h := ob h; obtain ⟨v55, ev55, h⟩ := h
      refine g_getR hC ev55 fk_X10_64 rfl dX10_descend_165 ?_
      replace h := ob h; obtain ⟨a56, ea56, h⟩ := h
      subst ea56
      replace h := ob h; obtain ⟨v57, ev57, h⟩ := h
      refine g_getI hC ev57 fk_X10_221 rfl dX10_descend_168 ?_
      refine g_aload_n hC 2 dX10_descend_171 rfl ?_
      replace h := ob h; obtain ⟨v58, ev58, h⟩ := h
      refine g_getI hC ev58 fk_X10_97 rfl dX10_descend_172 ?_
      replace h := ob h; obtain ⟨⟨v60, M59⟩, eM59, h⟩ := h
      refine g_calli hC (r_SN hC (As := [.int v58]) (c_X11_xOf _ Γ v58 M51 M59 v60 eM59) yk_X11_xOf lk_X10_100 rfl rfl (by simp only [List.map, cat_rf]; exact Nat.le_of_ble_eq_true rfl) hR ⟨(Nat.le_of_ble_eq_true rfl), (Nat.le_of_ble_eq_true rfl)⟩ ⟨(Nat.le_of_ble_eq_true rfl), (Nat.le_of_ble_eq_true rfl)⟩ dX10_descend_175) ?_
      refine g_iload hC 0 dX10_descend_178 rfl ?_
      replace h := ob h; obtain ⟨⟨v62, M61⟩, eM61, h⟩ := h
      refine g_calli hC (r_SN hC (As := [.int v53]) (c_X11_xOf _ Γ v53 M59 M61 v62 eM61) yk_X11_xOf lk_X10_100 rfl rfl (by simp only [List.map, cat_rf]; exact Nat.le_of_ble_eq_true rfl) hR ⟨(Nat.le_of_ble_eq_true rfl), (Nat.le_of_ble_eq_true rfl)⟩ ⟨(Nat.le_of_ble_eq_true rfl), (Nat.le_of_ble_eq_true rfl)⟩ dX10_descend_180) ?_
      refine g_isub hC dX10_descend_183 ?_
      refine g_aload_n hC 2 dX10_descend_184 rfl ?_
      replace h := ob h; obtain ⟨v63, ev63, h⟩ := h
      refine g_getI hC ev63 fk_X10_97 rfl dX10_descend_185 ?_
      replace h := ob h; obtain ⟨⟨v65, M64⟩, eM64, h⟩ := h
      refine g_calli hC (r_SN hC (As := [.int v63]) (c_X11_yOf _ Γ v63 M61 M64 v65 eM64) yk_X11_yOf lk_X10_104 rfl rfl (by simp only [List.map, cat_rf]; exact Nat.le_of_ble_eq_true rfl) hR ⟨(Nat.le_of_ble_eq_true rfl), (Nat.le_of_ble_eq_true rfl)⟩ ⟨(Nat.le_of_ble_eq_true rfl), (Nat.le_of_ble_eq_true rfl)⟩ dX10_descend_188) ?_
      refine g_iload hC 0 dX10_descend_191 rfl ?_
      replace h := ob h; obtain ⟨⟨v67, M66⟩, eM66, h⟩ := h
      refine g_calli hC (r_SN hC (As := [.int v53]) (c_X11_yOf _ Γ v53 M64 M66 v67 eM66) yk_X11_yOf lk_X10_104 rfl rfl (by simp only [List.map, cat_rf]; exact Nat.le_of_ble_eq_true rfl) hR ⟨(Nat.le_of_ble_eq_true rfl), (Nat.le_of_ble_eq_true rfl)⟩ ⟨(Nat.le_of_ble_eq_true rfl), (Nat.le_of_ble_eq_true rfl)⟩ dX10_descend_193) ?_
      refine g_isub hC dX10_descend_196 ?_
      replace h := ob h; obtain ⟨a68, ea68, h⟩ := h
      subst ea68
      replace h := ob h; obtain ⟨_, eu70, h⟩ := h
      replace h := ob h; obtain ⟨M69, eM69, h⟩ := h
      refine g_callv hC (r_V hC (As := [.int v1, .int v57, .int (v60 - v62), .int (v65 - v67)]) (c_X7_learn _ Γ a68 v1 v57 (v60 - v62) (v65 - v67) M66 M69 eM69) yk_X7_learn lk_X10_231 eu70 ⟨_, rfl, rfl⟩ rfl rfl (Nat.le_of_ble_eq_true rfl) hR ⟨(Nat.le_of_ble_eq_true rfl), (Nat.le_of_ble_eq_true rfl)⟩ ⟨(Nat.le_of_ble_eq_true rfl), (Nat.le_of_ble_eq_true rfl)⟩ dX10_descend_197) ?_
      refine g_aload_n hC 2 dX10_descend_200 rfl ?_
      replace h := ob h; obtain ⟨v71, ev71, h⟩ := h
      refine g_getI hC ev71 fk_X10_97 rfl dX10_descend_201 ?_
      exact g_iret hC h ⟨(Nat.le_of_ble_eq_true rfl), (Nat.le_of_ble_eq_true rfl)⟩ dX10_descend_204
    refine g_icmp_ne hC 144 dX10_descend_127 (by decide) (fun c73 => ?_) (fun c73 => ?_)
    · replace h := it_f c73 h
      refine g_sub [1, 2, 4, 5, 0] rfl ?_
      exact J72  M39 h
    · replace h := it_t c73 h
      refine g_aload_n hC 2 dX10_descend_130 rfl ?_
      refine g_iconst hC 0 dX10_descend_131 (by decide) ?_
      refine g_aload_n hC 2 dX10_descend_132 rfl ?_
      replace h := ob h; obtain ⟨v74, ev74, h⟩ := h
      refine g_getI hC ev74 fk_X10_110 rfl dX10_descend_133 ?_
      refine g_iconst hC 5 dX10_descend_136 (by decide) ?_
      refine g_isub hC dX10_descend_137 ?_
      refine g_max hC lk_X10_170 hR (Nat.le_of_ble_eq_true rfl) ⟨(Nat.le_of_ble_eq_true rfl), (Nat.le_of_ble_eq_true rfl), (Nat.le_of_ble_eq_true rfl), (Nat.le_of_ble_eq_true rfl)⟩ dX10_descend_138 ?_
      replace h := ob h; obtain ⟨M75, eM75, h⟩ := h
      refine g_putI hC eM75 fk_X10_110 rfl dX10_descend_141 ?_
      refine g_sub [1, 2, 4, 5, 0] rfl ?_
      exact J72  M75 h
  · replace h := it_f c26 h
    refine g_aload_n hC 2 dX10_descend_73 rfl ?_
    refine g_iconst hC 2 dX10_descend_74 (by decide) ?_
    replace h := ob h; obtain ⟨M76, eM76, h⟩ := h
    refine g_putI hC eM76 fk_X10_107 rfl dX10_descend_75 ?_
    refine g_bipush hC (-5) dX10_descend_78 (by decide) ?_
    exact g_iret hC h ⟨(Nat.le_of_ble_eq_true rfl), (Nat.le_of_ble_eq_true rfl)⟩ dX10_descend_80

set_option maxHeartbeats 4000000 in
set_option maxRecDepth 100000 in
theorem c_X10_obey (l : Launch) (Γ : Gm) (this : Nat) (p1 : Nat) (p2 : Nat) (M M' : Mm) (r : Int32) (h : F_X10_obey this p1 p2 M = some (r, M')) : Met l yX10_obey (wz yX10_obey cX10_obey 7 (some .boolean)) ({ frames := 5, cells := 0, slots := 0, locals := 124 } : Room) (Pq Γ M [.ref this, .ref p1, .ref p2]) (Qi Γ r M') 0 0 (fr Γ) := by
  refine met_of (own := RX10) (by decide +kernel) rfl (Nat.le_of_ble_eq_true rfl) ?_
  intro X hC hR hnm hXl
  unfold F_X10_obey at h
  show G Γ X 7 M 0 0 _ 0 ([(0, .ref this), (1, .ref p1), (2, .ref p2)]) []
  refine g_aload_n hC 0 dX10_obey_0 rfl ?_
  refine g_aload_n hC 1 dX10_obey_1 rfl ?_
  refine g_aload_n hC 2 dX10_obey_2 rfl ?_
  replace h := ob h; obtain ⟨_, eu2, h⟩ := h
  replace h := ob h; obtain ⟨⟨v3, M1⟩, eM1, h⟩ := h
  refine g_calli hC (r_V hC (As := [.ref p1, .ref p2]) (c_X10_ruleFor _ Γ this p1 p2 M M1 v3 eM1) yk_X10_ruleFor lk_X10_131 eu2 ⟨_, rfl, rfl⟩ rfl rfl (Nat.le_of_ble_eq_true rfl) hR ⟨(Nat.le_of_ble_eq_true rfl), (Nat.le_of_ble_eq_true rfl)⟩ ⟨(Nat.le_of_ble_eq_true rfl), (Nat.le_of_ble_eq_true rfl)⟩ dX10_obey_3) ?_
  refine g_istore_n hC ([(3, .int v3), (0, .ref this), (1, .ref p1), (2, .ref p2)]) dX10_obey_6 (by decide) rfl ?_
  refine g_iload_n hC 0 dX10_obey_7 rfl ?_
  refine g_if_lt hC 20 dX10_obey_8 (by decide) (fun c4 => ?_) (fun c4 => ?_)
  · replace h := it_t c4 h
    refine g_iconst hC 0 dX10_obey_20 (by decide) ?_
    exact g_zret hC (by decide) h ⟨(Nat.le_of_ble_eq_true rfl), (Nat.le_of_ble_eq_true rfl)⟩ dX10_obey_21
  · replace h := it_f c4 h
    refine g_aload_n hC 3 dX10_obey_11 rfl ?_
    replace h := ob h; obtain ⟨v5, ev5, h⟩ := h
    refine g_getR hC ev5 fk_X10_135 rfl dX10_obey_12 ?_
    refine g_iload_n hC 0 dX10_obey_15 rfl ?_
    replace h := ob h; obtain ⟨a7, ea7, h⟩ := h
    subst ea7
    replace h := ob h; obtain ⟨v6, ev6, h⟩ := h
    refine g_iald hC ev6 dX10_obey_16 ?_
    refine g_if_ne hC 22 dX10_obey_17 (by decide) (fun c8 => ?_) (fun c8 => ?_)
    · replace h := it_f c8 h
      refine g_aload_n hC 3 dX10_obey_22 rfl ?_
      replace h := ob h; obtain ⟨v9, ev9, h⟩ := h
      refine g_getR hC ev9 fk_X10_138 rfl dX10_obey_23 ?_
      refine g_iload_n hC 0 dX10_obey_26 rfl ?_
      replace h := ob h; obtain ⟨a11, ea11, h⟩ := h
      subst ea11
      replace h := ob h; obtain ⟨v10, ev10, h⟩ := h
      refine g_iald hC ev10 dX10_obey_27 ?_
      refine g_aload_n hC 2 dX10_obey_28 rfl ?_
      replace h := ob h; obtain ⟨_, eu13, h⟩ := h
      replace h := ob h; obtain ⟨⟨v14, M12⟩, eM12, h⟩ := h
      refine g_calli hC (r_V hC (As := []) (c_X0_deepest _ Γ p1 M1 M12 v14 eM12) yk_X0_deepest lk_X10_141 eu13 ⟨_, rfl, rfl⟩ rfl rfl (Nat.le_of_ble_eq_true rfl) hR ⟨(Nat.le_of_ble_eq_true rfl), (Nat.le_of_ble_eq_true rfl)⟩ ⟨(Nat.le_of_ble_eq_true rfl), (Nat.le_of_ble_eq_true rfl)⟩ dX10_obey_29) ?_
      refine g_min hC lk_X10_145 hR (Nat.le_of_ble_eq_true rfl) ⟨(Nat.le_of_ble_eq_true rfl), (Nat.le_of_ble_eq_true rfl), (Nat.le_of_ble_eq_true rfl), (Nat.le_of_ble_eq_true rfl)⟩ dX10_obey_32 ?_
      refine g_istore hC ([(4, .int (mnI v10 v14)), (3, .int v3), (0, .ref this), (1, .ref p1), (2, .ref p2)]) dX10_obey_35 (by decide) rfl ?_
      refine g_aload_n hC 3 dX10_obey_37 rfl ?_
      replace h := ob h; obtain ⟨v15, ev15, h⟩ := h
      refine g_getI hC ev15 fk_X10_110 rfl dX10_obey_38 ?_
      refine g_aload_n hC 3 dX10_obey_41 rfl ?_
      refine g_iload hC 0 dX10_obey_42 rfl ?_
      replace h := ob h; obtain ⟨_, eu17, h⟩ := h
      replace h := ob h; obtain ⟨⟨v18, M16⟩, eM16, h⟩ := h
      refine g_calli hC (r_V hC (As := [.int (mnI v10 v14)]) (c_X0_costTo _ Γ p1 (mnI v10 v14) M12 M16 v18 eM16) yk_X0_costTo lk_X10_151 eu17 ⟨_, rfl, rfl⟩ rfl rfl (Nat.le_of_ble_eq_true rfl) hR ⟨(Nat.le_of_ble_eq_true rfl), (Nat.le_of_ble_eq_true rfl)⟩ ⟨(Nat.le_of_ble_eq_true rfl), (Nat.le_of_ble_eq_true rfl)⟩ dX10_obey_44) ?_
      refine g_icmp_ge hC 52 dX10_obey_47 (by decide) (fun c19 => ?_) (fun c19 => ?_)
      · replace h := it_t c19 h
        refine g_iconst hC 0 dX10_obey_52 (by decide) ?_
        refine g_istore hC ([(5, .int 0), (4, .int (mnI v10 v14)), (3, .int v3), (0, .ref this), (1, .ref p1), (2, .ref p2)]) dX10_obey_53 (by decide) rfl ?_
        refine g_iconst hC 0 dX10_obey_55 (by decide) ?_
        refine g_istore hC ([(6, .int 0), (5, .int 0), (4, .int (mnI v10 v14)), (3, .int v3), (0, .ref this), (1, .ref p1), (2, .ref p2)]) dX10_obey_56 (by decide) rfl ?_
        refine g_aload_n hC 6 dX10_obey_58 rfl ?_
        replace h := ob h; obtain ⟨v20, ev20, h⟩ := h
        refine g_getR hC ev20 fk_X10_135 rfl dX10_obey_59 ?_
        refine g_iload_n hC 3 dX10_obey_62 rfl ?_
        replace h := ob h; obtain ⟨a22, ea22, h⟩ := h
        subst ea22
        replace h := ob h; obtain ⟨v21, ev21, h⟩ := h
        refine g_iald hC ev21 dX10_obey_63 ?_
        refine g_iconst hC 2 dX10_obey_64 (by decide) ?_
        replace h := jp_e h; obtain ⟨k23, ek23, h⟩ := h
        have J30 : ∀ (x24 : Int32) (x25 : Int32) (M26 : Mm), k23 x24 x25 M26 = some (r, M') → G Γ X 7 M26 0 0 (Fin Γ X (Qi Γ r M') 0 0) 126 ([(0, .ref this), (1, .ref p1), (4, .int (mnI v10 v14)), (5, .int x24), (6, .int x25)]) ([]) := by
          intro x24 x25 M26 h
          rw [ek23] at h
          refine g_aload_n hC 0 dX10_obey_126 rfl ?_
          refine g_aload_n hC 1 dX10_obey_127 rfl ?_
          refine g_iload hC 2 dX10_obey_128 rfl ?_
          refine g_iload hC 3 dX10_obey_130 rfl ?_
          refine g_iload hC 4 dX10_obey_132 rfl ?_
          replace h := ob h; obtain ⟨_, eu28, h⟩ := h
          replace h := ob h; obtain ⟨⟨v29, M27⟩, eM27, h⟩ := h
          refine g_calli hC (r_V hC (As := [.ref p1, .int (mnI v10 v14), .int x24, .int x25]) (c_X10_descend _ Γ this p1 (mnI v10 v14) x24 x25 M26 M27 v29 eM27) yk_X10_descend lk_X10_166 eu28 ⟨_, rfl, rfl⟩ rfl rfl (Nat.le_of_ble_eq_true rfl) hR ⟨(Nat.le_of_ble_eq_true rfl), (Nat.le_of_ble_eq_true rfl)⟩ ⟨(Nat.le_of_ble_eq_true rfl), (Nat.le_of_ble_eq_true rfl)⟩ dX10_obey_134) ?_
          refine g_pop hC dX10_obey_137 rfl ?_
          refine g_iconst hC 1 dX10_obey_138 (by decide) ?_
          exact g_zret hC (by decide) h ⟨(Nat.le_of_ble_eq_true rfl), (Nat.le_of_ble_eq_true rfl)⟩ dX10_obey_139
        refine g_icmp_ne hC 126 dX10_obey_65 (by decide) (fun c31 => ?_) (fun c31 => ?_)
        · replace h := it_f c31 h
          refine g_sub [4, 5, 2, 1, 0] rfl ?_
          exact J30 0 0 M16 h
        · replace h := it_t c31 h
          refine g_aload_n hC 6 dX10_obey_68 rfl ?_
          replace h := ob h; obtain ⟨v32, ev32, h⟩ := h
          refine g_getR hC ev32 fk_X10_154 rfl dX10_obey_69 ?_
          refine g_iload_n hC 3 dX10_obey_72 rfl ?_
          replace h := ob h; obtain ⟨a34, ea34, h⟩ := h
          subst ea34
          replace h := ob h; obtain ⟨v33, ev33, h⟩ := h
          refine g_iald hC ev33 dX10_obey_73 ?_
          replace h := ob h; obtain ⟨⟨v36, M35⟩, eM35, h⟩ := h
          refine g_calli hC (r_SN hC (As := [.int v33]) (c_X11_xOf _ Γ v33 M16 M35 v36 eM35) yk_X11_xOf lk_X10_100 rfl rfl (Nat.le_of_ble_eq_true rfl) hR ⟨(Nat.le_of_ble_eq_true rfl), (Nat.le_of_ble_eq_true rfl)⟩ ⟨(Nat.le_of_ble_eq_true rfl), (Nat.le_of_ble_eq_true rfl)⟩ dX10_obey_74) ?_
          refine g_aload_n hC 5 dX10_obey_77 rfl ?_
          replace h := ob h; obtain ⟨v37, ev37, h⟩ := h
          refine g_getI hC ev37 fk_X10_97 rfl dX10_obey_78 ?_
          replace h := ob h; obtain ⟨⟨v39, M38⟩, eM38, h⟩ := h
          refine g_calli hC (r_SN hC (As := [.int v37]) (c_X11_xOf _ Γ v37 M35 M38 v39 eM38) yk_X11_xOf lk_X10_100 rfl rfl (Nat.le_of_ble_eq_true rfl) hR ⟨(Nat.le_of_ble_eq_true rfl), (Nat.le_of_ble_eq_true rfl)⟩ ⟨(Nat.le_of_ble_eq_true rfl), (Nat.le_of_ble_eq_true rfl)⟩ dX10_obey_81) ?_
          refine g_isub hC dX10_obey_84 ?_
          refine g_aload_n hC 5 dX10_obey_85 rfl ?_
          replace h := ob h; obtain ⟨_, eu41, h⟩ := h
          replace h := ob h; obtain ⟨⟨v42, M40⟩, eM40, h⟩ := h
          refine g_calli hC (r_V hC (As := []) (c_X0_reach _ Γ p1 M38 M40 v42 eM40) yk_X0_reach lk_X10_157 eu41 ⟨_, rfl, rfl⟩ rfl rfl (Nat.le_of_ble_eq_true rfl) hR ⟨(Nat.le_of_ble_eq_true rfl), (Nat.le_of_ble_eq_true rfl)⟩ ⟨(Nat.le_of_ble_eq_true rfl), (Nat.le_of_ble_eq_true rfl)⟩ dX10_obey_86) ?_
          replace h := ob h; obtain ⟨⟨v44, M43⟩, eM43, h⟩ := h
          refine g_calli hC (r_S hC (As := [.int (v36 - v39), .int v42]) (c_X10_cut _ Γ (v36 - v39) v42 M40 M43 v44 eM43) yk_X10_cut lk_X10_160 rfl rfl (Nat.le_of_ble_eq_true rfl) hR ⟨(Nat.le_of_ble_eq_true rfl), (Nat.le_of_ble_eq_true rfl)⟩ ⟨(Nat.le_of_ble_eq_true rfl), (Nat.le_of_ble_eq_true rfl)⟩ dX10_obey_89) ?_
          refine g_istore hC ([(5, .int v44), (6, .int 0), (4, .int (mnI v10 v14)), (3, .int v3), (0, .ref this), (1, .ref p1), (2, .ref p2)]) dX10_obey_92 (by decide) rfl ?_
          refine g_aload_n hC 6 dX10_obey_94 rfl ?_
          replace h := ob h; obtain ⟨v45, ev45, h⟩ := h
          refine g_getR hC ev45 fk_X10_154 rfl dX10_obey_95 ?_
          refine g_iload_n hC 3 dX10_obey_98 rfl ?_
          replace h := ob h; obtain ⟨a47, ea47, h⟩ := h
          subst ea47
          replace h := ob h; obtain ⟨v46, ev46, h⟩ := h
          refine g_iald hC ev46 dX10_obey_99 ?_
          replace h := ob h; obtain ⟨⟨v49, M48⟩, eM48, h⟩ := h
          refine g_calli hC (r_SN hC (As := [.int v46]) (c_X11_yOf _ Γ v46 M43 M48 v49 eM48) yk_X11_yOf lk_X10_104 rfl rfl (Nat.le_of_ble_eq_true rfl) hR ⟨(Nat.le_of_ble_eq_true rfl), (Nat.le_of_ble_eq_true rfl)⟩ ⟨(Nat.le_of_ble_eq_true rfl), (Nat.le_of_ble_eq_true rfl)⟩ dX10_obey_100) ?_
          refine g_aload_n hC 5 dX10_obey_103 rfl ?_
          replace h := ob h; obtain ⟨v50, ev50, h⟩ := h
          refine g_getI hC ev50 fk_X10_97 rfl dX10_obey_104 ?_
          replace h := ob h; obtain ⟨⟨v52, M51⟩, eM51, h⟩ := h
          refine g_calli hC (r_SN hC (As := [.int v50]) (c_X11_yOf _ Γ v50 M48 M51 v52 eM51) yk_X11_yOf lk_X10_104 rfl rfl (Nat.le_of_ble_eq_true rfl) hR ⟨(Nat.le_of_ble_eq_true rfl), (Nat.le_of_ble_eq_true rfl)⟩ ⟨(Nat.le_of_ble_eq_true rfl), (Nat.le_of_ble_eq_true rfl)⟩ dX10_obey_107) ?_
          refine g_isub hC dX10_obey_110 ?_
          refine g_aload_n hC 5 dX10_obey_111 rfl ?_
          replace h := ob h; obtain ⟨_, eu54, h⟩ := h
          replace h := ob h; obtain ⟨⟨v55, M53⟩, eM53, h⟩ := h
          refine g_calli hC (r_V hC (As := []) (c_X0_reach _ Γ p1 M51 M53 v55 eM53) yk_X0_reach lk_X10_157 eu54 ⟨_, rfl, rfl⟩ rfl rfl (Nat.le_of_ble_eq_true rfl) hR ⟨(Nat.le_of_ble_eq_true rfl), (Nat.le_of_ble_eq_true rfl)⟩ ⟨(Nat.le_of_ble_eq_true rfl), (Nat.le_of_ble_eq_true rfl)⟩ dX10_obey_112) ?_
          refine g_iload hC 0 dX10_obey_115 rfl ?_
          refine g_abs hC lk_X10_163 hR (Nat.le_of_ble_eq_true rfl) ⟨(Nat.le_of_ble_eq_true rfl), (Nat.le_of_ble_eq_true rfl), (Nat.le_of_ble_eq_true rfl), (Nat.le_of_ble_eq_true rfl)⟩ dX10_obey_117 ?_
          refine g_isub hC dX10_obey_120 ?_
          replace h := ob h; obtain ⟨⟨v57, M56⟩, eM56, h⟩ := h
          refine g_calli hC (r_S hC (As := [.int (v49 - v52), .int (v55 - (abI v44))]) (c_X10_cut _ Γ (v49 - v52) (v55 - (abI v44)) M53 M56 v57 eM56) yk_X10_cut lk_X10_160 rfl rfl (Nat.le_of_ble_eq_true rfl) hR ⟨(Nat.le_of_ble_eq_true rfl), (Nat.le_of_ble_eq_true rfl)⟩ ⟨(Nat.le_of_ble_eq_true rfl), (Nat.le_of_ble_eq_true rfl)⟩ dX10_obey_121) ?_
          refine g_istore hC ([(6, .int v57), (5, .int v44), (4, .int (mnI v10 v14)), (3, .int v3), (0, .ref this), (1, .ref p1), (2, .ref p2)]) dX10_obey_124 (by decide) rfl ?_
          refine g_sub [4, 5, 2, 1, 0] rfl ?_
          exact J30 v44 v57 M56 h
      · replace h := it_f c19 h
        refine g_iconst hC 0 dX10_obey_50 (by decide) ?_
        exact g_zret hC (by decide) h ⟨(Nat.le_of_ble_eq_true rfl), (Nat.le_of_ble_eq_true rfl)⟩ dX10_obey_51
    · replace h := it_t c8 h
      refine g_iconst hC 0 dX10_obey_20 (by decide) ?_
      exact g_zret hC (by decide) h ⟨(Nat.le_of_ble_eq_true rfl), (Nat.le_of_ble_eq_true rfl)⟩ dX10_obey_21

set_option maxHeartbeats 4000000 in
set_option maxRecDepth 100000 in
theorem l_X10_obeyAll_L4 {Γ : Gm} {X : Ct} (hC : Cx Γ X cX10_obeyAll RX10 (some .int) 4) (hR : X.2.2.2.1 = ({ frames := 6, cells := 0, slots := 0, locals := 150 } : Room)) (r : Int32) (M' : Mm)  (x0 : Nat) : ∀ (fu : Nat) (x1 : Int32) (x2 : Int32) (M0 : Mm), F_X10_obeyAll_L4 x0 fu x1 x2 M0 = some (r, M') → G Γ X 4 M0 0 0 (Fin Γ X (Qi Γ r M') 0 0) 4 ([(0, .ref x0), (1, .int x1), (2, .int x2)]) [] := by
  intro fu
  induction fu with
  | zero =>
    intro x1 x2 M0 h
    rw [F_X10_obeyAll_L4] at h
    cases h
  | succ n1 ih =>
    intro x1 x2 M0 h
    rw [F_X10_obeyAll_L4] at h
    refine g_iload_n hC 2 dX10_obeyAll_4 rfl ?_
    refine g_aload_n hC 0 dX10_obeyAll_5 rfl ?_
    replace h := ob h; obtain ⟨v2, ev2, h⟩ := h
    refine g_getI hC ev2 fk_X10_24 rfl dX10_obeyAll_6 ?_
    refine g_icmp_ge hC 62 dX10_obeyAll_9 (by decide) (fun c3 => ?_) (fun c3 => ?_)
    · replace h := it_t c3 h
      refine g_iload_n hC 1 dX10_obeyAll_62 rfl ?_
      exact g_iret hC h ⟨(Nat.le_of_ble_eq_true rfl), (Nat.le_of_ble_eq_true rfl)⟩ dX10_obeyAll_63
    · replace h := it_f c3 h
      refine g_aload_n hC 0 dX10_obeyAll_12 rfl ?_
      refine g_aload_n hC 0 dX10_obeyAll_13 rfl ?_
      replace h := ob h; obtain ⟨v4, ev4, h⟩ := h
      refine g_getR hC ev4 fk_X10_20 rfl dX10_obeyAll_14 ?_
      refine g_iload_n hC 2 dX10_obeyAll_17 rfl ?_
      replace h := ob h; obtain ⟨a6, ea6, h⟩ := h
      subst ea6
      replace h := ob h; obtain ⟨v5, ev5, h⟩ := h
      refine g_aald hC ev5 (by decide) dX10_obeyAll_18 ?_
      replace h := ob h; obtain ⟨a7, ea7, h⟩ := h
      subst ea7
      replace h := ob h; obtain ⟨_, eu9, h⟩ := h
      replace h := ob h; obtain ⟨⟨v10, M8⟩, eM8, h⟩ := h
      refine g_callr hC (r_V hC (As := [.ref a7]) (c_X10_orderOf _ Γ x0 a7 M0 M8 v10 eM8) yk_X10_orderOf lk_X10_123 eu9 ⟨_, rfl, rfl⟩ rfl rfl (Nat.le_of_ble_eq_true rfl) hR ⟨(Nat.le_of_ble_eq_true rfl), (Nat.le_of_ble_eq_true rfl)⟩ ⟨(Nat.le_of_ble_eq_true rfl), (Nat.le_of_ble_eq_true rfl)⟩ dX10_obeyAll_19) ?_
      refine g_astore_nq hC (x := v10) ([(3, va_rf v10), (0, .ref x0), (1, .int x1), (2, .int x2)]) dX10_obeyAll_22 (by decide) rfl ?_
      refine g_aload_n hC 1 dX10_obeyAll_23 rfl ?_
      replace h := ob h; obtain ⟨v11, ev11, h⟩ := h
      refine g_getR hC ev11 fk_X10_20 rfl dX10_obeyAll_24 ?_
      refine g_iload_n hC 3 dX10_obeyAll_27 rfl ?_
      replace h := ob h; obtain ⟨a13, ea13, h⟩ := h
      subst ea13
      replace h := ob h; obtain ⟨v12, ev12, h⟩ := h
      refine g_aald hC ev12 (by decide) dX10_obeyAll_28 ?_
      replace h := ob h; obtain ⟨a14, ea14, h⟩ := h
      subst ea14
      replace h := ob h; obtain ⟨v15, ev15, h⟩ := h
      refine g_getI hC ev15 fk_X10_107 rfl dX10_obeyAll_29 ?_
      refine g_if_ne hC 56 dX10_obeyAll_32 (by decide) (fun c16 => ?_) (fun c16 => ?_)
      · replace h := it_f c16 h
        refine g_iinc hC 3 (x2 + 1) ([(2, .int (x2 + 1)), (3, va_rf v10), (0, .ref x0), (1, .int x1)]) dX10_obeyAll_56 rfl rfl (by decide) rfl ?_
        refine g_goto hC 4 dX10_obeyAll_59 (by decide) ?_
        refine g_sub [2, 3, 0] rfl ?_
        exact ih x1 (x2 + 1) M8 h
      · replace h := it_t c16 h
        refine g_aload_nq hC 0 (x := v10) dX10_obeyAll_35 rfl ?_
        refine g_ifnull hC 56 dX10_obeyAll_36 (by decide) (fun ca17 => ?_) (fun a17 ca17 => ?_)
        · subst ca17
          replace h := oe_n h
          refine g_iinc hC 3 (x2 + 1) ([(2, .int (x2 + 1)), (3, va_rf none), (0, .ref x0), (1, .int x1)]) dX10_obeyAll_56 rfl rfl (by decide) rfl ?_
          refine g_goto hC 4 dX10_obeyAll_59 (by decide) ?_
          refine g_sub [2, 3, 0] rfl ?_
          exact ih x1 (x2 + 1) M8 h
        · subst ca17
          replace h := oe_s h
          refine g_aload_n hC 1 dX10_obeyAll_39 rfl ?_
          refine g_aload_n hC 1 dX10_obeyAll_40 rfl ?_
          replace h := ob h; obtain ⟨v18, ev18, h⟩ := h
          refine g_getR hC ev18 fk_X10_20 rfl dX10_obeyAll_41 ?_
          refine g_iload_n hC 3 dX10_obeyAll_44 rfl ?_
          replace h := ob h; obtain ⟨a20, ea20, h⟩ := h
          subst ea20
          replace h := ob h; obtain ⟨v19, ev19, h⟩ := h
          refine g_aald hC ev19 (by decide) dX10_obeyAll_45 ?_
          refine g_aload_n hC 0 dX10_obeyAll_46 rfl ?_
          replace h := ob h; obtain ⟨a21, ea21, h⟩ := h
          subst ea21
          replace h := ob h; obtain ⟨_, eu23, h⟩ := h
          replace h := ob h; obtain ⟨⟨v24, M22⟩, eM22, h⟩ := h
          refine g_calli hC (r_V hC (As := [.ref a21, .ref a17]) (c_X10_obey _ Γ x0 a21 a17 M8 M22 v24 eM22) yk_X10_obey lk_X10_127 eu23 ⟨_, rfl, rfl⟩ rfl rfl (Nat.le_of_ble_eq_true rfl) hR ⟨(Nat.le_of_ble_eq_true rfl), (Nat.le_of_ble_eq_true rfl)⟩ ⟨(Nat.le_of_ble_eq_true rfl), (Nat.le_of_ble_eq_true rfl)⟩ dX10_obeyAll_47) ?_
          refine g_if_eq hC 56 dX10_obeyAll_50 (by decide) (fun c25 => ?_) (fun c25 => ?_)
          · replace h := it_t c25 h
            refine g_iinc hC 3 (x2 + 1) ([(2, .int (x2 + 1)), (3, .ref a17), (0, .ref x0), (1, .int x1)]) dX10_obeyAll_56 rfl rfl (by decide) rfl ?_
            refine g_goto hC 4 dX10_obeyAll_59 (by decide) ?_
            refine g_sub [2, 3, 0] rfl ?_
            exact ih x1 (x2 + 1) M22 h
          · replace h := it_f c25 h
            refine g_iinc hC 2 (x1 + 1) ([(1, .int (x1 + 1)), (3, .ref a17), (0, .ref x0), (2, .int x2)]) dX10_obeyAll_53 rfl rfl (by decide) rfl ?_
            refine g_iinc hC 3 (x2 + 1) ([(2, .int (x2 + 1)), (1, .int (x1 + 1)), (3, .ref a17), (0, .ref x0)]) dX10_obeyAll_56 rfl rfl (by decide) rfl ?_
            refine g_goto hC 4 dX10_obeyAll_59 (by decide) ?_
            refine g_sub [3, 1, 0] rfl ?_
            exact ih (x1 + 1) (x2 + 1) M22 h
set_option maxHeartbeats 4000000 in
set_option maxRecDepth 100000 in
theorem c_X10_obeyAll (l : Launch) (Γ : Gm) (this : Nat) (M M' : Mm) (r : Int32) (h : F_X10_obeyAll this M = some (r, M')) : Met l yX10_obeyAll (wz yX10_obeyAll cX10_obeyAll 4 (some .int)) ({ frames := 6, cells := 0, slots := 0, locals := 150 } : Room) (Pq Γ M [.ref this]) (Qi Γ r M') 0 0 (fr Γ) := by
  refine met_of (own := RX10) (by decide +kernel) rfl (Nat.le_of_ble_eq_true rfl) ?_
  intro X hC hR hnm hXl
  unfold F_X10_obeyAll at h
  show G Γ X 4 M 0 0 _ 0 ([(0, .ref this)]) []
  refine g_iconst hC 0 dX10_obeyAll_0 (by decide) ?_
  refine g_istore_n hC ([(1, .int 0), (0, .ref this)]) dX10_obeyAll_1 (by decide) rfl ?_
  refine g_iconst hC 0 dX10_obeyAll_2 (by decide) ?_
  refine g_istore_n hC ([(2, .int 0), (1, .int 0), (0, .ref this)]) dX10_obeyAll_3 (by decide) rfl ?_
  refine g_sub [2, 1, 0] rfl ?_
  refine l_X10_obeyAll_L4 hC hR r M'  _  _ _ _ _ h

set_option maxHeartbeats 4000000 in
set_option maxRecDepth 100000 in
theorem l_X11_init_L57 {Γ : Gm} {X : Ct} (hC : Cx Γ X cX11_init RX11 none 2) (hR : X.2.2.2.1 = ({ frames := 4, cells := 74, slots := 5713, locals := 80 } : Room)) (M' : Mm) {CE SE : Nat} (hCE : CE ≤ 74) (hSE : SE ≤ 5713) (k82 : Mm → Option Mm) (x0 : Nat) (hk82 : ∀  (M1 : Mm), k82  M1 = some M' → G Γ X 2 M1 CE SE (Fin Γ X (Qv Γ M') 74 5713) 82 ([]) []) : ∀ (fu : Nat) (cs sl : Nat) (x1 : Int32) (M0 : Mm) (h1 : cs + fu * 2 ≤ CE) (h2 : sl + fu * 88 ≤ SE), F_X11_init_L57 k82 x0 fu x1 M0 = some M' → G Γ X 2 M0 cs sl (Fin Γ X (Qv Γ M') 74 5713) 57 ([(0, .ref x0), (1, .int x1)]) [] := by
  intro fu
  induction fu with
  | zero =>
    intro cs sl x1 M0 h1 h2 h
    rw [F_X11_init_L57] at h
    cases h
  | succ n19 ih =>
    intro cs sl x1 M0 h1 h2 h
    rw [F_X11_init_L57] at h
    refine g_iload_n hC 1 dX11_init_57 rfl ?_
    refine g_bipush hC 8 dX11_init_58 (by decide) ?_
    refine g_icmp_ge hC 82 dX11_init_60 (by decide) (fun c20 => ?_) (fun c20 => ?_)
    · replace h := it_t c20 h
      refine g_sub [] rfl ?_
      refine g_widen (c' := CE) (s' := SE) (by omega) (by omega) ?_
      exact hk82  M0 h
    · replace h := it_f c20 h
      refine g_aload_n hC 0 dX11_init_63 rfl ?_
      replace h := ob h; obtain ⟨v21, ev21, h⟩ := h
      refine g_getR hC ev21 fk_X11_34 rfl dX11_init_64 ?_
      refine g_iload_n hC 1 dX11_init_67 rfl ?_
      replace h := nv_e h; obtain ⟨a22, ea22, h⟩ := h
      replace h := nv_e h; obtain ⟨M23, eM23, h⟩ := h
      refine g_newO2 (n := 8) hC ea22 eM23 cl_8 rfl ck_X11_32.1 ck_X11_32.2.1 ck_X11_32.2.2 nd_8 (by rw [hR]; dsimp only; omega) dX11_init_68 ?_
      refine g_dup hC dX11_init_71 rfl ?_
      replace h := ob h; obtain ⟨M24, eM24, h⟩ := h
      refine g_callv hC (r_IN hC (As := []) (c_X8_init _ Γ a22 M23 M24 eM24) yk_X8_init lk_X11_41 rfl rfl (by simp only [List.map, cat_rf]; exact Nat.le_of_ble_eq_true rfl) hR ⟨(Nat.le_of_ble_eq_true rfl), (Nat.le_of_ble_eq_true rfl)⟩ ⟨(by omega), (by omega)⟩ dX11_init_72) ?_
      replace h := ob h; obtain ⟨a26, ea26, h⟩ := h
      subst ea26
      replace h := ob h; obtain ⟨M25, eM25, h⟩ := h
      refine g_aast hC eM25 (by decide) ⟨_, rfl, rfl⟩ dX11_init_75 ?_
      refine g_iinc hC 1 (x1 + 1) ([(1, .int (x1 + 1)), (0, .ref x0)]) dX11_init_76 rfl rfl (by decide) rfl ?_
      refine g_goto hC 57 dX11_init_79 (by decide) ?_
      refine g_sub [1, 0] rfl ?_
      exact ih _ _ (x1 + 1) M25 (by omega) (by omega) h
set_option maxHeartbeats 4000000 in
set_option maxRecDepth 100000 in
theorem c_X11_init (l : Launch) (Γ : Gm) (this : Nat) (M M' : Mm) (h : F_X11_init this M = some M') : Met l yX11_init (wz yX11_init cX11_init 2 none) ({ frames := 4, cells := 74, slots := 5713, locals := 80 } : Room) (Pq Γ M [.ref this]) (Qv Γ M') 74 5713 (fr Γ) := by
  refine met_of (own := RX11) (by decide +kernel) rfl (Nat.le_of_ble_eq_true rfl) ?_
  intro X hC hR hnm hXl
  unfold F_X11_init at h
  show G Γ X 2 M 0 0 _ 0 ([(0, .ref this)]) []
  refine g_aload_n hC 0 dX11_init_0 rfl ?_
  refine g_objInit hC ok_X11_3 hR (Nat.le_of_ble_eq_true rfl) ⟨(Nat.le_of_ble_eq_true rfl), (Nat.le_of_ble_eq_true rfl)⟩ dX11_init_1 ?_
  refine g_aload_n hC 0 dX11_init_4 rfl ?_
  replace h := nv_e h; obtain ⟨a1, ea1, h⟩ := h
  replace h := nv_e h; obtain ⟨M2, eM2, h⟩ := h
  refine g_newO2 (n := 11) hC ea1 eM2 cl_10 rfl ck_X11_9.1 ck_X11_9.2.1 ck_X11_9.2.2 nd_10 (by rw [hR]; exact ⟨(Nat.le_of_ble_eq_true rfl), (Nat.le_of_ble_eq_true rfl)⟩) dX11_init_5 ?_
  refine g_dup hC dX11_init_8 rfl ?_
  replace h := ob h; obtain ⟨M3, eM3, h⟩ := h
  refine g_callv hC (r_IN hC (As := []) (c_X10_init _ Γ a1 M2 M3 eM3) yk_X10_init lk_X11_11 rfl rfl (Nat.le_of_ble_eq_true rfl) hR ⟨(Nat.le_of_ble_eq_true rfl), (Nat.le_of_ble_eq_true rfl)⟩ ⟨(Nat.le_of_ble_eq_true rfl), (Nat.le_of_ble_eq_true rfl)⟩ dX11_init_9) ?_
  replace h := ob h; obtain ⟨M4, eM4, h⟩ := h
  refine g_putFR (v := (some a1)) hC eM4 fk_X11_12 (ow_11 rfl) (hnm.trans rfl) (Or.inl ⟨_, rfl⟩) rfl dX11_init_12 ?_
  refine g_aload_n hC 0 dX11_init_15 rfl ?_
  replace h := nv_e h; obtain ⟨a5, ea5, h⟩ := h
  replace h := nv_e h; obtain ⟨M6, eM6, h⟩ := h
  refine g_newO2 (n := 14) hC ea5 eM6 cl_5 rfl ck_X11_16.1 ck_X11_16.2.1 ck_X11_16.2.2 nd_5 (by rw [hR]; exact ⟨(Nat.le_of_ble_eq_true rfl), (Nat.le_of_ble_eq_true rfl)⟩) dX11_init_16 ?_
  refine g_dup hC dX11_init_19 rfl ?_
  refine g_aload_n hC 0 dX11_init_20 rfl ?_
  replace h := ob h; obtain ⟨v7, ev7, h⟩ := h
  refine g_getR hC ev7 fk_X11_12 rfl dX11_init_21 ?_
  replace h := ob h; obtain ⟨a8, ea8, h⟩ := h
  subst ea8
  replace h := ob h; obtain ⟨M9, eM9, h⟩ := h
  refine g_callv hC (r_I hC (As := [.ref a8]) (c_X5_init _ Γ a5 a8 M6 M9 eM9) yk_X5_init lk_X11_18 rfl rfl (Nat.le_of_ble_eq_true rfl) hR ⟨(Nat.le_of_ble_eq_true rfl), (Nat.le_of_ble_eq_true rfl)⟩ ⟨(Nat.le_of_ble_eq_true rfl), (Nat.le_of_ble_eq_true rfl)⟩ dX11_init_24) ?_
  replace h := ob h; obtain ⟨M10, eM10, h⟩ := h
  refine g_putFR (v := (some a5)) hC eM10 fk_X11_21 (ow_11 rfl) (hnm.trans rfl) (Or.inl ⟨_, rfl⟩) rfl dX11_init_27 ?_
  refine g_aload_n hC 0 dX11_init_30 rfl ?_
  replace h := nv_e h; obtain ⟨a11, ea11, h⟩ := h
  replace h := nv_e h; obtain ⟨M12, eM12, h⟩ := h
  refine g_newO2 (n := 4) hC ea11 eM12 cl_3 rfl ck_X11_25.1 ck_X11_25.2.1 ck_X11_25.2.2 nd_3 (by rw [hR]; exact ⟨(Nat.le_of_ble_eq_true rfl), (Nat.le_of_ble_eq_true rfl)⟩) dX11_init_31 ?_
  refine g_dup hC dX11_init_34 rfl ?_
  replace h := ob h; obtain ⟨M13, eM13, h⟩ := h
  refine g_callv hC (r_IN hC (As := []) (c_X3_init _ Γ a11 M12 M13 eM13) yk_X3_init lk_X11_27 rfl rfl (Nat.le_of_ble_eq_true rfl) hR ⟨(Nat.le_of_ble_eq_true rfl), (Nat.le_of_ble_eq_true rfl)⟩ ⟨(Nat.le_of_ble_eq_true rfl), (Nat.le_of_ble_eq_true rfl)⟩ dX11_init_35) ?_
  replace h := ob h; obtain ⟨M14, eM14, h⟩ := h
  refine g_putFR (v := (some a11)) hC eM14 fk_X11_28 (ow_11 rfl) (hnm.trans rfl) (Or.inl ⟨_, rfl⟩) rfl dX11_init_38 ?_
  refine g_aload_n hC 0 dX11_init_41 rfl ?_
  refine g_bipush hC 8 dX11_init_42 (by decide) ?_
  replace h := nv_e h; obtain ⟨a15, ea15, h⟩ := h
  replace h := nv_e h; obtain ⟨M16, eM16, h⟩ := h
  refine g_newR2 (N := 8) (t := 5) hC ea15 eM16 (by decide) rk_X11_32 (by decide) (by rw [hR]; exact ⟨(Nat.le_of_ble_eq_true rfl), (Nat.le_of_ble_eq_true rfl)⟩) dX11_init_44 ?_
  replace h := ob h; obtain ⟨M17, eM17, h⟩ := h
  refine g_putFR (v := (some a15)) hC eM17 fk_X11_34 (ow_11 rfl) (hnm.trans rfl) (Or.inr ⟨_, rfl⟩) rfl dX11_init_47 ?_
  refine g_aload_n hC 0 dX11_init_50 rfl ?_
  refine g_null hC dX11_init_51 ?_
  replace h := ob h; obtain ⟨M18, eM18, h⟩ := h
  refine g_putR (v := none) hC eM18 fk_X11_38 (Or.inl ⟨_, rfl⟩) rfl dX11_init_52 ?_
  refine g_iconst hC 0 dX11_init_55 (by decide) ?_
  refine g_istore_n hC ([(1, .int 0), (0, .ref this)]) dX11_init_56 (by decide) rfl ?_
  refine g_sub [1, 0] rfl ?_
  refine l_X11_init_L57 hC hR M' (CE := 74) (SE := 5713) (Nat.le_of_ble_eq_true rfl) (Nat.le_of_ble_eq_true rfl) _ _ ?_ _ _ _ _ _ (Nat.le_of_ble_eq_true rfl) (Nat.le_of_ble_eq_true rfl) h
  intro  M27 h
  exact g_vret hC h ⟨(Nat.le_of_ble_eq_true rfl), (Nat.le_of_ble_eq_true rfl)⟩ dX11_init_82

set_option maxHeartbeats 4000000 in
set_option maxRecDepth 100000 in
theorem c_X11_isSpan (l : Launch) (Γ : Gm) (p1 : Int32) (p2 : Int32) (M M' : Mm) (r : Int32) (h : F_X11_isSpan p1 p2 M = some (r, M')) : Met l yX11_isSpan (wz yX11_isSpan cX11_isSpan 2 (some .boolean)) ({ frames := 0, cells := 0, slots := 0, locals := 0 } : Room) (Pq Γ M [.int p1, .int p2]) (Qi Γ r M') 0 0 (fr Γ) := by
  refine met_of (own := RX11) (by decide +kernel) rfl (Nat.le_of_ble_eq_true rfl) ?_
  intro X hC hR hnm hXl
  unfold F_X11_isSpan at h
  show G Γ X 2 M 0 0 _ 0 ([(0, .int p1), (1, .int p2)]) []
  refine g_iload_n hC 0 dX11_isSpan_0 rfl ?_
  refine g_if_lt hC 33 dX11_isSpan_1 (by decide) (fun c1 => ?_) (fun c1 => ?_)
  · replace h := it_t c1 h
    refine g_iconst hC 0 dX11_isSpan_33 (by decide) ?_
    exact g_zret hC (by decide) h ⟨(Nat.le_of_ble_eq_true rfl), (Nat.le_of_ble_eq_true rfl)⟩ dX11_isSpan_34
  · replace h := it_f c1 h
    refine g_iload_n hC 0 dX11_isSpan_4 rfl ?_
    refine g_bipush hC 100 dX11_isSpan_5 (by decide) ?_
    refine g_icmp_ge hC 33 dX11_isSpan_7 (by decide) (fun c2 => ?_) (fun c2 => ?_)
    · replace h := it_t c2 h
      refine g_iconst hC 0 dX11_isSpan_33 (by decide) ?_
      exact g_zret hC (by decide) h ⟨(Nat.le_of_ble_eq_true rfl), (Nat.le_of_ble_eq_true rfl)⟩ dX11_isSpan_34
    · replace h := it_f c2 h
      refine g_iload_n hC 0 dX11_isSpan_10 rfl ?_
      refine g_bipush hC 10 dX11_isSpan_11 (by decide) ?_
      replace h := ob h; obtain ⟨v3, ev3, h⟩ := h
      refine g_idiv hC ev3 dX11_isSpan_13 ?_
      refine g_iload_n hC 0 dX11_isSpan_14 rfl ?_
      refine g_bipush hC 10 dX11_isSpan_15 (by decide) ?_
      replace h := ob h; obtain ⟨v4, ev4, h⟩ := h
      refine g_irem hC ev4 dX11_isSpan_17 ?_
      refine g_icmp_gt hC 33 dX11_isSpan_18 (by decide) (fun c5 => ?_) (fun c5 => ?_)
      · replace h := it_t c5 h
        refine g_iconst hC 0 dX11_isSpan_33 (by decide) ?_
        exact g_zret hC (by decide) h ⟨(Nat.le_of_ble_eq_true rfl), (Nat.le_of_ble_eq_true rfl)⟩ dX11_isSpan_34
      · replace h := it_f c5 h
        refine g_iload_n hC 0 dX11_isSpan_21 rfl ?_
        refine g_bipush hC 10 dX11_isSpan_22 (by decide) ?_
        replace h := ob h; obtain ⟨v6, ev6, h⟩ := h
        refine g_irem hC ev6 dX11_isSpan_24 ?_
        refine g_iload_n hC 1 dX11_isSpan_25 rfl ?_
        refine g_icmp_ge hC 33 dX11_isSpan_26 (by decide) (fun c7 => ?_) (fun c7 => ?_)
        · replace h := it_t c7 h
          refine g_iconst hC 0 dX11_isSpan_33 (by decide) ?_
          exact g_zret hC (by decide) h ⟨(Nat.le_of_ble_eq_true rfl), (Nat.le_of_ble_eq_true rfl)⟩ dX11_isSpan_34
        · replace h := it_f c7 h
          refine g_iconst hC 1 dX11_isSpan_29 (by decide) ?_
          refine g_goto hC 34 dX11_isSpan_30 (by decide) ?_
          exact g_zret hC (by decide) h ⟨(Nat.le_of_ble_eq_true rfl), (Nat.le_of_ble_eq_true rfl)⟩ dX11_isSpan_34

set_option maxHeartbeats 4000000 in
set_option maxRecDepth 100000 in
theorem c_X11_isSeaValue (l : Launch) (Γ : Gm) (p1 : Int32) (p2 : Int32) (M M' : Mm) (r : Int32) (h : F_X11_isSeaValue p1 p2 M = some (r, M')) : Met l yX11_isSeaValue (wz yX11_isSeaValue cX11_isSeaValue 2 (some .boolean)) ({ frames := 0, cells := 0, slots := 0, locals := 0 } : Room) (Pq Γ M [.int p1, .int p2]) (Qi Γ r M') 0 0 (fr Γ) := by
  refine met_of (own := RX11) (by decide +kernel) rfl (Nat.le_of_ble_eq_true rfl) ?_
  intro X hC hR hnm hXl
  unfold F_X11_isSeaValue at h
  show G Γ X 2 M 0 0 _ 0 ([(0, .int p1), (1, .int p2)]) []
  refine g_iload_n hC 0 dX11_isSeaValue_0 rfl ?_
  by_cases c1 : p1 = 0
  · replace h := it_t c1 h
    refine g_tbl (off := 27) hC 28 c1 dX11_isSeaValue_1 (by decide) ?_
    refine g_iload_n hC 1 dX11_isSeaValue_28 rfl ?_
    refine g_if_lt hC 41 dX11_isSeaValue_29 (by decide) (fun c2 => ?_) (fun c2 => ?_)
    · replace h := it_t c2 h
      refine g_iconst hC 0 dX11_isSeaValue_41 (by decide) ?_
      exact g_zret hC (by decide) h ⟨(Nat.le_of_ble_eq_true rfl), (Nat.le_of_ble_eq_true rfl)⟩ dX11_isSeaValue_42
    · replace h := it_f c2 h
      refine g_iload_n hC 1 dX11_isSeaValue_32 rfl ?_
      refine g_iconst hC 4 dX11_isSeaValue_33 (by decide) ?_
      refine g_icmp_gt hC 41 dX11_isSeaValue_34 (by decide) (fun c3 => ?_) (fun c3 => ?_)
      · replace h := it_t c3 h
        refine g_iconst hC 0 dX11_isSeaValue_41 (by decide) ?_
        exact g_zret hC (by decide) h ⟨(Nat.le_of_ble_eq_true rfl), (Nat.le_of_ble_eq_true rfl)⟩ dX11_isSeaValue_42
      · replace h := it_f c3 h
        refine g_iconst hC 1 dX11_isSeaValue_37 (by decide) ?_
        refine g_goto hC 42 dX11_isSeaValue_38 (by decide) ?_
        exact g_zret hC (by decide) h ⟨(Nat.le_of_ble_eq_true rfl), (Nat.le_of_ble_eq_true rfl)⟩ dX11_isSeaValue_42
  replace h := it_f c1 h
  by_cases c4 : p1 = 1
  · replace h := it_t c4 h
    refine g_tbl (off := 42) hC 43 c4 dX11_isSeaValue_1 (by decide) ?_
    refine g_iload_n hC 1 dX11_isSeaValue_43 rfl ?_
    refine g_if_eq hC 52 dX11_isSeaValue_44 (by decide) (fun c5 => ?_) (fun c5 => ?_)
    · replace h := it_t c5 h
      refine g_iconst hC 1 dX11_isSeaValue_52 (by decide) ?_
      refine g_goto hC 57 dX11_isSeaValue_53 (by decide) ?_
      exact g_zret hC (by decide) h ⟨(Nat.le_of_ble_eq_true rfl), (Nat.le_of_ble_eq_true rfl)⟩ dX11_isSeaValue_57
    · replace h := it_f c5 h
      refine g_iload_n hC 1 dX11_isSeaValue_47 rfl ?_
      refine g_iconst hC 1 dX11_isSeaValue_48 (by decide) ?_
      refine g_icmp_ne hC 56 dX11_isSeaValue_49 (by decide) (fun c6 => ?_) (fun c6 => ?_)
      · replace h := it_f c6 h
        refine g_iconst hC 0 dX11_isSeaValue_56 (by decide) ?_
        exact g_zret hC (by decide) h ⟨(Nat.le_of_ble_eq_true rfl), (Nat.le_of_ble_eq_true rfl)⟩ dX11_isSeaValue_57
      · replace h := it_t c6 h
        refine g_iconst hC 1 dX11_isSeaValue_52 (by decide) ?_
        refine g_goto hC 57 dX11_isSeaValue_53 (by decide) ?_
        exact g_zret hC (by decide) h ⟨(Nat.le_of_ble_eq_true rfl), (Nat.le_of_ble_eq_true rfl)⟩ dX11_isSeaValue_57
  replace h := it_f c4 h
  by_cases c7 : p1 = 2
  · replace h := it_t c7 h
    refine g_tbl (off := 57) hC 58 c7 dX11_isSeaValue_1 (by decide) ?_
    refine g_iload_n hC 1 dX11_isSeaValue_58 rfl ?_
    refine g_if_lt hC 72 dX11_isSeaValue_59 (by decide) (fun c8 => ?_) (fun c8 => ?_)
    · replace h := it_t c8 h
      refine g_iconst hC 0 dX11_isSeaValue_72 (by decide) ?_
      exact g_zret hC (by decide) h ⟨(Nat.le_of_ble_eq_true rfl), (Nat.le_of_ble_eq_true rfl)⟩ dX11_isSeaValue_73
    · replace h := it_f c8 h
      refine g_iload_n hC 1 dX11_isSeaValue_62 rfl ?_
      refine g_bipush hC 99 dX11_isSeaValue_63 (by decide) ?_
      refine g_icmp_gt hC 72 dX11_isSeaValue_65 (by decide) (fun c9 => ?_) (fun c9 => ?_)
      · replace h := it_t c9 h
        refine g_iconst hC 0 dX11_isSeaValue_72 (by decide) ?_
        exact g_zret hC (by decide) h ⟨(Nat.le_of_ble_eq_true rfl), (Nat.le_of_ble_eq_true rfl)⟩ dX11_isSeaValue_73
      · replace h := it_f c9 h
        refine g_iconst hC 1 dX11_isSeaValue_68 (by decide) ?_
        refine g_goto hC 73 dX11_isSeaValue_69 (by decide) ?_
        exact g_zret hC (by decide) h ⟨(Nat.le_of_ble_eq_true rfl), (Nat.le_of_ble_eq_true rfl)⟩ dX11_isSeaValue_73
  replace h := it_f c7 h
  refine g_tbd (n := 3) hC 74 (fun j hj => ?_) (by decide) dX11_isSeaValue_1 (by decide) ?_
  · match j, hj with
    | 0, _ => exact c1
    | 1, _ => exact c4
    | 2, _ => exact c7
    | j + 3, hj => exact absurd hj (by omega)
  refine g_iconst hC 0 dX11_isSeaValue_74 (by decide) ?_
  exact g_zret hC (by decide) h ⟨(Nat.le_of_ble_eq_true rfl), (Nat.le_of_ble_eq_true rfl)⟩ dX11_isSeaValue_75

set_option maxHeartbeats 4000000 in
set_option maxRecDepth 100000 in
theorem c_X11_sea (l : Launch) (Γ : Gm) (this : Nat) (p1 : Int32) (p2 : Int32) (p3 : Int32) (p4 : Int32) (M M' : Mm) (r : Int32) (h : F_X11_sea this p1 p2 p3 p4 M = some (r, M')) : Met l yX11_sea (wz yX11_sea cX11_sea 5 (some .int)) ({ frames := 2, cells := 0, slots := 0, locals := 52 } : Room) (Pq Γ M [.ref this, .int p1, .int p2, .int p3, .int p4]) (Qi Γ r M') 0 0 (fr Γ) := by
  refine met_of (own := RX11) (by decide +kernel) rfl (Nat.le_of_ble_eq_true rfl) ?_
  intro X hC hR hnm hXl
  unfold F_X11_sea at h
  show G Γ X 5 M 0 0 _ 0 ([(0, .ref this), (1, .int p1), (2, .int p2), (3, .int p3), (4, .int p4)]) []
  refine g_iload_n hC 1 dX11_sea_0 rfl ?_
  refine g_bipush hC 10 dX11_sea_1 (by decide) ?_
  replace h := ob h; obtain ⟨⟨v2, M1⟩, eM1, h⟩ := h
  refine g_calli hC (r_S hC (As := [.int p1, .int 10]) (c_X11_isSpan _ Γ p1 10 M M1 v2 eM1) yk_X11_isSpan lk_X11_42 rfl rfl (Nat.le_of_ble_eq_true rfl) hR ⟨(Nat.le_of_ble_eq_true rfl), (Nat.le_of_ble_eq_true rfl)⟩ ⟨(Nat.le_of_ble_eq_true rfl), (Nat.le_of_ble_eq_true rfl)⟩ dX11_sea_3) ?_
  refine g_if_eq hC 27 dX11_sea_6 (by decide) (fun c3 => ?_) (fun c3 => ?_)
  · replace h := it_t c3 h
    refine g_iconst hC (-1) dX11_sea_27 (by decide) ?_
    exact g_iret hC h ⟨(Nat.le_of_ble_eq_true rfl), (Nat.le_of_ble_eq_true rfl)⟩ dX11_sea_28
  · replace h := it_f c3 h
    refine g_iload_n hC 2 dX11_sea_9 rfl ?_
    refine g_bipush hC 8 dX11_sea_10 (by decide) ?_
    replace h := ob h; obtain ⟨⟨v5, M4⟩, eM4, h⟩ := h
    refine g_calli hC (r_S hC (As := [.int p2, .int 8]) (c_X11_isSpan _ Γ p2 8 M1 M4 v5 eM4) yk_X11_isSpan lk_X11_42 rfl rfl (Nat.le_of_ble_eq_true rfl) hR ⟨(Nat.le_of_ble_eq_true rfl), (Nat.le_of_ble_eq_true rfl)⟩ ⟨(Nat.le_of_ble_eq_true rfl), (Nat.le_of_ble_eq_true rfl)⟩ dX11_sea_12) ?_
    refine g_if_eq hC 27 dX11_sea_15 (by decide) (fun c6 => ?_) (fun c6 => ?_)
    · replace h := it_t c6 h
      refine g_iconst hC (-1) dX11_sea_27 (by decide) ?_
      exact g_iret hC h ⟨(Nat.le_of_ble_eq_true rfl), (Nat.le_of_ble_eq_true rfl)⟩ dX11_sea_28
    · replace h := it_f c6 h
      refine g_iload_n hC 3 dX11_sea_18 rfl ?_
      refine g_iload hC 4 dX11_sea_19 rfl ?_
      replace h := ob h; obtain ⟨⟨v8, M7⟩, eM7, h⟩ := h
      refine g_calli hC (r_S hC (As := [.int p3, .int p4]) (c_X11_isSeaValue _ Γ p3 p4 M4 M7 v8 eM7) yk_X11_isSeaValue lk_X11_46 rfl rfl (Nat.le_of_ble_eq_true rfl) hR ⟨(Nat.le_of_ble_eq_true rfl), (Nat.le_of_ble_eq_true rfl)⟩ ⟨(Nat.le_of_ble_eq_true rfl), (Nat.le_of_ble_eq_true rfl)⟩ dX11_sea_21) ?_
      refine g_if_ne hC 29 dX11_sea_24 (by decide) (fun c9 => ?_) (fun c9 => ?_)
      · replace h := it_f c9 h
        refine g_iload_n hC 3 dX11_sea_29 rfl ?_
        replace h := jp_e h; obtain ⟨k10, ek10, h⟩ := h
        have J19 : ∀  (M11 : Mm), k10  M11 = some (r, M') → G Γ X 5 M11 0 0 (Fin Γ X (Qi Γ r M') 0 0) 53 ([(0, .ref this), (1, .int p1), (2, .int p2), (3, .int p3), (4, .int p4)]) ([]) := by
          intro  M11 h
          rw [ek10] at h
          refine g_aload_n hC 0 dX11_sea_53 rfl ?_
          replace h := ob h; obtain ⟨v12, ev12, h⟩ := h
          refine g_getR hC ev12 fk_X11_12 rfl dX11_sea_54 ?_
          replace h := ob h; obtain ⟨a13, ea13, h⟩ := h
          subst ea13
          replace h := ob h; obtain ⟨v14, ev14, h⟩ := h
          refine g_getR hC ev14 fk_X11_52 rfl dX11_sea_57 ?_
          refine g_iload_n hC 1 dX11_sea_60 rfl ?_
          refine g_iload_n hC 2 dX11_sea_61 rfl ?_
          refine g_iload_n hC 3 dX11_sea_62 rfl ?_
          refine g_iload hC 4 dX11_sea_63 rfl ?_
          replace h := ob h; obtain ⟨a15, ea15, h⟩ := h
          subst ea15
          replace h := ob h; obtain ⟨_, eu17, h⟩ := h
          replace h := ob h; obtain ⟨⟨v18, M16⟩, eM16, h⟩ := h
          refine g_calli hC (r_V hC (As := [.int p1, .int p2, .int p3, .int p4]) (c_X7_change _ Γ a15 p1 p2 p3 p4 M11 M16 v18 eM16) yk_X7_change lk_X11_56 eu17 ⟨_, rfl, rfl⟩ rfl rfl (Nat.le_of_ble_eq_true rfl) hR ⟨(Nat.le_of_ble_eq_true rfl), (Nat.le_of_ble_eq_true rfl)⟩ ⟨(Nat.le_of_ble_eq_true rfl), (Nat.le_of_ble_eq_true rfl)⟩ dX11_sea_65) ?_
          exact g_iret hC h ⟨(Nat.le_of_ble_eq_true rfl), (Nat.le_of_ble_eq_true rfl)⟩ dX11_sea_68
        refine g_if_ne hC 53 dX11_sea_30 (by decide) (fun c20 => ?_) (fun c20 => ?_)
        · replace h := it_f c20 h
          refine g_sub [0, 1, 2, 3, 4] rfl ?_
          exact J19  M7 h
        · replace h := it_t c20 h
          refine g_iload hC 4 dX11_sea_33 rfl ?_
          refine g_if_ne hC 53 dX11_sea_35 (by decide) (fun c21 => ?_) (fun c21 => ?_)
          · replace h := it_f c21 h
            refine g_sub [0, 1, 2, 3, 4] rfl ?_
            exact J19  M7 h
          · replace h := it_t c21 h
            refine g_aload_n hC 0 dX11_sea_38 rfl ?_
            replace h := ob h; obtain ⟨v22, ev22, h⟩ := h
            refine g_getR hC ev22 fk_X11_12 rfl dX11_sea_39 ?_
            refine g_iload_n hC 1 dX11_sea_42 rfl ?_
            refine g_iload_n hC 2 dX11_sea_43 rfl ?_
            replace h := ob h; obtain ⟨a23, ea23, h⟩ := h
            subst ea23
            replace h := ob h; obtain ⟨_, eu25, h⟩ := h
            replace h := ob h; obtain ⟨⟨v26, M24⟩, eM24, h⟩ := h
            refine g_calli hC (r_V hC (As := [.int p1, .int p2]) (c_X10_isAnyUpWithin _ Γ a23 p1 p2 M7 M24 v26 eM24) yk_X10_isAnyUpWithin lk_X11_49 eu25 ⟨_, rfl, rfl⟩ rfl rfl (Nat.le_of_ble_eq_true rfl) hR ⟨(Nat.le_of_ble_eq_true rfl), (Nat.le_of_ble_eq_true rfl)⟩ ⟨(Nat.le_of_ble_eq_true rfl), (Nat.le_of_ble_eq_true rfl)⟩ dX11_sea_44) ?_
            refine g_if_eq hC 53 dX11_sea_47 (by decide) (fun c27 => ?_) (fun c27 => ?_)
            · replace h := it_t c27 h
              refine g_sub [0, 1, 2, 3, 4] rfl ?_
              exact J19  M24 h
            · replace h := it_f c27 h
              refine g_bipush hC (-3) dX11_sea_50 (by decide) ?_
              exact g_iret hC h ⟨(Nat.le_of_ble_eq_true rfl), (Nat.le_of_ble_eq_true rfl)⟩ dX11_sea_52
      · replace h := it_t c9 h
        refine g_iconst hC (-1) dX11_sea_27 (by decide) ?_
        exact g_iret hC h ⟨(Nat.le_of_ble_eq_true rfl), (Nat.le_of_ble_eq_true rfl)⟩ dX11_sea_28

set_option maxHeartbeats 4000000 in
set_option maxRecDepth 100000 in
theorem c_X11_isLayer (l : Launch) (Γ : Gm) (p1 : Int32) (M M' : Mm) (r : Int32) (h : F_X11_isLayer p1 M = some (r, M')) : Met l yX11_isLayer (wz yX11_isLayer cX11_isLayer 1 (some .boolean)) ({ frames := 0, cells := 0, slots := 0, locals := 0 } : Room) (Pq Γ M [.int p1]) (Qi Γ r M') 0 0 (fr Γ) := by
  refine met_of (own := RX11) (by decide +kernel) rfl (Nat.le_of_ble_eq_true rfl) ?_
  intro X hC hR hnm hXl
  unfold F_X11_isLayer at h
  show G Γ X 1 M 0 0 _ 0 ([(0, .int p1)]) []
  refine g_iload_n hC 0 dX11_isLayer_0 rfl ?_
  refine g_if_lt hC 13 dX11_isLayer_1 (by decide) (fun c1 => ?_) (fun c1 => ?_)
  · replace h := it_t c1 h
    refine g_iconst hC 0 dX11_isLayer_13 (by decide) ?_
    exact g_zret hC (by decide) h ⟨(Nat.le_of_ble_eq_true rfl), (Nat.le_of_ble_eq_true rfl)⟩ dX11_isLayer_14
  · replace h := it_f c1 h
    refine g_iload_n hC 0 dX11_isLayer_4 rfl ?_
    refine g_iconst hC 4 dX11_isLayer_5 (by decide) ?_
    refine g_icmp_ge hC 13 dX11_isLayer_6 (by decide) (fun c2 => ?_) (fun c2 => ?_)
    · replace h := it_t c2 h
      refine g_iconst hC 0 dX11_isLayer_13 (by decide) ?_
      exact g_zret hC (by decide) h ⟨(Nat.le_of_ble_eq_true rfl), (Nat.le_of_ble_eq_true rfl)⟩ dX11_isLayer_14
    · replace h := it_f c2 h
      refine g_iconst hC 1 dX11_isLayer_9 (by decide) ?_
      refine g_goto hC 14 dX11_isLayer_10 (by decide) ?_
      exact g_zret hC (by decide) h ⟨(Nat.le_of_ble_eq_true rfl), (Nat.le_of_ble_eq_true rfl)⟩ dX11_isLayer_14

set_option maxHeartbeats 4000000 in
set_option maxRecDepth 100000 in
theorem c_X11_isStream (l : Launch) (Γ : Gm) (p1 : Int32) (M M' : Mm) (r : Int32) (h : F_X11_isStream p1 M = some (r, M')) : Met l yX11_isStream (wz yX11_isStream cX11_isStream 1 (some .boolean)) ({ frames := 0, cells := 0, slots := 0, locals := 0 } : Room) (Pq Γ M [.int p1]) (Qi Γ r M') 0 0 (fr Γ) := by
  refine met_of (own := RX11) (by decide +kernel) rfl (Nat.le_of_ble_eq_true rfl) ?_
  intro X hC hR hnm hXl
  unfold F_X11_isStream at h
  show G Γ X 1 M 0 0 _ 0 ([(0, .int p1)]) []
  refine g_iload_n hC 0 dX11_isStream_0 rfl ?_
  refine g_bipush hC (-2) dX11_isStream_1 (by decide) ?_
  refine g_icmp_lt hC 15 dX11_isStream_3 (by decide) (fun c1 => ?_) (fun c1 => ?_)
  · replace h := it_t c1 h
    refine g_iconst hC 0 dX11_isStream_15 (by decide) ?_
    exact g_zret hC (by decide) h ⟨(Nat.le_of_ble_eq_true rfl), (Nat.le_of_ble_eq_true rfl)⟩ dX11_isStream_16
  · replace h := it_f c1 h
    refine g_iload_n hC 0 dX11_isStream_6 rfl ?_
    refine g_iconst hC 2 dX11_isStream_7 (by decide) ?_
    refine g_icmp_gt hC 15 dX11_isStream_8 (by decide) (fun c2 => ?_) (fun c2 => ?_)
    · replace h := it_t c2 h
      refine g_iconst hC 0 dX11_isStream_15 (by decide) ?_
      exact g_zret hC (by decide) h ⟨(Nat.le_of_ble_eq_true rfl), (Nat.le_of_ble_eq_true rfl)⟩ dX11_isStream_16
    · replace h := it_f c2 h
      refine g_iconst hC 1 dX11_isStream_11 (by decide) ?_
      refine g_goto hC 16 dX11_isStream_12 (by decide) ?_
      exact g_zret hC (by decide) h ⟨(Nat.le_of_ble_eq_true rfl), (Nat.le_of_ble_eq_true rfl)⟩ dX11_isStream_16

set_option maxHeartbeats 4000000 in
set_option maxRecDepth 100000 in
theorem c_X11_stream (l : Launch) (Γ : Gm) (this : Nat) (p1 : Int32) (p2 : Int32) (p3 : Int32) (p4 : Int32) (p5 : Int32) (p6 : Int32) (M M' : Mm) (r : Int32) (h : F_X11_stream this p1 p2 p3 p4 p5 p6 M = some (r, M')) : Met l yX11_stream (wz yX11_stream cX11_stream 9 (some .int)) ({ frames := 1, cells := 0, slots := 0, locals := 21 } : Room) (Pq Γ M [.ref this, .int p1, .int p2, .int p3, .int p4, .int p5, .int p6]) (Qi Γ r M') 0 0 (fr Γ) := by
  refine met_of (own := RX11) (by decide +kernel) rfl (Nat.le_of_ble_eq_true rfl) ?_
  intro X hC hR hnm hXl
  unfold F_X11_stream at h
  show G Γ X 9 M 0 0 _ 0 ([(0, .ref this), (1, .int p1), (2, .int p2), (3, .int p3), (4, .int p4), (5, .int p5), (6, .int p6)]) []
  refine g_iload_n hC 1 dX11_stream_0 rfl ?_
  refine g_iload_n hC 2 dX11_stream_1 rfl ?_
  replace h := ob h; obtain ⟨⟨v2, M1⟩, eM1, h⟩ := h
  refine g_calli hC (r_S hC (As := [.int p1, .int p2]) (c_X11_isCell _ Γ p1 p2 M M1 v2 eM1) yk_X11_isCell lk_X11_62 rfl rfl (Nat.le_of_ble_eq_true rfl) hR ⟨(Nat.le_of_ble_eq_true rfl), (Nat.le_of_ble_eq_true rfl)⟩ ⟨(Nat.le_of_ble_eq_true rfl), (Nat.le_of_ble_eq_true rfl)⟩ dX11_stream_2) ?_
  refine g_if_eq hC 31 dX11_stream_5 (by decide) (fun c3 => ?_) (fun c3 => ?_)
  · replace h := it_t c3 h
    refine g_iconst hC (-1) dX11_stream_31 (by decide) ?_
    exact g_iret hC h ⟨(Nat.le_of_ble_eq_true rfl), (Nat.le_of_ble_eq_true rfl)⟩ dX11_stream_32
  · replace h := it_f c3 h
    refine g_iload_n hC 3 dX11_stream_8 rfl ?_
    replace h := ob h; obtain ⟨⟨v5, M4⟩, eM4, h⟩ := h
    refine g_calli hC (r_S hC (As := [.int p3]) (c_X11_isLayer _ Γ p3 M1 M4 v5 eM4) yk_X11_isLayer lk_X11_65 rfl rfl (Nat.le_of_ble_eq_true rfl) hR ⟨(Nat.le_of_ble_eq_true rfl), (Nat.le_of_ble_eq_true rfl)⟩ ⟨(Nat.le_of_ble_eq_true rfl), (Nat.le_of_ble_eq_true rfl)⟩ dX11_stream_9) ?_
    refine g_if_eq hC 31 dX11_stream_12 (by decide) (fun c6 => ?_) (fun c6 => ?_)
    · replace h := it_t c6 h
      refine g_iconst hC (-1) dX11_stream_31 (by decide) ?_
      exact g_iret hC h ⟨(Nat.le_of_ble_eq_true rfl), (Nat.le_of_ble_eq_true rfl)⟩ dX11_stream_32
    · replace h := it_f c6 h
      refine g_iload hC 4 dX11_stream_15 rfl ?_
      replace h := ob h; obtain ⟨⟨v8, M7⟩, eM7, h⟩ := h
      refine g_calli hC (r_S hC (As := [.int p4]) (c_X11_isStream _ Γ p4 M4 M7 v8 eM7) yk_X11_isStream lk_X11_69 rfl rfl (Nat.le_of_ble_eq_true rfl) hR ⟨(Nat.le_of_ble_eq_true rfl), (Nat.le_of_ble_eq_true rfl)⟩ ⟨(Nat.le_of_ble_eq_true rfl), (Nat.le_of_ble_eq_true rfl)⟩ dX11_stream_17) ?_
      refine g_if_eq hC 31 dX11_stream_20 (by decide) (fun c9 => ?_) (fun c9 => ?_)
      · replace h := it_t c9 h
        refine g_iconst hC (-1) dX11_stream_31 (by decide) ?_
        exact g_iret hC h ⟨(Nat.le_of_ble_eq_true rfl), (Nat.le_of_ble_eq_true rfl)⟩ dX11_stream_32
      · replace h := it_f c9 h
        refine g_iload hC 5 dX11_stream_23 rfl ?_
        replace h := ob h; obtain ⟨⟨v11, M10⟩, eM10, h⟩ := h
        refine g_calli hC (r_S hC (As := [.int p5]) (c_X11_isStream _ Γ p5 M7 M10 v11 eM10) yk_X11_isStream lk_X11_69 rfl rfl (Nat.le_of_ble_eq_true rfl) hR ⟨(Nat.le_of_ble_eq_true rfl), (Nat.le_of_ble_eq_true rfl)⟩ ⟨(Nat.le_of_ble_eq_true rfl), (Nat.le_of_ble_eq_true rfl)⟩ dX11_stream_25) ?_
        refine g_if_ne hC 33 dX11_stream_28 (by decide) (fun c12 => ?_) (fun c12 => ?_)
        · replace h := it_f c12 h
          refine g_iload hC 6 dX11_stream_33 rfl ?_
          replace h := jp_e h; obtain ⟨k13, ek13, h⟩ := h
          have J27 : ∀ (s14 : Option Nat) (M15 : Mm), k13 s14 M15 = some (r, M') → G Γ X 9 M15 0 0 (Fin Γ X (Qi Γ r M') 0 0) 61 ([(1, .int p1), (2, .int p2), (3, .int p3), (4, .int p4), (5, .int p5)]) ([va_rf s14]) := by
            intro s14 M15 h
            rw [ek13] at h
            refine g_astoreq hC (x := s14) ([(7, va_rf s14), (1, .int p1), (2, .int p2), (3, .int p3), (4, .int p4), (5, .int p5)]) dX11_stream_61 (by decide) rfl ?_
            refine g_iload_n hC 1 dX11_stream_63 rfl ?_
            refine g_iload_n hC 2 dX11_stream_64 rfl ?_
            replace h := ob h; obtain ⟨⟨v17, M16⟩, eM16, h⟩ := h
            refine g_calli hC (r_S hC (As := [.int p1, .int p2]) (c_X11_cellOf _ Γ p1 p2 M15 M16 v17 eM16) yk_X11_cellOf lk_X11_79 rfl rfl (Nat.le_of_ble_eq_true rfl) hR ⟨(Nat.le_of_ble_eq_true rfl), (Nat.le_of_ble_eq_true rfl)⟩ ⟨(Nat.le_of_ble_eq_true rfl), (Nat.le_of_ble_eq_true rfl)⟩ dX11_stream_65) ?_
            refine g_iload_n hC 3 dX11_stream_68 rfl ?_
            replace h := ob h; obtain ⟨⟨v19, M18⟩, eM18, h⟩ := h
            refine g_calli hC (r_S hC (As := [.int v17, .int p3]) (c_X11_placeOf _ Γ v17 p3 M16 M18 v19 eM18) yk_X11_placeOf lk_X11_83 rfl rfl (Nat.le_of_ble_eq_true rfl) hR ⟨(Nat.le_of_ble_eq_true rfl), (Nat.le_of_ble_eq_true rfl)⟩ ⟨(Nat.le_of_ble_eq_true rfl), (Nat.le_of_ble_eq_true rfl)⟩ dX11_stream_69) ?_
            refine g_istore hC ([(8, .int v19), (7, va_rf s14), (1, .int p1), (2, .int p2), (3, .int p3), (4, .int p4), (5, .int p5)]) dX11_stream_72 (by decide) (by simp [cat_rf]) ?_
            refine g_aloadq hC 1 (x := s14) dX11_stream_74 rfl ?_
            replace h := ob h; obtain ⟨a20, ea20, h⟩ := h
            subst ea20
            replace h := ob h; obtain ⟨v21, ev21, h⟩ := h
            refine g_getR hC ev21 fk_X11_86 rfl dX11_stream_76 ?_
            refine g_iload hC 0 dX11_stream_79 rfl ?_
            refine g_iload hC 5 dX11_stream_81 rfl ?_
            replace h := ob h; obtain ⟨a23, ea23, h⟩ := h
            subst ea23
            replace h := ob h; obtain ⟨M22, eM22, h⟩ := h
            refine g_iast hC eM22 dX11_stream_83 ?_
            refine g_aload hC 1 dX11_stream_84 rfl ?_
            replace h := ob h; obtain ⟨v24, ev24, h⟩ := h
            refine g_getR hC ev24 fk_X11_92 rfl dX11_stream_86 ?_
            refine g_iload hC 0 dX11_stream_89 rfl ?_
            refine g_iload hC 6 dX11_stream_91 rfl ?_
            replace h := ob h; obtain ⟨a26, ea26, h⟩ := h
            subst ea26
            replace h := ob h; obtain ⟨M25, eM25, h⟩ := h
            refine g_iast hC eM25 dX11_stream_93 ?_
            refine g_iconst hC 0 dX11_stream_94 (by decide) ?_
            exact g_iret hC h ⟨(Nat.le_of_ble_eq_true rfl), (Nat.le_of_ble_eq_true rfl)⟩ dX11_stream_95
          refine g_if_eq hC 51 dX11_stream_35 (by decide) (fun c28 => ?_) (fun c28 => ?_)
          · replace h := it_t c28 h
            refine g_aload_n hC 0 dX11_stream_51 rfl ?_
            replace h := ob h; obtain ⟨v29, ev29, h⟩ := h
            refine g_getR hC ev29 fk_X11_12 rfl dX11_stream_52 ?_
            replace h := ob h; obtain ⟨a30, ea30, h⟩ := h
            subst ea30
            replace h := ob h; obtain ⟨v31, ev31, h⟩ := h
            refine g_getR hC ev31 fk_X11_52 rfl dX11_stream_55 ?_
            replace h := ob h; obtain ⟨a32, ea32, h⟩ := h
            subst ea32
            replace h := ob h; obtain ⟨v33, ev33, h⟩ := h
            refine g_getR hC ev33 fk_X11_76 rfl dX11_stream_58 ?_
            refine g_sub [1, 2, 3, 4, 5] rfl ?_
            exact J27 v33 M10 h
          · replace h := it_f c28 h
            refine g_aload_n hC 0 dX11_stream_38 rfl ?_
            replace h := ob h; obtain ⟨v34, ev34, h⟩ := h
            refine g_getR hC ev34 fk_X11_12 rfl dX11_stream_39 ?_
            replace h := ob h; obtain ⟨a35, ea35, h⟩ := h
            subst ea35
            replace h := ob h; obtain ⟨v36, ev36, h⟩ := h
            refine g_getR hC ev36 fk_X11_52 rfl dX11_stream_42 ?_
            replace h := ob h; obtain ⟨a37, ea37, h⟩ := h
            subst ea37
            replace h := ob h; obtain ⟨v38, ev38, h⟩ := h
            refine g_getR hC ev38 fk_X11_72 rfl dX11_stream_45 ?_
            refine g_goto hC 61 dX11_stream_48 (by decide) ?_
            refine g_sub [1, 2, 3, 4, 5] rfl ?_
            exact J27 v38 M10 h
        · replace h := it_t c12 h
          refine g_iconst hC (-1) dX11_stream_31 (by decide) ?_
          exact g_iret hC h ⟨(Nat.le_of_ble_eq_true rfl), (Nat.le_of_ble_eq_true rfl)⟩ dX11_stream_32

set_option maxHeartbeats 4000000 in
set_option maxRecDepth 100000 in
theorem c_X11_salt (l : Launch) (Γ : Gm) (this : Nat) (p1 : Int32) (p2 : Int32) (p3 : Int32) (p4 : Int32) (M M' : Mm) (r : Int32) (h : F_X11_salt this p1 p2 p3 p4 M = some (r, M')) : Met l yX11_salt (wz yX11_salt cX11_salt 6 (some .int)) ({ frames := 1, cells := 0, slots := 0, locals := 23 } : Room) (Pq Γ M [.ref this, .int p1, .int p2, .int p3, .int p4]) (Qi Γ r M') 0 0 (fr Γ) := by
  refine met_of (own := RX11) (by decide +kernel) rfl (Nat.le_of_ble_eq_true rfl) ?_
  intro X hC hR hnm hXl
  unfold F_X11_salt at h
  show G Γ X 6 M 0 0 _ 0 ([(0, .ref this), (1, .int p1), (2, .int p2), (3, .int p3), (4, .int p4)]) []
  refine g_iload_n hC 1 dX11_salt_0 rfl ?_
  refine g_iload_n hC 2 dX11_salt_1 rfl ?_
  replace h := ob h; obtain ⟨⟨v2, M1⟩, eM1, h⟩ := h
  refine g_calli hC (r_S hC (As := [.int p1, .int p2]) (c_X11_isCell _ Γ p1 p2 M M1 v2 eM1) yk_X11_isCell lk_X11_62 rfl rfl (Nat.le_of_ble_eq_true rfl) hR ⟨(Nat.le_of_ble_eq_true rfl), (Nat.le_of_ble_eq_true rfl)⟩ ⟨(Nat.le_of_ble_eq_true rfl), (Nat.le_of_ble_eq_true rfl)⟩ dX11_salt_2) ?_
  refine g_if_eq hC 28 dX11_salt_5 (by decide) (fun c3 => ?_) (fun c3 => ?_)
  · replace h := it_t c3 h
    refine g_iconst hC (-1) dX11_salt_28 (by decide) ?_
    exact g_iret hC h ⟨(Nat.le_of_ble_eq_true rfl), (Nat.le_of_ble_eq_true rfl)⟩ dX11_salt_29
  · replace h := it_f c3 h
    refine g_iload_n hC 3 dX11_salt_8 rfl ?_
    replace h := ob h; obtain ⟨⟨v5, M4⟩, eM4, h⟩ := h
    refine g_calli hC (r_S hC (As := [.int p3]) (c_X11_isLayer _ Γ p3 M1 M4 v5 eM4) yk_X11_isLayer lk_X11_65 rfl rfl (Nat.le_of_ble_eq_true rfl) hR ⟨(Nat.le_of_ble_eq_true rfl), (Nat.le_of_ble_eq_true rfl)⟩ ⟨(Nat.le_of_ble_eq_true rfl), (Nat.le_of_ble_eq_true rfl)⟩ dX11_salt_9) ?_
    refine g_if_eq hC 28 dX11_salt_12 (by decide) (fun c6 => ?_) (fun c6 => ?_)
    · replace h := it_t c6 h
      refine g_iconst hC (-1) dX11_salt_28 (by decide) ?_
      exact g_iret hC h ⟨(Nat.le_of_ble_eq_true rfl), (Nat.le_of_ble_eq_true rfl)⟩ dX11_salt_29
    · replace h := it_f c6 h
      refine g_iload hC 4 dX11_salt_15 rfl ?_
      refine g_if_lt hC 28 dX11_salt_17 (by decide) (fun c7 => ?_) (fun c7 => ?_)
      · replace h := it_t c7 h
        refine g_iconst hC (-1) dX11_salt_28 (by decide) ?_
        exact g_iret hC h ⟨(Nat.le_of_ble_eq_true rfl), (Nat.le_of_ble_eq_true rfl)⟩ dX11_salt_29
      · replace h := it_f c7 h
        refine g_iload hC 4 dX11_salt_20 rfl ?_
        refine g_sipush hC 1001 dX11_salt_22 (by decide) ?_
        refine g_icmp_le hC 30 dX11_salt_25 (by decide) (fun c8 => ?_) (fun c8 => ?_)
        · replace h := it_t c8 h
          refine g_iload_n hC 1 dX11_salt_30 rfl ?_
          refine g_iload_n hC 2 dX11_salt_31 rfl ?_
          replace h := ob h; obtain ⟨⟨v10, M9⟩, eM9, h⟩ := h
          refine g_calli hC (r_S hC (As := [.int p1, .int p2]) (c_X11_cellOf _ Γ p1 p2 M4 M9 v10 eM9) yk_X11_cellOf lk_X11_79 rfl rfl (Nat.le_of_ble_eq_true rfl) hR ⟨(Nat.le_of_ble_eq_true rfl), (Nat.le_of_ble_eq_true rfl)⟩ ⟨(Nat.le_of_ble_eq_true rfl), (Nat.le_of_ble_eq_true rfl)⟩ dX11_salt_32) ?_
          refine g_iload_n hC 3 dX11_salt_35 rfl ?_
          replace h := ob h; obtain ⟨⟨v12, M11⟩, eM11, h⟩ := h
          refine g_calli hC (r_S hC (As := [.int v10, .int p3]) (c_X11_placeOf _ Γ v10 p3 M9 M11 v12 eM11) yk_X11_placeOf lk_X11_83 rfl rfl (Nat.le_of_ble_eq_true rfl) hR ⟨(Nat.le_of_ble_eq_true rfl), (Nat.le_of_ble_eq_true rfl)⟩ ⟨(Nat.le_of_ble_eq_true rfl), (Nat.le_of_ble_eq_true rfl)⟩ dX11_salt_36) ?_
          refine g_istore hC ([(5, .int v12), (0, .ref this), (1, .int p1), (2, .int p2), (3, .int p3), (4, .int p4)]) dX11_salt_39 (by decide) rfl ?_
          refine g_iload hC 5 dX11_salt_41 rfl ?_
          refine g_sipush hC 999 dX11_salt_43 (by decide) ?_
          refine g_icmp_gt hC 67 dX11_salt_46 (by decide) (fun c13 => ?_) (fun c13 => ?_)
          · replace h := it_t c13 h
            refine g_aload_n hC 1 dX11_salt_67 rfl ?_
            replace h := ob h; obtain ⟨v14, ev14, h⟩ := h
            refine g_getR hC ev14 fk_X11_12 rfl dX11_salt_68 ?_
            replace h := ob h; obtain ⟨a15, ea15, h⟩ := h
            subst ea15
            replace h := ob h; obtain ⟨v16, ev16, h⟩ := h
            refine g_getR hC ev16 fk_X11_52 rfl dX11_salt_71 ?_
            replace h := ob h; obtain ⟨a17, ea17, h⟩ := h
            subst ea17
            replace h := ob h; obtain ⟨v18, ev18, h⟩ := h
            refine g_getR hC ev18 fk_X11_102 rfl dX11_salt_74 ?_
            refine g_iload hC 0 dX11_salt_77 rfl ?_
            refine g_iload hC 5 dX11_salt_79 rfl ?_
            refine g_sipush hC 1000 dX11_salt_81 (by decide) ?_
            replace h := nv_e h; obtain ⟨v19, ev19, h⟩ := h
            have J20 : G Γ X 6 M11 0 0 (Fin Γ X (Qi Γ r M') 0 0) 92 ([(5, .int v12), (0, .ref this), (1, .int p1), (2, .int p2), (3, .int p3), (4, .int p4)]) ([.int v19, .int v12, va_rf v18]) := by
              replace h := ob h; obtain ⟨a21, ea21, h⟩ := h
              subst ea21
              replace h := ob h; obtain ⟨⟨v23, M22⟩, eM22, h⟩ := h
              refine g_calli hC (r_S hC (As := [.ref a21, .int v12, .int v19]) (c_X11_changeAt _ Γ a21 v12 v19 M11 M22 v23 eM22) yk_X11_changeAt lk_X11_98 rfl rfl (Nat.le_of_ble_eq_true rfl) hR ⟨(Nat.le_of_ble_eq_true rfl), (Nat.le_of_ble_eq_true rfl)⟩ ⟨(Nat.le_of_ble_eq_true rfl), (Nat.le_of_ble_eq_true rfl)⟩ dX11_salt_92) ?_
              exact g_iret hC h ⟨(Nat.le_of_ble_eq_true rfl), (Nat.le_of_ble_eq_true rfl)⟩ dX11_salt_95
            refine g_icmp_ne hC 91 dX11_salt_84 (by decide) (fun c24 => ?_) (fun c24 => ?_)
            · refine g_iconst hC 0 dX11_salt_91 (by decide) ?_
              rw [show v19 = _ from ev19.trans (if_neg c24)] at J20
              exact J20
            · refine g_iconst hC 1 dX11_salt_87 (by decide) ?_
              refine g_goto hC 92 dX11_salt_88 (by decide) ?_
              rw [show v19 = _ from ev19.trans (if_pos c24)] at J20
              exact J20
          · replace h := it_f c13 h
            refine g_aload_n hC 1 dX11_salt_49 rfl ?_
            replace h := ob h; obtain ⟨v25, ev25, h⟩ := h
            refine g_getR hC ev25 fk_X11_12 rfl dX11_salt_50 ?_
            replace h := ob h; obtain ⟨a26, ea26, h⟩ := h
            subst ea26
            replace h := ob h; obtain ⟨v27, ev27, h⟩ := h
            refine g_getR hC ev27 fk_X11_52 rfl dX11_salt_53 ?_
            replace h := ob h; obtain ⟨a28, ea28, h⟩ := h
            subst ea28
            replace h := ob h; obtain ⟨v29, ev29, h⟩ := h
            refine g_getR hC ev29 fk_X11_95 rfl dX11_salt_56 ?_
            refine g_iload hC 0 dX11_salt_59 rfl ?_
            refine g_iload hC 5 dX11_salt_61 rfl ?_
            replace h := ob h; obtain ⟨a30, ea30, h⟩ := h
            subst ea30
            replace h := ob h; obtain ⟨⟨v32, M31⟩, eM31, h⟩ := h
            refine g_calli hC (r_S hC (As := [.ref a30, .int v12, .int p4]) (c_X11_changeAt _ Γ a30 v12 p4 M11 M31 v32 eM31) yk_X11_changeAt lk_X11_98 rfl rfl (Nat.le_of_ble_eq_true rfl) hR ⟨(Nat.le_of_ble_eq_true rfl), (Nat.le_of_ble_eq_true rfl)⟩ ⟨(Nat.le_of_ble_eq_true rfl), (Nat.le_of_ble_eq_true rfl)⟩ dX11_salt_63) ?_
            exact g_iret hC h ⟨(Nat.le_of_ble_eq_true rfl), (Nat.le_of_ble_eq_true rfl)⟩ dX11_salt_66
        · replace h := it_f c8 h
          refine g_iconst hC (-1) dX11_salt_28 (by decide) ?_
          exact g_iret hC h ⟨(Nat.le_of_ble_eq_true rfl), (Nat.le_of_ble_eq_true rfl)⟩ dX11_salt_29

set_option maxHeartbeats 4000000 in
set_option maxRecDepth 100000 in
theorem c_X11_cell (l : Launch) (Γ : Gm) (this : Nat) (p1 : Int32) (p2 : Int32) (p3 : Int32) (p4 : Int32) (M M' : Mm) (r : Int32) (h : F_X11_cell this p1 p2 p3 p4 M = some (r, M')) : Met l yX11_cell (wz yX11_cell cX11_cell 6 (some .int)) ({ frames := 1, cells := 0, slots := 0, locals := 21 } : Room) (Pq Γ M [.ref this, .int p1, .int p2, .int p3, .int p4]) (Qi Γ r M') 0 0 (fr Γ) := by
  refine met_of (own := RX11) (by decide +kernel) rfl (Nat.le_of_ble_eq_true rfl) ?_
  intro X hC hR hnm hXl
  unfold F_X11_cell at h
  show G Γ X 6 M 0 0 _ 0 ([(0, .ref this), (1, .int p1), (2, .int p2), (3, .int p3), (4, .int p4)]) []
  refine g_iload_n hC 1 dX11_cell_0 rfl ?_
  refine g_iload_n hC 2 dX11_cell_1 rfl ?_
  replace h := ob h; obtain ⟨⟨v2, M1⟩, eM1, h⟩ := h
  refine g_calli hC (r_S hC (As := [.int p1, .int p2]) (c_X11_isCell _ Γ p1 p2 M M1 v2 eM1) yk_X11_isCell lk_X11_62 rfl rfl (Nat.le_of_ble_eq_true rfl) hR ⟨(Nat.le_of_ble_eq_true rfl), (Nat.le_of_ble_eq_true rfl)⟩ ⟨(Nat.le_of_ble_eq_true rfl), (Nat.le_of_ble_eq_true rfl)⟩ dX11_cell_2) ?_
  refine g_if_eq hC 20 dX11_cell_5 (by decide) (fun c3 => ?_) (fun c3 => ?_)
  · replace h := it_t c3 h
    refine g_iconst hC (-1) dX11_cell_20 (by decide) ?_
    exact g_iret hC h ⟨(Nat.le_of_ble_eq_true rfl), (Nat.le_of_ble_eq_true rfl)⟩ dX11_cell_21
  · replace h := it_f c3 h
    refine g_iload hC 4 dX11_cell_8 rfl ?_
    refine g_if_lt hC 20 dX11_cell_10 (by decide) (fun c4 => ?_) (fun c4 => ?_)
    · replace h := it_t c4 h
      refine g_iconst hC (-1) dX11_cell_20 (by decide) ?_
      exact g_iret hC h ⟨(Nat.le_of_ble_eq_true rfl), (Nat.le_of_ble_eq_true rfl)⟩ dX11_cell_21
    · replace h := it_f c4 h
      refine g_iload hC 4 dX11_cell_13 rfl ?_
      refine g_bipush hC 8 dX11_cell_15 (by decide) ?_
      refine g_icmp_le hC 22 dX11_cell_17 (by decide) (fun c5 => ?_) (fun c5 => ?_)
      · replace h := it_t c5 h
        refine g_iload_n hC 1 dX11_cell_22 rfl ?_
        refine g_iload_n hC 2 dX11_cell_23 rfl ?_
        replace h := ob h; obtain ⟨⟨v7, M6⟩, eM6, h⟩ := h
        refine g_calli hC (r_S hC (As := [.int p1, .int p2]) (c_X11_cellOf _ Γ p1 p2 M1 M6 v7 eM6) yk_X11_cellOf lk_X11_79 rfl rfl (Nat.le_of_ble_eq_true rfl) hR ⟨(Nat.le_of_ble_eq_true rfl), (Nat.le_of_ble_eq_true rfl)⟩ ⟨(Nat.le_of_ble_eq_true rfl), (Nat.le_of_ble_eq_true rfl)⟩ dX11_cell_24) ?_
        refine g_istore hC ([(5, .int v7), (0, .ref this), (1, .int p1), (2, .int p2), (3, .int p3), (4, .int p4)]) dX11_cell_27 (by decide) rfl ?_
        refine g_iload hC 5 dX11_cell_29 rfl ?_
        refine g_iconst hC 2 dX11_cell_31 (by decide) ?_
        refine g_icmp_gt hC 51 dX11_cell_32 (by decide) (fun c8 => ?_) (fun c8 => ?_)
        · replace h := it_t c8 h
          refine g_iload_n hC 4 dX11_cell_51 rfl ?_
          replace h := ob h; obtain ⟨⟨v10, M9⟩, eM9, h⟩ := h
          refine g_calli hC (r_S hC (As := [.int p3]) (c_X11_isLayer _ Γ p3 M6 M9 v10 eM9) yk_X11_isLayer lk_X11_65 rfl rfl (Nat.le_of_ble_eq_true rfl) hR ⟨(Nat.le_of_ble_eq_true rfl), (Nat.le_of_ble_eq_true rfl)⟩ ⟨(Nat.le_of_ble_eq_true rfl), (Nat.le_of_ble_eq_true rfl)⟩ dX11_cell_52) ?_
          refine g_if_ne hC 60 dX11_cell_55 (by decide) (fun c11 => ?_) (fun c11 => ?_)
          · replace h := it_f c11 h
            refine g_aload_n hC 1 dX11_cell_60 rfl ?_
            replace h := ob h; obtain ⟨v12, ev12, h⟩ := h
            refine g_getR hC ev12 fk_X11_12 rfl dX11_cell_61 ?_
            replace h := ob h; obtain ⟨a13, ea13, h⟩ := h
            subst ea13
            replace h := ob h; obtain ⟨v14, ev14, h⟩ := h
            refine g_getR hC ev14 fk_X11_52 rfl dX11_cell_64 ?_
            refine g_iload hC 5 dX11_cell_67 rfl ?_
            replace h := ob h; obtain ⟨a15, ea15, h⟩ := h
            subst ea15
            replace h := ob h; obtain ⟨_, eu17, h⟩ := h
            replace h := ob h; obtain ⟨⟨v18, M16⟩, eM16, h⟩ := h
            refine g_callr hC (r_V hC (As := [.int p4]) (c_X7_placeRow _ Γ a15 p4 M9 M16 v18 eM16) yk_X7_placeRow lk_X11_109 eu17 ⟨_, rfl, rfl⟩ rfl rfl (Nat.le_of_ble_eq_true rfl) hR ⟨(Nat.le_of_ble_eq_true rfl), (Nat.le_of_ble_eq_true rfl)⟩ ⟨(Nat.le_of_ble_eq_true rfl), (Nat.le_of_ble_eq_true rfl)⟩ dX11_cell_69) ?_
            refine g_iload hC 0 dX11_cell_72 rfl ?_
            refine g_iload_n hC 4 dX11_cell_74 rfl ?_
            replace h := ob h; obtain ⟨⟨v20, M19⟩, eM19, h⟩ := h
            refine g_calli hC (r_S hC (As := [.int v7, .int p3]) (c_X11_placeOf _ Γ v7 p3 M16 M19 v20 eM19) yk_X11_placeOf lk_X11_83 rfl rfl (by simp only [List.map, cat_rf]; exact Nat.le_of_ble_eq_true rfl) hR ⟨(Nat.le_of_ble_eq_true rfl), (Nat.le_of_ble_eq_true rfl)⟩ ⟨(Nat.le_of_ble_eq_true rfl), (Nat.le_of_ble_eq_true rfl)⟩ dX11_cell_75) ?_
            replace h := ob h; obtain ⟨a22, ea22, h⟩ := h
            subst ea22
            replace h := ob h; obtain ⟨v21, ev21, h⟩ := h
            refine g_iald hC ev21 dX11_cell_78 ?_
            exact g_iret hC h ⟨(Nat.le_of_ble_eq_true rfl), (Nat.le_of_ble_eq_true rfl)⟩ dX11_cell_79
          · replace h := it_t c11 h
            refine g_iconst hC (-1) dX11_cell_58 (by decide) ?_
            exact g_iret hC h ⟨(Nat.le_of_ble_eq_true rfl), (Nat.le_of_ble_eq_true rfl)⟩ dX11_cell_59
        · replace h := it_f c8 h
          refine g_aload_n hC 1 dX11_cell_35 rfl ?_
          replace h := ob h; obtain ⟨v23, ev23, h⟩ := h
          refine g_getR hC ev23 fk_X11_12 rfl dX11_cell_36 ?_
          replace h := ob h; obtain ⟨a24, ea24, h⟩ := h
          subst ea24
          replace h := ob h; obtain ⟨v25, ev25, h⟩ := h
          refine g_getR hC ev25 fk_X11_52 rfl dX11_cell_39 ?_
          refine g_iload hC 5 dX11_cell_42 rfl ?_
          replace h := ob h; obtain ⟨a26, ea26, h⟩ := h
          subst ea26
          replace h := ob h; obtain ⟨_, eu28, h⟩ := h
          replace h := ob h; obtain ⟨⟨v29, M27⟩, eM27, h⟩ := h
          refine g_callr hC (r_V hC (As := [.int p4]) (c_X7_cellRow _ Γ a26 p4 M6 M27 v29 eM27) yk_X7_cellRow lk_X11_105 eu28 ⟨_, rfl, rfl⟩ rfl rfl (Nat.le_of_ble_eq_true rfl) hR ⟨(Nat.le_of_ble_eq_true rfl), (Nat.le_of_ble_eq_true rfl)⟩ ⟨(Nat.le_of_ble_eq_true rfl), (Nat.le_of_ble_eq_true rfl)⟩ dX11_cell_44) ?_
          refine g_iload hC 0 dX11_cell_47 rfl ?_
          replace h := ob h; obtain ⟨a31, ea31, h⟩ := h
          subst ea31
          replace h := ob h; obtain ⟨v30, ev30, h⟩ := h
          refine g_iald hC ev30 dX11_cell_49 ?_
          exact g_iret hC h ⟨(Nat.le_of_ble_eq_true rfl), (Nat.le_of_ble_eq_true rfl)⟩ dX11_cell_50
      · replace h := it_f c5 h
        refine g_iconst hC (-1) dX11_cell_20 (by decide) ?_
        exact g_iret hC h ⟨(Nat.le_of_ble_eq_true rfl), (Nat.le_of_ble_eq_true rfl)⟩ dX11_cell_21

set_option maxHeartbeats 4000000 in
set_option maxRecDepth 100000 in
theorem c_X11_glider (l : Launch) (Γ : Gm) (this : Nat) (p1 : Int32) (p2 : Int32) (p3 : Int32) (p4 : Int32) (M M' : Mm) (r : Int32) (h : F_X11_glider this p1 p2 p3 p4 M = some (r, M')) : Met l yX11_glider (wz yX11_glider cX11_glider 5 (some .int)) ({ frames := 4, cells := 2, slots := 412, locals := 84 } : Room) (Pq Γ M [.ref this, .int p1, .int p2, .int p3, .int p4]) (Qi Γ r M') 2 412 (fr Γ) := by
  refine met_of (own := RX11) (by decide +kernel) rfl (Nat.le_of_ble_eq_true rfl) ?_
  intro X hC hR hnm hXl
  unfold F_X11_glider at h
  show G Γ X 5 M 0 0 _ 0 ([(0, .ref this), (1, .int p1), (2, .int p2), (3, .int p3), (4, .int p4)]) []
  refine g_iload_n hC 1 dX11_glider_0 rfl ?_
  refine g_if_lt hC 30 dX11_glider_1 (by decide) (fun c1 => ?_) (fun c1 => ?_)
  · replace h := it_t c1 h
    refine g_iconst hC (-1) dX11_glider_30 (by decide) ?_
    exact g_iret hC h ⟨(Nat.le_of_ble_eq_true rfl), (Nat.le_of_ble_eq_true rfl)⟩ dX11_glider_31
  · replace h := it_f c1 h
    refine g_iload_n hC 1 dX11_glider_4 rfl ?_
    refine g_iconst hC 3 dX11_glider_5 (by decide) ?_
    refine g_icmp_gt hC 30 dX11_glider_6 (by decide) (fun c2 => ?_) (fun c2 => ?_)
    · replace h := it_t c2 h
      refine g_iconst hC (-1) dX11_glider_30 (by decide) ?_
      exact g_iret hC h ⟨(Nat.le_of_ble_eq_true rfl), (Nat.le_of_ble_eq_true rfl)⟩ dX11_glider_31
    · replace h := it_f c2 h
      refine g_iload_n hC 2 dX11_glider_9 rfl ?_
      refine g_iload_n hC 3 dX11_glider_10 rfl ?_
      replace h := ob h; obtain ⟨⟨v4, M3⟩, eM3, h⟩ := h
      refine g_calli hC (r_S hC (As := [.int p2, .int p3]) (c_X11_isCell _ Γ p2 p3 M M3 v4 eM3) yk_X11_isCell lk_X11_62 rfl rfl (Nat.le_of_ble_eq_true rfl) hR ⟨(Nat.le_of_ble_eq_true rfl), (Nat.le_of_ble_eq_true rfl)⟩ ⟨(Nat.le_of_ble_eq_true rfl), (Nat.le_of_ble_eq_true rfl)⟩ dX11_glider_11) ?_
      refine g_if_eq hC 30 dX11_glider_14 (by decide) (fun c5 => ?_) (fun c5 => ?_)
      · replace h := it_t c5 h
        refine g_iconst hC (-1) dX11_glider_30 (by decide) ?_
        exact g_iret hC h ⟨(Nat.le_of_ble_eq_true rfl), (Nat.le_of_ble_eq_true rfl)⟩ dX11_glider_31
      · replace h := it_f c5 h
        refine g_iload hC 4 dX11_glider_17 rfl ?_
        refine g_if_lt hC 30 dX11_glider_19 (by decide) (fun c6 => ?_) (fun c6 => ?_)
        · replace h := it_t c6 h
          refine g_iconst hC (-1) dX11_glider_30 (by decide) ?_
          exact g_iret hC h ⟨(Nat.le_of_ble_eq_true rfl), (Nat.le_of_ble_eq_true rfl)⟩ dX11_glider_31
        · replace h := it_f c6 h
          refine g_iload hC 4 dX11_glider_22 rfl ?_
          refine g_sipush hC 999 dX11_glider_24 (by decide) ?_
          refine g_icmp_le hC 32 dX11_glider_27 (by decide) (fun c7 => ?_) (fun c7 => ?_)
          · replace h := it_t c7 h
            refine g_aload_n hC 0 dX11_glider_32 rfl ?_
            replace h := ob h; obtain ⟨v8, ev8, h⟩ := h
            refine g_getR hC ev8 fk_X11_12 rfl dX11_glider_33 ?_
            replace h := ob h; obtain ⟨a9, ea9, h⟩ := h
            subst ea9
            replace h := ob h; obtain ⟨v10, ev10, h⟩ := h
            refine g_getI hC ev10 fk_X11_112 rfl dX11_glider_36 ?_
            refine g_bipush hC 8 dX11_glider_39 (by decide) ?_
            refine g_icmp_lt hC 47 dX11_glider_41 (by decide) (fun c11 => ?_) (fun c11 => ?_)
            · replace h := it_t c11 h
              refine g_aload_n hC 0 dX11_glider_47 rfl ?_
              replace h := ob h; obtain ⟨v12, ev12, h⟩ := h
              refine g_getR hC ev12 fk_X11_12 rfl dX11_glider_48 ?_
              replace h := ob h; obtain ⟨a13, ea13, h⟩ := h
              subst ea13
              replace h := ob h; obtain ⟨v14, ev14, h⟩ := h
              refine g_getR hC ev14 fk_X11_52 rfl dX11_glider_51 ?_
              replace h := ob h; obtain ⟨a15, ea15, h⟩ := h
              subst ea15
              replace h := ob h; obtain ⟨v16, ev16, h⟩ := h
              refine g_getR hC ev16 fk_X11_116 rfl dX11_glider_54 ?_
              refine g_iload_n hC 2 dX11_glider_57 rfl ?_
              refine g_iload_n hC 3 dX11_glider_58 rfl ?_
              replace h := ob h; obtain ⟨⟨v18, M17⟩, eM17, h⟩ := h
              refine g_calli hC (r_S hC (As := [.int p2, .int p3]) (c_X11_cellOf _ Γ p2 p3 M3 M17 v18 eM17) yk_X11_cellOf lk_X11_79 rfl rfl (by simp only [List.map, cat_rf]; exact Nat.le_of_ble_eq_true rfl) hR ⟨(Nat.le_of_ble_eq_true rfl), (Nat.le_of_ble_eq_true rfl)⟩ ⟨(Nat.le_of_ble_eq_true rfl), (Nat.le_of_ble_eq_true rfl)⟩ dX11_glider_59) ?_
              replace h := ob h; obtain ⟨a20, ea20, h⟩ := h
              subst ea20
              replace h := ob h; obtain ⟨v19, ev19, h⟩ := h
              refine g_iald hC ev19 dX11_glider_62 ?_
              refine g_if_ne hC 69 dX11_glider_63 (by decide) (fun c21 => ?_) (fun c21 => ?_)
              · replace h := it_f c21 h
                refine g_aload_n hC 0 dX11_glider_69 rfl ?_
                replace h := ob h; obtain ⟨v22, ev22, h⟩ := h
                refine g_getR hC ev22 fk_X11_12 rfl dX11_glider_70 ?_
                refine g_iload_n hC 1 dX11_glider_73 rfl ?_
                refine g_iload_n hC 2 dX11_glider_74 rfl ?_
                refine g_iload_n hC 3 dX11_glider_75 rfl ?_
                replace h := ob h; obtain ⟨⟨v24, M23⟩, eM23, h⟩ := h
                refine g_calli hC (r_S hC (As := [.int p2, .int p3]) (c_X11_cellOf _ Γ p2 p3 M17 M23 v24 eM23) yk_X11_cellOf lk_X11_79 rfl rfl (by simp only [List.map, cat_rf]; exact Nat.le_of_ble_eq_true rfl) hR ⟨(Nat.le_of_ble_eq_true rfl), (Nat.le_of_ble_eq_true rfl)⟩ ⟨(Nat.le_of_ble_eq_true rfl), (Nat.le_of_ble_eq_true rfl)⟩ dX11_glider_76) ?_
                refine g_iload hC 4 dX11_glider_79 rfl ?_
                replace h := ob h; obtain ⟨a25, ea25, h⟩ := h
                subst ea25
                replace h := ob h; obtain ⟨_, eu27, h⟩ := h
                replace h := ob h; obtain ⟨⟨v28, M26⟩, eM26, h⟩ := h
                refine g_calli hC (r_V hC (As := [.int p1, .int v24, .int p4]) (c_X10_addGlider _ Γ a25 p1 v24 p4 M23 M26 v28 eM26) yk_X10_addGlider lk_X11_119 eu27 ⟨_, rfl, rfl⟩ rfl rfl (Nat.le_of_ble_eq_true rfl) hR ⟨(Nat.le_of_ble_eq_true rfl), (Nat.le_of_ble_eq_true rfl)⟩ ⟨(Nat.le_of_ble_eq_true rfl), (Nat.le_of_ble_eq_true rfl)⟩ dX11_glider_81) ?_
                exact g_iret hC h ⟨(Nat.le_of_ble_eq_true rfl), (Nat.le_of_ble_eq_true rfl)⟩ dX11_glider_84
              · replace h := it_t c21 h
                refine g_bipush hC (-3) dX11_glider_66 (by decide) ?_
                exact g_iret hC h ⟨(Nat.le_of_ble_eq_true rfl), (Nat.le_of_ble_eq_true rfl)⟩ dX11_glider_68
            · replace h := it_f c11 h
              refine g_bipush hC (-2) dX11_glider_44 (by decide) ?_
              exact g_iret hC h ⟨(Nat.le_of_ble_eq_true rfl), (Nat.le_of_ble_eq_true rfl)⟩ dX11_glider_46
          · replace h := it_f c7 h
            refine g_iconst hC (-1) dX11_glider_30 (by decide) ?_
            exact g_iret hC h ⟨(Nat.le_of_ble_eq_true rfl), (Nat.le_of_ble_eq_true rfl)⟩ dX11_glider_31

set_option maxHeartbeats 4000000 in
set_option maxRecDepth 100000 in
theorem c_X11_tellAbout (l : Launch) (Γ : Gm) (p1 : Nat) (p2 : Int32) (M M' : Mm) (r : Int32) (h : F_X11_tellAbout p1 p2 M = some (r, M')) : Met l yX11_tellAbout (wz yX11_tellAbout cX11_tellAbout 2 (some .int)) ({ frames := 1, cells := 0, slots := 0, locals := 20 } : Room) (Pq Γ M [.ref p1, .int p2]) (Qi Γ r M') 0 0 (fr Γ) := by
  refine met_of (own := RX11) (by decide +kernel) rfl (Nat.le_of_ble_eq_true rfl) ?_
  intro X hC hR hnm hXl
  unfold F_X11_tellAbout at h
  show G Γ X 2 M 0 0 _ 0 ([(0, .ref p1), (1, .int p2)]) []
  refine g_iload_n hC 1 dX11_tellAbout_0 rfl ?_
  by_cases c1 : p2 = 0
  · replace h := it_t c1 h
    refine g_tbl (off := 59) hC 60 c1 dX11_tellAbout_1 (by decide) ?_
    refine g_aload_n hC 0 dX11_tellAbout_60 rfl ?_
    replace h := ob h; obtain ⟨v2, ev2, h⟩ := h
    refine g_getI hC ev2 fk_X11_390 rfl dX11_tellAbout_61 ?_
    exact g_iret hC h ⟨(Nat.le_of_ble_eq_true rfl), (Nat.le_of_ble_eq_true rfl)⟩ dX11_tellAbout_64
  replace h := it_f c1 h
  by_cases c3 : p2 = 1
  · replace h := it_t c3 h
    refine g_tbl (off := 64) hC 65 c3 dX11_tellAbout_1 (by decide) ?_
    refine g_aload_n hC 0 dX11_tellAbout_65 rfl ?_
    replace h := ob h; obtain ⟨v4, ev4, h⟩ := h
    refine g_getI hC ev4 fk_X11_287 rfl dX11_tellAbout_66 ?_
    replace h := ob h; obtain ⟨⟨v6, M5⟩, eM5, h⟩ := h
    refine g_calli hC (r_S hC (As := [.int v4]) (c_X11_xOf _ Γ v4 M M5 v6 eM5) yk_X11_xOf lk_X11_391 rfl rfl (Nat.le_of_ble_eq_true rfl) hR ⟨(Nat.le_of_ble_eq_true rfl), (Nat.le_of_ble_eq_true rfl)⟩ ⟨(Nat.le_of_ble_eq_true rfl), (Nat.le_of_ble_eq_true rfl)⟩ dX11_tellAbout_69) ?_
    exact g_iret hC h ⟨(Nat.le_of_ble_eq_true rfl), (Nat.le_of_ble_eq_true rfl)⟩ dX11_tellAbout_72
  replace h := it_f c3 h
  by_cases c7 : p2 = 2
  · replace h := it_t c7 h
    refine g_tbl (off := 72) hC 73 c7 dX11_tellAbout_1 (by decide) ?_
    refine g_aload_n hC 0 dX11_tellAbout_73 rfl ?_
    replace h := ob h; obtain ⟨v8, ev8, h⟩ := h
    refine g_getI hC ev8 fk_X11_287 rfl dX11_tellAbout_74 ?_
    replace h := ob h; obtain ⟨⟨v10, M9⟩, eM9, h⟩ := h
    refine g_calli hC (r_S hC (As := [.int v8]) (c_X11_yOf _ Γ v8 M M9 v10 eM9) yk_X11_yOf lk_X11_394 rfl rfl (Nat.le_of_ble_eq_true rfl) hR ⟨(Nat.le_of_ble_eq_true rfl), (Nat.le_of_ble_eq_true rfl)⟩ ⟨(Nat.le_of_ble_eq_true rfl), (Nat.le_of_ble_eq_true rfl)⟩ dX11_tellAbout_77) ?_
    exact g_iret hC h ⟨(Nat.le_of_ble_eq_true rfl), (Nat.le_of_ble_eq_true rfl)⟩ dX11_tellAbout_80
  replace h := it_f c7 h
  by_cases c11 : p2 = 3
  · replace h := it_t c11 h
    refine g_tbl (off := 80) hC 81 c11 dX11_tellAbout_1 (by decide) ?_
    refine g_aload_n hC 0 dX11_tellAbout_81 rfl ?_
    replace h := ob h; obtain ⟨v12, ev12, h⟩ := h
    refine g_getI hC ev12 fk_X11_155 rfl dX11_tellAbout_82 ?_
    exact g_iret hC h ⟨(Nat.le_of_ble_eq_true rfl), (Nat.le_of_ble_eq_true rfl)⟩ dX11_tellAbout_85
  replace h := it_f c11 h
  by_cases c13 : p2 = 4
  · replace h := it_t c13 h
    refine g_tbl (off := 85) hC 86 c13 dX11_tellAbout_1 (by decide) ?_
    refine g_aload_n hC 0 dX11_tellAbout_86 rfl ?_
    replace h := ob h; obtain ⟨v14, ev14, h⟩ := h
    refine g_getI hC ev14 fk_X11_152 rfl dX11_tellAbout_87 ?_
    exact g_iret hC h ⟨(Nat.le_of_ble_eq_true rfl), (Nat.le_of_ble_eq_true rfl)⟩ dX11_tellAbout_90
  replace h := it_f c13 h
  by_cases c15 : p2 = 5
  · replace h := it_t c15 h
    refine g_tbl (off := 90) hC 91 c15 dX11_tellAbout_1 (by decide) ?_
    refine g_aload_n hC 0 dX11_tellAbout_91 rfl ?_
    replace h := ob h; obtain ⟨v16, ev16, h⟩ := h
    refine g_getI hC ev16 fk_X11_144 rfl dX11_tellAbout_92 ?_
    refine g_if_eq hC 102 dX11_tellAbout_95 (by decide) (fun c17 => ?_) (fun c17 => ?_)
    · replace h := it_t c17 h
      refine g_iconst hC 0 dX11_tellAbout_102 (by decide) ?_
      exact g_iret hC h ⟨(Nat.le_of_ble_eq_true rfl), (Nat.le_of_ble_eq_true rfl)⟩ dX11_tellAbout_103
    · replace h := it_f c17 h
      refine g_iconst hC 1 dX11_tellAbout_98 (by decide) ?_
      refine g_goto hC 103 dX11_tellAbout_99 (by decide) ?_
      exact g_iret hC h ⟨(Nat.le_of_ble_eq_true rfl), (Nat.le_of_ble_eq_true rfl)⟩ dX11_tellAbout_103
  replace h := it_f c15 h
  by_cases c18 : p2 = 6
  · replace h := it_t c18 h
    refine g_tbl (off := 103) hC 104 c18 dX11_tellAbout_1 (by decide) ?_
    refine g_aload_n hC 0 dX11_tellAbout_104 rfl ?_
    replace h := ob h; obtain ⟨v19, ev19, h⟩ := h
    refine g_getI hC ev19 fk_X11_240 rfl dX11_tellAbout_105 ?_
    exact g_iret hC h ⟨(Nat.le_of_ble_eq_true rfl), (Nat.le_of_ble_eq_true rfl)⟩ dX11_tellAbout_108
  replace h := it_f c18 h
  by_cases c20 : p2 = 7
  · replace h := it_t c20 h
    refine g_tbl (off := 108) hC 109 c20 dX11_tellAbout_1 (by decide) ?_
    refine g_aload_n hC 0 dX11_tellAbout_109 rfl ?_
    replace h := ob h; obtain ⟨v21, ev21, h⟩ := h
    refine g_getI hC ev21 fk_X11_397 rfl dX11_tellAbout_110 ?_
    exact g_iret hC h ⟨(Nat.le_of_ble_eq_true rfl), (Nat.le_of_ble_eq_true rfl)⟩ dX11_tellAbout_113
  replace h := it_f c20 h
  by_cases c22 : p2 = 8
  · replace h := it_t c22 h
    refine g_tbl (off := 113) hC 114 c22 dX11_tellAbout_1 (by decide) ?_
    refine g_aload_n hC 0 dX11_tellAbout_114 rfl ?_
    replace h := ob h; obtain ⟨v23, ev23, h⟩ := h
    refine g_getI hC ev23 fk_X11_400 rfl dX11_tellAbout_115 ?_
    exact g_iret hC h ⟨(Nat.le_of_ble_eq_true rfl), (Nat.le_of_ble_eq_true rfl)⟩ dX11_tellAbout_118
  replace h := it_f c22 h
  by_cases c24 : p2 = 9
  · replace h := it_t c24 h
    refine g_tbl (off := 118) hC 119 c24 dX11_tellAbout_1 (by decide) ?_
    refine g_aload_n hC 0 dX11_tellAbout_119 rfl ?_
    replace h := ob h; obtain ⟨v25, ev25, h⟩ := h
    refine g_getI hC ev25 fk_X11_403 rfl dX11_tellAbout_120 ?_
    exact g_iret hC h ⟨(Nat.le_of_ble_eq_true rfl), (Nat.le_of_ble_eq_true rfl)⟩ dX11_tellAbout_123
  replace h := it_f c24 h
  by_cases c26 : p2 = 10
  · replace h := it_t c26 h
    refine g_tbl (off := 123) hC 124 c26 dX11_tellAbout_1 (by decide) ?_
    refine g_aload_n hC 0 dX11_tellAbout_124 rfl ?_
    replace h := ob h; obtain ⟨v27, ev27, h⟩ := h
    refine g_getI hC ev27 fk_X11_406 rfl dX11_tellAbout_125 ?_
    refine g_if_eq hC 138 dX11_tellAbout_128 (by decide) (fun c28 => ?_) (fun c28 => ?_)
    · replace h := it_t c28 h
      refine g_bipush hC (-4) dX11_tellAbout_138 (by decide) ?_
      exact g_iret hC h ⟨(Nat.le_of_ble_eq_true rfl), (Nat.le_of_ble_eq_true rfl)⟩ dX11_tellAbout_140
    · replace h := it_f c28 h
      refine g_aload_n hC 0 dX11_tellAbout_131 rfl ?_
      replace h := ob h; obtain ⟨v29, ev29, h⟩ := h
      refine g_getI hC ev29 fk_X11_409 rfl dX11_tellAbout_132 ?_
      refine g_goto hC 140 dX11_tellAbout_135 (by decide) ?_
      exact g_iret hC h ⟨(Nat.le_of_ble_eq_true rfl), (Nat.le_of_ble_eq_true rfl)⟩ dX11_tellAbout_140
  replace h := it_f c26 h
  refine g_tbd (n := 11) hC 141 (fun j hj => ?_) (by decide) dX11_tellAbout_1 (by decide) ?_
  · match j, hj with
    | 0, _ => exact c1
    | 1, _ => exact c3
    | 2, _ => exact c7
    | 3, _ => exact c11
    | 4, _ => exact c13
    | 5, _ => exact c15
    | 6, _ => exact c18
    | 7, _ => exact c20
    | 8, _ => exact c22
    | 9, _ => exact c24
    | 10, _ => exact c26
    | j + 11, hj => exact absurd hj (by omega)
  refine g_iconst hC (-1) dX11_tellAbout_141 (by decide) ?_
  exact g_iret hC h ⟨(Nat.le_of_ble_eq_true rfl), (Nat.le_of_ble_eq_true rfl)⟩ dX11_tellAbout_142

set_option maxHeartbeats 4000000 in
set_option maxRecDepth 100000 in
theorem c_X11_about (l : Launch) (Γ : Gm) (this : Nat) (p1 : Int32) (p2 : Int32) (M M' : Mm) (r : Int32) (h : F_X11_about this p1 p2 M = some (r, M')) : Met l yX11_about (wz yX11_about cX11_about 4 (some .int)) ({ frames := 2, cells := 0, slots := 0, locals := 41 } : Room) (Pq Γ M [.ref this, .int p1, .int p2]) (Qi Γ r M') 0 0 (fr Γ) := by
  refine met_of (own := RX11) (by decide +kernel) rfl (Nat.le_of_ble_eq_true rfl) ?_
  intro X hC hR hnm hXl
  unfold F_X11_about at h
  show G Γ X 4 M 0 0 _ 0 ([(0, .ref this), (1, .int p1), (2, .int p2)]) []
  refine g_aload_n hC 0 dX11_about_0 rfl ?_
  replace h := ob h; obtain ⟨v1, ev1, h⟩ := h
  refine g_getR hC ev1 fk_X11_12 rfl dX11_about_1 ?_
  refine g_iload_n hC 1 dX11_about_4 rfl ?_
  replace h := ob h; obtain ⟨a2, ea2, h⟩ := h
  subst ea2
  replace h := ob h; obtain ⟨_, eu4, h⟩ := h
  replace h := ob h; obtain ⟨⟨v5, M3⟩, eM3, h⟩ := h
  refine g_callr hC (r_V hC (As := [.int p1]) (c_X10_gliderAt _ Γ a2 p1 M M3 v5 eM3) yk_X10_gliderAt lk_X11_123 eu4 ⟨_, rfl, rfl⟩ rfl rfl (Nat.le_of_ble_eq_true rfl) hR ⟨(Nat.le_of_ble_eq_true rfl), (Nat.le_of_ble_eq_true rfl)⟩ ⟨(Nat.le_of_ble_eq_true rfl), (Nat.le_of_ble_eq_true rfl)⟩ dX11_about_5) ?_
  refine g_astore_nq hC (x := v5) ([(3, va_rf v5), (0, .ref this), (1, .int p1), (2, .int p2)]) dX11_about_8 (by decide) rfl ?_
  refine g_aload_nq hC 0 (x := v5) dX11_about_9 rfl ?_
  refine g_ifnonnull hC 15 dX11_about_10 (by decide) (fun a6 ca6 => ?_) (fun ca6 => ?_)
  · subst ca6
    replace h := oe_s h
    refine g_aload_n hC 0 dX11_about_15 rfl ?_
    refine g_iload_n hC 3 dX11_about_16 rfl ?_
    replace h := ob h; obtain ⟨⟨v8, M7⟩, eM7, h⟩ := h
    refine g_calli hC (r_S hC (As := [.ref a6, .int p2]) (c_X11_tellAbout _ Γ a6 p2 M3 M7 v8 eM7) yk_X11_tellAbout lk_X11_127 rfl rfl (Nat.le_of_ble_eq_true rfl) hR ⟨(Nat.le_of_ble_eq_true rfl), (Nat.le_of_ble_eq_true rfl)⟩ ⟨(Nat.le_of_ble_eq_true rfl), (Nat.le_of_ble_eq_true rfl)⟩ dX11_about_17) ?_
    exact g_iret hC h ⟨(Nat.le_of_ble_eq_true rfl), (Nat.le_of_ble_eq_true rfl)⟩ dX11_about_20
  · subst ca6
    replace h := oe_n h
    refine g_iconst hC (-1) dX11_about_13 (by decide) ?_
    exact g_iret hC h ⟨(Nat.le_of_ble_eq_true rfl), (Nat.le_of_ble_eq_true rfl)⟩ dX11_about_14

set_option maxHeartbeats 4000000 in
set_option maxRecDepth 100000 in
theorem c_X11_can (l : Launch) (Γ : Gm) (this : Nat) (p1 : Int32) (p2 : Int32) (M M' : Mm) (r : Int32) (h : F_X11_can this p1 p2 M = some (r, M')) : Met l yX11_can (wz yX11_can cX11_can 4 (some .int)) ({ frames := 2, cells := 0, slots := 0, locals := 43 } : Room) (Pq Γ M [.ref this, .int p1, .int p2]) (Qi Γ r M') 0 0 (fr Γ) := by
  refine met_of (own := RX11) (by decide +kernel) rfl (Nat.le_of_ble_eq_true rfl) ?_
  intro X hC hR hnm hXl
  unfold F_X11_can at h
  show G Γ X 4 M 0 0 _ 0 ([(0, .ref this), (1, .int p1), (2, .int p2)]) []
  refine g_aload_n hC 0 dX11_can_0 rfl ?_
  replace h := ob h; obtain ⟨v1, ev1, h⟩ := h
  refine g_getR hC ev1 fk_X11_12 rfl dX11_can_1 ?_
  refine g_iload_n hC 1 dX11_can_4 rfl ?_
  replace h := ob h; obtain ⟨a2, ea2, h⟩ := h
  subst ea2
  replace h := ob h; obtain ⟨_, eu4, h⟩ := h
  replace h := ob h; obtain ⟨⟨v5, M3⟩, eM3, h⟩ := h
  refine g_callr hC (r_V hC (As := [.int p1]) (c_X10_gliderAt _ Γ a2 p1 M M3 v5 eM3) yk_X10_gliderAt lk_X11_123 eu4 ⟨_, rfl, rfl⟩ rfl rfl (Nat.le_of_ble_eq_true rfl) hR ⟨(Nat.le_of_ble_eq_true rfl), (Nat.le_of_ble_eq_true rfl)⟩ ⟨(Nat.le_of_ble_eq_true rfl), (Nat.le_of_ble_eq_true rfl)⟩ dX11_can_5) ?_
  refine g_astore_nq hC (x := v5) ([(3, va_rf v5), (0, .ref this), (1, .int p1), (2, .int p2)]) dX11_can_8 (by decide) rfl ?_
  refine g_aload_nq hC 0 (x := v5) dX11_can_9 rfl ?_
  refine g_ifnull hC 22 dX11_can_10 (by decide) (fun ca6 => ?_) (fun a6 ca6 => ?_)
  · subst ca6
    replace h := oe_n h
    refine g_iconst hC (-1) dX11_can_22 (by decide) ?_
    exact g_iret hC h ⟨(Nat.le_of_ble_eq_true rfl), (Nat.le_of_ble_eq_true rfl)⟩ dX11_can_23
  · subst ca6
    replace h := oe_s h
    refine g_iload_n hC 3 dX11_can_13 rfl ?_
    refine g_if_lt hC 22 dX11_can_14 (by decide) (fun c7 => ?_) (fun c7 => ?_)
    · replace h := it_t c7 h
      refine g_iconst hC (-1) dX11_can_22 (by decide) ?_
      exact g_iret hC h ⟨(Nat.le_of_ble_eq_true rfl), (Nat.le_of_ble_eq_true rfl)⟩ dX11_can_23
    · replace h := it_f c7 h
      refine g_iload_n hC 3 dX11_can_17 rfl ?_
      refine g_iconst hC 5 dX11_can_18 (by decide) ?_
      refine g_icmp_le hC 24 dX11_can_19 (by decide) (fun c8 => ?_) (fun c8 => ?_)
      · replace h := it_t c8 h
        refine g_iload_n hC 3 dX11_can_24 rfl ?_
        refine g_if_ne hC 33 dX11_can_25 (by decide) (fun c9 => ?_) (fun c9 => ?_)
        · replace h := it_f c9 h
          refine g_iload_n hC 3 dX11_can_33 rfl ?_
          refine g_iconst hC 1 dX11_can_34 (by decide) ?_
          refine g_icmp_ne hC 43 dX11_can_35 (by decide) (fun c10 => ?_) (fun c10 => ?_)
          · replace h := it_f c10 h
            refine g_iload_n hC 3 dX11_can_43 rfl ?_
            refine g_iconst hC 2 dX11_can_44 (by decide) ?_
            refine g_isub hC dX11_can_45 ?_
            refine g_aload_n hC 0 dX11_can_46 rfl ?_
            replace h := ob h; obtain ⟨_, eu12, h⟩ := h
            replace h := ob h; obtain ⟨⟨v13, M11⟩, eM11, h⟩ := h
            refine g_calli hC (r_V hC (As := []) (c_X0_deepest _ Γ a6 M3 M11 v13 eM11) yk_X0_deepest lk_X11_131 eu12 ⟨_, rfl, rfl⟩ rfl rfl (Nat.le_of_ble_eq_true rfl) hR ⟨(Nat.le_of_ble_eq_true rfl), (Nat.le_of_ble_eq_true rfl)⟩ ⟨(Nat.le_of_ble_eq_true rfl), (Nat.le_of_ble_eq_true rfl)⟩ dX11_can_47) ?_
            refine g_icmp_le hC 58 dX11_can_50 (by decide) (fun c14 => ?_) (fun c14 => ?_)
            · replace h := it_t c14 h
              refine g_aload_n hC 0 dX11_can_58 rfl ?_
              refine g_iload_n hC 3 dX11_can_59 rfl ?_
              refine g_iconst hC 2 dX11_can_60 (by decide) ?_
              refine g_isub hC dX11_can_61 ?_
              replace h := ob h; obtain ⟨_, eu16, h⟩ := h
              replace h := ob h; obtain ⟨⟨v17, M15⟩, eM15, h⟩ := h
              refine g_calli hC (r_V hC (As := [.int (p2 - 2)]) (c_X0_costTo _ Γ a6 (p2 - 2) M11 M15 v17 eM15) yk_X0_costTo lk_X11_140 eu16 ⟨_, rfl, rfl⟩ rfl rfl (Nat.le_of_ble_eq_true rfl) hR ⟨(Nat.le_of_ble_eq_true rfl), (Nat.le_of_ble_eq_true rfl)⟩ ⟨(Nat.le_of_ble_eq_true rfl), (Nat.le_of_ble_eq_true rfl)⟩ dX11_can_62) ?_
              exact g_iret hC h ⟨(Nat.le_of_ble_eq_true rfl), (Nat.le_of_ble_eq_true rfl)⟩ dX11_can_65
            · replace h := it_f c14 h
              refine g_bipush hC (-3) dX11_can_53 (by decide) ?_
              refine g_goto hC 65 dX11_can_55 (by decide) ?_
              exact g_iret hC h ⟨(Nat.le_of_ble_eq_true rfl), (Nat.le_of_ble_eq_true rfl)⟩ dX11_can_65
          · replace h := it_t c10 h
            refine g_aload_n hC 0 dX11_can_38 rfl ?_
            replace h := ob h; obtain ⟨_, eu19, h⟩ := h
            replace h := ob h; obtain ⟨⟨v20, M18⟩, eM18, h⟩ := h
            refine g_calli hC (r_V hC (As := []) (c_X0_reach _ Γ a6 M3 M18 v20 eM18) yk_X0_reach lk_X11_137 eu19 ⟨_, rfl, rfl⟩ rfl rfl (Nat.le_of_ble_eq_true rfl) hR ⟨(Nat.le_of_ble_eq_true rfl), (Nat.le_of_ble_eq_true rfl)⟩ ⟨(Nat.le_of_ble_eq_true rfl), (Nat.le_of_ble_eq_true rfl)⟩ dX11_can_39) ?_
            exact g_iret hC h ⟨(Nat.le_of_ble_eq_true rfl), (Nat.le_of_ble_eq_true rfl)⟩ dX11_can_42
        · replace h := it_t c9 h
          refine g_aload_n hC 0 dX11_can_28 rfl ?_
          replace h := ob h; obtain ⟨_, eu22, h⟩ := h
          replace h := ob h; obtain ⟨⟨v23, M21⟩, eM21, h⟩ := h
          refine g_calli hC (r_V hC (As := []) (c_X0_deepest _ Γ a6 M3 M21 v23 eM21) yk_X0_deepest lk_X11_131 eu22 ⟨_, rfl, rfl⟩ rfl rfl (Nat.le_of_ble_eq_true rfl) hR ⟨(Nat.le_of_ble_eq_true rfl), (Nat.le_of_ble_eq_true rfl)⟩ ⟨(Nat.le_of_ble_eq_true rfl), (Nat.le_of_ble_eq_true rfl)⟩ dX11_can_29) ?_
          exact g_iret hC h ⟨(Nat.le_of_ble_eq_true rfl), (Nat.le_of_ble_eq_true rfl)⟩ dX11_can_32
      · replace h := it_f c8 h
        refine g_iconst hC (-1) dX11_can_22 (by decide) ?_
        exact g_iret hC h ⟨(Nat.le_of_ble_eq_true rfl), (Nat.le_of_ble_eq_true rfl)⟩ dX11_can_23
