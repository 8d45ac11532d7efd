set_option maxHeartbeats 4000000 in
set_option maxRecDepth 100000 in
theorem c_X0_init (l : Launch) (Γ : Gm) (this : Nat) (M M' : Mm) (h : F_X0_init this M = some M') : Met l yX0_init (wz yX0_init cX0_init 1 none) ({ frames := 1, cells := 1, slots := 400, locals := 20 } : Room) (Pq Γ M [.ref this]) (Qv Γ M') 1 400 (fr Γ) := by
  refine met_of (own := RX0) (by decide +kernel) rfl (Nat.le_of_ble_eq_true rfl) ?_
  intro X hC hR hnm hXl
  unfold F_X0_init at h
  show G Γ X 1 M 0 0 _ 0 ([(0, .ref this)]) []
  refine g_aload_n hC 0 dX0_init_0 rfl ?_
  refine g_objInit hC ok_X0_3 hR (Nat.le_of_ble_eq_true rfl) ⟨(Nat.le_of_ble_eq_true rfl), (Nat.le_of_ble_eq_true rfl)⟩ dX0_init_1 ?_
  refine g_aload_n hC 0 dX0_init_4 rfl ?_
  refine g_sipush hC 400 dX0_init_5 (by decide) ?_
  replace h := nv_e h; obtain ⟨a1, ea1, h⟩ := h
  replace h := nv_e h; obtain ⟨M2, eM2, h⟩ := h
  refine g_newI2 (N := 400) hC ea1 eM2 ak_int (by decide) (by rw [hR]; exact ⟨(Nat.le_of_ble_eq_true rfl), (Nat.le_of_ble_eq_true rfl)⟩) dX0_init_8 ?_
  replace h := ob h; obtain ⟨M3, eM3, h⟩ := h
  refine g_putFR (v := (some a1)) hC eM3 fk_X0_9 (ow_0 rfl) (hnm.trans rfl) (Or.inr ⟨_, rfl⟩) rfl dX0_init_10 ?_
  exact g_vret hC h ⟨(Nat.le_of_ble_eq_true rfl), (Nat.le_of_ble_eq_true rfl)⟩ dX0_init_13

set_option maxHeartbeats 4000000 in
set_option maxRecDepth 100000 in
theorem l_J7_fill_53178_L5 {Γ : Gm} {X : Ct} (hC : Cx Γ X cJ7_fill_53178 RJ7 none 4) (hR : X.2.2.2.1 = ({ frames := 0, cells := 0, slots := 0, locals := 0 } : Room)) (M' : Mm)  (x0 : Nat) (x1 : Int32) (x3 : Int32) : ∀ (fu : Nat) (x2 : Int32) (M0 : Mm), F_J7_fill_53178_L5 x0 x1 x3 fu x2 M0 = some M' → G Γ X 4 M0 0 0 (Fin Γ X (Qv Γ M') 0 0) 5 ([(0, .ref x0), (1, .int x1), (3, .int x3), (2, .int x2)]) [] := by
  intro fu
  induction fu with
  | zero =>
    intro x2 M0 h
    rw [F_J7_fill_53178_L5] at h
    cases h
  | succ n2 ih =>
    intro x2 M0 h
    rw [F_J7_fill_53178_L5] at h
    refine g_iload_n hC 3 dJ7_fill_53178_5 rfl ?_
    refine g_iload_n hC 2 dJ7_fill_53178_6 rfl ?_
    refine g_icmp_ge hC 20 dJ7_fill_53178_7 (by decide) (fun c3 => ?_) (fun c3 => ?_)
    · replace h := it_t c3 h
      exact g_vret hC h ⟨(Nat.le_of_ble_eq_true rfl), (Nat.le_of_ble_eq_true rfl)⟩ dJ7_fill_53178_20
    · replace h := it_f c3 h
      refine g_aload_n hC 0 dJ7_fill_53178_10 rfl ?_
      refine g_iload_n hC 3 dJ7_fill_53178_11 rfl ?_
      refine g_iload_n hC 1 dJ7_fill_53178_12 rfl ?_
      replace h := ob h; obtain ⟨M4, eM4, h⟩ := h
      refine g_iast hC eM4 dJ7_fill_53178_13 ?_
      refine g_iinc hC 3 (x2 + 1) ([(2, .int (x2 + 1)), (0, .ref x0), (1, .int x1), (3, .int x3)]) dJ7_fill_53178_14 rfl rfl (by decide) rfl ?_
      refine g_goto hC 5 dJ7_fill_53178_17 (by decide) ?_
      refine g_sub [1, 2, 3, 0] rfl ?_
      exact ih (x2 + 1) M4 h
set_option maxHeartbeats 4000000 in
set_option maxRecDepth 100000 in
theorem c_J7_fill_53178 (l : Launch) (Γ : Gm) (p1 : Nat) (p2 : Int32) (M M' : Mm) (h : F_J7_fill_53178 p1 p2 M = some M') : Met l yJ7_fill_53178 (wz yJ7_fill_53178 cJ7_fill_53178 4 none) ({ frames := 0, cells := 0, slots := 0, locals := 0 } : Room) (Pq Γ M [.ref p1, .int p2]) (Qv Γ M') 0 0 (fr Γ) := by
  refine met_of (own := RJ7) (by decide +kernel) rfl (Nat.le_of_ble_eq_true rfl) ?_
  intro X hC hR hnm hXl
  unfold F_J7_fill_53178 at h
  show G Γ X 4 M 0 0 _ 0 ([(0, .ref p1), (1, .int p2)]) []
  refine g_iconst hC 0 dJ7_fill_53178_0 (by decide) ?_
  refine g_istore_n hC ([(2, .int 0), (0, .ref p1), (1, .int p2)]) dJ7_fill_53178_1 (by decide) rfl ?_
  refine g_aload_n hC 1 dJ7_fill_53178_2 rfl ?_
  replace h := ob h; obtain ⟨v1, ev1, h⟩ := h
  refine g_alen hC ev1 dJ7_fill_53178_3 ?_
  refine g_istore_n hC ([(3, .int v1), (2, .int 0), (0, .ref p1), (1, .int p2)]) dJ7_fill_53178_4 (by decide) rfl ?_
  refine g_sub [2, 3, 0, 1] rfl ?_
  refine l_J7_fill_53178_L5 hC hR M'  _ _ _  _ _ _ h

set_option maxHeartbeats 4000000 in
set_option maxRecDepth 100000 in
theorem c_X0_begin (l : Launch) (Γ : Gm) (this : Nat) (p1 : Int32) (p2 : Int32) (p3 : Int32) (M M' : Mm) (h : F_X0_begin this p1 p2 p3 M = some M') : Met l yX0_begin (wz yX0_begin cX0_begin 4 none) ({ frames := 1, cells := 0, slots := 0, locals := 23 } : Room) (Pq Γ M [.ref this, .int p1, .int p2, .int p3]) (Qv Γ M') 0 0 (fr Γ) := by
  refine met_of (own := RX0) (by decide +kernel) rfl (Nat.le_of_ble_eq_true rfl) ?_
  intro X hC hR hnm hXl
  unfold F_X0_begin at h
  show G Γ X 4 M 0 0 _ 0 ([(0, .ref this), (1, .int p1), (2, .int p2), (3, .int p3)]) []
  refine g_aload_n hC 0 dX0_begin_0 rfl ?_
  refine g_iload_n hC 1 dX0_begin_1 rfl ?_
  replace h := ob h; obtain ⟨M1, eM1, h⟩ := h
  refine g_putI hC eM1 fk_X0_15 rfl dX0_begin_2 ?_
  refine g_aload_n hC 0 dX0_begin_5 rfl ?_
  refine g_iload_n hC 2 dX0_begin_6 rfl ?_
  replace h := ob h; obtain ⟨M2, eM2, h⟩ := h
  refine g_putI hC eM2 fk_X0_19 rfl dX0_begin_7 ?_
  refine g_aload_n hC 0 dX0_begin_10 rfl ?_
  refine g_iload_n hC 3 dX0_begin_11 rfl ?_
  replace h := ob h; obtain ⟨M3, eM3, h⟩ := h
  refine g_putI hC eM3 fk_X0_22 rfl dX0_begin_12 ?_
  refine g_aload_n hC 0 dX0_begin_15 rfl ?_
  refine g_iconst hC 0 dX0_begin_16 (by decide) ?_
  replace h := ob h; obtain ⟨M4, eM4, h⟩ := h
  refine g_putI hC eM4 fk_X0_25 rfl dX0_begin_17 ?_
  refine g_aload_n hC 0 dX0_begin_20 rfl ?_
  refine g_iconst hC 0 dX0_begin_21 (by decide) ?_
  replace h := ob h; obtain ⟨M5, eM5, h⟩ := h
  refine g_putZ hC eM5 fk_X0_28 rfl dX0_begin_22 ?_
  refine g_aload_n hC 0 dX0_begin_25 rfl ?_
  refine g_iconst hC 0 dX0_begin_26 (by decide) ?_
  replace h := ob h; obtain ⟨M6, eM6, h⟩ := h
  refine g_putI hC eM6 fk_X0_32 rfl dX0_begin_27 ?_
  refine g_aload_n hC 0 dX0_begin_30 rfl ?_
  refine g_bipush hC (-4) dX0_begin_31 (by decide) ?_
  replace h := ob h; obtain ⟨M7, eM7, h⟩ := h
  refine g_putI hC eM7 fk_X0_35 rfl dX0_begin_33 ?_
  refine g_aload_n hC 0 dX0_begin_36 rfl ?_
  refine g_bipush hC (-4) dX0_begin_37 (by decide) ?_
  replace h := ob h; obtain ⟨M8, eM8, h⟩ := h
  refine g_putI hC eM8 fk_X0_38 rfl dX0_begin_39 ?_
  refine g_aload_n hC 0 dX0_begin_42 rfl ?_
  refine g_iconst hC 0 dX0_begin_43 (by decide) ?_
  replace h := ob h; obtain ⟨M9, eM9, h⟩ := h
  refine g_putI hC eM9 fk_X0_41 rfl dX0_begin_44 ?_
  refine g_aload_n hC 0 dX0_begin_47 rfl ?_
  refine g_iconst hC 0 dX0_begin_48 (by decide) ?_
  replace h := ob h; obtain ⟨M10, eM10, h⟩ := h
  refine g_putI hC eM10 fk_X0_44 rfl dX0_begin_49 ?_
  refine g_aload_n hC 0 dX0_begin_52 rfl ?_
  refine g_iconst hC 0 dX0_begin_53 (by decide) ?_
  replace h := ob h; obtain ⟨M11, eM11, h⟩ := h
  refine g_putZ hC eM11 fk_X0_47 rfl dX0_begin_54 ?_
  refine g_aload_n hC 0 dX0_begin_57 rfl ?_
  replace h := ob h; obtain ⟨v12, ev12, h⟩ := h
  refine g_getR hC ev12 fk_X0_9 rfl dX0_begin_58 ?_
  refine g_bipush hC (-4) dX0_begin_61 (by decide) ?_
  replace h := ob h; obtain ⟨a13, ea13, h⟩ := h
  subst ea13
  replace h := ob h; obtain ⟨M14, eM14, h⟩ := h
  refine g_callv hC (r_S hC (As := [.ref a13, .int (-4)]) (c_J7_fill_53178 _ Γ a13 (-4) M11 M14 eM14) yk_J7_fill_53178 lk_X0_50 rfl rfl (Nat.le_of_ble_eq_true rfl) hR ⟨(Nat.le_of_ble_eq_true rfl), (Nat.le_of_ble_eq_true rfl)⟩ ⟨(Nat.le_of_ble_eq_true rfl), (Nat.le_of_ble_eq_true rfl)⟩ dX0_begin_63) ?_
  exact g_vret hC h ⟨(Nat.le_of_ble_eq_true rfl), (Nat.le_of_ble_eq_true rfl)⟩ dX0_begin_66

set_option maxHeartbeats 4000000 in
set_option maxRecDepth 100000 in
theorem c_X11_copyAll (l : Launch) (Γ : Gm) (p1 : Nat) (p2 : Nat) (M M' : Mm) (h : F_X11_copyAll p1 p2 M = some M') : Met l yX11_copyAll (wz yX11_copyAll cX11_copyAll 2 none) ({ frames := 1, cells := 0, slots := 0, locals := 26 } : Room) (Pq Γ M [.ref p1, .ref p2]) (Qv Γ M') 0 0 (fr Γ) := by
  refine met_of (own := RX11) (by decide +kernel) rfl (Nat.le_of_ble_eq_true rfl) ?_
  intro X hC hR hnm hXl
  unfold F_X11_copyAll at h
  show G Γ X 2 M 0 0 _ 0 ([(0, .ref p1), (1, .ref p2)]) []
  refine g_aload_n hC 0 dX11_copyAll_0 rfl ?_
  refine g_iconst hC 0 dX11_copyAll_1 (by decide) ?_
  refine g_aload_n hC 1 dX11_copyAll_2 rfl ?_
  refine g_iconst hC 0 dX11_copyAll_3 (by decide) ?_
  refine g_aload_n hC 0 dX11_copyAll_4 rfl ?_
  replace h := ob h; obtain ⟨v1, ev1, h⟩ := h
  refine g_alen hC ev1 dX11_copyAll_5 ?_
  refine g_aload_n hC 1 dX11_copyAll_6 rfl ?_
  replace h := ob h; obtain ⟨v2, ev2, h⟩ := h
  refine g_alen hC ev2 dX11_copyAll_7 ?_
  refine g_min hC lk_X11_417 hR (Nat.le_of_ble_eq_true rfl) ⟨(Nat.le_of_ble_eq_true rfl), (Nat.le_of_ble_eq_true rfl), (Nat.le_of_ble_eq_true rfl), (Nat.le_of_ble_eq_true rfl)⟩ dX11_copyAll_8 ?_
  replace h := ob h; obtain ⟨M3, eM3, h⟩ := h
  refine g_copy hC eM3 lk_X11_358 hR (Nat.le_of_ble_eq_true rfl) ⟨(Nat.le_of_ble_eq_true rfl), (Nat.le_of_ble_eq_true rfl)⟩ dX11_copyAll_11 ?_
  exact g_vret hC h ⟨(Nat.le_of_ble_eq_true rfl), (Nat.le_of_ble_eq_true rfl)⟩ dX11_copyAll_14

set_option maxHeartbeats 4000000 in
set_option maxRecDepth 100000 in
theorem c_X0_become (l : Launch) (Γ : Gm) (this : Nat) (p1 : Nat) (M M' : Mm) (h : F_X0_become this p1 M = some M') : Met l yX0_become (wz yX0_become cX0_become 2 none) ({ frames := 2, cells := 0, slots := 0, locals := 47 } : Room) (Pq Γ M [.ref this, .ref p1]) (Qv Γ M') 0 0 (fr Γ) := by
  refine met_of (own := RX0) (by decide +kernel) rfl (Nat.le_of_ble_eq_true rfl) ?_
  intro X hC hR hnm hXl
  unfold F_X0_become at h
  show G Γ X 2 M 0 0 _ 0 ([(0, .ref this), (1, .ref p1)]) []
  refine g_aload_n hC 0 dX0_become_0 rfl ?_
  refine g_aload_n hC 1 dX0_become_1 rfl ?_
  replace h := ob h; obtain ⟨v1, ev1, h⟩ := h
  refine g_getI hC ev1 fk_X0_15 rfl dX0_become_2 ?_
  replace h := ob h; obtain ⟨M2, eM2, h⟩ := h
  refine g_putI hC eM2 fk_X0_15 rfl dX0_become_5 ?_
  refine g_aload_n hC 0 dX0_become_8 rfl ?_
  refine g_aload_n hC 1 dX0_become_9 rfl ?_
  replace h := ob h; obtain ⟨v3, ev3, h⟩ := h
  refine g_getI hC ev3 fk_X0_19 rfl dX0_become_10 ?_
  replace h := ob h; obtain ⟨M4, eM4, h⟩ := h
  refine g_putI hC eM4 fk_X0_19 rfl dX0_become_13 ?_
  refine g_aload_n hC 0 dX0_become_16 rfl ?_
  refine g_aload_n hC 1 dX0_become_17 rfl ?_
  replace h := ob h; obtain ⟨v5, ev5, h⟩ := h
  refine g_getI hC ev5 fk_X0_22 rfl dX0_become_18 ?_
  replace h := ob h; obtain ⟨M6, eM6, h⟩ := h
  refine g_putI hC eM6 fk_X0_22 rfl dX0_become_21 ?_
  refine g_aload_n hC 0 dX0_become_24 rfl ?_
  refine g_aload_n hC 1 dX0_become_25 rfl ?_
  replace h := ob h; obtain ⟨v7, ev7, h⟩ := h
  refine g_getI hC ev7 fk_X0_25 rfl dX0_become_26 ?_
  replace h := ob h; obtain ⟨M8, eM8, h⟩ := h
  refine g_putI hC eM8 fk_X0_25 rfl dX0_become_29 ?_
  refine g_aload_n hC 0 dX0_become_32 rfl ?_
  refine g_aload_n hC 1 dX0_become_33 rfl ?_
  replace h := ob h; obtain ⟨v9, ev9, h⟩ := h
  refine g_getI hC ev9 fk_X0_28 rfl dX0_become_34 ?_
  replace h := ob h; obtain ⟨M10, eM10, h⟩ := h
  refine g_putZ hC eM10 fk_X0_28 rfl dX0_become_37 ?_
  refine g_aload_n hC 0 dX0_become_40 rfl ?_
  refine g_aload_n hC 1 dX0_become_41 rfl ?_
  replace h := ob h; obtain ⟨v11, ev11, h⟩ := h
  refine g_getI hC ev11 fk_X0_32 rfl dX0_become_42 ?_
  replace h := ob h; obtain ⟨M12, eM12, h⟩ := h
  refine g_putI hC eM12 fk_X0_32 rfl dX0_become_45 ?_
  refine g_aload_n hC 0 dX0_become_48 rfl ?_
  refine g_aload_n hC 1 dX0_become_49 rfl ?_
  replace h := ob h; obtain ⟨v13, ev13, h⟩ := h
  refine g_getI hC ev13 fk_X0_35 rfl dX0_become_50 ?_
  replace h := ob h; obtain ⟨M14, eM14, h⟩ := h
  refine g_putI hC eM14 fk_X0_35 rfl dX0_become_53 ?_
  refine g_aload_n hC 0 dX0_become_56 rfl ?_
  refine g_aload_n hC 1 dX0_become_57 rfl ?_
  replace h := ob h; obtain ⟨v15, ev15, h⟩ := h
  refine g_getI hC ev15 fk_X0_38 rfl dX0_become_58 ?_
  replace h := ob h; obtain ⟨M16, eM16, h⟩ := h
  refine g_putI hC eM16 fk_X0_38 rfl dX0_become_61 ?_
  refine g_aload_n hC 0 dX0_become_64 rfl ?_
  refine g_aload_n hC 1 dX0_become_65 rfl ?_
  replace h := ob h; obtain ⟨v17, ev17, h⟩ := h
  refine g_getI hC ev17 fk_X0_41 rfl dX0_become_66 ?_
  replace h := ob h; obtain ⟨M18, eM18, h⟩ := h
  refine g_putI hC eM18 fk_X0_41 rfl dX0_become_69 ?_
  refine g_aload_n hC 0 dX0_become_72 rfl ?_
  refine g_aload_n hC 1 dX0_become_73 rfl ?_
  replace h := ob h; obtain ⟨v19, ev19, h⟩ := h
  refine g_getI hC ev19 fk_X0_44 rfl dX0_become_74 ?_
  replace h := ob h; obtain ⟨M20, eM20, h⟩ := h
  refine g_putI hC eM20 fk_X0_44 rfl dX0_become_77 ?_
  refine g_aload_n hC 0 dX0_become_80 rfl ?_
  refine g_aload_n hC 1 dX0_become_81 rfl ?_
  replace h := ob h; obtain ⟨v21, ev21, h⟩ := h
  refine g_getI hC ev21 fk_X0_47 rfl dX0_become_82 ?_
  replace h := ob h; obtain ⟨M22, eM22, h⟩ := h
  refine g_putZ hC eM22 fk_X0_47 rfl dX0_become_85 ?_
  refine g_aload_n hC 1 dX0_become_88 rfl ?_
  replace h := ob h; obtain ⟨v23, ev23, h⟩ := h
  refine g_getR hC ev23 fk_X0_9 rfl dX0_become_89 ?_
  refine g_aload_n hC 0 dX0_become_92 rfl ?_
  replace h := ob h; obtain ⟨v24, ev24, h⟩ := h
  refine g_getR hC ev24 fk_X0_9 rfl dX0_become_93 ?_
  replace h := ob h; obtain ⟨a25, ea25, h⟩ := h
  subst ea25
  replace h := ob h; obtain ⟨a26, ea26, h⟩ := h
  subst ea26
  replace h := ob h; obtain ⟨M27, eM27, h⟩ := h
  refine g_callv hC (r_SN hC (As := [.ref a26, .ref a25]) (c_X11_copyAll _ Γ a26 a25 M22 M27 eM27) yk_X11_copyAll lk_X0_56 rfl rfl (Nat.le_of_ble_eq_true rfl) hR ⟨(Nat.le_of_ble_eq_true rfl), (Nat.le_of_ble_eq_true rfl)⟩ ⟨(Nat.le_of_ble_eq_true rfl), (Nat.le_of_ble_eq_true rfl)⟩ dX0_become_96) ?_
  exact g_vret hC h ⟨(Nat.le_of_ble_eq_true rfl), (Nat.le_of_ble_eq_true rfl)⟩ dX0_become_99

set_option maxHeartbeats 4000000 in
set_option maxRecDepth 100000 in
theorem c_X0_deepest (l : Launch) (Γ : Gm) (this : Nat) (M M' : Mm) (r : Int32) (h : F_X0_deepest this M = some (r, M')) : Met l yX0_deepest (wz yX0_deepest cX0_deepest 1 (some .int)) ({ frames := 0, cells := 0, slots := 0, locals := 0 } : Room) (Pq Γ M [.ref this]) (Qi Γ r M') 0 0 (fr Γ) := by
  refine met_of (own := RX0) (by decide +kernel) rfl (Nat.le_of_ble_eq_true rfl) ?_
  intro X hC hR hnm hXl
  unfold F_X0_deepest at h
  show G Γ X 1 M 0 0 _ 0 ([(0, .ref this)]) []
  refine g_getsN hC 0 (by decide) sk_X0_60 dX0_deepest_0 ?_
  refine g_aload_n hC 0 dX0_deepest_3 rfl ?_
  replace h := ob h; obtain ⟨v1, ev1, h⟩ := h
  refine g_getI hC ev1 fk_X0_15 rfl dX0_deepest_4 ?_
  replace h := ob h; obtain ⟨v2, ev2, h⟩ := h
  refine g_sald hC (by decide) ev2 dX0_deepest_7 ?_
  exact g_iret hC h ⟨(Nat.le_of_ble_eq_true rfl), (Nat.le_of_ble_eq_true rfl)⟩ dX0_deepest_8

set_option maxHeartbeats 4000000 in
set_option maxRecDepth 100000 in
theorem c_X0_reach (l : Launch) (Γ : Gm) (this : Nat) (M M' : Mm) (r : Int32) (h : F_X0_reach this M = some (r, M')) : Met l yX0_reach (wz yX0_reach cX0_reach 1 (some .int)) ({ frames := 0, cells := 0, slots := 0, locals := 0 } : Room) (Pq Γ M [.ref this]) (Qi Γ r M') 0 0 (fr Γ) := by
  refine met_of (own := RX0) (by decide +kernel) rfl (Nat.le_of_ble_eq_true rfl) ?_
  intro X hC hR hnm hXl
  unfold F_X0_reach at h
  show G Γ X 1 M 0 0 _ 0 ([(0, .ref this)]) []
  refine g_getsN hC 1 (by decide) sk_X0_63 dX0_reach_0 ?_
  refine g_aload_n hC 0 dX0_reach_3 rfl ?_
  replace h := ob h; obtain ⟨v1, ev1, h⟩ := h
  refine g_getI hC ev1 fk_X0_15 rfl dX0_reach_4 ?_
  replace h := ob h; obtain ⟨v2, ev2, h⟩ := h
  refine g_sald hC (by decide) ev2 dX0_reach_7 ?_
  exact g_iret hC h ⟨(Nat.le_of_ble_eq_true rfl), (Nat.le_of_ble_eq_true rfl)⟩ dX0_reach_8

set_option maxHeartbeats 4000000 in
set_option maxRecDepth 100000 in
theorem c_X11_costOf (l : Launch) (Γ : Gm) (p1 : Int32) (p2 : Int32) (M M' : Mm) (r : Int32) (h : F_X11_costOf p1 p2 M = some (r, M')) : Met l yX11_costOf (wz yX11_costOf cX11_costOf 3 (some .int)) ({ frames := 0, cells := 0, slots := 0, locals := 0 } : Room) (Pq Γ M [.int p1, .int p2]) (Qi Γ r M') 0 0 (fr Γ) := by
  refine met_of (own := RX11) (by decide +kernel) rfl (Nat.le_of_ble_eq_true rfl) ?_
  intro X hC hR hnm hXl
  unfold F_X11_costOf at h
  show G Γ X 3 M 0 0 _ 0 ([(0, .int p1), (1, .int p2)]) []
  refine g_iconst hC 4 dX11_costOf_0 (by decide) ?_
  refine g_iconst hC 2 dX11_costOf_1 (by decide) ?_
  refine g_iload_n hC 1 dX11_costOf_2 rfl ?_
  refine g_imul hC dX11_costOf_3 ?_
  refine g_iadd hC dX11_costOf_4 ?_
  refine g_istore_n hC ([(2, .int (4 + (2 * p2))), (0, .int p1), (1, .int p2)]) dX11_costOf_5 (by decide) rfl ?_
  refine g_iload_n hC 1 dX11_costOf_6 rfl ?_
  by_cases c1 : p1 = 1
  · replace h := it_t c1 h
    refine g_tbl (off := 25) hC 32 c1 dX11_costOf_7 (by decide) ?_
    refine g_iload_n hC 0 dX11_costOf_32 rfl ?_
    refine g_iconst hC 2 dX11_costOf_33 (by decide) ?_
    replace h := ob h; obtain ⟨v2, ev2, h⟩ := h
    refine g_idiv hC ev2 dX11_costOf_34 ?_
    exact g_iret hC h ⟨(Nat.le_of_ble_eq_true rfl), (Nat.le_of_ble_eq_true rfl)⟩ dX11_costOf_35
  replace h := it_f c1 h
  by_cases c3 : p1 = 2
  · replace h := it_t c3 h
    refine g_tbl (off := 29) hC 36 c3 dX11_costOf_7 (by decide) ?_
    refine g_iload_n hC 0 dX11_costOf_36 rfl ?_
    refine g_iconst hC 1 dX11_costOf_37 (by decide) ?_
    refine g_isub hC dX11_costOf_38 ?_
    exact g_iret hC h ⟨(Nat.le_of_ble_eq_true rfl), (Nat.le_of_ble_eq_true rfl)⟩ dX11_costOf_39
  replace h := it_f c3 h
  by_cases c4 : p1 = 3
  · replace h := it_t c4 h
    refine g_tbl (off := 33) hC 40 c4 dX11_costOf_7 (by decide) ?_
    refine g_iload_n hC 0 dX11_costOf_40 rfl ?_
    refine g_iconst hC 2 dX11_costOf_41 (by decide) ?_
    replace h := ob h; obtain ⟨v5, ev5, h⟩ := h
    refine g_idiv hC ev5 dX11_costOf_42 ?_
    refine g_iconst hC 1 dX11_costOf_43 (by decide) ?_
    refine g_iadd hC dX11_costOf_44 ?_
    exact g_iret hC h ⟨(Nat.le_of_ble_eq_true rfl), (Nat.le_of_ble_eq_true rfl)⟩ dX11_costOf_45
  replace h := it_f c4 h
  refine g_tbd (n := 3) hC 46 (fun j hj => ?_) (by decide) dX11_costOf_7 (by decide) ?_
  · match j, hj with
    | 0, _ => exact c1
    | 1, _ => exact c3
    | 2, _ => exact c4
    | j + 3, hj => exact absurd hj (by omega)
  refine g_iload_n hC 0 dX11_costOf_46 rfl ?_
  exact g_iret hC h ⟨(Nat.le_of_ble_eq_true rfl), (Nat.le_of_ble_eq_true rfl)⟩ dX11_costOf_47

set_option maxHeartbeats 4000000 in
set_option maxRecDepth 100000 in
theorem c_X0_costTo (l : Launch) (Γ : Gm) (this : Nat) (p1 : Int32) (M M' : Mm) (r : Int32) (h : F_X0_costTo this p1 M = some (r, M')) : Met l yX0_costTo (wz yX0_costTo cX0_costTo 2 (some .int)) ({ frames := 1, cells := 0, slots := 0, locals := 22 } : Room) (Pq Γ M [.ref this, .int p1]) (Qi Γ r M') 0 0 (fr Γ) := by
  refine met_of (own := RX0) (by decide +kernel) rfl (Nat.le_of_ble_eq_true rfl) ?_
  intro X hC hR hnm hXl
  unfold F_X0_costTo at h
  show G Γ X 2 M 0 0 _ 0 ([(0, .ref this), (1, .int p1)]) []
  refine g_aload_n hC 0 dX0_costTo_0 rfl ?_
  replace h := ob h; obtain ⟨v1, ev1, h⟩ := h
  refine g_getI hC ev1 fk_X0_15 rfl dX0_costTo_1 ?_
  refine g_iload_n hC 1 dX0_costTo_4 rfl ?_
  replace h := ob h; obtain ⟨⟨v3, M2⟩, eM2, h⟩ := h
  refine g_calli hC (r_SN hC (As := [.int v1, .int p1]) (c_X11_costOf _ Γ v1 p1 M M2 v3 eM2) yk_X11_costOf lk_X0_66 rfl rfl (Nat.le_of_ble_eq_true rfl) hR ⟨(Nat.le_of_ble_eq_true rfl), (Nat.le_of_ble_eq_true rfl)⟩ ⟨(Nat.le_of_ble_eq_true rfl), (Nat.le_of_ble_eq_true rfl)⟩ dX0_costTo_5) ?_
  refine g_aload_n hC 0 dX0_costTo_8 rfl ?_
  replace h := ob h; obtain ⟨v4, ev4, h⟩ := h
  refine g_getI hC ev4 fk_X0_28 rfl dX0_costTo_9 ?_
  replace h := nv_e h; obtain ⟨v5, ev5, h⟩ := h
  have J6 : G Γ X 2 M2 0 0 (Fin Γ X (Qi Γ r M') 0 0) 20 ([(0, .ref this), (1, .int p1)]) ([.int v5, .int v3]) := by
    refine g_iadd hC dX0_costTo_20 ?_
    exact g_iret hC h ⟨(Nat.le_of_ble_eq_true rfl), (Nat.le_of_ble_eq_true rfl)⟩ dX0_costTo_21
  refine g_if_eq hC 19 dX0_costTo_12 (by decide) (fun c7 => ?_) (fun c7 => ?_)
  · refine g_iconst hC 0 dX0_costTo_19 (by decide) ?_
    rw [show v5 = _ from ev5.trans (if_pos c7)] at J6
    exact J6
  · refine g_iconst hC 3 dX0_costTo_15 (by decide) ?_
    refine g_goto hC 20 dX0_costTo_16 (by decide) ?_
    rw [show v5 = _ from ev5.trans (if_neg c7)] at J6
    exact J6

set_option maxHeartbeats 4000000 in
set_option maxRecDepth 100000 in
theorem c_X0_mayDive (l : Launch) (Γ : Gm) (this : Nat) (p1 : Int32) (p2 : Int32) (p3 : Int32) (M M' : Mm) (r : Int32) (h : F_X0_mayDive this p1 p2 p3 M = some (r, M')) : Met l yX0_mayDive (wz yX0_mayDive cX0_mayDive 5 (some .boolean)) ({ frames := 1, cells := 0, slots := 0, locals := 21 } : Room) (Pq Γ M [.ref this, .int p1, .int p2, .int p3]) (Qi Γ r M') 0 0 (fr Γ) := by
  refine met_of (own := RX0) (by decide +kernel) rfl (Nat.le_of_ble_eq_true rfl) ?_
  intro X hC hR hnm hXl
  unfold F_X0_mayDive at h
  show G Γ X 5 M 0 0 _ 0 ([(0, .ref this), (1, .int p1), (2, .int p2), (3, .int p3)]) []
  refine g_aload_n hC 0 dX0_mayDive_0 rfl ?_
  replace h := ob h; obtain ⟨_, eu2, h⟩ := h
  replace h := ob h; obtain ⟨⟨v3, M1⟩, eM1, h⟩ := h
  refine g_calli hC (r_V hC (As := []) (c_X0_reach _ Γ this M M1 v3 eM1) yk_X0_reach lk_X0_70 eu2 ⟨_, rfl, rfl⟩ rfl rfl (Nat.le_of_ble_eq_true rfl) hR ⟨(Nat.le_of_ble_eq_true rfl), (Nat.le_of_ble_eq_true rfl)⟩ ⟨(Nat.le_of_ble_eq_true rfl), (Nat.le_of_ble_eq_true rfl)⟩ dX0_mayDive_1) ?_
  refine g_istore hC ([(4, .int v3), (0, .ref this), (1, .int p1), (2, .int p2), (3, .int p3)]) dX0_mayDive_4 (by decide) rfl ?_
  refine g_iload_n hC 2 dX0_mayDive_6 rfl ?_
  refine g_if_lt hC 62 dX0_mayDive_7 (by decide) (fun c4 => ?_) (fun c4 => ?_)
  · replace h := it_t c4 h
    refine g_iconst hC 0 dX0_mayDive_62 (by decide) ?_
    exact g_zret hC (by decide) h ⟨(Nat.le_of_ble_eq_true rfl), (Nat.le_of_ble_eq_true rfl)⟩ dX0_mayDive_63
  · replace h := it_f c4 h
    refine g_iload_n hC 2 dX0_mayDive_10 rfl ?_
    refine g_aload_n hC 1 dX0_mayDive_11 rfl ?_
    replace h := ob h; obtain ⟨_, eu6, h⟩ := h
    replace h := ob h; obtain ⟨⟨v7, M5⟩, eM5, h⟩ := h
    refine g_calli hC (r_V hC (As := []) (c_X0_deepest _ Γ this M1 M5 v7 eM5) yk_X0_deepest lk_X0_74 eu6 ⟨_, rfl, rfl⟩ rfl rfl (Nat.le_of_ble_eq_true rfl) hR ⟨(Nat.le_of_ble_eq_true rfl), (Nat.le_of_ble_eq_true rfl)⟩ ⟨(Nat.le_of_ble_eq_true rfl), (Nat.le_of_ble_eq_true rfl)⟩ dX0_mayDive_12) ?_
    refine g_icmp_gt hC 62 dX0_mayDive_15 (by decide) (fun c8 => ?_) (fun c8 => ?_)
    · replace h := it_t c8 h
      refine g_iconst hC 0 dX0_mayDive_62 (by decide) ?_
      exact g_zret hC (by decide) h ⟨(Nat.le_of_ble_eq_true rfl), (Nat.le_of_ble_eq_true rfl)⟩ dX0_mayDive_63
    · replace h := it_f c8 h
      refine g_iload_n hC 3 dX0_mayDive_18 rfl ?_
      refine g_iload hC 0 dX0_mayDive_19 rfl ?_
      refine g_ineg hC dX0_mayDive_21 ?_
      refine g_icmp_lt hC 62 dX0_mayDive_22 (by decide) (fun c9 => ?_) (fun c9 => ?_)
      · replace h := it_t c9 h
        refine g_iconst hC 0 dX0_mayDive_62 (by decide) ?_
        exact g_zret hC (by decide) h ⟨(Nat.le_of_ble_eq_true rfl), (Nat.le_of_ble_eq_true rfl)⟩ dX0_mayDive_63
      · replace h := it_f c9 h
        refine g_iload_n hC 3 dX0_mayDive_25 rfl ?_
        refine g_iload hC 0 dX0_mayDive_26 rfl ?_
        refine g_icmp_gt hC 62 dX0_mayDive_28 (by decide) (fun c10 => ?_) (fun c10 => ?_)
        · replace h := it_t c10 h
          refine g_iconst hC 0 dX0_mayDive_62 (by decide) ?_
          exact g_zret hC (by decide) h ⟨(Nat.le_of_ble_eq_true rfl), (Nat.le_of_ble_eq_true rfl)⟩ dX0_mayDive_63
        · replace h := it_f c10 h
          refine g_iload_n hC 4 dX0_mayDive_31 rfl ?_
          refine g_iload hC 0 dX0_mayDive_32 rfl ?_
          refine g_ineg hC dX0_mayDive_34 ?_
          refine g_icmp_lt hC 62 dX0_mayDive_35 (by decide) (fun c11 => ?_) (fun c11 => ?_)
          · replace h := it_t c11 h
            refine g_iconst hC 0 dX0_mayDive_62 (by decide) ?_
            exact g_zret hC (by decide) h ⟨(Nat.le_of_ble_eq_true rfl), (Nat.le_of_ble_eq_true rfl)⟩ dX0_mayDive_63
          · replace h := it_f c11 h
            refine g_iload_n hC 4 dX0_mayDive_38 rfl ?_
            refine g_iload hC 0 dX0_mayDive_39 rfl ?_
            refine g_icmp_gt hC 62 dX0_mayDive_41 (by decide) (fun c12 => ?_) (fun c12 => ?_)
            · replace h := it_t c12 h
              refine g_iconst hC 0 dX0_mayDive_62 (by decide) ?_
              exact g_zret hC (by decide) h ⟨(Nat.le_of_ble_eq_true rfl), (Nat.le_of_ble_eq_true rfl)⟩ dX0_mayDive_63
            · replace h := it_f c12 h
              refine g_iload_n hC 3 dX0_mayDive_44 rfl ?_
              refine g_abs hC lk_X0_77 hR (Nat.le_of_ble_eq_true rfl) ⟨(Nat.le_of_ble_eq_true rfl), (Nat.le_of_ble_eq_true rfl), (Nat.le_of_ble_eq_true rfl), (Nat.le_of_ble_eq_true rfl)⟩ dX0_mayDive_45 ?_
              refine g_iload_n hC 4 dX0_mayDive_48 rfl ?_
              refine g_abs hC lk_X0_77 hR (Nat.le_of_ble_eq_true rfl) ⟨(Nat.le_of_ble_eq_true rfl), (Nat.le_of_ble_eq_true rfl), (Nat.le_of_ble_eq_true rfl), (Nat.le_of_ble_eq_true rfl)⟩ dX0_mayDive_49 ?_
              refine g_iadd hC dX0_mayDive_52 ?_
              refine g_iload hC 0 dX0_mayDive_53 rfl ?_
              refine g_icmp_gt hC 62 dX0_mayDive_55 (by decide) (fun c13 => ?_) (fun c13 => ?_)
              · replace h := it_t c13 h
                refine g_iconst hC 0 dX0_mayDive_62 (by decide) ?_
                exact g_zret hC (by decide) h ⟨(Nat.le_of_ble_eq_true rfl), (Nat.le_of_ble_eq_true rfl)⟩ dX0_mayDive_63
              · replace h := it_f c13 h
                refine g_iconst hC 1 dX0_mayDive_58 (by decide) ?_
                refine g_goto hC 63 dX0_mayDive_59 (by decide) ?_
                exact g_zret hC (by decide) h ⟨(Nat.le_of_ble_eq_true rfl), (Nat.le_of_ble_eq_true rfl)⟩ dX0_mayDive_63

set_option maxHeartbeats 4000000 in
set_option maxRecDepth 100000 in
theorem c_X0_divesLeft (l : Launch) (Γ : Gm) (this : Nat) (M M' : Mm) (r : Int32) (h : F_X0_divesLeft this M = some (r, M')) : Met l yX0_divesLeft (wz yX0_divesLeft cX0_divesLeft 2 (some .int)) ({ frames := 2, cells := 0, slots := 0, locals := 43 } : Room) (Pq Γ M [.ref this]) (Qi Γ r M') 0 0 (fr Γ) := by
  refine met_of (own := RX0) (by decide +kernel) rfl (Nat.le_of_ble_eq_true rfl) ?_
  intro X hC hR hnm hXl
  unfold F_X0_divesLeft at h
  show G Γ X 2 M 0 0 _ 0 ([(0, .ref this)]) []
  refine g_aload_n hC 0 dX0_divesLeft_0 rfl ?_
  refine g_iconst hC 1 dX0_divesLeft_1 (by decide) ?_
  refine g_aload_n hC 0 dX0_divesLeft_2 rfl ?_
  replace h := ob h; obtain ⟨_, eu2, h⟩ := h
  replace h := ob h; obtain ⟨⟨v3, M1⟩, eM1, h⟩ := h
  refine g_calli hC (r_V hC (As := []) (c_X0_deepest _ Γ this M M1 v3 eM1) yk_X0_deepest lk_X0_74 eu2 ⟨_, rfl, rfl⟩ rfl rfl (Nat.le_of_ble_eq_true rfl) hR ⟨(Nat.le_of_ble_eq_true rfl), (Nat.le_of_ble_eq_true rfl)⟩ ⟨(Nat.le_of_ble_eq_true rfl), (Nat.le_of_ble_eq_true rfl)⟩ dX0_divesLeft_3) ?_
  refine g_min hC lk_X0_83 hR (Nat.le_of_ble_eq_true rfl) ⟨(Nat.le_of_ble_eq_true rfl), (Nat.le_of_ble_eq_true rfl), (Nat.le_of_ble_eq_true rfl), (Nat.le_of_ble_eq_true rfl)⟩ dX0_divesLeft_6 ?_
  replace h := ob h; obtain ⟨_, eu5, h⟩ := h
  replace h := ob h; obtain ⟨⟨v6, M4⟩, eM4, h⟩ := h
  refine g_calli hC (r_V hC (As := [.int (mnI 1 v3)]) (c_X0_costTo _ Γ this (mnI 1 v3) M1 M4 v6 eM4) yk_X0_costTo lk_X0_86 eu5 ⟨_, rfl, rfl⟩ rfl rfl (Nat.le_of_ble_eq_true rfl) hR ⟨(Nat.le_of_ble_eq_true rfl), (Nat.le_of_ble_eq_true rfl)⟩ ⟨(Nat.le_of_ble_eq_true rfl), (Nat.le_of_ble_eq_true rfl)⟩ dX0_divesLeft_9) ?_
  refine g_istore_n hC ([(1, .int v6), (0, .ref this)]) dX0_divesLeft_12 (by decide) rfl ?_
  refine g_iload_n hC 0 dX0_divesLeft_13 rfl ?_
  refine g_if_le hC 26 dX0_divesLeft_14 (by decide) (fun c7 => ?_) (fun c7 => ?_)
  · replace h := it_t c7 h
    refine g_iconst hC 0 dX0_divesLeft_26 (by decide) ?_
    exact g_iret hC h ⟨(Nat.le_of_ble_eq_true rfl), (Nat.le_of_ble_eq_true rfl)⟩ dX0_divesLeft_27
  · replace h := it_f c7 h
    refine g_aload_n hC 1 dX0_divesLeft_17 rfl ?_
    replace h := ob h; obtain ⟨v8, ev8, h⟩ := h
    refine g_getI hC ev8 fk_X0_22 rfl dX0_divesLeft_18 ?_
    refine g_iload_n hC 0 dX0_divesLeft_21 rfl ?_
    replace h := ob h; obtain ⟨v9, ev9, h⟩ := h
    refine g_idiv hC ev9 dX0_divesLeft_22 ?_
    refine g_goto hC 27 dX0_divesLeft_23 (by decide) ?_
    exact g_iret hC h ⟨(Nat.le_of_ble_eq_true rfl), (Nat.le_of_ble_eq_true rfl)⟩ dX0_divesLeft_27

set_option maxHeartbeats 4000000 in
set_option maxRecDepth 100000 in
theorem l_X0_fixBy_L8 {Γ : Gm} {X : Ct} (hC : Cx Γ X cX0_fixBy RX0 (some .int) 3) (hR : X.2.2.2.1 = ({ frames := 1, cells := 0, slots := 0, locals := 21 } : Room)) (r : Int32) (M' : Mm)  (x0 : Nat) : ∀ (fu : Nat) (x2 : Int32) (M0 : Mm), F_X0_fixBy_L8 x0 fu x2 M0 = some (r, M') → G Γ X 3 M0 0 0 (Fin Γ X (Qi Γ r M') 0 0) 8 ([(0, .ref x0), (2, .int x2)]) [] := by
  intro fu
  induction fu with
  | zero =>
    intro x2 M0 h
    rw [F_X0_fixBy_L8] at h
    cases h
  | succ n1 ih =>
    intro x2 M0 h
    rw [F_X0_fixBy_L8] at h
    refine g_iload_n hC 1 dX0_fixBy_8 rfl ?_
    refine g_if_lt hC 36 dX0_fixBy_9 (by decide) (fun c2 => ?_) (fun c2 => ?_)
    · replace h := it_t c2 h
      refine g_bipush hC (-4) dX0_fixBy_36 (by decide) ?_
      exact g_iret hC h ⟨(Nat.le_of_ble_eq_true rfl), (Nat.le_of_ble_eq_true rfl)⟩ dX0_fixBy_38
    · replace h := it_f c2 h
      refine g_aload_n hC 0 dX0_fixBy_12 rfl ?_
      replace h := ob h; obtain ⟨v3, ev3, h⟩ := h
      refine g_getR hC ev3 fk_X0_9 rfl dX0_fixBy_13 ?_
      refine g_iload_n hC 1 dX0_fixBy_16 rfl ?_
      replace h := ob h; obtain ⟨a5, ea5, h⟩ := h
      subst ea5
      replace h := ob h; obtain ⟨v4, ev4, h⟩ := h
      refine g_iald hC ev4 dX0_fixBy_17 ?_
      refine g_bipush hC (-4) dX0_fixBy_18 (by decide) ?_
      refine g_icmp_eq hC 30 dX0_fixBy_20 (by decide) (fun c6 => ?_) (fun c6 => ?_)
      · replace h := it_t c6 h
        refine g_iinc hC 1 (x2 + (-1)) ([(2, .int (x2 + (-1))), (0, .ref x0)]) dX0_fixBy_30 rfl rfl (by decide) rfl ?_
        refine g_goto hC 8 dX0_fixBy_33 (by decide) ?_
        refine g_sub [1, 0] rfl ?_
        exact ih (x2 + (-1)) M0 h
      · replace h := it_f c6 h
        refine g_aload_n hC 0 dX0_fixBy_23 rfl ?_
        replace h := ob h; obtain ⟨v7, ev7, h⟩ := h
        refine g_getR hC ev7 fk_X0_9 rfl dX0_fixBy_24 ?_
        refine g_iload_n hC 1 dX0_fixBy_27 rfl ?_
        replace h := ob h; obtain ⟨a9, ea9, h⟩ := h
        subst ea9
        replace h := ob h; obtain ⟨v8, ev8, h⟩ := h
        refine g_iald hC ev8 dX0_fixBy_28 ?_
        exact g_iret hC h ⟨(Nat.le_of_ble_eq_true rfl), (Nat.le_of_ble_eq_true rfl)⟩ dX0_fixBy_29
set_option maxHeartbeats 4000000 in
set_option maxRecDepth 100000 in
theorem c_X0_fixBy (l : Launch) (Γ : Gm) (this : Nat) (p1 : Int32) (M M' : Mm) (r : Int32) (h : F_X0_fixBy this p1 M = some (r, M')) : Met l yX0_fixBy (wz yX0_fixBy cX0_fixBy 3 (some .int)) ({ frames := 1, cells := 0, slots := 0, locals := 21 } : Room) (Pq Γ M [.ref this, .int p1]) (Qi Γ r M') 0 0 (fr Γ) := by
  refine met_of (own := RX0) (by decide +kernel) rfl (Nat.le_of_ble_eq_true rfl) ?_
  intro X hC hR hnm hXl
  unfold F_X0_fixBy at h
  show G Γ X 3 M 0 0 _ 0 ([(0, .ref this), (1, .int p1)]) []
  refine g_iload_n hC 1 dX0_fixBy_0 rfl ?_
  refine g_sipush hC 399 dX0_fixBy_1 (by decide) ?_
  refine g_min hC lk_X0_83 hR (Nat.le_of_ble_eq_true rfl) ⟨(Nat.le_of_ble_eq_true rfl), (Nat.le_of_ble_eq_true rfl), (Nat.le_of_ble_eq_true rfl), (Nat.le_of_ble_eq_true rfl)⟩ dX0_fixBy_4 ?_
  refine g_istore_n hC ([(2, .int (mnI p1 399)), (0, .ref this), (1, .int p1)]) dX0_fixBy_7 (by decide) rfl ?_
  refine g_sub [1, 0] rfl ?_
  refine l_X0_fixBy_L8 hC hR r M'  _  _ _ _ h

set_option maxHeartbeats 4000000 in
set_option maxRecDepth 100000 in
theorem c_X1_init (l : Launch) (Γ : Gm) (this : Nat) (M M' : Mm) (h : F_X1_init this M = some M') : Met l yX1_init (wz yX1_init cX1_init 1 none) ({ frames := 1, cells := 4, slots := 240, locals := 20 } : Room) (Pq Γ M [.ref this]) (Qv Γ M') 4 240 (fr Γ) := by
  refine met_of (own := RX1) (by decide +kernel) rfl (Nat.le_of_ble_eq_true rfl) ?_
  intro X hC hR hnm hXl
  unfold F_X1_init at h
  show G Γ X 1 M 0 0 _ 0 ([(0, .ref this)]) []
  refine g_aload_n hC 0 dX1_init_0 rfl ?_
  refine g_objInit hC ok_X1_3 hR (Nat.le_of_ble_eq_true rfl) ⟨(Nat.le_of_ble_eq_true rfl), (Nat.le_of_ble_eq_true rfl)⟩ dX1_init_1 ?_
  refine g_aload_n hC 0 dX1_init_4 rfl ?_
  refine g_iconst hC 0 dX1_init_5 (by decide) ?_
  replace h := ob h; obtain ⟨M1, eM1, h⟩ := h
  refine g_putI hC eM1 fk_X1_9 rfl dX1_init_6 ?_
  refine g_aload_n hC 0 dX1_init_9 rfl ?_
  refine g_bipush hC 60 dX1_init_10 (by decide) ?_
  replace h := nv_e h; obtain ⟨a2, ea2, h⟩ := h
  replace h := nv_e h; obtain ⟨M3, eM3, h⟩ := h
  refine g_newI2 (N := 60) hC ea2 eM3 ak_int (by decide) (by rw [hR]; exact ⟨(Nat.le_of_ble_eq_true rfl), (Nat.le_of_ble_eq_true rfl)⟩) dX1_init_12 ?_
  replace h := ob h; obtain ⟨M4, eM4, h⟩ := h
  refine g_putFR (v := (some a2)) hC eM4 fk_X1_15 (ow_1 rfl) (hnm.trans rfl) (Or.inr ⟨_, rfl⟩) rfl dX1_init_14 ?_
  refine g_aload_n hC 0 dX1_init_17 rfl ?_
  refine g_bipush hC 60 dX1_init_18 (by decide) ?_
  replace h := nv_e h; obtain ⟨a5, ea5, h⟩ := h
  replace h := nv_e h; obtain ⟨M6, eM6, h⟩ := h
  refine g_newI2 (N := 60) hC ea5 eM6 ak_int (by decide) (by rw [hR]; exact ⟨(Nat.le_of_ble_eq_true rfl), (Nat.le_of_ble_eq_true rfl)⟩) dX1_init_20 ?_
  replace h := ob h; obtain ⟨M7, eM7, h⟩ := h
  refine g_putFR (v := (some a5)) hC eM7 fk_X1_19 (ow_1 rfl) (hnm.trans rfl) (Or.inr ⟨_, rfl⟩) rfl dX1_init_22 ?_
  refine g_aload_n hC 0 dX1_init_25 rfl ?_
  refine g_bipush hC 60 dX1_init_26 (by decide) ?_
  replace h := nv_e h; obtain ⟨a8, ea8, h⟩ := h
  replace h := nv_e h; obtain ⟨M9, eM9, h⟩ := h
  refine g_newI2 (N := 60) hC ea8 eM9 ak_int (by decide) (by rw [hR]; exact ⟨(Nat.le_of_ble_eq_true rfl), (Nat.le_of_ble_eq_true rfl)⟩) dX1_init_28 ?_
  replace h := ob h; obtain ⟨M10, eM10, h⟩ := h
  refine g_putFR (v := (some a8)) hC eM10 fk_X1_22 (ow_1 rfl) (hnm.trans rfl) (Or.inr ⟨_, rfl⟩) rfl dX1_init_30 ?_
  refine g_aload_n hC 0 dX1_init_33 rfl ?_
  refine g_bipush hC 60 dX1_init_34 (by decide) ?_
  replace h := nv_e h; obtain ⟨a11, ea11, h⟩ := h
  replace h := nv_e h; obtain ⟨M12, eM12, h⟩ := h
  refine g_newI2 (N := 60) hC ea11 eM12 ak_int (by decide) (by rw [hR]; exact ⟨(Nat.le_of_ble_eq_true rfl), (Nat.le_of_ble_eq_true rfl)⟩) dX1_init_36 ?_
  replace h := ob h; obtain ⟨M13, eM13, h⟩ := h
  refine g_putFR (v := (some a11)) hC eM13 fk_X1_25 (ow_1 rfl) (hnm.trans rfl) (Or.inr ⟨_, rfl⟩) rfl dX1_init_38 ?_
  exact g_vret hC h ⟨(Nat.le_of_ble_eq_true rfl), (Nat.le_of_ble_eq_true rfl)⟩ dX1_init_41

set_option maxHeartbeats 4000000 in
set_option maxRecDepth 100000 in
theorem c_X1_become (l : Launch) (Γ : Gm) (this : Nat) (p1 : Nat) (M M' : Mm) (h : F_X1_become this p1 M = some M') : Met l yX1_become (wz yX1_become cX1_become 2 none) ({ frames := 2, cells := 0, slots := 0, locals := 47 } : Room) (Pq Γ M [.ref this, .ref p1]) (Qv Γ M') 0 0 (fr Γ) := by
  refine met_of (own := RX1) (by decide +kernel) rfl (Nat.le_of_ble_eq_true rfl) ?_
  intro X hC hR hnm hXl
  unfold F_X1_become at h
  show G Γ X 2 M 0 0 _ 0 ([(0, .ref this), (1, .ref p1)]) []
  refine g_aload_n hC 0 dX1_become_0 rfl ?_
  refine g_aload_n hC 1 dX1_become_1 rfl ?_
  replace h := ob h; obtain ⟨v1, ev1, h⟩ := h
  refine g_getI hC ev1 fk_X1_9 rfl dX1_become_2 ?_
  replace h := ob h; obtain ⟨M2, eM2, h⟩ := h
  refine g_putI hC eM2 fk_X1_9 rfl dX1_become_5 ?_
  refine g_aload_n hC 1 dX1_become_8 rfl ?_
  replace h := ob h; obtain ⟨v3, ev3, h⟩ := h
  refine g_getR hC ev3 fk_X1_15 rfl dX1_become_9 ?_
  refine g_aload_n hC 0 dX1_become_12 rfl ?_
  replace h := ob h; obtain ⟨v4, ev4, h⟩ := h
  refine g_getR hC ev4 fk_X1_15 rfl dX1_become_13 ?_
  replace h := ob h; obtain ⟨a5, ea5, h⟩ := h
  subst ea5
  replace h := ob h; obtain ⟨a6, ea6, h⟩ := h
  subst ea6
  replace h := ob h; obtain ⟨M7, eM7, h⟩ := h
  refine g_callv hC (r_SN hC (As := [.ref a6, .ref a5]) (c_X11_copyAll _ Γ a6 a5 M2 M7 eM7) yk_X11_copyAll lk_X1_28 rfl rfl (Nat.le_of_ble_eq_true rfl) hR ⟨(Nat.le_of_ble_eq_true rfl), (Nat.le_of_ble_eq_true rfl)⟩ ⟨(Nat.le_of_ble_eq_true rfl), (Nat.le_of_ble_eq_true rfl)⟩ dX1_become_16) ?_
  refine g_aload_n hC 1 dX1_become_19 rfl ?_
  replace h := ob h; obtain ⟨v8, ev8, h⟩ := h
  refine g_getR hC ev8 fk_X1_19 rfl dX1_become_20 ?_
  refine g_aload_n hC 0 dX1_become_23 rfl ?_
  replace h := ob h; obtain ⟨v9, ev9, h⟩ := h
  refine g_getR hC ev9 fk_X1_19 rfl dX1_become_24 ?_
  replace h := ob h; obtain ⟨a10, ea10, h⟩ := h
  subst ea10
  replace h := ob h; obtain ⟨a11, ea11, h⟩ := h
  subst ea11
  replace h := ob h; obtain ⟨M12, eM12, h⟩ := h
  refine g_callv hC (r_SN hC (As := [.ref a11, .ref a10]) (c_X11_copyAll _ Γ a11 a10 M7 M12 eM12) yk_X11_copyAll lk_X1_28 rfl rfl (Nat.le_of_ble_eq_true rfl) hR ⟨(Nat.le_of_ble_eq_true rfl), (Nat.le_of_ble_eq_true rfl)⟩ ⟨(Nat.le_of_ble_eq_true rfl), (Nat.le_of_ble_eq_true rfl)⟩ dX1_become_27) ?_
  refine g_aload_n hC 1 dX1_become_30 rfl ?_
  replace h := ob h; obtain ⟨v13, ev13, h⟩ := h
  refine g_getR hC ev13 fk_X1_22 rfl dX1_become_31 ?_
  refine g_aload_n hC 0 dX1_become_34 rfl ?_
  replace h := ob h; obtain ⟨v14, ev14, h⟩ := h
  refine g_getR hC ev14 fk_X1_22 rfl dX1_become_35 ?_
  replace h := ob h; obtain ⟨a15, ea15, h⟩ := h
  subst ea15
  replace h := ob h; obtain ⟨a16, ea16, h⟩ := h
  subst ea16
  replace h := ob h; obtain ⟨M17, eM17, h⟩ := h
  refine g_callv hC (r_SN hC (As := [.ref a16, .ref a15]) (c_X11_copyAll _ Γ a16 a15 M12 M17 eM17) yk_X11_copyAll lk_X1_28 rfl rfl (Nat.le_of_ble_eq_true rfl) hR ⟨(Nat.le_of_ble_eq_true rfl), (Nat.le_of_ble_eq_true rfl)⟩ ⟨(Nat.le_of_ble_eq_true rfl), (Nat.le_of_ble_eq_true rfl)⟩ dX1_become_38) ?_
  refine g_aload_n hC 1 dX1_become_41 rfl ?_
  replace h := ob h; obtain ⟨v18, ev18, h⟩ := h
  refine g_getR hC ev18 fk_X1_25 rfl dX1_become_42 ?_
  refine g_aload_n hC 0 dX1_become_45 rfl ?_
  replace h := ob h; obtain ⟨v19, ev19, h⟩ := h
  refine g_getR hC ev19 fk_X1_25 rfl dX1_become_46 ?_
  replace h := ob h; obtain ⟨a20, ea20, h⟩ := h
  subst ea20
  replace h := ob h; obtain ⟨a21, ea21, h⟩ := h
  subst ea21
  replace h := ob h; obtain ⟨M22, eM22, h⟩ := h
  refine g_callv hC (r_SN hC (As := [.ref a21, .ref a20]) (c_X11_copyAll _ Γ a21 a20 M17 M22 eM22) yk_X11_copyAll lk_X1_28 rfl rfl (Nat.le_of_ble_eq_true rfl) hR ⟨(Nat.le_of_ble_eq_true rfl), (Nat.le_of_ble_eq_true rfl)⟩ ⟨(Nat.le_of_ble_eq_true rfl), (Nat.le_of_ble_eq_true rfl)⟩ dX1_become_49) ?_
  exact g_vret hC h ⟨(Nat.le_of_ble_eq_true rfl), (Nat.le_of_ble_eq_true rfl)⟩ dX1_become_52

set_option maxHeartbeats 4000000 in
set_option maxRecDepth 100000 in
theorem c_X1_send (l : Launch) (Γ : Gm) (this : Nat) (p1 : Int32) (p2 : Int32) (p3 : Int32) (M M' : Mm) (r : Int32) (h : F_X1_send this p1 p2 p3 M = some (r, M')) : Met l yX1_send (wz yX1_send cX1_send 4 (some .int)) ({ frames := 0, cells := 0, slots := 0, locals := 0 } : Room) (Pq Γ M [.ref this, .int p1, .int p2, .int p3]) (Qi Γ r M') 0 0 (fr Γ) := by
  refine met_of (own := RX1) (by decide +kernel) rfl (Nat.le_of_ble_eq_true rfl) ?_
  intro X hC hR hnm hXl
  unfold F_X1_send at h
  show G Γ X 4 M 0 0 _ 0 ([(0, .ref this), (1, .int p1), (2, .int p2), (3, .int p3)]) []
  refine g_aload_n hC 0 dX1_send_0 rfl ?_
  replace h := ob h; obtain ⟨v1, ev1, h⟩ := h
  refine g_getR hC ev1 fk_X1_15 rfl dX1_send_1 ?_
  refine g_aload_n hC 0 dX1_send_4 rfl ?_
  replace h := ob h; obtain ⟨v2, ev2, h⟩ := h
  refine g_getI hC ev2 fk_X1_9 rfl dX1_send_5 ?_
  refine g_iload_n hC 1 dX1_send_8 rfl ?_
  replace h := ob h; obtain ⟨a4, ea4, h⟩ := h
  subst ea4
  replace h := ob h; obtain ⟨M3, eM3, h⟩ := h
  refine g_iast hC eM3 dX1_send_9 ?_
  refine g_aload_n hC 0 dX1_send_10 rfl ?_
  replace h := ob h; obtain ⟨v5, ev5, h⟩ := h
  refine g_getR hC ev5 fk_X1_19 rfl dX1_send_11 ?_
  refine g_aload_n hC 0 dX1_send_14 rfl ?_
  replace h := ob h; obtain ⟨v6, ev6, h⟩ := h
  refine g_getI hC ev6 fk_X1_9 rfl dX1_send_15 ?_
  refine g_iload_n hC 2 dX1_send_18 rfl ?_
  replace h := ob h; obtain ⟨a8, ea8, h⟩ := h
  subst ea8
  replace h := ob h; obtain ⟨M7, eM7, h⟩ := h
  refine g_iast hC eM7 dX1_send_19 ?_
  refine g_aload_n hC 0 dX1_send_20 rfl ?_
  replace h := ob h; obtain ⟨v9, ev9, h⟩ := h
  refine g_getR hC ev9 fk_X1_22 rfl dX1_send_21 ?_
  refine g_aload_n hC 0 dX1_send_24 rfl ?_
  replace h := ob h; obtain ⟨v10, ev10, h⟩ := h
  refine g_getI hC ev10 fk_X1_9 rfl dX1_send_25 ?_
  refine g_iload_n hC 3 dX1_send_28 rfl ?_
  replace h := ob h; obtain ⟨a12, ea12, h⟩ := h
  subst ea12
  replace h := ob h; obtain ⟨M11, eM11, h⟩ := h
  refine g_iast hC eM11 dX1_send_29 ?_
  refine g_aload_n hC 0 dX1_send_30 rfl ?_
  replace h := ob h; obtain ⟨v13, ev13, h⟩ := h
  refine g_getR hC ev13 fk_X1_25 rfl dX1_send_31 ?_
  refine g_aload_n hC 0 dX1_send_34 rfl ?_
  replace h := ob h; obtain ⟨v14, ev14, h⟩ := h
  refine g_getI hC ev14 fk_X1_9 rfl dX1_send_35 ?_
  refine g_iconst hC 0 dX1_send_38 (by decide) ?_
  replace h := ob h; obtain ⟨a16, ea16, h⟩ := h
  subst ea16
  replace h := ob h; obtain ⟨M15, eM15, h⟩ := h
  refine g_iast hC eM15 dX1_send_39 ?_
  refine g_aload_n hC 0 dX1_send_40 rfl ?_
  refine g_dup hC dX1_send_41 rfl ?_
  replace h := ob h; obtain ⟨v17, ev17, h⟩ := h
  refine g_getI hC ev17 fk_X1_9 rfl dX1_send_42 ?_
  refine g_iconst hC 1 dX1_send_45 (by decide) ?_
  refine g_iadd hC dX1_send_46 ?_
  replace h := ob h; obtain ⟨M18, eM18, h⟩ := h
  refine g_putI hC eM18 fk_X1_9 rfl dX1_send_47 ?_
  refine g_aload_n hC 0 dX1_send_50 rfl ?_
  replace h := ob h; obtain ⟨v19, ev19, h⟩ := h
  refine g_getI hC ev19 fk_X1_9 rfl dX1_send_51 ?_
  exact g_iret hC h ⟨(Nat.le_of_ble_eq_true rfl), (Nat.le_of_ble_eq_true rfl)⟩ dX1_send_54

set_option maxHeartbeats 4000000 in
set_option maxRecDepth 100000 in
theorem l_X1_unheardBy_L4 {Γ : Gm} {X : Ct} (hC : Cx Γ X cX1_unheardBy RX1 (some .int) 4) (hR : X.2.2.2.1 = ({ frames := 0, cells := 0, slots := 0, locals := 0 } : Room)) (r : Int32) (M' : Mm)  (x0 : Nat) (x1 : Int32) : ∀ (fu : Nat) (x2 : Int32) (x3 : Int32) (M0 : Mm), F_X1_unheardBy_L4 x0 x1 fu x2 x3 M0 = some (r, M') → G Γ X 4 M0 0 0 (Fin Γ X (Qi Γ r M') 0 0) 4 ([(0, .ref x0), (1, .int x1), (2, .int x2), (3, .int x3)]) [] := by
  intro fu
  induction fu with
  | zero =>
    intro x2 x3 M0 h
    rw [F_X1_unheardBy_L4] at h
    cases h
  | succ n1 ih =>
    intro x2 x3 M0 h
    rw [F_X1_unheardBy_L4] at h
    refine g_iload_n hC 3 dX1_unheardBy_4 rfl ?_
    refine g_aload_n hC 0 dX1_unheardBy_5 rfl ?_
    replace h := ob h; obtain ⟨v2, ev2, h⟩ := h
    refine g_getI hC ev2 fk_X1_9 rfl dX1_unheardBy_6 ?_
    refine g_icmp_ge hC 40 dX1_unheardBy_9 (by decide) (fun c3 => ?_) (fun c3 => ?_)
    · replace h := it_t c3 h
      refine g_iload_n hC 2 dX1_unheardBy_40 rfl ?_
      exact g_iret hC h ⟨(Nat.le_of_ble_eq_true rfl), (Nat.le_of_ble_eq_true rfl)⟩ dX1_unheardBy_41
    · replace h := it_f c3 h
      refine g_aload_n hC 0 dX1_unheardBy_12 rfl ?_
      replace h := ob h; obtain ⟨v4, ev4, h⟩ := h
      refine g_getR hC ev4 fk_X1_15 rfl dX1_unheardBy_13 ?_
      refine g_iload_n hC 3 dX1_unheardBy_16 rfl ?_
      replace h := ob h; obtain ⟨a6, ea6, h⟩ := h
      subst ea6
      replace h := ob h; obtain ⟨v5, ev5, h⟩ := h
      refine g_iald hC ev5 dX1_unheardBy_17 ?_
      refine g_iload_n hC 1 dX1_unheardBy_18 rfl ?_
      refine g_icmp_ne hC 34 dX1_unheardBy_19 (by decide) (fun c7 => ?_) (fun c7 => ?_)
      · replace h := it_f c7 h
        refine g_iinc hC 3 (x3 + 1) ([(3, .int (x3 + 1)), (0, .ref x0), (1, .int x1), (2, .int x2)]) dX1_unheardBy_34 rfl rfl (by decide) rfl ?_
        refine g_goto hC 4 dX1_unheardBy_37 (by decide) ?_
        refine g_sub [1, 2, 3, 0] rfl ?_
        exact ih x2 (x3 + 1) M0 h
      · replace h := it_t c7 h
        refine g_aload_n hC 0 dX1_unheardBy_22 rfl ?_
        replace h := ob h; obtain ⟨v8, ev8, h⟩ := h
        refine g_getR hC ev8 fk_X1_25 rfl dX1_unheardBy_23 ?_
        refine g_iload_n hC 3 dX1_unheardBy_26 rfl ?_
        replace h := ob h; obtain ⟨a10, ea10, h⟩ := h
        subst ea10
        replace h := ob h; obtain ⟨v9, ev9, h⟩ := h
        refine g_iald hC ev9 dX1_unheardBy_27 ?_
        refine g_if_ne hC 34 dX1_unheardBy_28 (by decide) (fun c11 => ?_) (fun c11 => ?_)
        · replace h := it_f c11 h
          refine g_iinc hC 3 (x3 + 1) ([(3, .int (x3 + 1)), (0, .ref x0), (1, .int x1), (2, .int x2)]) dX1_unheardBy_34 rfl rfl (by decide) rfl ?_
          refine g_goto hC 4 dX1_unheardBy_37 (by decide) ?_
          refine g_sub [1, 2, 3, 0] rfl ?_
          exact ih x2 (x3 + 1) M0 h
        · replace h := it_t c11 h
          refine g_iinc hC 2 (x2 + 1) ([(2, .int (x2 + 1)), (0, .ref x0), (1, .int x1), (3, .int x3)]) dX1_unheardBy_31 rfl rfl (by decide) rfl ?_
          refine g_iinc hC 3 (x3 + 1) ([(3, .int (x3 + 1)), (2, .int (x2 + 1)), (0, .ref x0), (1, .int x1)]) dX1_unheardBy_34 rfl rfl (by decide) rfl ?_
          refine g_goto hC 4 dX1_unheardBy_37 (by decide) ?_
          refine g_sub [2, 3, 1, 0] rfl ?_
          exact ih (x2 + 1) (x3 + 1) M0 h
set_option maxHeartbeats 4000000 in
set_option maxRecDepth 100000 in
theorem c_X1_unheardBy (l : Launch) (Γ : Gm) (this : Nat) (p1 : Int32) (M M' : Mm) (r : Int32) (h : F_X1_unheardBy this p1 M = some (r, M')) : Met l yX1_unheardBy (wz yX1_unheardBy cX1_unheardBy 4 (some .int)) ({ frames := 0, cells := 0, slots := 0, locals := 0 } : Room) (Pq Γ M [.ref this, .int p1]) (Qi Γ r M') 0 0 (fr Γ) := by
  refine met_of (own := RX1) (by decide +kernel) rfl (Nat.le_of_ble_eq_true rfl) ?_
  intro X hC hR hnm hXl
  unfold F_X1_unheardBy at h
  show G Γ X 4 M 0 0 _ 0 ([(0, .ref this), (1, .int p1)]) []
  refine g_iconst hC 0 dX1_unheardBy_0 (by decide) ?_
  refine g_istore_n hC ([(2, .int 0), (0, .ref this), (1, .int p1)]) dX1_unheardBy_1 (by decide) rfl ?_
  refine g_iconst hC 0 dX1_unheardBy_2 (by decide) ?_
  refine g_istore_n hC ([(3, .int 0), (2, .int 0), (0, .ref this), (1, .int p1)]) dX1_unheardBy_3 (by decide) rfl ?_
  refine g_sub [2, 3, 1, 0] rfl ?_
  refine l_X1_unheardBy_L4 hC hR r M'  _ _  _ _ _ _ h

set_option maxHeartbeats 4000000 in
set_option maxRecDepth 100000 in
theorem l_X1_hearBy_L6 {Γ : Gm} {X : Ct} (hC : Cx Γ X cX1_hearBy RX1 (some .int) 6) (hR : X.2.2.2.1 = ({ frames := 0, cells := 0, slots := 0, locals := 0 } : Room)) (r : Int32) (M' : Mm)  (x0 : Nat) (x1 : Int32) (x2 : Int32) : ∀ (fu : Nat) (x4 : Int32) (x5 : Int32) (M0 : Mm), F_X1_hearBy_L6 x0 x1 x2 fu x4 x5 M0 = some (r, M') → G Γ X 6 M0 0 0 (Fin Γ X (Qi Γ r M') 0 0) 6 ([(0, .ref x0), (1, .int x1), (2, .int x2), (4, .int x4), (5, .int x5)]) [] := by
  intro fu
  induction fu with
  | zero =>
    intro x4 x5 M0 h
    rw [F_X1_hearBy_L6] at h
    cases h
  | succ n1 ih =>
    intro x4 x5 M0 h
    rw [F_X1_hearBy_L6] at h
    refine g_iload hC 4 dX1_hearBy_6 rfl ?_
    refine g_aload_n hC 0 dX1_hearBy_8 rfl ?_
    replace h := ob h; obtain ⟨v2, ev2, h⟩ := h
    refine g_getI hC ev2 fk_X1_9 rfl dX1_hearBy_9 ?_
    refine g_icmp_ge hC 70 dX1_hearBy_12 (by decide) (fun c3 => ?_) (fun c3 => ?_)
    · replace h := it_t c3 h
      refine g_iload hC 3 dX1_hearBy_70 rfl ?_
      exact g_iret hC h ⟨(Nat.le_of_ble_eq_true rfl), (Nat.le_of_ble_eq_true rfl)⟩ dX1_hearBy_72
    · replace h := it_f c3 h
      refine g_aload_n hC 0 dX1_hearBy_15 rfl ?_
      replace h := ob h; obtain ⟨v4, ev4, h⟩ := h
      refine g_getR hC ev4 fk_X1_15 rfl dX1_hearBy_16 ?_
      refine g_iload hC 4 dX1_hearBy_19 rfl ?_
      replace h := ob h; obtain ⟨a6, ea6, h⟩ := h
      subst ea6
      replace h := ob h; obtain ⟨v5, ev5, h⟩ := h
      refine g_iald hC ev5 dX1_hearBy_21 ?_
      refine g_iload_n hC 1 dX1_hearBy_22 rfl ?_
      refine g_icmp_ne hC 64 dX1_hearBy_23 (by decide) (fun c7 => ?_) (fun c7 => ?_)
      · replace h := it_f c7 h
        refine g_iinc hC 4 (x5 + 1) ([(5, .int (x5 + 1)), (0, .ref x0), (1, .int x1), (2, .int x2), (4, .int x4)]) dX1_hearBy_64 rfl rfl (by decide) rfl ?_
        refine g_goto hC 6 dX1_hearBy_67 (by decide) ?_
        refine g_sub [1, 2, 3, 4, 0] rfl ?_
        exact ih x4 (x5 + 1) M0 h
      · replace h := it_t c7 h
        refine g_aload_n hC 0 dX1_hearBy_26 rfl ?_
        replace h := ob h; obtain ⟨v8, ev8, h⟩ := h
        refine g_getR hC ev8 fk_X1_25 rfl dX1_hearBy_27 ?_
        refine g_iload hC 4 dX1_hearBy_30 rfl ?_
        replace h := ob h; obtain ⟨a10, ea10, h⟩ := h
        subst ea10
        replace h := ob h; obtain ⟨v9, ev9, h⟩ := h
        refine g_iald hC ev9 dX1_hearBy_32 ?_
        refine g_if_ne hC 64 dX1_hearBy_33 (by decide) (fun c11 => ?_) (fun c11 => ?_)
        · replace h := it_f c11 h
          refine g_iinc hC 4 (x5 + 1) ([(5, .int (x5 + 1)), (0, .ref x0), (1, .int x1), (2, .int x2), (4, .int x4)]) dX1_hearBy_64 rfl rfl (by decide) rfl ?_
          refine g_goto hC 6 dX1_hearBy_67 (by decide) ?_
          refine g_sub [1, 2, 3, 4, 0] rfl ?_
          exact ih x4 (x5 + 1) M0 h
        · replace h := it_t c11 h
          refine g_aload_n hC 0 dX1_hearBy_36 rfl ?_
          replace h := ob h; obtain ⟨v12, ev12, h⟩ := h
          refine g_getR hC ev12 fk_X1_22 rfl dX1_hearBy_37 ?_
          refine g_iload hC 4 dX1_hearBy_40 rfl ?_
          replace h := ob h; obtain ⟨a14, ea14, h⟩ := h
          subst ea14
          replace h := ob h; obtain ⟨v13, ev13, h⟩ := h
          refine g_iald hC ev13 dX1_hearBy_42 ?_
          refine g_iload_n hC 2 dX1_hearBy_43 rfl ?_
          refine g_icmp_ge hC 64 dX1_hearBy_44 (by decide) (fun c15 => ?_) (fun c15 => ?_)
          · replace h := it_t c15 h
            refine g_iinc hC 4 (x5 + 1) ([(5, .int (x5 + 1)), (0, .ref x0), (1, .int x1), (2, .int x2), (4, .int x4)]) dX1_hearBy_64 rfl rfl (by decide) rfl ?_
            refine g_goto hC 6 dX1_hearBy_67 (by decide) ?_
            refine g_sub [1, 2, 3, 4, 0] rfl ?_
            exact ih x4 (x5 + 1) M0 h
          · replace h := it_f c15 h
            refine g_aload_n hC 0 dX1_hearBy_47 rfl ?_
            replace h := ob h; obtain ⟨v16, ev16, h⟩ := h
            refine g_getR hC ev16 fk_X1_25 rfl dX1_hearBy_48 ?_
            refine g_iload hC 4 dX1_hearBy_51 rfl ?_
            refine g_iconst hC 1 dX1_hearBy_53 (by decide) ?_
            replace h := ob h; obtain ⟨a18, ea18, h⟩ := h
            subst ea18
            replace h := ob h; obtain ⟨M17, eM17, h⟩ := h
            refine g_iast hC eM17 dX1_hearBy_54 ?_
            refine g_aload_n hC 0 dX1_hearBy_55 rfl ?_
            replace h := ob h; obtain ⟨v19, ev19, h⟩ := h
            refine g_getR hC ev19 fk_X1_19 rfl dX1_hearBy_56 ?_
            refine g_iload hC 4 dX1_hearBy_59 rfl ?_
            replace h := ob h; obtain ⟨a21, ea21, h⟩ := h
            subst ea21
            replace h := ob h; obtain ⟨v20, ev20, h⟩ := h
            refine g_iald hC ev20 dX1_hearBy_61 ?_
            refine g_istore hC ([(4, .int v20), (0, .ref x0), (1, .int x1), (2, .int x2), (5, .int x5)]) dX1_hearBy_62 (by decide) rfl ?_
            refine g_iinc hC 4 (x5 + 1) ([(5, .int (x5 + 1)), (4, .int v20), (0, .ref x0), (1, .int x1), (2, .int x2)]) dX1_hearBy_64 rfl rfl (by decide) rfl ?_
            refine g_goto hC 6 dX1_hearBy_67 (by decide) ?_
            refine g_sub [2, 3, 4, 1, 0] rfl ?_
            exact ih v20 (x5 + 1) M17 h
set_option maxHeartbeats 4000000 in
set_option maxRecDepth 100000 in
theorem c_X1_hearBy (l : Launch) (Γ : Gm) (this : Nat) (p1 : Int32) (p2 : Int32) (p3 : Int32) (M M' : Mm) (r : Int32) (h : F_X1_hearBy this p1 p2 p3 M = some (r, M')) : Met l yX1_hearBy (wz yX1_hearBy cX1_hearBy 6 (some .int)) ({ frames := 0, cells := 0, slots := 0, locals := 0 } : Room) (Pq Γ M [.ref this, .int p1, .int p2, .int p3]) (Qi Γ r M') 0 0 (fr Γ) := by
  refine met_of (own := RX1) (by decide +kernel) rfl (Nat.le_of_ble_eq_true rfl) ?_
  intro X hC hR hnm hXl
  unfold F_X1_hearBy at h
  show G Γ X 6 M 0 0 _ 0 ([(0, .ref this), (1, .int p1), (2, .int p2), (3, .int p3)]) []
  refine g_iload_n hC 3 dX1_hearBy_0 rfl ?_
  refine g_istore hC ([(4, .int p3), (0, .ref this), (1, .int p1), (2, .int p2), (3, .int p3)]) dX1_hearBy_1 (by decide) rfl ?_
  refine g_iconst hC 0 dX1_hearBy_3 (by decide) ?_
  refine g_istore hC ([(5, .int 0), (4, .int p3), (0, .ref this), (1, .int p1), (2, .int p2), (3, .int p3)]) dX1_hearBy_4 (by decide) rfl ?_
  refine g_sub [2, 3, 4, 1, 0] rfl ?_
  refine l_X1_hearBy_L6 hC hR r M'  _ _ _  _ _ _ _ h

set_option maxHeartbeats 4000000 in
set_option maxRecDepth 100000 in
theorem c_X2_init (l : Launch) (Γ : Gm) (this : Nat) (M M' : Mm) (h : F_X2_init this M = some M') : Met l yX2_init (wz yX2_init cX2_init 1 none) ({ frames := 1, cells := 8, slots := 104, locals := 20 } : Room) (Pq Γ M [.ref this]) (Qv Γ M') 8 104 (fr Γ) := by
  refine met_of (own := RX2) (by decide +kernel) rfl (Nat.le_of_ble_eq_true rfl) ?_
  intro X hC hR hnm hXl
  unfold F_X2_init at h
  show G Γ X 1 M 0 0 _ 0 ([(0, .ref this)]) []
  refine g_aload_n hC 0 dX2_init_0 rfl ?_
  refine g_objInit hC ok_X2_3 hR (Nat.le_of_ble_eq_true rfl) ⟨(Nat.le_of_ble_eq_true rfl), (Nat.le_of_ble_eq_true rfl)⟩ dX2_init_1 ?_
  refine g_aload_n hC 0 dX2_init_4 rfl ?_
  refine g_iconst hC 0 dX2_init_5 (by decide) ?_
  replace h := ob h; obtain ⟨M1, eM1, h⟩ := h
  refine g_putI hC eM1 fk_X2_9 rfl dX2_init_6 ?_
  refine g_aload_n hC 0 dX2_init_9 rfl ?_
  refine g_iconst hC 0 dX2_init_10 (by decide) ?_
  replace h := ob h; obtain ⟨M2, eM2, h⟩ := h
  refine g_putI hC eM2 fk_X2_15 rfl dX2_init_11 ?_
  refine g_aload_n hC 0 dX2_init_14 rfl ?_
  refine g_bipush hC 6 dX2_init_15 (by decide) ?_
  replace h := nv_e h; obtain ⟨a3, ea3, h⟩ := h
  replace h := nv_e h; obtain ⟨M4, eM4, h⟩ := h
  refine g_newI2 (N := 6) hC ea3 eM4 ak_int (by decide) (by rw [hR]; exact ⟨(Nat.le_of_ble_eq_true rfl), (Nat.le_of_ble_eq_true rfl)⟩) dX2_init_17 ?_
  replace h := ob h; obtain ⟨M5, eM5, h⟩ := h
  refine g_putFR (v := (some a3)) hC eM5 fk_X2_18 (ow_2 rfl) (hnm.trans rfl) (Or.inr ⟨_, rfl⟩) rfl dX2_init_19 ?_
  refine g_aload_n hC 0 dX2_init_22 rfl ?_
  refine g_bipush hC 6 dX2_init_23 (by decide) ?_
  replace h := nv_e h; obtain ⟨a6, ea6, h⟩ := h
  replace h := nv_e h; obtain ⟨M7, eM7, h⟩ := h
  refine g_newI2 (N := 6) hC ea6 eM7 ak_int (by decide) (by rw [hR]; exact ⟨(Nat.le_of_ble_eq_true rfl), (Nat.le_of_ble_eq_true rfl)⟩) dX2_init_25 ?_
  replace h := ob h; obtain ⟨M8, eM8, h⟩ := h
  refine g_putFR (v := (some a6)) hC eM8 fk_X2_22 (ow_2 rfl) (hnm.trans rfl) (Or.inr ⟨_, rfl⟩) rfl dX2_init_27 ?_
  refine g_aload_n hC 0 dX2_init_30 rfl ?_
  refine g_bipush hC 6 dX2_init_31 (by decide) ?_
  replace h := nv_e h; obtain ⟨a9, ea9, h⟩ := h
  replace h := nv_e h; obtain ⟨M10, eM10, h⟩ := h
  refine g_newI2 (N := 6) hC ea9 eM10 ak_int (by decide) (by rw [hR]; exact ⟨(Nat.le_of_ble_eq_true rfl), (Nat.le_of_ble_eq_true rfl)⟩) dX2_init_33 ?_
  replace h := ob h; obtain ⟨M11, eM11, h⟩ := h
  refine g_putFR (v := (some a9)) hC eM11 fk_X2_25 (ow_2 rfl) (hnm.trans rfl) (Or.inr ⟨_, rfl⟩) rfl dX2_init_35 ?_
  refine g_aload_n hC 0 dX2_init_38 rfl ?_
  refine g_bipush hC 6 dX2_init_39 (by decide) ?_
  replace h := nv_e h; obtain ⟨a12, ea12, h⟩ := h
  replace h := nv_e h; obtain ⟨M13, eM13, h⟩ := h
  refine g_newI2 (N := 6) hC ea12 eM13 ak_int (by decide) (by rw [hR]; exact ⟨(Nat.le_of_ble_eq_true rfl), (Nat.le_of_ble_eq_true rfl)⟩) dX2_init_41 ?_
  replace h := ob h; obtain ⟨M14, eM14, h⟩ := h
  refine g_putFR (v := (some a12)) hC eM14 fk_X2_28 (ow_2 rfl) (hnm.trans rfl) (Or.inr ⟨_, rfl⟩) rfl dX2_init_43 ?_
  refine g_aload_n hC 0 dX2_init_46 rfl ?_
  refine g_bipush hC 20 dX2_init_47 (by decide) ?_
  replace h := nv_e h; obtain ⟨a15, ea15, h⟩ := h
  replace h := nv_e h; obtain ⟨M16, eM16, h⟩ := h
  refine g_newI2 (N := 20) hC ea15 eM16 ak_int (by decide) (by rw [hR]; exact ⟨(Nat.le_of_ble_eq_true rfl), (Nat.le_of_ble_eq_true rfl)⟩) dX2_init_49 ?_
  replace h := ob h; obtain ⟨M17, eM17, h⟩ := h
  refine g_putFR (v := (some a15)) hC eM17 fk_X2_31 (ow_2 rfl) (hnm.trans rfl) (Or.inr ⟨_, rfl⟩) rfl dX2_init_51 ?_
  refine g_aload_n hC 0 dX2_init_54 rfl ?_
  refine g_bipush hC 20 dX2_init_55 (by decide) ?_
  replace h := nv_e h; obtain ⟨a18, ea18, h⟩ := h
  replace h := nv_e h; obtain ⟨M19, eM19, h⟩ := h
  refine g_newI2 (N := 20) hC ea18 eM19 ak_int (by decide) (by rw [hR]; exact ⟨(Nat.le_of_ble_eq_true rfl), (Nat.le_of_ble_eq_true rfl)⟩) dX2_init_57 ?_
  replace h := ob h; obtain ⟨M20, eM20, h⟩ := h
  refine g_putFR (v := (some a18)) hC eM20 fk_X2_34 (ow_2 rfl) (hnm.trans rfl) (Or.inr ⟨_, rfl⟩) rfl dX2_init_59 ?_
  refine g_aload_n hC 0 dX2_init_62 rfl ?_
  refine g_bipush hC 20 dX2_init_63 (by decide) ?_
  replace h := nv_e h; obtain ⟨a21, ea21, h⟩ := h
  replace h := nv_e h; obtain ⟨M22, eM22, h⟩ := h
  refine g_newI2 (N := 20) hC ea21 eM22 ak_int (by decide) (by rw [hR]; exact ⟨(Nat.le_of_ble_eq_true rfl), (Nat.le_of_ble_eq_true rfl)⟩) dX2_init_65 ?_
  replace h := ob h; obtain ⟨M23, eM23, h⟩ := h
  refine g_putFR (v := (some a21)) hC eM23 fk_X2_37 (ow_2 rfl) (hnm.trans rfl) (Or.inr ⟨_, rfl⟩) rfl dX2_init_67 ?_
  refine g_aload_n hC 0 dX2_init_70 rfl ?_
  refine g_bipush hC 20 dX2_init_71 (by decide) ?_
  replace h := nv_e h; obtain ⟨a24, ea24, h⟩ := h
  replace h := nv_e h; obtain ⟨M25, eM25, h⟩ := h
  refine g_newZ2 (N := 20) hC ea24 eM25 ak_boolean (by decide) (by rw [hR]; exact ⟨(Nat.le_of_ble_eq_true rfl), (Nat.le_of_ble_eq_true rfl)⟩) dX2_init_73 ?_
  replace h := ob h; obtain ⟨M26, eM26, h⟩ := h
  refine g_putFR (v := (some a24)) hC eM26 fk_X2_40 (ow_2 rfl) (hnm.trans rfl) (Or.inr ⟨_, rfl⟩) rfl dX2_init_75 ?_
  exact g_vret hC h ⟨(Nat.le_of_ble_eq_true rfl), (Nat.le_of_ble_eq_true rfl)⟩ dX2_init_78

set_option maxHeartbeats 4000000 in
set_option maxRecDepth 100000 in
theorem c_X2_addCheck (l : Launch) (Γ : Gm) (this : Nat) (p1 : Int32) (p2 : Int32) (p3 : Int32) (p4 : Int32) (M M' : Mm) (h : F_X2_addCheck this p1 p2 p3 p4 M = some M') : Met l yX2_addCheck (wz yX2_addCheck cX2_addCheck 5 none) ({ frames := 0, cells := 0, slots := 0, locals := 0 } : Room) (Pq Γ M [.ref this, .int p1, .int p2, .int p3, .int p4]) (Qv Γ M') 0 0 (fr Γ) := by
  refine met_of (own := RX2) (by decide +kernel) rfl (Nat.le_of_ble_eq_true rfl) ?_
  intro X hC hR hnm hXl
  unfold F_X2_addCheck at h
  show G Γ X 5 M 0 0 _ 0 ([(0, .ref this), (1, .int p1), (2, .int p2), (3, .int p3), (4, .int p4)]) []
  refine g_aload_n hC 0 dX2_addCheck_0 rfl ?_
  replace h := ob h; obtain ⟨v1, ev1, h⟩ := h
  refine g_getI hC ev1 fk_X2_15 rfl dX2_addCheck_1 ?_
  refine g_bipush hC 20 dX2_addCheck_4 (by decide) ?_
  refine g_icmp_ge hC 60 dX2_addCheck_6 (by decide) (fun c2 => ?_) (fun c2 => ?_)
  · replace h := it_t c2 h
    exact g_vret hC h ⟨(Nat.le_of_ble_eq_true rfl), (Nat.le_of_ble_eq_true rfl)⟩ dX2_addCheck_60
  · replace h := it_f c2 h
    refine g_aload_n hC 0 dX2_addCheck_9 rfl ?_
    replace h := ob h; obtain ⟨v3, ev3, h⟩ := h
    refine g_getR hC ev3 fk_X2_31 rfl dX2_addCheck_10 ?_
    refine g_aload_n hC 0 dX2_addCheck_13 rfl ?_
    replace h := ob h; obtain ⟨v4, ev4, h⟩ := h
    refine g_getI hC ev4 fk_X2_15 rfl dX2_addCheck_14 ?_
    refine g_iload_n hC 1 dX2_addCheck_17 rfl ?_
    replace h := ob h; obtain ⟨a6, ea6, h⟩ := h
    subst ea6
    replace h := ob h; obtain ⟨M5, eM5, h⟩ := h
    refine g_iast hC eM5 dX2_addCheck_18 ?_
    refine g_aload_n hC 0 dX2_addCheck_19 rfl ?_
    replace h := ob h; obtain ⟨v7, ev7, h⟩ := h
    refine g_getR hC ev7 fk_X2_34 rfl dX2_addCheck_20 ?_
    refine g_aload_n hC 0 dX2_addCheck_23 rfl ?_
    replace h := ob h; obtain ⟨v8, ev8, h⟩ := h
    refine g_getI hC ev8 fk_X2_15 rfl dX2_addCheck_24 ?_
    refine g_iload_n hC 2 dX2_addCheck_27 rfl ?_
    replace h := ob h; obtain ⟨a10, ea10, h⟩ := h
    subst ea10
    replace h := ob h; obtain ⟨M9, eM9, h⟩ := h
    refine g_iast hC eM9 dX2_addCheck_28 ?_
    refine g_aload_n hC 0 dX2_addCheck_29 rfl ?_
    replace h := ob h; obtain ⟨v11, ev11, h⟩ := h
    refine g_getR hC ev11 fk_X2_37 rfl dX2_addCheck_30 ?_
    refine g_aload_n hC 0 dX2_addCheck_33 rfl ?_
    replace h := ob h; obtain ⟨v12, ev12, h⟩ := h
    refine g_getI hC ev12 fk_X2_15 rfl dX2_addCheck_34 ?_
    refine g_iload_n hC 3 dX2_addCheck_37 rfl ?_
    replace h := ob h; obtain ⟨a14, ea14, h⟩ := h
    subst ea14
    replace h := ob h; obtain ⟨M13, eM13, h⟩ := h
    refine g_iast hC eM13 dX2_addCheck_38 ?_
    refine g_aload_n hC 0 dX2_addCheck_39 rfl ?_
    replace h := ob h; obtain ⟨v15, ev15, h⟩ := h
    refine g_getR hC ev15 fk_X2_40 rfl dX2_addCheck_40 ?_
    refine g_aload_n hC 0 dX2_addCheck_43 rfl ?_
    replace h := ob h; obtain ⟨v16, ev16, h⟩ := h
    refine g_getI hC ev16 fk_X2_15 rfl dX2_addCheck_44 ?_
    refine g_iload hC 4 dX2_addCheck_47 rfl ?_
    replace h := ob h; obtain ⟨a18, ea18, h⟩ := h
    subst ea18
    replace h := ob h; obtain ⟨M17, eM17, h⟩ := h
    refine g_zast hC eM17 dX2_addCheck_49 ?_
    refine g_aload_n hC 0 dX2_addCheck_50 rfl ?_
    refine g_dup hC dX2_addCheck_51 rfl ?_
    replace h := ob h; obtain ⟨v19, ev19, h⟩ := h
    refine g_getI hC ev19 fk_X2_15 rfl dX2_addCheck_52 ?_
    refine g_iconst hC 1 dX2_addCheck_55 (by decide) ?_
    refine g_iadd hC dX2_addCheck_56 ?_
    replace h := ob h; obtain ⟨M20, eM20, h⟩ := h
    refine g_putI hC eM20 fk_X2_15 rfl dX2_addCheck_57 ?_
    exact g_vret hC h ⟨(Nat.le_of_ble_eq_true rfl), (Nat.le_of_ble_eq_true rfl)⟩ dX2_addCheck_60

set_option maxHeartbeats 4000000 in
set_option maxRecDepth 100000 in
theorem c_X2_addRule (l : Launch) (Γ : Gm) (this : Nat) (p1 : Int32) (p2 : Int32) (p3 : Int32) (M M' : Mm) (h : F_X2_addRule this p1 p2 p3 M = some M') : Met l yX2_addRule (wz yX2_addRule cX2_addRule 4 none) ({ frames := 0, cells := 0, slots := 0, locals := 0 } : Room) (Pq Γ M [.ref this, .int p1, .int p2, .int p3]) (Qv Γ M') 0 0 (fr Γ) := by
  refine met_of (own := RX2) (by decide +kernel) rfl (Nat.le_of_ble_eq_true rfl) ?_
  intro X hC hR hnm hXl
  unfold F_X2_addRule at h
  show G Γ X 4 M 0 0 _ 0 ([(0, .ref this), (1, .int p1), (2, .int p2), (3, .int p3)]) []
  refine g_aload_n hC 0 dX2_addRule_0 rfl ?_
  replace h := ob h; obtain ⟨v1, ev1, h⟩ := h
  refine g_getI hC ev1 fk_X2_9 rfl dX2_addRule_1 ?_
  refine g_bipush hC 6 dX2_addRule_4 (by decide) ?_
  refine g_icmp_ge hC 62 dX2_addRule_6 (by decide) (fun c2 => ?_) (fun c2 => ?_)
  · replace h := it_t c2 h
    exact g_vret hC h ⟨(Nat.le_of_ble_eq_true rfl), (Nat.le_of_ble_eq_true rfl)⟩ dX2_addRule_62
  · replace h := it_f c2 h
    refine g_aload_n hC 0 dX2_addRule_9 rfl ?_
    replace h := ob h; obtain ⟨v3, ev3, h⟩ := h
    refine g_getR hC ev3 fk_X2_22 rfl dX2_addRule_10 ?_
    refine g_aload_n hC 0 dX2_addRule_13 rfl ?_
    replace h := ob h; obtain ⟨v4, ev4, h⟩ := h
    refine g_getI hC ev4 fk_X2_9 rfl dX2_addRule_14 ?_
    refine g_iload_n hC 1 dX2_addRule_17 rfl ?_
    replace h := ob h; obtain ⟨a6, ea6, h⟩ := h
    subst ea6
    replace h := ob h; obtain ⟨M5, eM5, h⟩ := h
    refine g_iast hC eM5 dX2_addRule_18 ?_
    refine g_aload_n hC 0 dX2_addRule_19 rfl ?_
    replace h := ob h; obtain ⟨v7, ev7, h⟩ := h
    refine g_getR hC ev7 fk_X2_25 rfl dX2_addRule_20 ?_
    refine g_aload_n hC 0 dX2_addRule_23 rfl ?_
    replace h := ob h; obtain ⟨v8, ev8, h⟩ := h
    refine g_getI hC ev8 fk_X2_9 rfl dX2_addRule_24 ?_
    refine g_iload_n hC 2 dX2_addRule_27 rfl ?_
    replace h := ob h; obtain ⟨a10, ea10, h⟩ := h
    subst ea10
    replace h := ob h; obtain ⟨M9, eM9, h⟩ := h
    refine g_iast hC eM9 dX2_addRule_28 ?_
    refine g_aload_n hC 0 dX2_addRule_29 rfl ?_
    replace h := ob h; obtain ⟨v11, ev11, h⟩ := h
    refine g_getR hC ev11 fk_X2_28 rfl dX2_addRule_30 ?_
    refine g_aload_n hC 0 dX2_addRule_33 rfl ?_
    replace h := ob h; obtain ⟨v12, ev12, h⟩ := h
    refine g_getI hC ev12 fk_X2_9 rfl dX2_addRule_34 ?_
    refine g_iload_n hC 3 dX2_addRule_37 rfl ?_
    replace h := ob h; obtain ⟨a14, ea14, h⟩ := h
    subst ea14
    replace h := ob h; obtain ⟨M13, eM13, h⟩ := h
    refine g_iast hC eM13 dX2_addRule_38 ?_
    refine g_aload_n hC 0 dX2_addRule_39 rfl ?_
    replace h := ob h; obtain ⟨v15, ev15, h⟩ := h
    refine g_getR hC ev15 fk_X2_18 rfl dX2_addRule_40 ?_
    refine g_aload_n hC 0 dX2_addRule_43 rfl ?_
    replace h := ob h; obtain ⟨v16, ev16, h⟩ := h
    refine g_getI hC ev16 fk_X2_9 rfl dX2_addRule_44 ?_
    refine g_aload_n hC 0 dX2_addRule_47 rfl ?_
    replace h := ob h; obtain ⟨v17, ev17, h⟩ := h
    refine g_getI hC ev17 fk_X2_15 rfl dX2_addRule_48 ?_
    replace h := ob h; obtain ⟨a19, ea19, h⟩ := h
    subst ea19
    replace h := ob h; obtain ⟨M18, eM18, h⟩ := h
    refine g_iast hC eM18 dX2_addRule_51 ?_
    refine g_aload_n hC 0 dX2_addRule_52 rfl ?_
    refine g_dup hC dX2_addRule_53 rfl ?_
    replace h := ob h; obtain ⟨v20, ev20, h⟩ := h
    refine g_getI hC ev20 fk_X2_9 rfl dX2_addRule_54 ?_
    refine g_iconst hC 1 dX2_addRule_57 (by decide) ?_
    refine g_iadd hC dX2_addRule_58 ?_
    replace h := ob h; obtain ⟨M21, eM21, h⟩ := h
    refine g_putI hC eM21 fk_X2_9 rfl dX2_addRule_59 ?_
    exact g_vret hC h ⟨(Nat.le_of_ble_eq_true rfl), (Nat.le_of_ble_eq_true rfl)⟩ dX2_addRule_62

set_option maxHeartbeats 4000000 in
set_option maxRecDepth 100000 in
theorem c_X2_holds (l : Launch) (Γ : Gm) (this : Nat) (p1 : Int32) (p2 : Int32) (M M' : Mm) (r : Int32) (h : F_X2_holds this p1 p2 M = some (r, M')) : Met l yX2_holds (wz yX2_holds cX2_holds 4 (some .boolean)) ({ frames := 0, cells := 0, slots := 0, locals := 0 } : Room) (Pq Γ M [.ref this, .int p1, .int p2]) (Qi Γ r M') 0 0 (fr Γ) := by
  refine met_of (own := RX2) (by decide +kernel) rfl (Nat.le_of_ble_eq_true rfl) ?_
  intro X hC hR hnm hXl
  unfold F_X2_holds at h
  show G Γ X 4 M 0 0 _ 0 ([(0, .ref this), (1, .int p1), (2, .int p2)]) []
  refine g_aload_n hC 0 dX2_holds_0 rfl ?_
  replace h := ob h; obtain ⟨v1, ev1, h⟩ := h
  refine g_getR hC ev1 fk_X2_34 rfl dX2_holds_1 ?_
  refine g_iload_n hC 1 dX2_holds_4 rfl ?_
  replace h := ob h; obtain ⟨a3, ea3, h⟩ := h
  subst ea3
  replace h := ob h; obtain ⟨v2, ev2, h⟩ := h
  refine g_iald hC ev2 dX2_holds_5 ?_
  replace h := jp_e h; obtain ⟨k4, ek4, h⟩ := h
  have J11 : ∀ (x5 : Int32) (M6 : Mm), k4 x5 M6 = some (r, M') → G Γ X 4 M6 0 0 (Fin Γ X (Qi Γ r M') 0 0) 86 ([(0, .ref this), (1, .int p1), (3, .int x5)]) ([]) := by
    intro x5 M6 h
    rw [ek4] at h
    refine g_iload_n hC 2 dX2_holds_86 rfl ?_
    refine g_aload_n hC 0 dX2_holds_87 rfl ?_
    replace h := ob h; obtain ⟨v7, ev7, h⟩ := h
    refine g_getR hC ev7 fk_X2_40 rfl dX2_holds_88 ?_
    refine g_iload_n hC 1 dX2_holds_91 rfl ?_
    replace h := ob h; obtain ⟨a9, ea9, h⟩ := h
    subst ea9
    replace h := ob h; obtain ⟨v8, ev8, h⟩ := h
    refine g_zald hC ev8 dX2_holds_92 ?_
    refine g_icmp_eq hC 100 dX2_holds_93 (by decide) (fun c10 => ?_) (fun c10 => ?_)
    · replace h := it_t c10 h
      refine g_iconst hC 0 dX2_holds_100 (by decide) ?_
      exact g_zret hC (by decide) h ⟨(Nat.le_of_ble_eq_true rfl), (Nat.le_of_ble_eq_true rfl)⟩ dX2_holds_101
    · replace h := it_f c10 h
      refine g_iconst hC 1 dX2_holds_96 (by decide) ?_
      refine g_goto hC 101 dX2_holds_97 (by decide) ?_
      exact g_zret hC (by decide) h ⟨(Nat.le_of_ble_eq_true rfl), (Nat.le_of_ble_eq_true rfl)⟩ dX2_holds_101
  by_cases c12 : v2 = 60
  · replace h := it_t c12 h
    refine g_lkp (off := 26) hC 32 c12 dX2_holds_6 (by decide) ?_
    refine g_iload_n hC 2 dX2_holds_32 rfl ?_
    refine g_aload_n hC 0 dX2_holds_33 rfl ?_
    replace h := ob h; obtain ⟨v13, ev13, h⟩ := h
    refine g_getR hC ev13 fk_X2_37 rfl dX2_holds_34 ?_
    refine g_iload_n hC 1 dX2_holds_37 rfl ?_
    replace h := ob h; obtain ⟨a15, ea15, h⟩ := h
    subst ea15
    replace h := ob h; obtain ⟨v14, ev14, h⟩ := h
    refine g_iald hC ev14 dX2_holds_38 ?_
    replace h := nv_e h; obtain ⟨v16, ev16, h⟩ := h
    have J17 : G Γ X 4 M 0 0 (Fin Γ X (Qi Γ r M') 0 0) 47 ([(0, .ref this), (1, .int p1), (2, .int p2)]) ([.int v16]) := by
      refine g_istore_n hC ([(3, .int v16), (0, .ref this), (1, .int p1), (2, .int p2)]) dX2_holds_47 (by decide) rfl ?_
      refine g_goto hC 86 dX2_holds_48 (by decide) ?_
      refine g_sub [1, 2, 0] rfl ?_
      exact J11 v16 M h
    refine g_icmp_ge hC 46 dX2_holds_39 (by decide) (fun c18 => ?_) (fun c18 => ?_)
    · refine g_iconst hC 0 dX2_holds_46 (by decide) ?_
      rw [show v16 = _ from ev16.trans (if_pos c18)] at J17
      exact J17
    · refine g_iconst hC 1 dX2_holds_42 (by decide) ?_
      refine g_goto hC 47 dX2_holds_43 (by decide) ?_
      rw [show v16 = _ from ev16.trans (if_neg c18)] at J17
      exact J17
  replace h := it_f c12 h
  by_cases c19 : v2 = 62
  · replace h := it_t c19 h
    refine g_lkp (off := 45) hC 51 c19 dX2_holds_6 (by decide) ?_
    refine g_iload_n hC 2 dX2_holds_51 rfl ?_
    refine g_aload_n hC 0 dX2_holds_52 rfl ?_
    replace h := ob h; obtain ⟨v20, ev20, h⟩ := h
    refine g_getR hC ev20 fk_X2_37 rfl dX2_holds_53 ?_
    refine g_iload_n hC 1 dX2_holds_56 rfl ?_
    replace h := ob h; obtain ⟨a22, ea22, h⟩ := h
    subst ea22
    replace h := ob h; obtain ⟨v21, ev21, h⟩ := h
    refine g_iald hC ev21 dX2_holds_57 ?_
    replace h := nv_e h; obtain ⟨v23, ev23, h⟩ := h
    have J24 : G Γ X 4 M 0 0 (Fin Γ X (Qi Γ r M') 0 0) 66 ([(0, .ref this), (1, .int p1), (2, .int p2)]) ([.int v23]) := by
      refine g_istore_n hC ([(3, .int v23), (0, .ref this), (1, .int p1), (2, .int p2)]) dX2_holds_66 (by decide) rfl ?_
      refine g_goto hC 86 dX2_holds_67 (by decide) ?_
      refine g_sub [1, 2, 0] rfl ?_
      exact J11 v23 M h
    refine g_icmp_le hC 65 dX2_holds_58 (by decide) (fun c25 => ?_) (fun c25 => ?_)
    · refine g_iconst hC 0 dX2_holds_65 (by decide) ?_
      rw [show v23 = _ from ev23.trans (if_pos c25)] at J24
      exact J24
    · refine g_iconst hC 1 dX2_holds_61 (by decide) ?_
      refine g_goto hC 66 dX2_holds_62 (by decide) ?_
      rw [show v23 = _ from ev23.trans (if_neg c25)] at J24
      exact J24
  replace h := it_f c19 h
  refine g_lookup hC 70 dX2_holds_6 (by decide) (lk_out _ (fun p hp => ?_)) (by decide) ?_
  · simp only [List.mem_cons, List.not_mem_nil, or_false] at hp
    rcases hp with rfl | rfl
    · exact ⟨by decide, c12⟩
    · exact ⟨by decide, c19⟩
  refine g_iload_n hC 2 dX2_holds_70 rfl ?_
  refine g_aload_n hC 0 dX2_holds_71 rfl ?_
  replace h := ob h; obtain ⟨v26, ev26, h⟩ := h
  refine g_getR hC ev26 fk_X2_37 rfl dX2_holds_72 ?_
  refine g_iload_n hC 1 dX2_holds_75 rfl ?_
  replace h := ob h; obtain ⟨a28, ea28, h⟩ := h
  subst ea28
  replace h := ob h; obtain ⟨v27, ev27, h⟩ := h
  refine g_iald hC ev27 dX2_holds_76 ?_
  replace h := nv_e h; obtain ⟨v29, ev29, h⟩ := h
  have J30 : G Γ X 4 M 0 0 (Fin Γ X (Qi Γ r M') 0 0) 85 ([(0, .ref this), (1, .int p1), (2, .int p2)]) ([.int v29]) := by
    refine g_istore_n hC ([(3, .int v29), (0, .ref this), (1, .int p1), (2, .int p2)]) dX2_holds_85 (by decide) rfl ?_
    refine g_sub [1, 2, 0] rfl ?_
    exact J11 v29 M h
  refine g_icmp_ne hC 84 dX2_holds_77 (by decide) (fun c31 => ?_) (fun c31 => ?_)
  · refine g_iconst hC 0 dX2_holds_84 (by decide) ?_
    rw [show v29 = _ from ev29.trans (if_neg c31)] at J30
    exact J30
  · refine g_iconst hC 1 dX2_holds_80 (by decide) ?_
    refine g_goto hC 85 dX2_holds_81 (by decide) ?_
    rw [show v29 = _ from ev29.trans (if_pos c31)] at J30
    exact J30

set_option maxHeartbeats 4000000 in
set_option maxRecDepth 100000 in
theorem c_X3_init (l : Launch) (Γ : Gm) (this : Nat) (M M' : Mm) (h : F_X3_init this M = some M') : Met l yX3_init (wz yX3_init cX3_init 1 none) ({ frames := 2, cells := 10, slots := 114, locals := 40 } : Room) (Pq Γ M [.ref this]) (Qv Γ M') 10 114 (fr Γ) := by
  refine met_of (own := RX3) (by decide +kernel) rfl (Nat.le_of_ble_eq_true rfl) ?_
  intro X hC hR hnm hXl
  unfold F_X3_init at h
  show G Γ X 1 M 0 0 _ 0 ([(0, .ref this)]) []
  refine g_aload_n hC 0 dX3_init_0 rfl ?_
  refine g_objInit hC ok_X3_3 hR (Nat.le_of_ble_eq_true rfl) ⟨(Nat.le_of_ble_eq_true rfl), (Nat.le_of_ble_eq_true rfl)⟩ dX3_init_1 ?_
  refine g_aload_n hC 0 dX3_init_4 rfl ?_
  replace h := nv_e h; obtain ⟨a1, ea1, h⟩ := h
  replace h := nv_e h; obtain ⟨M2, eM2, h⟩ := h
  refine g_newO2 (n := 10) hC ea1 eM2 cl_2 rfl ck_X3_9.1 ck_X3_9.2.1 ck_X3_9.2.2 nd_2 (by rw [hR]; exact ⟨(Nat.le_of_ble_eq_true rfl), (Nat.le_of_ble_eq_true rfl)⟩) dX3_init_5 ?_
  refine g_dup hC dX3_init_8 rfl ?_
  replace h := ob h; obtain ⟨M3, eM3, h⟩ := h
  refine g_callv hC (r_IN hC (As := []) (c_X2_init _ Γ a1 M2 M3 eM3) yk_X2_init lk_X3_11 rfl rfl (Nat.le_of_ble_eq_true rfl) hR ⟨(Nat.le_of_ble_eq_true rfl), (Nat.le_of_ble_eq_true rfl)⟩ ⟨(Nat.le_of_ble_eq_true rfl), (Nat.le_of_ble_eq_true rfl)⟩ dX3_init_9) ?_
  replace h := ob h; obtain ⟨M4, eM4, h⟩ := h
  refine g_putR (v := (some a1)) hC eM4 fk_X3_12 (Or.inl ⟨_, rfl⟩) rfl dX3_init_12 ?_
  refine g_aload_n hC 0 dX3_init_15 rfl ?_
  refine g_iconst hC 0 dX3_init_16 (by decide) ?_
  replace h := nv_e h; obtain ⟨a5, ea5, h⟩ := h
  replace h := nv_e h; obtain ⟨M6, eM6, h⟩ := h
  refine g_newI2 (N := 0) hC ea5 eM6 ak_int (by decide) (by rw [hR]; exact ⟨(Nat.le_of_ble_eq_true rfl), (Nat.le_of_ble_eq_true rfl)⟩) dX3_init_17 ?_
  replace h := ob h; obtain ⟨M7, eM7, h⟩ := h
  refine g_putR (v := (some a5)) hC eM7 fk_X3_18 (Or.inr ⟨_, rfl⟩) rfl dX3_init_19 ?_
  refine g_aload_n hC 0 dX3_init_22 rfl ?_
  refine g_iconst hC 0 dX3_init_23 (by decide) ?_
  replace h := ob h; obtain ⟨M8, eM8, h⟩ := h
  refine g_putI hC eM8 fk_X3_22 rfl dX3_init_24 ?_
  refine g_aload_n hC 0 dX3_init_27 rfl ?_
  refine g_iconst hC 0 dX3_init_28 (by decide) ?_
  replace h := ob h; obtain ⟨M9, eM9, h⟩ := h
  refine g_putI hC eM9 fk_X3_26 rfl dX3_init_29 ?_
  exact g_vret hC h ⟨(Nat.le_of_ble_eq_true rfl), (Nat.le_of_ble_eq_true rfl)⟩ dX3_init_32

set_option maxHeartbeats 4000000 in
set_option maxRecDepth 100000 in
theorem c_X3_handOver (l : Launch) (Γ : Gm) (this : Nat) (M M' : Mm) (r : Option Nat) (h : F_X3_handOver this M = some (r, M')) : Met l yX3_handOver (wz yX3_handOver cX3_handOver 2 (some (.object "DeepWings$Order"))) ({ frames := 2, cells := 9, slots := 114, locals := 40 } : Room) (Pq Γ M [.ref this]) (Qr Γ r M') 9 114 (fr Γ) := by
  refine met_of (own := RX3) (by decide +kernel) rfl (Nat.le_of_ble_eq_true rfl) ?_
  intro X hC hR hnm hXl
  unfold F_X3_handOver at h
  show G Γ X 2 M 0 0 _ 0 ([(0, .ref this)]) []
  refine g_aload_n hC 0 dX3_handOver_0 rfl ?_
  replace h := ob h; obtain ⟨v1, ev1, h⟩ := h
  refine g_getR hC ev1 fk_X3_12 rfl dX3_handOver_1 ?_
  refine g_astore_nq hC (x := v1) ([(1, va_rf v1), (0, .ref this)]) dX3_handOver_4 (by decide) rfl ?_
  refine g_aload_n hC 1 dX3_handOver_5 rfl ?_
  replace h := nv_e h; obtain ⟨a2, ea2, h⟩ := h
  replace h := nv_e h; obtain ⟨M3, eM3, h⟩ := h
  refine g_newO2 (n := 10) hC ea2 eM3 cl_2 rfl ck_X3_9.1 ck_X3_9.2.1 ck_X3_9.2.2 nd_2 (by rw [hR]; exact ⟨(Nat.le_of_ble_eq_true rfl), (Nat.le_of_ble_eq_true rfl)⟩) dX3_handOver_6 ?_
  refine g_dup hC dX3_handOver_9 rfl ?_
  replace h := ob h; obtain ⟨M4, eM4, h⟩ := h
  refine g_callv hC (r_IN hC (As := []) (c_X2_init _ Γ a2 M3 M4 eM4) yk_X2_init lk_X3_11 rfl rfl (Nat.le_of_ble_eq_true rfl) hR ⟨(Nat.le_of_ble_eq_true rfl), (Nat.le_of_ble_eq_true rfl)⟩ ⟨(Nat.le_of_ble_eq_true rfl), (Nat.le_of_ble_eq_true rfl)⟩ dX3_handOver_10) ?_
  replace h := ob h; obtain ⟨M5, eM5, h⟩ := h
  refine g_putR (v := (some a2)) hC eM5 fk_X3_12 (Or.inl ⟨_, rfl⟩) rfl dX3_handOver_13 ?_
  refine g_aload_nq hC 0 (x := v1) dX3_handOver_16 rfl ?_
  exact g_aret (v := v1) hC rfl (Or.inl ⟨_, rfl⟩) h ⟨(Nat.le_of_ble_eq_true rfl), (Nat.le_of_ble_eq_true rfl)⟩ dX3_handOver_17

set_option maxHeartbeats 4000000 in
set_option maxRecDepth 100000 in
theorem c_X3_take (l : Launch) (Γ : Gm) (this : Nat) (p1 : Int32) (M M' : Mm) (r : Int32) (h : F_X3_take this p1 M = some (r, M')) : Met l yX3_take (wz yX3_take cX3_take 2 (some .boolean)) ({ frames := 0, cells := 0, slots := 0, locals := 0 } : Room) (Pq Γ M [.ref this, .int p1]) (Qi Γ r M') 0 0 (fr Γ) := by
  refine met_of (own := RX3) (by decide +kernel) rfl (Nat.le_of_ble_eq_true rfl) ?_
  intro X hC hR hnm hXl
  unfold F_X3_take at h
  show G Γ X 2 M 0 0 _ 0 ([(0, .ref this), (1, .int p1)]) []
  refine g_aload_n hC 0 dX3_take_0 rfl ?_
  replace h := ob h; obtain ⟨v1, ev1, h⟩ := h
  refine g_getI hC ev1 fk_X3_26 rfl dX3_take_1 ?_
  refine g_aload_n hC 0 dX3_take_4 rfl ?_
  replace h := ob h; obtain ⟨v2, ev2, h⟩ := h
  refine g_getI hC ev2 fk_X3_22 rfl dX3_take_5 ?_
  refine g_icmp_ge hC 24 dX3_take_8 (by decide) (fun c3 => ?_) (fun c3 => ?_)
  · replace h := it_t c3 h
    refine g_iconst hC 0 dX3_take_24 (by decide) ?_
    exact g_zret hC (by decide) h ⟨(Nat.le_of_ble_eq_true rfl), (Nat.le_of_ble_eq_true rfl)⟩ dX3_take_25
  · replace h := it_f c3 h
    refine g_aload_n hC 0 dX3_take_11 rfl ?_
    replace h := ob h; obtain ⟨v4, ev4, h⟩ := h
    refine g_getR hC ev4 fk_X3_18 rfl dX3_take_12 ?_
    refine g_aload_n hC 0 dX3_take_15 rfl ?_
    replace h := ob h; obtain ⟨v5, ev5, h⟩ := h
    refine g_getI hC ev5 fk_X3_26 rfl dX3_take_16 ?_
    replace h := ob h; obtain ⟨a7, ea7, h⟩ := h
    subst ea7
    replace h := ob h; obtain ⟨v6, ev6, h⟩ := h
    refine g_iald hC ev6 dX3_take_19 ?_
    refine g_iload_n hC 1 dX3_take_20 rfl ?_
    refine g_icmp_eq hC 26 dX3_take_21 (by decide) (fun c8 => ?_) (fun c8 => ?_)
    · replace h := it_t c8 h
      refine g_aload_n hC 0 dX3_take_26 rfl ?_
      refine g_dup hC dX3_take_27 rfl ?_
      replace h := ob h; obtain ⟨v9, ev9, h⟩ := h
      refine g_getI hC ev9 fk_X3_26 rfl dX3_take_28 ?_
      refine g_iconst hC 1 dX3_take_31 (by decide) ?_
      refine g_iadd hC dX3_take_32 ?_
      replace h := ob h; obtain ⟨M10, eM10, h⟩ := h
      refine g_putI hC eM10 fk_X3_26 rfl dX3_take_33 ?_
      refine g_iconst hC 1 dX3_take_36 (by decide) ?_
      exact g_zret hC (by decide) h ⟨(Nat.le_of_ble_eq_true rfl), (Nat.le_of_ble_eq_true rfl)⟩ dX3_take_37
    · replace h := it_f c8 h
      refine g_iconst hC 0 dX3_take_24 (by decide) ?_
      exact g_zret hC (by decide) h ⟨(Nat.le_of_ble_eq_true rfl), (Nat.le_of_ble_eq_true rfl)⟩ dX3_take_25

set_option maxHeartbeats 4000000 in
set_option maxRecDepth 100000 in
theorem l_X3_takeOneOf_L2 {Γ : Gm} {X : Ct} (hC : Cx Γ X cX3_takeOneOf RX3 (some .int) 3) (hR : X.2.2.2.1 = ({ frames := 4, cells := 0, slots := 0, locals := 85 } : Room)) (r : Int32) (M' : Mm)  (x0 : Nat) (x1 : Nat) : ∀ (fu : Nat) (x2 : Int32) (M0 : Mm), F_X3_takeOneOf_L2 x0 x1 fu x2 M0 = some (r, M') → G Γ X 3 M0 0 0 (Fin Γ X (Qi Γ r M') 0 0) 2 ([(0, .ref x0), (1, .ref (Γ.2.2.2.1.1 x1)), (2, .int x2)]) [] := by
  intro fu
  induction fu with
  | zero =>
    intro x2 M0 h
    rw [F_X3_takeOneOf_L2] at h
    cases h
  | succ n1 ih =>
    intro x2 M0 h
    rw [F_X3_takeOneOf_L2] at h
    refine g_iload_n hC 2 dX3_takeOneOf_2 rfl ?_
    refine g_aload_n hC 1 dX3_takeOneOf_3 rfl ?_
    replace h := ob h; obtain ⟨v2, ev2, h⟩ := h
    refine g_txL hC ev2 tk_X3_86 hR (Nat.le_of_ble_eq_true rfl) ⟨⟨(Nat.le_of_ble_eq_true rfl), (Nat.le_of_ble_eq_true rfl)⟩, (Nat.le_of_ble_eq_true rfl), (Nat.le_of_ble_eq_true rfl)⟩ dX3_takeOneOf_4 ?_
    refine g_icmp_ge hC 34 dX3_takeOneOf_7 (by decide) (fun c3 => ?_) (fun c3 => ?_)
    · replace h := it_t c3 h
      refine g_iconst hC (-1) dX3_takeOneOf_34 (by decide) ?_
      exact g_iret hC h ⟨(Nat.le_of_ble_eq_true rfl), (Nat.le_of_ble_eq_true rfl)⟩ dX3_takeOneOf_35
    · replace h := it_f c3 h
      refine g_aload_n hC 0 dX3_takeOneOf_10 rfl ?_
      refine g_aload_n hC 1 dX3_takeOneOf_11 rfl ?_
      refine g_iload_n hC 2 dX3_takeOneOf_12 rfl ?_
      replace h := ob h; obtain ⟨v4, ev4, h⟩ := h
      refine g_txC hC ev4 tk_X3_91 hR (Nat.le_of_ble_eq_true rfl) ⟨⟨(Nat.le_of_ble_eq_true rfl), (Nat.le_of_ble_eq_true rfl)⟩, (Nat.le_of_ble_eq_true rfl), (Nat.le_of_ble_eq_true rfl)⟩ dX3_takeOneOf_13 ?_
      replace h := ob h; obtain ⟨_, eu6, h⟩ := h
      replace h := ob h; obtain ⟨⟨v7, M5⟩, eM5, h⟩ := h
      refine g_calli hC (r_V hC (As := [.int v4]) (c_X3_take _ Γ x0 v4 M0 M5 v7 eM5) yk_X3_take lk_X3_48 eu6 ⟨_, rfl, rfl⟩ rfl rfl (Nat.le_of_ble_eq_true rfl) hR ⟨(Nat.le_of_ble_eq_true rfl), (Nat.le_of_ble_eq_true rfl)⟩ ⟨(Nat.le_of_ble_eq_true rfl), (Nat.le_of_ble_eq_true rfl)⟩ dX3_takeOneOf_16) ?_
      refine g_if_eq hC 28 dX3_takeOneOf_19 (by decide) (fun c8 => ?_) (fun c8 => ?_)
      · replace h := it_t c8 h
        refine g_iinc hC 2 (x2 + 1) ([(2, .int (x2 + 1)), (0, .ref x0), (1, .ref (Γ.2.2.2.1.1 x1))]) dX3_takeOneOf_28 rfl rfl (by decide) rfl ?_
        refine g_goto hC 2 dX3_takeOneOf_31 (by decide) ?_
        refine g_sub [1, 2, 0] rfl ?_
        exact ih (x2 + 1) M5 h
      · replace h := it_f c8 h
        refine g_aload_n hC 1 dX3_takeOneOf_22 rfl ?_
        refine g_iload_n hC 2 dX3_takeOneOf_23 rfl ?_
        replace h := ob h; obtain ⟨v9, ev9, h⟩ := h
        refine g_txC hC ev9 tk_X3_91 hR (Nat.le_of_ble_eq_true rfl) ⟨⟨(Nat.le_of_ble_eq_true rfl), (Nat.le_of_ble_eq_true rfl)⟩, (Nat.le_of_ble_eq_true rfl), (Nat.le_of_ble_eq_true rfl)⟩ dX3_takeOneOf_24 ?_
        exact g_iret hC h ⟨(Nat.le_of_ble_eq_true rfl), (Nat.le_of_ble_eq_true rfl)⟩ dX3_takeOneOf_27
set_option maxHeartbeats 4000000 in
set_option maxRecDepth 100000 in
theorem c_X3_takeOneOf (l : Launch) (Γ : Gm) (this : Nat) (p1 : Nat) (M M' : Mm) (r : Int32) (h : F_X3_takeOneOf this p1 M = some (r, M')) : Met l yX3_takeOneOf (wz yX3_takeOneOf cX3_takeOneOf 3 (some .int)) ({ frames := 4, cells := 0, slots := 0, locals := 85 } : Room) (Pq Γ M [.ref this, .ref (Γ.2.2.2.1.1 p1)]) (Qi Γ r M') 0 0 (fr Γ) := by
  refine met_of (own := RX3) (by decide +kernel) rfl (Nat.le_of_ble_eq_true rfl) ?_
  intro X hC hR hnm hXl
  unfold F_X3_takeOneOf at h
  show G Γ X 3 M 0 0 _ 0 ([(0, .ref this), (1, .ref (Γ.2.2.2.1.1 p1))]) []
  refine g_iconst hC 0 dX3_takeOneOf_0 (by decide) ?_
  refine g_istore_n hC ([(2, .int 0), (0, .ref this), (1, .ref (Γ.2.2.2.1.1 p1))]) dX3_takeOneOf_1 (by decide) rfl ?_
  refine g_sub [1, 2, 0] rfl ?_
  refine l_X3_takeOneOf_L2 hC hR r M'  _ _  _ _ _ h

set_option maxHeartbeats 4000000 in
set_option maxRecDepth 100000 in
theorem c_X3_takeDigit (l : Launch) (Γ : Gm) (this : Nat) (p1 : Int32) (M M' : Mm) (r : Int32) (h : F_X3_takeDigit this p1 M = some (r, M')) : Met l yX3_takeDigit (wz yX3_takeDigit cX3_takeDigit 2 (some .int)) ({ frames := 0, cells := 0, slots := 0, locals := 0 } : Room) (Pq Γ M [.ref this, .int p1]) (Qi Γ r M') 0 0 (fr Γ) := by
  refine met_of (own := RX3) (by decide +kernel) rfl (Nat.le_of_ble_eq_true rfl) ?_
  intro X hC hR hnm hXl
  unfold F_X3_takeDigit at h
  show G Γ X 2 M 0 0 _ 0 ([(0, .ref this), (1, .int p1)]) []
  refine g_aload_n hC 0 dX3_takeDigit_0 rfl ?_
  replace h := ob h; obtain ⟨v1, ev1, h⟩ := h
  refine g_getI hC ev1 fk_X3_26 rfl dX3_takeDigit_1 ?_
  refine g_aload_n hC 0 dX3_takeDigit_4 rfl ?_
  replace h := ob h; obtain ⟨v2, ev2, h⟩ := h
  refine g_getI hC ev2 fk_X3_22 rfl dX3_takeDigit_5 ?_
  refine g_icmp_ge hC 41 dX3_takeDigit_8 (by decide) (fun c3 => ?_) (fun c3 => ?_)
  · replace h := it_t c3 h
    refine g_iconst hC (-1) dX3_takeDigit_41 (by decide) ?_
    exact g_iret hC h ⟨(Nat.le_of_ble_eq_true rfl), (Nat.le_of_ble_eq_true rfl)⟩ dX3_takeDigit_42
  · replace h := it_f c3 h
    refine g_aload_n hC 0 dX3_takeDigit_11 rfl ?_
    replace h := ob h; obtain ⟨v4, ev4, h⟩ := h
    refine g_getR hC ev4 fk_X3_18 rfl dX3_takeDigit_12 ?_
    refine g_aload_n hC 0 dX3_takeDigit_15 rfl ?_
    replace h := ob h; obtain ⟨v5, ev5, h⟩ := h
    refine g_getI hC ev5 fk_X3_26 rfl dX3_takeDigit_16 ?_
    replace h := ob h; obtain ⟨a7, ea7, h⟩ := h
    subst ea7
    replace h := ob h; obtain ⟨v6, ev6, h⟩ := h
    refine g_iald hC ev6 dX3_takeDigit_19 ?_
    refine g_bipush hC 48 dX3_takeDigit_20 (by decide) ?_
    refine g_icmp_lt hC 41 dX3_takeDigit_22 (by decide) (fun c8 => ?_) (fun c8 => ?_)
    · replace h := it_t c8 h
      refine g_iconst hC (-1) dX3_takeDigit_41 (by decide) ?_
      exact g_iret hC h ⟨(Nat.le_of_ble_eq_true rfl), (Nat.le_of_ble_eq_true rfl)⟩ dX3_takeDigit_42
    · replace h := it_f c8 h
      refine g_aload_n hC 0 dX3_takeDigit_25 rfl ?_
      replace h := ob h; obtain ⟨v9, ev9, h⟩ := h
      refine g_getR hC ev9 fk_X3_18 rfl dX3_takeDigit_26 ?_
      refine g_aload_n hC 0 dX3_takeDigit_29 rfl ?_
      replace h := ob h; obtain ⟨v10, ev10, h⟩ := h
      refine g_getI hC ev10 fk_X3_26 rfl dX3_takeDigit_30 ?_
      replace h := ob h; obtain ⟨a12, ea12, h⟩ := h
      subst ea12
      replace h := ob h; obtain ⟨v11, ev11, h⟩ := h
      refine g_iald hC ev11 dX3_takeDigit_33 ?_
      refine g_bipush hC 48 dX3_takeDigit_34 (by decide) ?_
      refine g_iload_n hC 1 dX3_takeDigit_36 rfl ?_
      refine g_iadd hC dX3_takeDigit_37 ?_
      refine g_icmp_le hC 43 dX3_takeDigit_38 (by decide) (fun c13 => ?_) (fun c13 => ?_)
      · replace h := it_t c13 h
        refine g_aload_n hC 0 dX3_takeDigit_43 rfl ?_
        refine g_dup hC dX3_takeDigit_44 rfl ?_
        replace h := ob h; obtain ⟨v14, ev14, h⟩ := h
        refine g_getI hC ev14 fk_X3_26 rfl dX3_takeDigit_45 ?_
        refine g_iconst hC 1 dX3_takeDigit_48 (by decide) ?_
        refine g_iadd hC dX3_takeDigit_49 ?_
        replace h := ob h; obtain ⟨M15, eM15, h⟩ := h
        refine g_putI hC eM15 fk_X3_26 rfl dX3_takeDigit_50 ?_
        refine g_aload_n hC 0 dX3_takeDigit_53 rfl ?_
        replace h := ob h; obtain ⟨v16, ev16, h⟩ := h
        refine g_getR hC ev16 fk_X3_18 rfl dX3_takeDigit_54 ?_
        refine g_aload_n hC 0 dX3_takeDigit_57 rfl ?_
        replace h := ob h; obtain ⟨v17, ev17, h⟩ := h
        refine g_getI hC ev17 fk_X3_26 rfl dX3_takeDigit_58 ?_
        refine g_iconst hC 1 dX3_takeDigit_61 (by decide) ?_
        refine g_isub hC dX3_takeDigit_62 ?_
        replace h := ob h; obtain ⟨a19, ea19, h⟩ := h
        subst ea19
        replace h := ob h; obtain ⟨v18, ev18, h⟩ := h
        refine g_iald hC ev18 dX3_takeDigit_63 ?_
        refine g_bipush hC 48 dX3_takeDigit_64 (by decide) ?_
        refine g_isub hC dX3_takeDigit_66 ?_
        exact g_iret hC h ⟨(Nat.le_of_ble_eq_true rfl), (Nat.le_of_ble_eq_true rfl)⟩ dX3_takeDigit_67
      · replace h := it_f c13 h
        refine g_iconst hC (-1) dX3_takeDigit_41 (by decide) ?_
        exact g_iret hC h ⟨(Nat.le_of_ble_eq_true rfl), (Nat.le_of_ble_eq_true rfl)⟩ dX3_takeDigit_42

set_option maxHeartbeats 4000000 in
set_option maxRecDepth 100000 in
theorem l_X3_takeNumber_L9 {Γ : Gm} {X : Ct} (hC : Cx Γ X cX3_takeNumber RX3 (some .int) 4) (hR : X.2.2.2.1 = ({ frames := 1, cells := 0, slots := 0, locals := 21 } : Room)) (r : Int32) (M' : Mm)  (x0 : Nat) : ∀ (fu : Nat) (x1 : Int32) (x2 : Int32) (M0 : Mm), F_X3_takeNumber_L9 x0 fu x1 x2 M0 = some (r, M') → G Γ X 4 M0 0 0 (Fin Γ X (Qi Γ r M') 0 0) 9 ([(0, .ref x0), (1, .int x1), (2, .int x2)]) [] := by
  intro fu
  induction fu with
  | zero =>
    intro x1 x2 M0 h
    rw [F_X3_takeNumber_L9] at h
    cases h
  | succ n4 ih =>
    intro x1 x2 M0 h
    rw [F_X3_takeNumber_L9] at h
    refine g_iload_n hC 2 dX3_takeNumber_9 rfl ?_
    refine g_iconst hC 3 dX3_takeNumber_10 (by decide) ?_
    refine g_icmp_ge hC 44 dX3_takeNumber_11 (by decide) (fun c5 => ?_) (fun c5 => ?_)
    · replace h := it_t c5 h
      refine g_iload_n hC 1 dX3_takeNumber_44 rfl ?_
      exact g_iret hC h ⟨(Nat.le_of_ble_eq_true rfl), (Nat.le_of_ble_eq_true rfl)⟩ dX3_takeNumber_45
    · replace h := it_f c5 h
      refine g_iload_n hC 1 dX3_takeNumber_14 rfl ?_
      refine g_if_le hC 44 dX3_takeNumber_15 (by decide) (fun c6 => ?_) (fun c6 => ?_)
      · replace h := it_t c6 h
        refine g_iload_n hC 1 dX3_takeNumber_44 rfl ?_
        exact g_iret hC h ⟨(Nat.le_of_ble_eq_true rfl), (Nat.le_of_ble_eq_true rfl)⟩ dX3_takeNumber_45
      · replace h := it_f c6 h
        refine g_aload_n hC 0 dX3_takeNumber_18 rfl ?_
        refine g_bipush hC 9 dX3_takeNumber_19 (by decide) ?_
        replace h := ob h; obtain ⟨_, eu8, h⟩ := h
        replace h := ob h; obtain ⟨⟨v9, M7⟩, eM7, h⟩ := h
        refine g_calli hC (r_V hC (As := [.int 9]) (c_X3_takeDigit _ Γ x0 9 M0 M7 v9 eM7) yk_X3_takeDigit lk_X3_71 eu8 ⟨_, rfl, rfl⟩ rfl rfl (Nat.le_of_ble_eq_true rfl) hR ⟨(Nat.le_of_ble_eq_true rfl), (Nat.le_of_ble_eq_true rfl)⟩ ⟨(Nat.le_of_ble_eq_true rfl), (Nat.le_of_ble_eq_true rfl)⟩ dX3_takeNumber_21) ?_
        refine g_istore_n hC ([(3, .int v9), (0, .ref x0), (1, .int x1), (2, .int x2)]) dX3_takeNumber_24 (by decide) rfl ?_
        refine g_iload_n hC 0 dX3_takeNumber_25 rfl ?_
        refine g_if_ge hC 31 dX3_takeNumber_26 (by decide) (fun c10 => ?_) (fun c10 => ?_)
        · replace h := it_t c10 h
          refine g_bipush hC 10 dX3_takeNumber_31 (by decide) ?_
          refine g_iload_n hC 2 dX3_takeNumber_33 rfl ?_
          refine g_imul hC dX3_takeNumber_34 ?_
          refine g_iload_n hC 0 dX3_takeNumber_35 rfl ?_
          refine g_iadd hC dX3_takeNumber_36 ?_
          refine g_istore_n hC ([(1, .int ((10 * x1) + v9)), (3, .int v9), (0, .ref x0), (2, .int x2)]) dX3_takeNumber_37 (by decide) rfl ?_
          refine g_iinc hC 3 (x2 + 1) ([(2, .int (x2 + 1)), (1, .int ((10 * x1) + v9)), (3, .int v9), (0, .ref x0)]) dX3_takeNumber_38 rfl rfl (by decide) rfl ?_
          refine g_goto hC 9 dX3_takeNumber_41 (by decide) ?_
          refine g_sub [3, 1, 0] rfl ?_
          exact ih ((10 * x1) + v9) (x2 + 1) M7 h
        · replace h := it_f c10 h
          refine g_iload_n hC 2 dX3_takeNumber_29 rfl ?_
          exact g_iret hC h ⟨(Nat.le_of_ble_eq_true rfl), (Nat.le_of_ble_eq_true rfl)⟩ dX3_takeNumber_30
set_option maxHeartbeats 4000000 in
set_option maxRecDepth 100000 in
theorem c_X3_takeNumber (l : Launch) (Γ : Gm) (this : Nat) (M M' : Mm) (r : Int32) (h : F_X3_takeNumber this M = some (r, M')) : Met l yX3_takeNumber (wz yX3_takeNumber cX3_takeNumber 4 (some .int)) ({ frames := 1, cells := 0, slots := 0, locals := 21 } : Room) (Pq Γ M [.ref this]) (Qi Γ r M') 0 0 (fr Γ) := by
  refine met_of (own := RX3) (by decide +kernel) rfl (Nat.le_of_ble_eq_true rfl) ?_
  intro X hC hR hnm hXl
  unfold F_X3_takeNumber at h
  show G Γ X 4 M 0 0 _ 0 ([(0, .ref this)]) []
  refine g_aload_n hC 0 dX3_takeNumber_0 rfl ?_
  refine g_bipush hC 9 dX3_takeNumber_1 (by decide) ?_
  replace h := ob h; obtain ⟨_, eu2, h⟩ := h
  replace h := ob h; obtain ⟨⟨v3, M1⟩, eM1, h⟩ := h
  refine g_calli hC (r_V hC (As := [.int 9]) (c_X3_takeDigit _ Γ this 9 M M1 v3 eM1) yk_X3_takeDigit lk_X3_71 eu2 ⟨_, rfl, rfl⟩ rfl rfl (Nat.le_of_ble_eq_true rfl) hR ⟨(Nat.le_of_ble_eq_true rfl), (Nat.le_of_ble_eq_true rfl)⟩ ⟨(Nat.le_of_ble_eq_true rfl), (Nat.le_of_ble_eq_true rfl)⟩ dX3_takeNumber_3) ?_
  refine g_istore_n hC ([(1, .int v3), (0, .ref this)]) dX3_takeNumber_6 (by decide) rfl ?_
  refine g_iconst hC 1 dX3_takeNumber_7 (by decide) ?_
  refine g_istore_n hC ([(2, .int 1), (1, .int v3), (0, .ref this)]) dX3_takeNumber_8 (by decide) rfl ?_
  refine g_sub [2, 1, 0] rfl ?_
  refine l_X3_takeNumber_L9 hC hR r M'  _  _ _ _ _ h

set_option maxHeartbeats 4000000 in
set_option maxRecDepth 100000 in
theorem l_X3_takeCheck_L4 {Γ : Gm} {X : Ct} (hC : Cx Γ X cX3_takeCheck RX3 (some .boolean) 5) (hR : X.2.2.2.1 = ({ frames := 5, cells := 0, slots := 0, locals := 107 } : Room)) (r : Int32) (M' : Mm) (k37 : Int32 → Mm → Option (Int32 × Mm)) (x0 : Nat) (hk37 : ∀ (y1 : Int32) (M1 : Mm), k37 y1 M1 = some (r, M') → G Γ X 5 M1 0 0 (Fin Γ X (Qi Γ r M') 0 0) 37 ([(0, .ref x0), (1, .int y1)]) []) : ∀ (fu : Nat) (x1 : Int32) (x2 : Int32) (M0 : Mm), F_X3_takeCheck_L4 k37 x0 fu x1 x2 M0 = some (r, M') → G Γ X 5 M0 0 0 (Fin Γ X (Qi Γ r M') 0 0) 4 ([(0, .ref x0), (1, .int x1), (2, .int x2)]) [] := by
  intro fu
  induction fu with
  | zero =>
    intro x1 x2 M0 h
    rw [F_X3_takeCheck_L4] at h
    cases h
  | succ n1 ih =>
    intro x1 x2 M0 h
    rw [F_X3_takeCheck_L4] at h
    refine g_iload_n hC 2 dX3_takeCheck_4 rfl ?_
    refine g_aload_n hC 0 dX3_takeCheck_5 rfl ?_
    replace h := ob h; obtain ⟨v2, ev2, h⟩ := h
    refine g_getI hC ev2 fk_X3_22 rfl dX3_takeCheck_6 ?_
    refine g_icmp_ge hC 37 dX3_takeCheck_9 (by decide) (fun c3 => ?_) (fun c3 => ?_)
    · replace h := it_t c3 h
      refine g_sub [0, 1] rfl ?_
      exact hk37 x1 M0 h
    · replace h := it_f c3 h
      refine g_aload_n hC 0 dX3_takeCheck_12 rfl ?_
      refine g_bipush hC 33 dX3_takeCheck_13 (by decide) ?_
      replace h := ob h; obtain ⟨_, eu5, h⟩ := h
      replace h := ob h; obtain ⟨⟨v6, M4⟩, eM4, h⟩ := h
      refine g_calli hC (r_V hC (As := [.int 33]) (c_X3_take _ Γ x0 33 M0 M4 v6 eM4) yk_X3_take lk_X3_48 eu5 ⟨_, rfl, rfl⟩ rfl rfl (Nat.le_of_ble_eq_true rfl) hR ⟨(Nat.le_of_ble_eq_true rfl), (Nat.le_of_ble_eq_true rfl)⟩ ⟨(Nat.le_of_ble_eq_true rfl), (Nat.le_of_ble_eq_true rfl)⟩ dX3_takeCheck_15) ?_
      refine g_if_eq hC 37 dX3_takeCheck_18 (by decide) (fun c7 => ?_) (fun c7 => ?_)
      · replace h := it_t c7 h
        refine g_sub [0, 1] rfl ?_
        exact hk37 x1 M4 h
      · replace h := it_f c7 h
        refine g_iload_n hC 1 dX3_takeCheck_21 rfl ?_
        replace h := nv_e h; obtain ⟨v8, ev8, h⟩ := h
        have J9 : G Γ X 5 M4 0 0 (Fin Γ X (Qi Γ r M') 0 0) 30 ([(0, .ref x0), (1, .int x1), (2, .int x2)]) ([.int v8]) := by
          refine g_istore_n hC ([(1, .int v8), (0, .ref x0), (2, .int x2)]) dX3_takeCheck_30 (by decide) rfl ?_
          refine g_iinc hC 2 (x2 + 1) ([(2, .int (x2 + 1)), (1, .int v8), (0, .ref x0)]) dX3_takeCheck_31 rfl rfl (by decide) rfl ?_
          refine g_goto hC 4 dX3_takeCheck_34 (by decide) ?_
          refine g_sub [2, 1, 0] rfl ?_
          exact ih v8 (x2 + 1) M4 h
        refine g_if_ne hC 29 dX3_takeCheck_22 (by decide) (fun c10 => ?_) (fun c10 => ?_)
        · refine g_iconst hC 0 dX3_takeCheck_29 (by decide) ?_
          rw [show v8 = _ from ev8.trans (if_neg c10)] at J9
          exact J9
        · refine g_iconst hC 1 dX3_takeCheck_25 (by decide) ?_
          refine g_goto hC 30 dX3_takeCheck_26 (by decide) ?_
          rw [show v8 = _ from ev8.trans (if_pos c10)] at J9
          exact J9
set_option maxHeartbeats 4000000 in
set_option maxRecDepth 100000 in
theorem c_X3_takeCheck (l : Launch) (Γ : Gm) (this : Nat) (M M' : Mm) (r : Int32) (h : F_X3_takeCheck this M = some (r, M')) : Met l yX3_takeCheck (wz yX3_takeCheck cX3_takeCheck 5 (some .boolean)) ({ frames := 5, cells := 0, slots := 0, locals := 107 } : Room) (Pq Γ M [.ref this]) (Qi Γ r M') 0 0 (fr Γ) := by
  refine met_of (own := RX3) (by decide +kernel) rfl (Nat.le_of_ble_eq_true rfl) ?_
  intro X hC hR hnm hXl
  unfold F_X3_takeCheck at h
  show G Γ X 5 M 0 0 _ 0 ([(0, .ref this)]) []
  refine g_iconst hC 0 dX3_takeCheck_0 (by decide) ?_
  refine g_istore_n hC ([(1, .int 0), (0, .ref this)]) dX3_takeCheck_1 (by decide) rfl ?_
  refine g_iconst hC 0 dX3_takeCheck_2 (by decide) ?_
  refine g_istore_n hC ([(2, .int 0), (1, .int 0), (0, .ref this)]) dX3_takeCheck_3 (by decide) rfl ?_
  refine g_sub [2, 1, 0] rfl ?_
  refine l_X3_takeCheck_L4 hC hR r M' _ _ ?_ _ _ _ _ h
  intro y11 M12 h
  refine g_aload_n hC 0 dX3_takeCheck_37 rfl ?_
  refine g_ldcT hC 0 (by decide) dX3_takeCheck_38 ?_
  replace h := ob h; obtain ⟨_, eu14, h⟩ := h
  replace h := ob h; obtain ⟨⟨v15, M13⟩, eM13, h⟩ := h
  refine g_calli hC (r_V hC (As := [.ref (Γ.2.2.2.1.1 0)]) (c_X3_takeOneOf _ Γ this 0 M12 M13 v15 eM13) yk_X3_takeOneOf lk_X3_57 eu14 ⟨_, rfl, rfl⟩ rfl rfl (Nat.le_of_ble_eq_true rfl) hR ⟨(Nat.le_of_ble_eq_true rfl), (Nat.le_of_ble_eq_true rfl)⟩ ⟨(Nat.le_of_ble_eq_true rfl), (Nat.le_of_ble_eq_true rfl)⟩ dX3_takeCheck_40) ?_
  refine g_istore_n hC ([(2, .int v15), (0, .ref this), (1, .int y11)]) dX3_takeCheck_43 (by decide) rfl ?_
  refine g_iload_n hC 0 dX3_takeCheck_44 rfl ?_
  refine g_if_ge hC 50 dX3_takeCheck_45 (by decide) (fun c16 => ?_) (fun c16 => ?_)
  · replace h := it_t c16 h
    refine g_aload_n hC 1 dX3_takeCheck_50 rfl ?_
    refine g_ldcT hC 1 (by decide) dX3_takeCheck_51 ?_
    replace h := ob h; obtain ⟨_, eu18, h⟩ := h
    replace h := ob h; obtain ⟨⟨v19, M17⟩, eM17, h⟩ := h
    refine g_calli hC (r_V hC (As := [.ref (Γ.2.2.2.1.1 1)]) (c_X3_takeOneOf _ Γ this 1 M13 M17 v19 eM17) yk_X3_takeOneOf lk_X3_57 eu18 ⟨_, rfl, rfl⟩ rfl rfl (Nat.le_of_ble_eq_true rfl) hR ⟨(Nat.le_of_ble_eq_true rfl), (Nat.le_of_ble_eq_true rfl)⟩ ⟨(Nat.le_of_ble_eq_true rfl), (Nat.le_of_ble_eq_true rfl)⟩ dX3_takeCheck_53) ?_
    refine g_istore_n hC ([(3, .int v19), (2, .int v15), (0, .ref this), (1, .int y11)]) dX3_takeCheck_56 (by decide) rfl ?_
    refine g_iload_n hC 0 dX3_takeCheck_57 rfl ?_
    refine g_if_ge hC 63 dX3_takeCheck_58 (by decide) (fun c20 => ?_) (fun c20 => ?_)
    · replace h := it_t c20 h
      refine g_aload_n hC 2 dX3_takeCheck_63 rfl ?_
      replace h := ob h; obtain ⟨_, eu22, h⟩ := h
      replace h := ob h; obtain ⟨⟨v23, M21⟩, eM21, h⟩ := h
      refine g_calli hC (r_V hC (As := []) (c_X3_takeNumber _ Γ this M17 M21 v23 eM21) yk_X3_takeNumber lk_X3_63 eu22 ⟨_, rfl, rfl⟩ rfl rfl (Nat.le_of_ble_eq_true rfl) hR ⟨(Nat.le_of_ble_eq_true rfl), (Nat.le_of_ble_eq_true rfl)⟩ ⟨(Nat.le_of_ble_eq_true rfl), (Nat.le_of_ble_eq_true rfl)⟩ dX3_takeCheck_64) ?_
      refine g_istore hC ([(4, .int v23), (3, .int v19), (2, .int v15), (0, .ref this), (1, .int y11)]) dX3_takeCheck_67 (by decide) rfl ?_
      refine g_iload hC 0 dX3_takeCheck_69 rfl ?_
      refine g_if_ge hC 76 dX3_takeCheck_71 (by decide) (fun c24 => ?_) (fun c24 => ?_)
      · replace h := it_t c24 h
        refine g_aload_n hC 3 dX3_takeCheck_76 rfl ?_
        replace h := ob h; obtain ⟨v25, ev25, h⟩ := h
        refine g_getR hC ev25 fk_X3_12 rfl dX3_takeCheck_77 ?_
        refine g_iload_n hC 2 dX3_takeCheck_80 rfl ?_
        refine g_iload_n hC 1 dX3_takeCheck_81 rfl ?_
        refine g_iload hC 0 dX3_takeCheck_82 rfl ?_
        refine g_iload_n hC 4 dX3_takeCheck_84 rfl ?_
        replace h := ob h; obtain ⟨a26, ea26, h⟩ := h
        subst ea26
        replace h := ob h; obtain ⟨_, eu28, h⟩ := h
        replace h := ob h; obtain ⟨M27, eM27, h⟩ := h
        refine g_callv hC (r_V hC (As := [.int v15, .int v19, .int v23, .int y11]) (c_X2_addCheck _ Γ a26 v15 v19 v23 y11 M21 M27 eM27) yk_X2_addCheck lk_X3_67 eu28 ⟨_, rfl, rfl⟩ rfl rfl (Nat.le_of_ble_eq_true rfl) hR ⟨(Nat.le_of_ble_eq_true rfl), (Nat.le_of_ble_eq_true rfl)⟩ ⟨(Nat.le_of_ble_eq_true rfl), (Nat.le_of_ble_eq_true rfl)⟩ dX3_takeCheck_85) ?_
        refine g_iconst hC 1 dX3_takeCheck_88 (by decide) ?_
        exact g_zret hC (by decide) h ⟨(Nat.le_of_ble_eq_true rfl), (Nat.le_of_ble_eq_true rfl)⟩ dX3_takeCheck_89
      · replace h := it_f c24 h
        refine g_iconst hC 0 dX3_takeCheck_74 (by decide) ?_
        exact g_zret hC (by decide) h ⟨(Nat.le_of_ble_eq_true rfl), (Nat.le_of_ble_eq_true rfl)⟩ dX3_takeCheck_75
    · replace h := it_f c20 h
      refine g_iconst hC 0 dX3_takeCheck_61 (by decide) ?_
      exact g_zret hC (by decide) h ⟨(Nat.le_of_ble_eq_true rfl), (Nat.le_of_ble_eq_true rfl)⟩ dX3_takeCheck_62
  · replace h := it_f c16 h
    refine g_iconst hC 0 dX3_takeCheck_48 (by decide) ?_
    exact g_zret hC (by decide) h ⟨(Nat.le_of_ble_eq_true rfl), (Nat.le_of_ble_eq_true rfl)⟩ dX3_takeCheck_49

set_option maxHeartbeats 4000000 in
set_option maxRecDepth 100000 in
theorem c_X3_takeLayer (l : Launch) (Γ : Gm) (this : Nat) (p1 : Int32) (p2 : Int32) (M M' : Mm) (r : Int32) (h : F_X3_takeLayer this p1 p2 M = some (r, M')) : Met l yX3_takeLayer (wz yX3_takeLayer cX3_takeLayer 4 (some .boolean)) ({ frames := 1, cells := 0, slots := 0, locals := 23 } : Room) (Pq Γ M [.ref this, .int p1, .int p2]) (Qi Γ r M') 0 0 (fr Γ) := by
  refine met_of (own := RX3) (by decide +kernel) rfl (Nat.le_of_ble_eq_true rfl) ?_
  intro X hC hR hnm hXl
  unfold F_X3_takeLayer at h
  show G Γ X 4 M 0 0 _ 0 ([(0, .ref this), (1, .int p1), (2, .int p2)]) []
  refine g_aload_n hC 0 dX3_takeLayer_0 rfl ?_
  refine g_iconst hC 3 dX3_takeLayer_1 (by decide) ?_
  replace h := ob h; obtain ⟨_, eu2, h⟩ := h
  replace h := ob h; obtain ⟨⟨v3, M1⟩, eM1, h⟩ := h
  refine g_calli hC (r_V hC (As := [.int 3]) (c_X3_takeDigit _ Γ this 3 M M1 v3 eM1) yk_X3_takeDigit lk_X3_71 eu2 ⟨_, rfl, rfl⟩ rfl rfl (Nat.le_of_ble_eq_true rfl) hR ⟨(Nat.le_of_ble_eq_true rfl), (Nat.le_of_ble_eq_true rfl)⟩ ⟨(Nat.le_of_ble_eq_true rfl), (Nat.le_of_ble_eq_true rfl)⟩ dX3_takeLayer_2) ?_
  refine g_istore_n hC ([(3, .int v3), (0, .ref this), (1, .int p1), (2, .int p2)]) dX3_takeLayer_5 (by decide) rfl ?_
  refine g_iload_n hC 0 dX3_takeLayer_6 rfl ?_
  refine g_if_ge hC 12 dX3_takeLayer_7 (by decide) (fun c4 => ?_) (fun c4 => ?_)
  · replace h := it_t c4 h
    refine g_aload_n hC 1 dX3_takeLayer_12 rfl ?_
    replace h := ob h; obtain ⟨v5, ev5, h⟩ := h
    refine g_getR hC ev5 fk_X3_12 rfl dX3_takeLayer_13 ?_
    refine g_iload_n hC 2 dX3_takeLayer_16 rfl ?_
    refine g_iload_n hC 3 dX3_takeLayer_17 rfl ?_
    refine g_iload_n hC 0 dX3_takeLayer_18 rfl ?_
    replace h := ob h; obtain ⟨a6, ea6, h⟩ := h
    subst ea6
    replace h := ob h; obtain ⟨_, eu8, h⟩ := h
    replace h := ob h; obtain ⟨M7, eM7, h⟩ := h
    refine g_callv hC (r_V hC (As := [.int p1, .int p2, .int v3]) (c_X2_addRule _ Γ a6 p1 p2 v3 M1 M7 eM7) yk_X2_addRule lk_X3_75 eu8 ⟨_, rfl, rfl⟩ rfl rfl (Nat.le_of_ble_eq_true rfl) hR ⟨(Nat.le_of_ble_eq_true rfl), (Nat.le_of_ble_eq_true rfl)⟩ ⟨(Nat.le_of_ble_eq_true rfl), (Nat.le_of_ble_eq_true rfl)⟩ dX3_takeLayer_19) ?_
    refine g_iconst hC 1 dX3_takeLayer_22 (by decide) ?_
    exact g_zret hC (by decide) h ⟨(Nat.le_of_ble_eq_true rfl), (Nat.le_of_ble_eq_true rfl)⟩ dX3_takeLayer_23
  · replace h := it_f c4 h
    refine g_iconst hC 0 dX3_takeLayer_10 (by decide) ?_
    exact g_zret hC (by decide) h ⟨(Nat.le_of_ble_eq_true rfl), (Nat.le_of_ble_eq_true rfl)⟩ dX3_takeLayer_11

set_option maxHeartbeats 4000000 in
set_option maxRecDepth 100000 in
theorem c_X11_cellOf (l : Launch) (Γ : Gm) (p1 : Int32) (p2 : Int32) (M M' : Mm) (r : Int32) (h : F_X11_cellOf p1 p2 M = some (r, M')) : Met l yX11_cellOf (wz yX11_cellOf cX11_cellOf 2 (some .int)) ({ frames := 0, cells := 0, slots := 0, locals := 0 } : Room) (Pq Γ M [.int p1, .int p2]) (Qi Γ r M') 0 0 (fr Γ) := by
  refine met_of (own := RX11) (by decide +kernel) rfl (Nat.le_of_ble_eq_true rfl) ?_
  intro X hC hR hnm hXl
  unfold F_X11_cellOf at h
  show G Γ X 2 M 0 0 _ 0 ([(0, .int p1), (1, .int p2)]) []
  refine g_bipush hC 8 dX11_cellOf_0 (by decide) ?_
  refine g_iload_n hC 0 dX11_cellOf_2 rfl ?_
  refine g_imul hC dX11_cellOf_3 ?_
  refine g_iload_n hC 1 dX11_cellOf_4 rfl ?_
  refine g_iadd hC dX11_cellOf_5 ?_
  exact g_iret hC h ⟨(Nat.le_of_ble_eq_true rfl), (Nat.le_of_ble_eq_true rfl)⟩ dX11_cellOf_6

set_option maxHeartbeats 4000000 in
set_option maxRecDepth 100000 in
theorem c_X3_takeAct (l : Launch) (Γ : Gm) (this : Nat) (M M' : Mm) (r : Int32) (h : F_X3_takeAct this M = some (r, M')) : Met l yX3_takeAct (wz yX3_takeAct cX3_takeAct 3 (some .boolean)) ({ frames := 2, cells := 0, slots := 0, locals := 46 } : Room) (Pq Γ M [.ref this]) (Qi Γ r M') 0 0 (fr Γ) := by
  refine met_of (own := RX3) (by decide +kernel) rfl (Nat.le_of_ble_eq_true rfl) ?_
  intro X hC hR hnm hXl
  unfold F_X3_takeAct at h
  show G Γ X 3 M 0 0 _ 0 ([(0, .ref this)]) []
  refine g_aload_n hC 0 dX3_takeAct_0 rfl ?_
  refine g_bipush hC 117 dX3_takeAct_1 (by decide) ?_
  replace h := ob h; obtain ⟨_, eu2, h⟩ := h
  replace h := ob h; obtain ⟨⟨v3, M1⟩, eM1, h⟩ := h
  refine g_calli hC (r_V hC (As := [.int 117]) (c_X3_take _ Γ this 117 M M1 v3 eM1) yk_X3_take lk_X3_48 eu2 ⟨_, rfl, rfl⟩ rfl rfl (Nat.le_of_ble_eq_true rfl) hR ⟨(Nat.le_of_ble_eq_true rfl), (Nat.le_of_ble_eq_true rfl)⟩ ⟨(Nat.le_of_ble_eq_true rfl), (Nat.le_of_ble_eq_true rfl)⟩ dX3_takeAct_3) ?_
  refine g_if_eq hC 21 dX3_takeAct_6 (by decide) (fun c4 => ?_) (fun c4 => ?_)
  · replace h := it_t c4 h
    refine g_aload_n hC 0 dX3_takeAct_21 rfl ?_
    refine g_bipush hC 115 dX3_takeAct_22 (by decide) ?_
    replace h := ob h; obtain ⟨_, eu6, h⟩ := h
    replace h := ob h; obtain ⟨⟨v7, M5⟩, eM5, h⟩ := h
    refine g_calli hC (r_V hC (As := [.int 115]) (c_X3_take _ Γ this 115 M1 M5 v7 eM5) yk_X3_take lk_X3_48 eu6 ⟨_, rfl, rfl⟩ rfl rfl (Nat.le_of_ble_eq_true rfl) hR ⟨(Nat.le_of_ble_eq_true rfl), (Nat.le_of_ble_eq_true rfl)⟩ ⟨(Nat.le_of_ble_eq_true rfl), (Nat.le_of_ble_eq_true rfl)⟩ dX3_takeAct_24) ?_
    refine g_if_eq hC 37 dX3_takeAct_27 (by decide) (fun c8 => ?_) (fun c8 => ?_)
    · replace h := it_t c8 h
      refine g_aload_n hC 0 dX3_takeAct_37 rfl ?_
      refine g_bipush hC 103 dX3_takeAct_38 (by decide) ?_
      replace h := ob h; obtain ⟨_, eu10, h⟩ := h
      replace h := ob h; obtain ⟨⟨v11, M9⟩, eM9, h⟩ := h
      refine g_calli hC (r_V hC (As := [.int 103]) (c_X3_take _ Γ this 103 M5 M9 v11 eM9) yk_X3_take lk_X3_48 eu10 ⟨_, rfl, rfl⟩ rfl rfl (Nat.le_of_ble_eq_true rfl) hR ⟨(Nat.le_of_ble_eq_true rfl), (Nat.le_of_ble_eq_true rfl)⟩ ⟨(Nat.le_of_ble_eq_true rfl), (Nat.le_of_ble_eq_true rfl)⟩ dX3_takeAct_40) ?_
      refine g_if_ne hC 48 dX3_takeAct_43 (by decide) (fun c12 => ?_) (fun c12 => ?_)
      · replace h := it_f c12 h
        refine g_aload_n hC 0 dX3_takeAct_48 rfl ?_
        refine g_bipush hC 9 dX3_takeAct_49 (by decide) ?_
        replace h := ob h; obtain ⟨_, eu14, h⟩ := h
        replace h := ob h; obtain ⟨⟨v15, M13⟩, eM13, h⟩ := h
        refine g_calli hC (r_V hC (As := [.int 9]) (c_X3_takeDigit _ Γ this 9 M9 M13 v15 eM13) yk_X3_takeDigit lk_X3_71 eu14 ⟨_, rfl, rfl⟩ rfl rfl (Nat.le_of_ble_eq_true rfl) hR ⟨(Nat.le_of_ble_eq_true rfl), (Nat.le_of_ble_eq_true rfl)⟩ ⟨(Nat.le_of_ble_eq_true rfl), (Nat.le_of_ble_eq_true rfl)⟩ dX3_takeAct_51) ?_
        refine g_istore_n hC ([(1, .int v15), (0, .ref this)]) dX3_takeAct_54 (by decide) rfl ?_
        refine g_iload_n hC 0 dX3_takeAct_55 rfl ?_
        refine g_if_ge hC 61 dX3_takeAct_56 (by decide) (fun c16 => ?_) (fun c16 => ?_)
        · replace h := it_t c16 h
          refine g_aload_n hC 1 dX3_takeAct_61 rfl ?_
          refine g_bipush hC 7 dX3_takeAct_62 (by decide) ?_
          replace h := ob h; obtain ⟨_, eu18, h⟩ := h
          replace h := ob h; obtain ⟨⟨v19, M17⟩, eM17, h⟩ := h
          refine g_calli hC (r_V hC (As := [.int 7]) (c_X3_takeDigit _ Γ this 7 M13 M17 v19 eM17) yk_X3_takeDigit lk_X3_71 eu18 ⟨_, rfl, rfl⟩ rfl rfl (Nat.le_of_ble_eq_true rfl) hR ⟨(Nat.le_of_ble_eq_true rfl), (Nat.le_of_ble_eq_true rfl)⟩ ⟨(Nat.le_of_ble_eq_true rfl), (Nat.le_of_ble_eq_true rfl)⟩ dX3_takeAct_64) ?_
          refine g_istore_n hC ([(2, .int v19), (1, .int v15), (0, .ref this)]) dX3_takeAct_67 (by decide) rfl ?_
          refine g_iload_n hC 0 dX3_takeAct_68 rfl ?_
          refine g_if_lt hC 89 dX3_takeAct_69 (by decide) (fun c20 => ?_) (fun c20 => ?_)
          · replace h := it_t c20 h
            refine g_iconst hC 0 dX3_takeAct_89 (by decide) ?_
            exact g_zret hC (by decide) h ⟨(Nat.le_of_ble_eq_true rfl), (Nat.le_of_ble_eq_true rfl)⟩ dX3_takeAct_90
          · replace h := it_f c20 h
            refine g_aload_n hC 2 dX3_takeAct_72 rfl ?_
            refine g_iconst hC 2 dX3_takeAct_73 (by decide) ?_
            refine g_iload_n hC 1 dX3_takeAct_74 rfl ?_
            refine g_iload_n hC 0 dX3_takeAct_75 rfl ?_
            replace h := ob h; obtain ⟨⟨v22, M21⟩, eM21, h⟩ := h
            refine g_calli hC (r_SN hC (As := [.int v15, .int v19]) (c_X11_cellOf _ Γ v15 v19 M17 M21 v22 eM21) yk_X11_cellOf lk_X3_83 rfl rfl (Nat.le_of_ble_eq_true rfl) hR ⟨(Nat.le_of_ble_eq_true rfl), (Nat.le_of_ble_eq_true rfl)⟩ ⟨(Nat.le_of_ble_eq_true rfl), (Nat.le_of_ble_eq_true rfl)⟩ dX3_takeAct_76) ?_
            replace h := ob h; obtain ⟨_, eu24, h⟩ := h
            replace h := ob h; obtain ⟨⟨v25, M23⟩, eM23, h⟩ := h
            refine g_calli hC (r_V hC (As := [.int 2, .int v22]) (c_X3_takeLayer _ Γ this 2 v22 M21 M23 v25 eM23) yk_X3_takeLayer lk_X3_79 eu24 ⟨_, rfl, rfl⟩ rfl rfl (Nat.le_of_ble_eq_true rfl) hR ⟨(Nat.le_of_ble_eq_true rfl), (Nat.le_of_ble_eq_true rfl)⟩ ⟨(Nat.le_of_ble_eq_true rfl), (Nat.le_of_ble_eq_true rfl)⟩ dX3_takeAct_79) ?_
            refine g_if_eq hC 89 dX3_takeAct_82 (by decide) (fun c26 => ?_) (fun c26 => ?_)
            · replace h := it_t c26 h
              refine g_iconst hC 0 dX3_takeAct_89 (by decide) ?_
              exact g_zret hC (by decide) h ⟨(Nat.le_of_ble_eq_true rfl), (Nat.le_of_ble_eq_true rfl)⟩ dX3_takeAct_90
            · replace h := it_f c26 h
              refine g_iconst hC 1 dX3_takeAct_85 (by decide) ?_
              refine g_goto hC 90 dX3_takeAct_86 (by decide) ?_
              exact g_zret hC (by decide) h ⟨(Nat.le_of_ble_eq_true rfl), (Nat.le_of_ble_eq_true rfl)⟩ dX3_takeAct_90
        · replace h := it_f c16 h
          refine g_iconst hC 0 dX3_takeAct_59 (by decide) ?_
          exact g_zret hC (by decide) h ⟨(Nat.le_of_ble_eq_true rfl), (Nat.le_of_ble_eq_true rfl)⟩ dX3_takeAct_60
      · replace h := it_t c12 h
        refine g_iconst hC 0 dX3_takeAct_46 (by decide) ?_
        exact g_zret hC (by decide) h ⟨(Nat.le_of_ble_eq_true rfl), (Nat.le_of_ble_eq_true rfl)⟩ dX3_takeAct_47
    · replace h := it_f c8 h
      refine g_aload_n hC 0 dX3_takeAct_30 rfl ?_
      refine g_iconst hC 1 dX3_takeAct_31 (by decide) ?_
      refine g_iconst hC 0 dX3_takeAct_32 (by decide) ?_
      replace h := ob h; obtain ⟨_, eu28, h⟩ := h
      replace h := ob h; obtain ⟨⟨v29, M27⟩, eM27, h⟩ := h
      refine g_calli hC (r_V hC (As := [.int 1, .int 0]) (c_X3_takeLayer _ Γ this 1 0 M5 M27 v29 eM27) yk_X3_takeLayer lk_X3_79 eu28 ⟨_, rfl, rfl⟩ rfl rfl (Nat.le_of_ble_eq_true rfl) hR ⟨(Nat.le_of_ble_eq_true rfl), (Nat.le_of_ble_eq_true rfl)⟩ ⟨(Nat.le_of_ble_eq_true rfl), (Nat.le_of_ble_eq_true rfl)⟩ dX3_takeAct_33) ?_
      replace h := ob h; obtain ⟨_, ez, h⟩ := h
      exact g_zret hC (ckZ_e ez) h ⟨(Nat.le_of_ble_eq_true rfl), (Nat.le_of_ble_eq_true rfl)⟩ dX3_takeAct_36
  · replace h := it_f c4 h
    refine g_aload_n hC 0 dX3_takeAct_9 rfl ?_
    replace h := ob h; obtain ⟨v30, ev30, h⟩ := h
    refine g_getR hC ev30 fk_X3_12 rfl dX3_takeAct_10 ?_
    refine g_iconst hC 0 dX3_takeAct_13 (by decide) ?_
    refine g_iconst hC 0 dX3_takeAct_14 (by decide) ?_
    refine g_iconst hC 0 dX3_takeAct_15 (by decide) ?_
    replace h := ob h; obtain ⟨a31, ea31, h⟩ := h
    subst ea31
    replace h := ob h; obtain ⟨_, eu33, h⟩ := h
    replace h := ob h; obtain ⟨M32, eM32, h⟩ := h
    refine g_callv hC (r_V hC (As := [.int 0, .int 0, .int 0]) (c_X2_addRule _ Γ a31 0 0 0 M1 M32 eM32) yk_X2_addRule lk_X3_75 eu33 ⟨_, rfl, rfl⟩ rfl rfl (Nat.le_of_ble_eq_true rfl) hR ⟨(Nat.le_of_ble_eq_true rfl), (Nat.le_of_ble_eq_true rfl)⟩ ⟨(Nat.le_of_ble_eq_true rfl), (Nat.le_of_ble_eq_true rfl)⟩ dX3_takeAct_16) ?_
    refine g_iconst hC 1 dX3_takeAct_19 (by decide) ?_
    exact g_zret hC (by decide) h ⟨(Nat.le_of_ble_eq_true rfl), (Nat.le_of_ble_eq_true rfl)⟩ dX3_takeAct_20

set_option maxHeartbeats 4000000 in
set_option maxRecDepth 100000 in
theorem l_X3_takeRule_L4 {Γ : Gm} {X : Ct} (hC : Cx Γ X cX3_takeRule RX3 (some .boolean) 3) (hR : X.2.2.2.1 = ({ frames := 6, cells := 0, slots := 0, locals := 131 } : Room)) (r : Int32) (M' : Mm) (k38 : Mm → Option (Int32 × Mm)) (x0 : Nat) (hk38 : ∀  (M1 : Mm), k38  M1 = some (r, M') → G Γ X 3 M1 0 0 (Fin Γ X (Qi Γ r M') 0 0) 38 ([(0, .ref x0)]) []) : ∀ (fu : Nat) (x1 : Int32) (x2 : Int32) (M0 : Mm), F_X3_takeRule_L4 k38 x0 fu x1 x2 M0 = some (r, M') → G Γ X 3 M0 0 0 (Fin Γ X (Qi Γ r M') 0 0) 4 ([(0, .ref x0), (1, .int x1), (2, .int x2)]) [] := by
  intro fu
  induction fu with
  | zero =>
    intro x1 x2 M0 h
    rw [F_X3_takeRule_L4] at h
    cases h
  | succ n1 ih =>
    intro x1 x2 M0 h
    rw [F_X3_takeRule_L4] at h
    refine g_iload_n hC 1 dX3_takeRule_4 rfl ?_
    refine g_if_eq hC 38 dX3_takeRule_5 (by decide) (fun c2 => ?_) (fun c2 => ?_)
    · replace h := it_t c2 h
      refine g_sub [0] rfl ?_
      exact hk38  M0 h
    · replace h := it_f c2 h
      refine g_iload_n hC 2 dX3_takeRule_8 rfl ?_
      refine g_aload_n hC 0 dX3_takeRule_9 rfl ?_
      replace h := ob h; obtain ⟨v3, ev3, h⟩ := h
      refine g_getI hC ev3 fk_X3_22 rfl dX3_takeRule_10 ?_
      refine g_icmp_ge hC 38 dX3_takeRule_13 (by decide) (fun c4 => ?_) (fun c4 => ?_)
      · replace h := it_t c4 h
        refine g_sub [0] rfl ?_
        exact hk38  M0 h
      · replace h := it_f c4 h
        refine g_aload_n hC 0 dX3_takeRule_16 rfl ?_
        replace h := ob h; obtain ⟨_, eu6, h⟩ := h
        replace h := ob h; obtain ⟨⟨v7, M5⟩, eM5, h⟩ := h
        refine g_calli hC (r_V hC (As := []) (c_X3_takeCheck _ Γ x0 M0 M5 v7 eM5) yk_X3_takeCheck lk_X3_45 eu6 ⟨_, rfl, rfl⟩ rfl rfl (Nat.le_of_ble_eq_true rfl) hR ⟨(Nat.le_of_ble_eq_true rfl), (Nat.le_of_ble_eq_true rfl)⟩ ⟨(Nat.le_of_ble_eq_true rfl), (Nat.le_of_ble_eq_true rfl)⟩ dX3_takeRule_17) ?_
        refine g_if_ne hC 25 dX3_takeRule_20 (by decide) (fun c8 => ?_) (fun c8 => ?_)
        · replace h := it_f c8 h
          refine g_aload_n hC 0 dX3_takeRule_25 rfl ?_
          refine g_bipush hC 38 dX3_takeRule_26 (by decide) ?_
          replace h := ob h; obtain ⟨_, eu10, h⟩ := h
          replace h := ob h; obtain ⟨⟨v11, M9⟩, eM9, h⟩ := h
          refine g_calli hC (r_V hC (As := [.int 38]) (c_X3_take _ Γ x0 38 M5 M9 v11 eM9) yk_X3_take lk_X3_48 eu10 ⟨_, rfl, rfl⟩ rfl rfl (Nat.le_of_ble_eq_true rfl) hR ⟨(Nat.le_of_ble_eq_true rfl), (Nat.le_of_ble_eq_true rfl)⟩ ⟨(Nat.le_of_ble_eq_true rfl), (Nat.le_of_ble_eq_true rfl)⟩ dX3_takeRule_28) ?_
          refine g_istore_n hC ([(1, .int v11), (0, .ref x0), (2, .int x2)]) dX3_takeRule_31 (by decide) rfl ?_
          refine g_iinc hC 2 (x2 + 1) ([(2, .int (x2 + 1)), (1, .int v11), (0, .ref x0)]) dX3_takeRule_32 rfl rfl (by decide) rfl ?_
          refine g_goto hC 4 dX3_takeRule_35 (by decide) ?_
          refine g_sub [2, 1, 0] rfl ?_
          exact ih v11 (x2 + 1) M9 h
        · replace h := it_t c8 h
          refine g_iconst hC 0 dX3_takeRule_23 (by decide) ?_
          exact g_zret hC (by decide) h ⟨(Nat.le_of_ble_eq_true rfl), (Nat.le_of_ble_eq_true rfl)⟩ dX3_takeRule_24
set_option maxHeartbeats 4000000 in
set_option maxRecDepth 100000 in
theorem c_X3_takeRule (l : Launch) (Γ : Gm) (this : Nat) (M M' : Mm) (r : Int32) (h : F_X3_takeRule this M = some (r, M')) : Met l yX3_takeRule (wz yX3_takeRule cX3_takeRule 3 (some .boolean)) ({ frames := 6, cells := 0, slots := 0, locals := 131 } : Room) (Pq Γ M [.ref this]) (Qi Γ r M') 0 0 (fr Γ) := by
  refine met_of (own := RX3) (by decide +kernel) rfl (Nat.le_of_ble_eq_true rfl) ?_
  intro X hC hR hnm hXl
  unfold F_X3_takeRule at h
  show G Γ X 3 M 0 0 _ 0 ([(0, .ref this)]) []
  refine g_iconst hC 1 dX3_takeRule_0 (by decide) ?_
  refine g_istore_n hC ([(1, .int 1), (0, .ref this)]) dX3_takeRule_1 (by decide) rfl ?_
  refine g_iconst hC 0 dX3_takeRule_2 (by decide) ?_
  refine g_istore_n hC ([(2, .int 0), (1, .int 1), (0, .ref this)]) dX3_takeRule_3 (by decide) rfl ?_
  refine g_sub [2, 1, 0] rfl ?_
  refine l_X3_takeRule_L4 hC hR r M' _ _ ?_ _ _ _ _ h
  intro  M12 h
  refine g_aload_n hC 0 dX3_takeRule_38 rfl ?_
  refine g_bipush hC 63 dX3_takeRule_39 (by decide) ?_
  replace h := ob h; obtain ⟨_, eu14, h⟩ := h
  replace h := ob h; obtain ⟨⟨v15, M13⟩, eM13, h⟩ := h
  refine g_calli hC (r_V hC (As := [.int 63]) (c_X3_take _ Γ this 63 M12 M13 v15 eM13) yk_X3_take lk_X3_48 eu14 ⟨_, rfl, rfl⟩ rfl rfl (Nat.le_of_ble_eq_true rfl) hR ⟨(Nat.le_of_ble_eq_true rfl), (Nat.le_of_ble_eq_true rfl)⟩ ⟨(Nat.le_of_ble_eq_true rfl), (Nat.le_of_ble_eq_true rfl)⟩ dX3_takeRule_41) ?_
  refine g_if_eq hC 67 dX3_takeRule_44 (by decide) (fun c16 => ?_) (fun c16 => ?_)
  · replace h := it_t c16 h
    refine g_iconst hC 0 dX3_takeRule_67 (by decide) ?_
    exact g_zret hC (by decide) h ⟨(Nat.le_of_ble_eq_true rfl), (Nat.le_of_ble_eq_true rfl)⟩ dX3_takeRule_68
  · replace h := it_f c16 h
    refine g_aload_n hC 0 dX3_takeRule_47 rfl ?_
    replace h := ob h; obtain ⟨_, eu18, h⟩ := h
    replace h := ob h; obtain ⟨⟨v19, M17⟩, eM17, h⟩ := h
    refine g_calli hC (r_V hC (As := []) (c_X3_takeAct _ Γ this M13 M17 v19 eM17) yk_X3_takeAct lk_X3_52 eu18 ⟨_, rfl, rfl⟩ rfl rfl (Nat.le_of_ble_eq_true rfl) hR ⟨(Nat.le_of_ble_eq_true rfl), (Nat.le_of_ble_eq_true rfl)⟩ ⟨(Nat.le_of_ble_eq_true rfl), (Nat.le_of_ble_eq_true rfl)⟩ dX3_takeRule_48) ?_
    refine g_if_eq hC 67 dX3_takeRule_51 (by decide) (fun c20 => ?_) (fun c20 => ?_)
    · replace h := it_t c20 h
      refine g_iconst hC 0 dX3_takeRule_67 (by decide) ?_
      exact g_zret hC (by decide) h ⟨(Nat.le_of_ble_eq_true rfl), (Nat.le_of_ble_eq_true rfl)⟩ dX3_takeRule_68
    · replace h := it_f c20 h
      refine g_aload_n hC 0 dX3_takeRule_54 rfl ?_
      refine g_bipush hC 59 dX3_takeRule_55 (by decide) ?_
      replace h := ob h; obtain ⟨_, eu22, h⟩ := h
      replace h := ob h; obtain ⟨⟨v23, M21⟩, eM21, h⟩ := h
      refine g_calli hC (r_V hC (As := [.int 59]) (c_X3_take _ Γ this 59 M17 M21 v23 eM21) yk_X3_take lk_X3_48 eu22 ⟨_, rfl, rfl⟩ rfl rfl (Nat.le_of_ble_eq_true rfl) hR ⟨(Nat.le_of_ble_eq_true rfl), (Nat.le_of_ble_eq_true rfl)⟩ ⟨(Nat.le_of_ble_eq_true rfl), (Nat.le_of_ble_eq_true rfl)⟩ dX3_takeRule_57) ?_
      refine g_if_eq hC 67 dX3_takeRule_60 (by decide) (fun c24 => ?_) (fun c24 => ?_)
      · replace h := it_t c24 h
        refine g_iconst hC 0 dX3_takeRule_67 (by decide) ?_
        exact g_zret hC (by decide) h ⟨(Nat.le_of_ble_eq_true rfl), (Nat.le_of_ble_eq_true rfl)⟩ dX3_takeRule_68
      · replace h := it_f c24 h
        refine g_iconst hC 1 dX3_takeRule_63 (by decide) ?_
        refine g_goto hC 68 dX3_takeRule_64 (by decide) ?_
        exact g_zret hC (by decide) h ⟨(Nat.le_of_ble_eq_true rfl), (Nat.le_of_ble_eq_true rfl)⟩ dX3_takeRule_68

set_option maxHeartbeats 4000000 in
set_option maxRecDepth 100000 in
theorem l_X3_scan_L38 {Γ : Gm} {X : Ct} (hC : Cx Γ X cX3_scan RX3 (some .int) 4) (hR : X.2.2.2.1 = ({ frames := 7, cells := 0, slots := 0, locals := 153 } : Room)) (r : Int32) (M' : Mm) (k73 : Mm → Option (Int32 × Mm)) (x0 : Nat) (hk73 : ∀  (M1 : Mm), k73  M1 = some (r, M') → G Γ X 4 M1 0 0 (Fin Γ X (Qi Γ r M') 0 0) 73 ([(0, .ref x0)]) []) : ∀ (fu : Nat) (x3 : Int32) (M0 : Mm), F_X3_scan_L38 k73 x0 fu x3 M0 = some (r, M') → G Γ X 4 M0 0 0 (Fin Γ X (Qi Γ r M') 0 0) 38 ([(0, .ref x0), (3, .int x3)]) [] := by
  intro fu
  induction fu with
  | zero =>
    intro x3 M0 h
    rw [F_X3_scan_L38] at h
    cases h
  | succ n11 ih =>
    intro x3 M0 h
    rw [F_X3_scan_L38] at h
    refine g_aload_n hC 0 dX3_scan_38 rfl ?_
    replace h := ob h; obtain ⟨v12, ev12, h⟩ := h
    refine g_getI hC ev12 fk_X3_26 rfl dX3_scan_39 ?_
    refine g_aload_n hC 0 dX3_scan_42 rfl ?_
    replace h := ob h; obtain ⟨v13, ev13, h⟩ := h
    refine g_getI hC ev13 fk_X3_22 rfl dX3_scan_43 ?_
    refine g_icmp_ge hC 73 dX3_scan_46 (by decide) (fun c14 => ?_) (fun c14 => ?_)
    · replace h := it_t c14 h
      refine g_sub [0] rfl ?_
      exact hk73  M0 h
    · replace h := it_f c14 h
      refine g_iload_n hC 1 dX3_scan_49 rfl ?_
      refine g_bipush hC 6 dX3_scan_50 (by decide) ?_
      refine g_icmp_ge hC 62 dX3_scan_52 (by decide) (fun c15 => ?_) (fun c15 => ?_)
      · replace h := it_t c15 h
        refine g_aload_n hC 0 dX3_scan_62 rfl ?_
        replace h := ob h; obtain ⟨v16, ev16, h⟩ := h
        refine g_getI hC ev16 fk_X3_26 rfl dX3_scan_63 ?_
        exact g_iret hC h ⟨(Nat.le_of_ble_eq_true rfl), (Nat.le_of_ble_eq_true rfl)⟩ dX3_scan_66
      · replace h := it_f c15 h
        refine g_aload_n hC 0 dX3_scan_55 rfl ?_
        replace h := ob h; obtain ⟨_, eu18, h⟩ := h
        replace h := ob h; obtain ⟨⟨v19, M17⟩, eM17, h⟩ := h
        refine g_calli hC (r_V hC (As := []) (c_X3_takeRule _ Γ x0 M0 M17 v19 eM17) yk_X3_takeRule lk_X3_41 eu18 ⟨_, rfl, rfl⟩ rfl rfl (Nat.le_of_ble_eq_true rfl) hR ⟨(Nat.le_of_ble_eq_true rfl), (Nat.le_of_ble_eq_true rfl)⟩ ⟨(Nat.le_of_ble_eq_true rfl), (Nat.le_of_ble_eq_true rfl)⟩ dX3_scan_56) ?_
        refine g_if_ne hC 67 dX3_scan_59 (by decide) (fun c20 => ?_) (fun c20 => ?_)
        · replace h := it_f c20 h
          refine g_iinc hC 1 (x3 + 1) ([(3, .int (x3 + 1)), (0, .ref x0)]) dX3_scan_67 rfl rfl (by decide) rfl ?_
          refine g_goto hC 38 dX3_scan_70 (by decide) ?_
          refine g_sub [1, 0] rfl ?_
          exact ih (x3 + 1) M17 h
        · replace h := it_t c20 h
          refine g_aload_n hC 0 dX3_scan_62 rfl ?_
          replace h := ob h; obtain ⟨v21, ev21, h⟩ := h
          refine g_getI hC ev21 fk_X3_26 rfl dX3_scan_63 ?_
          exact g_iret hC h ⟨(Nat.le_of_ble_eq_true rfl), (Nat.le_of_ble_eq_true rfl)⟩ dX3_scan_66
set_option maxHeartbeats 4000000 in
set_option maxRecDepth 100000 in
theorem c_X3_scan (l : Launch) (Γ : Gm) (this : Nat) (p1 : Nat) (p2 : Int32) (M M' : Mm) (r : Int32) (h : F_X3_scan this p1 p2 M = some (r, M')) : Met l yX3_scan (wz yX3_scan cX3_scan 4 (some .int)) ({ frames := 7, cells := 0, slots := 0, locals := 153 } : Room) (Pq Γ M [.ref this, .ref p1, .int p2]) (Qi Γ r M') 0 0 (fr Γ) := by
  refine met_of (own := RX3) (by decide +kernel) rfl (Nat.le_of_ble_eq_true rfl) ?_
  intro X hC hR hnm hXl
  unfold F_X3_scan at h
  show G Γ X 4 M 0 0 _ 0 ([(0, .ref this), (1, .ref p1), (2, .int p2)]) []
  refine g_aload_n hC 0 dX3_scan_0 rfl ?_
  refine g_aload_n hC 1 dX3_scan_1 rfl ?_
  replace h := ob h; obtain ⟨M1, eM1, h⟩ := h
  refine g_putR (v := (some p1)) hC eM1 fk_X3_18 (Or.inr ⟨_, rfl⟩) rfl dX3_scan_2 ?_
  refine g_aload_n hC 0 dX3_scan_5 rfl ?_
  refine g_iload_n hC 2 dX3_scan_6 rfl ?_
  refine g_aload_n hC 1 dX3_scan_7 rfl ?_
  replace h := ob h; obtain ⟨v2, ev2, h⟩ := h
  refine g_alen hC ev2 dX3_scan_8 ?_
  refine g_min hC lk_X3_29 hR (Nat.le_of_ble_eq_true rfl) ⟨(Nat.le_of_ble_eq_true rfl), (Nat.le_of_ble_eq_true rfl), (Nat.le_of_ble_eq_true rfl), (Nat.le_of_ble_eq_true rfl)⟩ dX3_scan_9 ?_
  replace h := ob h; obtain ⟨M3, eM3, h⟩ := h
  refine g_putI hC eM3 fk_X3_22 rfl dX3_scan_12 ?_
  refine g_aload_n hC 0 dX3_scan_15 rfl ?_
  refine g_iconst hC 0 dX3_scan_16 (by decide) ?_
  replace h := ob h; obtain ⟨M4, eM4, h⟩ := h
  refine g_putI hC eM4 fk_X3_26 rfl dX3_scan_17 ?_
  refine g_aload_n hC 0 dX3_scan_20 rfl ?_
  replace h := ob h; obtain ⟨v5, ev5, h⟩ := h
  refine g_getR hC ev5 fk_X3_12 rfl dX3_scan_21 ?_
  refine g_iconst hC 0 dX3_scan_24 (by decide) ?_
  replace h := ob h; obtain ⟨a6, ea6, h⟩ := h
  subst ea6
  replace h := ob h; obtain ⟨M7, eM7, h⟩ := h
  refine g_putI hC eM7 fk_X3_35 rfl dX3_scan_25 ?_
  refine g_aload_n hC 0 dX3_scan_28 rfl ?_
  replace h := ob h; obtain ⟨v8, ev8, h⟩ := h
  refine g_getR hC ev8 fk_X3_12 rfl dX3_scan_29 ?_
  refine g_iconst hC 0 dX3_scan_32 (by decide) ?_
  replace h := ob h; obtain ⟨a9, ea9, h⟩ := h
  subst ea9
  replace h := ob h; obtain ⟨M10, eM10, h⟩ := h
  refine g_putI hC eM10 fk_X3_38 rfl dX3_scan_33 ?_
  refine g_iconst hC 0 dX3_scan_36 (by decide) ?_
  refine g_istore_n hC ([(3, .int 0), (0, .ref this), (1, .ref p1), (2, .int p2)]) dX3_scan_37 (by decide) rfl ?_
  refine g_sub [1, 0] rfl ?_
  refine l_X3_scan_L38 hC hR r M' _ _ ?_ _ _ _ h
  intro  M22 h
  refine g_aload_n hC 0 dX3_scan_73 rfl ?_
  replace h := ob h; obtain ⟨v23, ev23, h⟩ := h
  refine g_getR hC ev23 fk_X3_12 rfl dX3_scan_74 ?_
  replace h := ob h; obtain ⟨a24, ea24, h⟩ := h
  subst ea24
  replace h := ob h; obtain ⟨v25, ev25, h⟩ := h
  refine g_getI hC ev25 fk_X3_35 rfl dX3_scan_77 ?_
  refine g_if_le hC 88 dX3_scan_80 (by decide) (fun c26 => ?_) (fun c26 => ?_)
  · replace h := it_t c26 h
    refine g_aload_n hC 0 dX3_scan_88 rfl ?_
    replace h := ob h; obtain ⟨v27, ev27, h⟩ := h
    refine g_getI hC ev27 fk_X3_26 rfl dX3_scan_89 ?_
    exact g_iret hC h ⟨(Nat.le_of_ble_eq_true rfl), (Nat.le_of_ble_eq_true rfl)⟩ dX3_scan_92
  · replace h := it_f c26 h
    refine g_bipush hC (-4) dX3_scan_83 (by decide) ?_
    refine g_goto hC 92 dX3_scan_85 (by decide) ?_
    exact g_iret hC h ⟨(Nat.le_of_ble_eq_true rfl), (Nat.le_of_ble_eq_true rfl)⟩ dX3_scan_92

set_option maxHeartbeats 4000000 in
set_option maxRecDepth 100000 in
theorem c_X4_init (l : Launch) (Γ : Gm) (this : Nat) (M M' : Mm) (h : F_X4_init this M = some M') : Met l yX4_init (wz yX4_init cX4_init 1 none) ({ frames := 1, cells := 0, slots := 0, locals := 20 } : Room) (Pq Γ M [.ref this]) (Qv Γ M') 0 0 (fr Γ) := by
  refine met_of (own := RX4) (by decide +kernel) rfl (Nat.le_of_ble_eq_true rfl) ?_
  intro X hC hR hnm hXl
  unfold F_X4_init at h
  show G Γ X 1 M 0 0 _ 0 ([(0, .ref this)]) []
  refine g_aload_n hC 0 dX4_init_0 rfl ?_
  refine g_objInit hC ok_X4_1 hR (Nat.le_of_ble_eq_true rfl) ⟨(Nat.le_of_ble_eq_true rfl), (Nat.le_of_ble_eq_true rfl)⟩ dX4_init_1 ?_
  exact g_vret hC h ⟨(Nat.le_of_ble_eq_true rfl), (Nat.le_of_ble_eq_true rfl)⟩ dX4_init_4

set_option maxHeartbeats 4000000 in
set_option maxRecDepth 100000 in
theorem c_X7_has (l : Launch) (Γ : Gm) (this : Nat) (p1 : Int32) (p2 : Int32) (M M' : Mm) (r : Int32) (h : F_X7_has this p1 p2 M = some (r, M')) : Met l yX7_has (wz yX7_has cX7_has 3 (some .boolean)) ({ frames := 0, cells := 0, slots := 0, locals := 0 } : Room) (Pq Γ M [.ref this, .int p1, .int p2]) (Qi Γ r M') 0 0 (fr Γ) := by
  refine met_of (own := RX7) (by decide +kernel) rfl (Nat.le_of_ble_eq_true rfl) ?_
  intro X hC hR hnm hXl
  unfold F_X7_has at h
  show G Γ X 3 M 0 0 _ 0 ([(0, .ref this), (1, .int p1), (2, .int p2)]) []
  refine g_aload_n hC 0 dX7_has_0 rfl ?_
  replace h := ob h; obtain ⟨v1, ev1, h⟩ := h
  refine g_getR hC ev1 fk_X7_9 rfl dX7_has_1 ?_
  refine g_iload_n hC 1 dX7_has_4 rfl ?_
  replace h := ob h; obtain ⟨a3, ea3, h⟩ := h
  subst ea3
  replace h := ob h; obtain ⟨v2, ev2, h⟩ := h
  refine g_iald hC ev2 dX7_has_5 ?_
  refine g_iload_n hC 2 dX7_has_6 rfl ?_
  refine g_icmp_le hC 14 dX7_has_7 (by decide) (fun c4 => ?_) (fun c4 => ?_)
  · replace h := it_t c4 h
    refine g_iconst hC 0 dX7_has_14 (by decide) ?_
    exact g_zret hC (by decide) h ⟨(Nat.le_of_ble_eq_true rfl), (Nat.le_of_ble_eq_true rfl)⟩ dX7_has_15
  · replace h := it_f c4 h
    refine g_iconst hC 1 dX7_has_10 (by decide) ?_
    refine g_goto hC 15 dX7_has_11 (by decide) ?_
    exact g_zret hC (by decide) h ⟨(Nat.le_of_ble_eq_true rfl), (Nat.le_of_ble_eq_true rfl)⟩ dX7_has_15

set_option maxHeartbeats 4000000 in
set_option maxRecDepth 100000 in
theorem c_X11_placeOf (l : Launch) (Γ : Gm) (p1 : Int32) (p2 : Int32) (M M' : Mm) (r : Int32) (h : F_X11_placeOf p1 p2 M = some (r, M')) : Met l yX11_placeOf (wz yX11_placeOf cX11_placeOf 2 (some .int)) ({ frames := 0, cells := 0, slots := 0, locals := 0 } : Room) (Pq Γ M [.int p1, .int p2]) (Qi Γ r M') 0 0 (fr Γ) := by
  refine met_of (own := RX11) (by decide +kernel) rfl (Nat.le_of_ble_eq_true rfl) ?_
  intro X hC hR hnm hXl
  unfold F_X11_placeOf at h
  show G Γ X 2 M 0 0 _ 0 ([(0, .int p1), (1, .int p2)]) []
  refine g_iconst hC 4 dX11_placeOf_0 (by decide) ?_
  refine g_iload_n hC 0 dX11_placeOf_1 rfl ?_
  refine g_imul hC dX11_placeOf_2 ?_
  refine g_iload_n hC 1 dX11_placeOf_3 rfl ?_
  refine g_iadd hC dX11_placeOf_4 ?_
  exact g_iret hC h ⟨(Nat.le_of_ble_eq_true rfl), (Nat.le_of_ble_eq_true rfl)⟩ dX11_placeOf_5

set_option maxHeartbeats 4000000 in
set_option maxRecDepth 100000 in
theorem c_X11_xOf (l : Launch) (Γ : Gm) (p1 : Int32) (M M' : Mm) (r : Int32) (h : F_X11_xOf p1 M = some (r, M')) : Met l yX11_xOf (wz yX11_xOf cX11_xOf 1 (some .int)) ({ frames := 0, cells := 0, slots := 0, locals := 0 } : Room) (Pq Γ M [.int p1]) (Qi Γ r M') 0 0 (fr Γ) := by
  refine met_of (own := RX11) (by decide +kernel) rfl (Nat.le_of_ble_eq_true rfl) ?_
  intro X hC hR hnm hXl
  unfold F_X11_xOf at h
  show G Γ X 1 M 0 0 _ 0 ([(0, .int p1)]) []
  refine g_iload_n hC 0 dX11_xOf_0 rfl ?_
  refine g_bipush hC 8 dX11_xOf_1 (by decide) ?_
  replace h := ob h; obtain ⟨v1, ev1, h⟩ := h
  refine g_idiv hC ev1 dX11_xOf_3 ?_
  exact g_iret hC h ⟨(Nat.le_of_ble_eq_true rfl), (Nat.le_of_ble_eq_true rfl)⟩ dX11_xOf_4

set_option maxHeartbeats 4000000 in
set_option maxRecDepth 100000 in
theorem c_X11_yOf (l : Launch) (Γ : Gm) (p1 : Int32) (M M' : Mm) (r : Int32) (h : F_X11_yOf p1 M = some (r, M')) : Met l yX11_yOf (wz yX11_yOf cX11_yOf 1 (some .int)) ({ frames := 0, cells := 0, slots := 0, locals := 0 } : Room) (Pq Γ M [.int p1]) (Qi Γ r M') 0 0 (fr Γ) := by
  refine met_of (own := RX11) (by decide +kernel) rfl (Nat.le_of_ble_eq_true rfl) ?_
  intro X hC hR hnm hXl
  unfold F_X11_yOf at h
  show G Γ X 1 M 0 0 _ 0 ([(0, .int p1)]) []
  refine g_iload_n hC 0 dX11_yOf_0 rfl ?_
  refine g_bipush hC 8 dX11_yOf_1 (by decide) ?_
  replace h := ob h; obtain ⟨v1, ev1, h⟩ := h
  refine g_irem hC ev1 dX11_yOf_3 ?_
  exact g_iret hC h ⟨(Nat.le_of_ble_eq_true rfl), (Nat.le_of_ble_eq_true rfl)⟩ dX11_yOf_4

set_option maxHeartbeats 4000000 in
set_option maxRecDepth 100000 in
theorem c_X11_isCell (l : Launch) (Γ : Gm) (p1 : Int32) (p2 : Int32) (M M' : Mm) (r : Int32) (h : F_X11_isCell p1 p2 M = some (r, M')) : Met l yX11_isCell (wz yX11_isCell cX11_isCell 2 (some .boolean)) ({ frames := 0, cells := 0, slots := 0, locals := 0 } : Room) (Pq Γ M [.int p1, .int p2]) (Qi Γ r M') 0 0 (fr Γ) := by
  refine met_of (own := RX11) (by decide +kernel) rfl (Nat.le_of_ble_eq_true rfl) ?_
  intro X hC hR hnm hXl
  unfold F_X11_isCell at h
  show G Γ X 2 M 0 0 _ 0 ([(0, .int p1), (1, .int p2)]) []
  refine g_iload_n hC 0 dX11_isCell_0 rfl ?_
  refine g_if_lt hC 24 dX11_isCell_1 (by decide) (fun c1 => ?_) (fun c1 => ?_)
  · replace h := it_t c1 h
    refine g_iconst hC 0 dX11_isCell_24 (by decide) ?_
    exact g_zret hC (by decide) h ⟨(Nat.le_of_ble_eq_true rfl), (Nat.le_of_ble_eq_true rfl)⟩ dX11_isCell_25
  · replace h := it_f c1 h
    refine g_iload_n hC 0 dX11_isCell_4 rfl ?_
    refine g_bipush hC 10 dX11_isCell_5 (by decide) ?_
    refine g_icmp_ge hC 24 dX11_isCell_7 (by decide) (fun c2 => ?_) (fun c2 => ?_)
    · replace h := it_t c2 h
      refine g_iconst hC 0 dX11_isCell_24 (by decide) ?_
      exact g_zret hC (by decide) h ⟨(Nat.le_of_ble_eq_true rfl), (Nat.le_of_ble_eq_true rfl)⟩ dX11_isCell_25
    · replace h := it_f c2 h
      refine g_iload_n hC 1 dX11_isCell_10 rfl ?_
      refine g_if_lt hC 24 dX11_isCell_11 (by decide) (fun c3 => ?_) (fun c3 => ?_)
      · replace h := it_t c3 h
        refine g_iconst hC 0 dX11_isCell_24 (by decide) ?_
        exact g_zret hC (by decide) h ⟨(Nat.le_of_ble_eq_true rfl), (Nat.le_of_ble_eq_true rfl)⟩ dX11_isCell_25
      · replace h := it_f c3 h
        refine g_iload_n hC 1 dX11_isCell_14 rfl ?_
        refine g_bipush hC 8 dX11_isCell_15 (by decide) ?_
        refine g_icmp_ge hC 24 dX11_isCell_17 (by decide) (fun c4 => ?_) (fun c4 => ?_)
        · replace h := it_t c4 h
          refine g_iconst hC 0 dX11_isCell_24 (by decide) ?_
          exact g_zret hC (by decide) h ⟨(Nat.le_of_ble_eq_true rfl), (Nat.le_of_ble_eq_true rfl)⟩ dX11_isCell_25
        · replace h := it_f c4 h
          refine g_iconst hC 1 dX11_isCell_20 (by decide) ?_
          refine g_goto hC 25 dX11_isCell_21 (by decide) ?_
          exact g_zret hC (by decide) h ⟨(Nat.le_of_ble_eq_true rfl), (Nat.le_of_ble_eq_true rfl)⟩ dX11_isCell_25

set_option maxHeartbeats 4000000 in
set_option maxRecDepth 100000 in
theorem c_X7_stepped (l : Launch) (Γ : Gm) (this : Nat) (p1 : Int32) (p2 : Int32) (p3 : Int32) (M M' : Mm) (r : Int32) (h : F_X7_stepped this p1 p2 p3 M = some (r, M')) : Met l yX7_stepped (wz yX7_stepped cX7_stepped 6 (some .int)) ({ frames := 1, cells := 0, slots := 0, locals := 21 } : Room) (Pq Γ M [.ref this, .int p1, .int p2, .int p3]) (Qi Γ r M') 0 0 (fr Γ) := by
  refine met_of (own := RX7) (by decide +kernel) rfl (Nat.le_of_ble_eq_true rfl) ?_
  intro X hC hR hnm hXl
  unfold F_X7_stepped at h
  show G Γ X 6 M 0 0 _ 0 ([(0, .ref this), (1, .int p1), (2, .int p2), (3, .int p3)]) []
  refine g_iload_n hC 1 dX7_stepped_0 rfl ?_
  replace h := ob h; obtain ⟨⟨v2, M1⟩, eM1, h⟩ := h
  refine g_calli hC (r_SN hC (As := [.int p1]) (c_X11_xOf _ Γ p1 M M1 v2 eM1) yk_X11_xOf lk_X7_69 rfl rfl (Nat.le_of_ble_eq_true rfl) hR ⟨(Nat.le_of_ble_eq_true rfl), (Nat.le_of_ble_eq_true rfl)⟩ ⟨(Nat.le_of_ble_eq_true rfl), (Nat.le_of_ble_eq_true rfl)⟩ dX7_stepped_1) ?_
  refine g_iload_n hC 2 dX7_stepped_4 rfl ?_
  refine g_iadd hC dX7_stepped_5 ?_
  refine g_istore hC ([(4, .int (v2 + p2)), (0, .ref this), (1, .int p1), (2, .int p2), (3, .int p3)]) dX7_stepped_6 (by decide) rfl ?_
  refine g_iload_n hC 2 dX7_stepped_8 rfl ?_
  replace h := ob h; obtain ⟨⟨v4, M3⟩, eM3, h⟩ := h
  refine g_calli hC (r_SN hC (As := [.int p1]) (c_X11_yOf _ Γ p1 M1 M3 v4 eM3) yk_X11_yOf lk_X7_76 rfl rfl (Nat.le_of_ble_eq_true rfl) hR ⟨(Nat.le_of_ble_eq_true rfl), (Nat.le_of_ble_eq_true rfl)⟩ ⟨(Nat.le_of_ble_eq_true rfl), (Nat.le_of_ble_eq_true rfl)⟩ dX7_stepped_9) ?_
  refine g_iload_n hC 4 dX7_stepped_12 rfl ?_
  refine g_iadd hC dX7_stepped_13 ?_
  refine g_istore hC ([(5, .int (v4 + p3)), (4, .int (v2 + p2)), (0, .ref this), (1, .int p1), (2, .int p2), (3, .int p3)]) dX7_stepped_14 (by decide) rfl ?_
  refine g_iload hC 1 dX7_stepped_16 rfl ?_
  refine g_iload hC 0 dX7_stepped_18 rfl ?_
  replace h := ob h; obtain ⟨⟨v6, M5⟩, eM5, h⟩ := h
  refine g_calli hC (r_SN hC (As := [.int (v2 + p2), .int (v4 + p3)]) (c_X11_isCell _ Γ (v2 + p2) (v4 + p3) M3 M5 v6 eM5) yk_X11_isCell lk_X7_82 rfl rfl (Nat.le_of_ble_eq_true rfl) hR ⟨(Nat.le_of_ble_eq_true rfl), (Nat.le_of_ble_eq_true rfl)⟩ ⟨(Nat.le_of_ble_eq_true rfl), (Nat.le_of_ble_eq_true rfl)⟩ dX7_stepped_20) ?_
  refine g_if_eq hC 51 dX7_stepped_23 (by decide) (fun c7 => ?_) (fun c7 => ?_)
  · replace h := it_t c7 h
    refine g_iload_n hC 3 dX7_stepped_51 rfl ?_
    exact g_iret hC h ⟨(Nat.le_of_ble_eq_true rfl), (Nat.le_of_ble_eq_true rfl)⟩ dX7_stepped_52
  · replace h := it_f c7 h
    refine g_aload_n hC 2 dX7_stepped_26 rfl ?_
    replace h := ob h; obtain ⟨v8, ev8, h⟩ := h
    refine g_getR hC ev8 fk_X7_9 rfl dX7_stepped_27 ?_
    refine g_iload hC 1 dX7_stepped_30 rfl ?_
    refine g_iload hC 0 dX7_stepped_32 rfl ?_
    replace h := ob h; obtain ⟨⟨v10, M9⟩, eM9, h⟩ := h
    refine g_calli hC (r_SN hC (As := [.int (v2 + p2), .int (v4 + p3)]) (c_X11_cellOf _ Γ (v2 + p2) (v4 + p3) M5 M9 v10 eM9) yk_X11_cellOf lk_X7_61 rfl rfl (by simp only [List.map, cat_rf]; exact Nat.le_of_ble_eq_true rfl) hR ⟨(Nat.le_of_ble_eq_true rfl), (Nat.le_of_ble_eq_true rfl)⟩ ⟨(Nat.le_of_ble_eq_true rfl), (Nat.le_of_ble_eq_true rfl)⟩ dX7_stepped_34) ?_
    replace h := ob h; obtain ⟨a12, ea12, h⟩ := h
    subst ea12
    replace h := ob h; obtain ⟨v11, ev11, h⟩ := h
    refine g_iald hC ev11 dX7_stepped_37 ?_
    refine g_if_le hC 51 dX7_stepped_38 (by decide) (fun c13 => ?_) (fun c13 => ?_)
    · replace h := it_t c13 h
      refine g_iload_n hC 3 dX7_stepped_51 rfl ?_
      exact g_iret hC h ⟨(Nat.le_of_ble_eq_true rfl), (Nat.le_of_ble_eq_true rfl)⟩ dX7_stepped_52
    · replace h := it_f c13 h
      refine g_iload hC 1 dX7_stepped_41 rfl ?_
      refine g_iload hC 0 dX7_stepped_43 rfl ?_
      replace h := ob h; obtain ⟨⟨v15, M14⟩, eM14, h⟩ := h
      refine g_calli hC (r_SN hC (As := [.int (v2 + p2), .int (v4 + p3)]) (c_X11_cellOf _ Γ (v2 + p2) (v4 + p3) M9 M14 v15 eM14) yk_X11_cellOf lk_X7_61 rfl rfl (Nat.le_of_ble_eq_true rfl) hR ⟨(Nat.le_of_ble_eq_true rfl), (Nat.le_of_ble_eq_true rfl)⟩ ⟨(Nat.le_of_ble_eq_true rfl), (Nat.le_of_ble_eq_true rfl)⟩ dX7_stepped_45) ?_
      refine g_goto hC 52 dX7_stepped_48 (by decide) ?_
      exact g_iret hC h ⟨(Nat.le_of_ble_eq_true rfl), (Nat.le_of_ble_eq_true rfl)⟩ dX7_stepped_52

set_option maxHeartbeats 4000000 in
set_option maxRecDepth 100000 in
theorem l_X7_walked_L6 {Γ : Gm} {X : Ct} (hC : Cx Γ X cX7_walked RX7 (some .int) 6) (hR : X.2.2.2.1 = ({ frames := 2, cells := 0, slots := 0, locals := 46 } : Room)) (r : Int32) (M' : Mm) (k39 : Int32 → Mm → Option (Int32 × Mm)) (x0 : Nat) (x2 : Int32) (x3 : Int32) (hk39 : ∀ (y4 : Int32) (M1 : Mm), k39 y4 M1 = some (r, M') → G Γ X 6 M1 0 0 (Fin Γ X (Qi Γ r M') 0 0) 39 ([(0, .ref x0), (3, .int x3), (4, .int y4)]) []) : ∀ (fu : Nat) (x4 : Int32) (x5 : Int32) (M0 : Mm), F_X7_walked_L6 k39 x0 x2 x3 fu x4 x5 M0 = some (r, M') → G Γ X 6 M0 0 0 (Fin Γ X (Qi Γ r M') 0 0) 6 ([(0, .ref x0), (2, .int x2), (3, .int x3), (4, .int x4), (5, .int x5)]) [] := by
  intro fu
  induction fu with
  | zero =>
    intro x4 x5 M0 h
    rw [F_X7_walked_L6] at h
    cases h
  | succ n1 ih =>
    intro x4 x5 M0 h
    rw [F_X7_walked_L6] at h
    refine g_iload hC 4 dX7_walked_6 rfl ?_
    refine g_iload_n hC 1 dX7_walked_8 rfl ?_
    refine g_abs hC lk_X7_86 hR (Nat.le_of_ble_eq_true rfl) ⟨(Nat.le_of_ble_eq_true rfl), (Nat.le_of_ble_eq_true rfl), (Nat.le_of_ble_eq_true rfl), (Nat.le_of_ble_eq_true rfl)⟩ dX7_walked_9 ?_
    refine g_icmp_ge hC 39 dX7_walked_12 (by decide) (fun c2 => ?_) (fun c2 => ?_)
    · replace h := it_t c2 h
      refine g_sub [0, 2, 3] rfl ?_
      exact hk39 x4 M0 h
    · replace h := it_f c2 h
      refine g_aload_n hC 0 dX7_walked_15 rfl ?_
      refine g_iload hC 3 dX7_walked_16 rfl ?_
      refine g_iload_n hC 1 dX7_walked_18 rfl ?_
      replace h := nv_e h; obtain ⟨v3, ev3, h⟩ := h
      have J4 : G Γ X 6 M0 0 0 (Fin Γ X (Qi Γ r M') 0 0) 27 ([(0, .ref x0), (2, .int x2), (3, .int x3), (4, .int x4), (5, .int x5)]) ([.int v3, .int x4, .ref x0]) := by
        refine g_iconst hC 0 dX7_walked_27 (by decide) ?_
        replace h := ob h; obtain ⟨_, eu6, h⟩ := h
        replace h := ob h; obtain ⟨⟨v7, M5⟩, eM5, h⟩ := h
        refine g_calli hC (r_V hC (As := [.int x4, .int v3, .int 0]) (c_X7_stepped _ Γ x0 x4 v3 0 M0 M5 v7 eM5) yk_X7_stepped lk_X7_91 eu6 ⟨_, rfl, rfl⟩ rfl rfl (Nat.le_of_ble_eq_true rfl) hR ⟨(Nat.le_of_ble_eq_true rfl), (Nat.le_of_ble_eq_true rfl)⟩ ⟨(Nat.le_of_ble_eq_true rfl), (Nat.le_of_ble_eq_true rfl)⟩ dX7_walked_28) ?_
        refine g_istore hC ([(4, .int v7), (0, .ref x0), (2, .int x2), (3, .int x3), (5, .int x5)]) dX7_walked_31 (by decide) rfl ?_
        refine g_iinc hC 4 (x5 + 1) ([(5, .int (x5 + 1)), (4, .int v7), (0, .ref x0), (2, .int x2), (3, .int x3)]) dX7_walked_33 rfl rfl (by decide) rfl ?_
        refine g_goto hC 6 dX7_walked_36 (by decide) ?_
        refine g_sub [2, 3, 4, 1, 0] rfl ?_
        exact ih v7 (x5 + 1) M5 h
      refine g_if_ge hC 26 dX7_walked_19 (by decide) (fun c8 => ?_) (fun c8 => ?_)
      · refine g_iconst hC 1 dX7_walked_26 (by decide) ?_
        rw [show v3 = _ from ev3.trans (if_pos c8)] at J4
        exact J4
      · refine g_iconst hC (-1) dX7_walked_22 (by decide) ?_
        refine g_goto hC 27 dX7_walked_23 (by decide) ?_
        rw [show v3 = _ from ev3.trans (if_neg c8)] at J4
        exact J4
set_option maxHeartbeats 4000000 in
set_option maxRecDepth 100000 in
theorem l_X7_walked_L42 {Γ : Gm} {X : Ct} (hC : Cx Γ X cX7_walked RX7 (some .int) 6) (hR : X.2.2.2.1 = ({ frames := 2, cells := 0, slots := 0, locals := 46 } : Room)) (r : Int32) (M' : Mm)  (x0 : Nat) (x3 : Int32) : ∀ (fu : Nat) (x4 : Int32) (x5 : Int32) (M0 : Mm), F_X7_walked_L42 x0 x3 fu x4 x5 M0 = some (r, M') → G Γ X 6 M0 0 0 (Fin Γ X (Qi Γ r M') 0 0) 42 ([(0, .ref x0), (3, .int x3), (4, .int x4), (5, .int x5)]) [] := by
  intro fu
  induction fu with
  | zero =>
    intro x4 x5 M0 h
    rw [F_X7_walked_L42] at h
    cases h
  | succ n11 ih =>
    intro x4 x5 M0 h
    rw [F_X7_walked_L42] at h
    refine g_iload hC 3 dX7_walked_42 rfl ?_
    refine g_iload_n hC 1 dX7_walked_44 rfl ?_
    refine g_abs hC lk_X7_86 hR (Nat.le_of_ble_eq_true rfl) ⟨(Nat.le_of_ble_eq_true rfl), (Nat.le_of_ble_eq_true rfl), (Nat.le_of_ble_eq_true rfl), (Nat.le_of_ble_eq_true rfl)⟩ dX7_walked_45 ?_
    refine g_icmp_ge hC 75 dX7_walked_48 (by decide) (fun c12 => ?_) (fun c12 => ?_)
    · replace h := it_t c12 h
      refine g_iload hC 2 dX7_walked_75 rfl ?_
      exact g_iret hC h ⟨(Nat.le_of_ble_eq_true rfl), (Nat.le_of_ble_eq_true rfl)⟩ dX7_walked_77
    · replace h := it_f c12 h
      refine g_aload_n hC 0 dX7_walked_51 rfl ?_
      refine g_iload hC 2 dX7_walked_52 rfl ?_
      refine g_iconst hC 0 dX7_walked_54 (by decide) ?_
      refine g_iload_n hC 1 dX7_walked_55 rfl ?_
      replace h := nv_e h; obtain ⟨v13, ev13, h⟩ := h
      have J14 : G Γ X 6 M0 0 0 (Fin Γ X (Qi Γ r M') 0 0) 64 ([(0, .ref x0), (3, .int x3), (4, .int x4), (5, .int x5)]) ([.int v13, .int 0, .int x4, .ref x0]) := by
        replace h := ob h; obtain ⟨_, eu16, h⟩ := h
        replace h := ob h; obtain ⟨⟨v17, M15⟩, eM15, h⟩ := h
        refine g_calli hC (r_V hC (As := [.int x4, .int 0, .int v13]) (c_X7_stepped _ Γ x0 x4 0 v13 M0 M15 v17 eM15) yk_X7_stepped lk_X7_91 eu16 ⟨_, rfl, rfl⟩ rfl rfl (Nat.le_of_ble_eq_true rfl) hR ⟨(Nat.le_of_ble_eq_true rfl), (Nat.le_of_ble_eq_true rfl)⟩ ⟨(Nat.le_of_ble_eq_true rfl), (Nat.le_of_ble_eq_true rfl)⟩ dX7_walked_64) ?_
        refine g_istore hC ([(4, .int v17), (0, .ref x0), (3, .int x3), (5, .int x5)]) dX7_walked_67 (by decide) rfl ?_
        refine g_iinc hC 3 (x5 + 1) ([(5, .int (x5 + 1)), (4, .int v17), (0, .ref x0), (3, .int x3)]) dX7_walked_69 rfl rfl (by decide) rfl ?_
        refine g_goto hC 42 dX7_walked_72 (by decide) ?_
        refine g_sub [2, 3, 1, 0] rfl ?_
        exact ih v17 (x5 + 1) M15 h
      refine g_if_ge hC 63 dX7_walked_56 (by decide) (fun c18 => ?_) (fun c18 => ?_)
      · refine g_iconst hC 1 dX7_walked_63 (by decide) ?_
        rw [show v13 = _ from ev13.trans (if_pos c18)] at J14
        exact J14
      · refine g_iconst hC (-1) dX7_walked_59 (by decide) ?_
        refine g_goto hC 64 dX7_walked_60 (by decide) ?_
        rw [show v13 = _ from ev13.trans (if_neg c18)] at J14
        exact J14
set_option maxHeartbeats 4000000 in
set_option maxRecDepth 100000 in
theorem c_X7_walked (l : Launch) (Γ : Gm) (this : Nat) (p1 : Int32) (p2 : Int32) (p3 : Int32) (M M' : Mm) (r : Int32) (h : F_X7_walked this p1 p2 p3 M = some (r, M')) : Met l yX7_walked (wz yX7_walked cX7_walked 6 (some .int)) ({ frames := 2, cells := 0, slots := 0, locals := 46 } : Room) (Pq Γ M [.ref this, .int p1, .int p2, .int p3]) (Qi Γ r M') 0 0 (fr Γ) := by
  refine met_of (own := RX7) (by decide +kernel) rfl (Nat.le_of_ble_eq_true rfl) ?_
  intro X hC hR hnm hXl
  unfold F_X7_walked at h
  show G Γ X 6 M 0 0 _ 0 ([(0, .ref this), (1, .int p1), (2, .int p2), (3, .int p3)]) []
  refine g_iload_n hC 1 dX7_walked_0 rfl ?_
  refine g_istore hC ([(4, .int p1), (0, .ref this), (1, .int p1), (2, .int p2), (3, .int p3)]) dX7_walked_1 (by decide) rfl ?_
  refine g_iconst hC 0 dX7_walked_3 (by decide) ?_
  refine g_istore hC ([(5, .int 0), (4, .int p1), (0, .ref this), (1, .int p1), (2, .int p2), (3, .int p3)]) dX7_walked_4 (by decide) rfl ?_
  refine g_sub [2, 4, 5, 1, 0] rfl ?_
  refine l_X7_walked_L6 hC hR r M' _ _ _ _ ?_ _ _ _ _ h
  intro y9 M10 h
  refine g_iconst hC 0 dX7_walked_39 (by decide) ?_
  refine g_istore hC ([(5, .int 0), (0, .ref this), (3, .int p3), (4, .int y9)]) dX7_walked_40 (by decide) rfl ?_
  refine g_sub [1, 2, 3, 0] rfl ?_
  refine l_X7_walked_L42 hC hR r M'  _ _  _ _ _ _ h

set_option maxHeartbeats 4000000 in
set_option maxRecDepth 100000 in
theorem l_X4_sink_L18 {Γ : Gm} {X : Ct} (hC : Cx Γ X cX4_sink RX4 none 8) (hR : X.2.2.2.1 = ({ frames := 3, cells := 0, slots := 0, locals := 71 } : Room)) (M' : Mm)  (x0 : Nat) (x1 : Nat) (x2 : Nat) (x4 : Int32) (x5 : Int32) : ∀ (fu : Nat) (x6 : Int32) (M0 : Mm), F_X4_sink_L18 x0 x1 x2 x4 x5 fu x6 M0 = some M' → G Γ X 8 M0 0 0 (Fin Γ X (Qv Γ M') 0 0) 18 ([(0, .ref x0), (1, .ref x1), (2, .ref x2), (4, .int x4), (5, .int x5), (6, .int x6)]) [] := by
  intro fu
  induction fu with
  | zero =>
    intro x6 M0 h
    rw [F_X4_sink_L18] at h
    cases h
  | succ n4 ih =>
    intro x6 M0 h
    rw [F_X4_sink_L18] at h
    refine g_iload hC 5 dX4_sink_18 rfl ?_
    refine g_iload hC 3 dX4_sink_20 rfl ?_
    refine g_icmp_gt hC 139 dX4_sink_22 (by decide) (fun c5 => ?_) (fun c5 => ?_)
    · replace h := it_t c5 h
      exact g_vret hC h ⟨(Nat.le_of_ble_eq_true rfl), (Nat.le_of_ble_eq_true rfl)⟩ dX4_sink_139
    · replace h := it_f c5 h
      refine g_aload_n hC 0 dX4_sink_25 rfl ?_
      replace h := ob h; obtain ⟨v6, ev6, h⟩ := h
      refine g_getI hC ev6 fk_X4_16 rfl dX4_sink_26 ?_
      refine g_if_ne hC 139 dX4_sink_29 (by decide) (fun c7 => ?_) (fun c7 => ?_)
      · replace h := it_f c7 h
        exact g_vret hC h ⟨(Nat.le_of_ble_eq_true rfl), (Nat.le_of_ble_eq_true rfl)⟩ dX4_sink_139
      · replace h := it_t c7 h
        refine g_aload_n hC 1 dX4_sink_32 rfl ?_
        refine g_aload_n hC 0 dX4_sink_33 rfl ?_
        replace h := ob h; obtain ⟨v8, ev8, h⟩ := h
        refine g_getI hC ev8 fk_X4_7 rfl dX4_sink_34 ?_
        refine g_iload hC 5 dX4_sink_37 rfl ?_
        replace h := ob h; obtain ⟨_, eu10, h⟩ := h
        replace h := ob h; obtain ⟨⟨v11, M9⟩, eM9, h⟩ := h
        refine g_calli hC (r_V hC (As := [.int v8, .int x6]) (c_X7_has _ Γ x1 v8 x6 M0 M9 v11 eM9) yk_X7_has lk_X4_20 eu10 ⟨_, rfl, rfl⟩ rfl rfl (Nat.le_of_ble_eq_true rfl) hR ⟨(Nat.le_of_ble_eq_true rfl), (Nat.le_of_ble_eq_true rfl)⟩ ⟨(Nat.le_of_ble_eq_true rfl), (Nat.le_of_ble_eq_true rfl)⟩ dX4_sink_39) ?_
        refine g_if_eq hC 139 dX4_sink_42 (by decide) (fun c12 => ?_) (fun c12 => ?_)
        · replace h := it_t c12 h
          exact g_vret hC h ⟨(Nat.le_of_ble_eq_true rfl), (Nat.le_of_ble_eq_true rfl)⟩ dX4_sink_139
        · replace h := it_f c12 h
          refine g_aload_n hC 0 dX4_sink_45 rfl ?_
          refine g_iload hC 5 dX4_sink_46 rfl ?_
          replace h := ob h; obtain ⟨M13, eM13, h⟩ := h
          refine g_putI hC eM13 fk_X4_13 rfl dX4_sink_48 ?_
          refine g_aload_n hC 0 dX4_sink_51 rfl ?_
          replace h := ob h; obtain ⟨v14, ev14, h⟩ := h
          refine g_getI hC ev14 fk_X4_7 rfl dX4_sink_52 ?_
          refine g_iload hC 5 dX4_sink_55 rfl ?_
          replace h := ob h; obtain ⟨⟨v16, M15⟩, eM15, h⟩ := h
          refine g_calli hC (r_SN hC (As := [.int v14, .int x6]) (c_X11_placeOf _ Γ v14 x6 M13 M15 v16 eM15) yk_X11_placeOf lk_X4_26 rfl rfl (Nat.le_of_ble_eq_true rfl) hR ⟨(Nat.le_of_ble_eq_true rfl), (Nat.le_of_ble_eq_true rfl)⟩ ⟨(Nat.le_of_ble_eq_true rfl), (Nat.le_of_ble_eq_true rfl)⟩ dX4_sink_57) ?_
          refine g_istore hC ([(7, .int v16), (0, .ref x0), (1, .ref x1), (2, .ref x2), (4, .int x4), (5, .int x5), (6, .int x6)]) dX4_sink_60 (by decide) rfl ?_
          refine g_aload_n hC 1 dX4_sink_62 rfl ?_
          refine g_aload_n hC 2 dX4_sink_63 rfl ?_
          refine g_aload_n hC 1 dX4_sink_64 rfl ?_
          replace h := ob h; obtain ⟨v17, ev17, h⟩ := h
          refine g_getI hC ev17 fk_X4_7 rfl dX4_sink_65 ?_
          refine g_aload_n hC 3 dX4_sink_68 rfl ?_
          replace h := ob h; obtain ⟨v18, ev18, h⟩ := h
          refine g_getR hC ev18 fk_X4_32 rfl dX4_sink_69 ?_
          refine g_iload hC 0 dX4_sink_72 rfl ?_
          replace h := ob h; obtain ⟨a20, ea20, h⟩ := h
          subst ea20
          replace h := ob h; obtain ⟨v19, ev19, h⟩ := h
          refine g_iald hC ev19 dX4_sink_74 ?_
          refine g_aload_n hC 3 dX4_sink_75 rfl ?_
          replace h := ob h; obtain ⟨v21, ev21, h⟩ := h
          refine g_getR hC ev21 fk_X4_38 rfl dX4_sink_76 ?_
          refine g_iload hC 0 dX4_sink_79 rfl ?_
          replace h := ob h; obtain ⟨a23, ea23, h⟩ := h
          subst ea23
          replace h := ob h; obtain ⟨v22, ev22, h⟩ := h
          refine g_iald hC ev22 dX4_sink_81 ?_
          replace h := ob h; obtain ⟨_, eu25, h⟩ := h
          replace h := ob h; obtain ⟨⟨v26, M24⟩, eM24, h⟩ := h
          refine g_calli hC (r_V hC (As := [.int v17, .int v19, .int v22]) (c_X7_walked _ Γ x1 v17 v19 v22 M15 M24 v26 eM24) yk_X7_walked lk_X4_41 eu25 ⟨_, rfl, rfl⟩ rfl rfl (Nat.le_of_ble_eq_true rfl) hR ⟨(Nat.le_of_ble_eq_true rfl), (Nat.le_of_ble_eq_true rfl)⟩ ⟨(Nat.le_of_ble_eq_true rfl), (Nat.le_of_ble_eq_true rfl)⟩ dX4_sink_82) ?_
          replace h := ob h; obtain ⟨M27, eM27, h⟩ := h
          refine g_putI hC eM27 fk_X4_7 rfl dX4_sink_85 ?_
          refine g_aload_n hC 1 dX4_sink_88 rfl ?_
          refine g_iload hC 5 dX4_sink_89 rfl ?_
          refine g_if_eq hC 129 dX4_sink_91 (by decide) (fun c28 => ?_) (fun c28 => ?_)
          · replace h := it_t c28 h
            refine g_iconst hC 0 dX4_sink_129 (by decide) ?_
            replace h := ob h; obtain ⟨M29, eM29, h⟩ := h
            refine g_putZ hC eM29 fk_X4_16 rfl dX4_sink_130 ?_
            refine g_iinc hC 6 (x6 + 1) ([(6, .int (x6 + 1)), (7, .int v16), (0, .ref x0), (1, .ref x1), (2, .ref x2), (4, .int x4), (5, .int x5)]) dX4_sink_133 rfl rfl (by decide) rfl ?_
            refine g_goto hC 18 dX4_sink_136 (by decide) ?_
            refine g_sub [2, 3, 4, 5, 6, 0] rfl ?_
            exact ih (x6 + 1) M29 h
          · replace h := it_f c28 h
            refine g_aload_n hC 2 dX4_sink_94 rfl ?_
            refine g_aload_n hC 1 dX4_sink_95 rfl ?_
            replace h := ob h; obtain ⟨v30, ev30, h⟩ := h
            refine g_getI hC ev30 fk_X4_7 rfl dX4_sink_96 ?_
            refine g_iload hC 6 dX4_sink_99 rfl ?_
            replace h := ob h; obtain ⟨_, eu32, h⟩ := h
            replace h := ob h; obtain ⟨⟨v33, M31⟩, eM31, h⟩ := h
            refine g_calli hC (r_V hC (As := [.int v30, .int x6]) (c_X7_has _ Γ x1 v30 x6 M27 M31 v33 eM31) yk_X7_has lk_X4_20 eu32 ⟨_, rfl, rfl⟩ rfl rfl (Nat.le_of_ble_eq_true rfl) hR ⟨(Nat.le_of_ble_eq_true rfl), (Nat.le_of_ble_eq_true rfl)⟩ ⟨(Nat.le_of_ble_eq_true rfl), (Nat.le_of_ble_eq_true rfl)⟩ dX4_sink_101) ?_
            refine g_if_eq hC 129 dX4_sink_104 (by decide) (fun c34 => ?_) (fun c34 => ?_)
            · replace h := it_t c34 h
              refine g_iconst hC 0 dX4_sink_129 (by decide) ?_
              replace h := ob h; obtain ⟨M35, eM35, h⟩ := h
              refine g_putZ hC eM35 fk_X4_16 rfl dX4_sink_130 ?_
              refine g_iinc hC 6 (x6 + 1) ([(6, .int (x6 + 1)), (7, .int v16), (0, .ref x0), (1, .ref x1), (2, .ref x2), (4, .int x4), (5, .int x5)]) dX4_sink_133 rfl rfl (by decide) rfl ?_
              refine g_goto hC 18 dX4_sink_136 (by decide) ?_
              refine g_sub [2, 3, 4, 5, 6, 0] rfl ?_
              exact ih (x6 + 1) M35 h
            · replace h := it_f c34 h
              refine g_aload_n hC 2 dX4_sink_107 rfl ?_
              replace h := ob h; obtain ⟨v36, ev36, h⟩ := h
              refine g_getR hC ev36 fk_X4_45 rfl dX4_sink_108 ?_
              refine g_aload_n hC 1 dX4_sink_111 rfl ?_
              replace h := ob h; obtain ⟨v37, ev37, h⟩ := h
              refine g_getI hC ev37 fk_X4_7 rfl dX4_sink_112 ?_
              refine g_iload hC 6 dX4_sink_115 rfl ?_
              replace h := ob h; obtain ⟨⟨v39, M38⟩, eM38, h⟩ := h
              refine g_calli hC (r_SN hC (As := [.int v37, .int x6]) (c_X11_placeOf _ Γ v37 x6 M31 M38 v39 eM38) yk_X11_placeOf lk_X4_26 rfl rfl (by simp only [List.map, cat_rf]; exact Nat.le_of_ble_eq_true rfl) hR ⟨(Nat.le_of_ble_eq_true rfl), (Nat.le_of_ble_eq_true rfl)⟩ ⟨(Nat.le_of_ble_eq_true rfl), (Nat.le_of_ble_eq_true rfl)⟩ dX4_sink_117) ?_
              replace h := ob h; obtain ⟨a41, ea41, h⟩ := h
              subst ea41
              replace h := ob h; obtain ⟨v40, ev40, h⟩ := h
              refine g_iald hC ev40 dX4_sink_120 ?_
              refine g_iconst hC 1 dX4_sink_121 (by decide) ?_
              replace h := nv_e h; obtain ⟨v42, ev42, h⟩ := h
              have J43 : G Γ X 8 M38 0 0 (Fin Γ X (Qv Γ M') 0 0) 130 ([(7, .int v16), (0, .ref x0), (1, .ref x1), (2, .ref x2), (4, .int x4), (5, .int x5), (6, .int x6)]) ([.int v42, .ref x0]) := by
                replace h := ob h; obtain ⟨M44, eM44, h⟩ := h
                refine g_putZ hC eM44 fk_X4_16 rfl dX4_sink_130 ?_
                refine g_iinc hC 6 (x6 + 1) ([(6, .int (x6 + 1)), (7, .int v16), (0, .ref x0), (1, .ref x1), (2, .ref x2), (4, .int x4), (5, .int x5)]) dX4_sink_133 rfl rfl (by decide) rfl ?_
                refine g_goto hC 18 dX4_sink_136 (by decide) ?_
                refine g_sub [2, 3, 4, 5, 6, 0] rfl ?_
                exact ih (x6 + 1) M44 h
              refine g_icmp_ne hC 129 dX4_sink_122 (by decide) (fun c45 => ?_) (fun c45 => ?_)
              · refine g_iconst hC 0 dX4_sink_129 (by decide) ?_
                rw [show v42 = _ from ev42.trans (if_neg c45)] at J43
                exact J43
              · refine g_iconst hC 1 dX4_sink_125 (by decide) ?_
                refine g_goto hC 130 dX4_sink_126 (by decide) ?_
                rw [show v42 = _ from ev42.trans (if_pos c45)] at J43
                exact J43
set_option maxHeartbeats 4000000 in
set_option maxRecDepth 100000 in
theorem c_X4_sink (l : Launch) (Γ : Gm) (this : Nat) (p1 : Nat) (p2 : Nat) (p3 : Int32) (p4 : Int32) (p5 : Int32) (M M' : Mm) (h : F_X4_sink this p1 p2 p3 p4 p5 M = some M') : Met l yX4_sink (wz yX4_sink cX4_sink 8 none) ({ frames := 3, cells := 0, slots := 0, locals := 71 } : Room) (Pq Γ M [.ref this, .ref p1, .ref p2, .int p3, .int p4, .int p5]) (Qv Γ M') 0 0 (fr Γ) := by
  refine met_of (own := RX4) (by decide +kernel) rfl (Nat.le_of_ble_eq_true rfl) ?_
  intro X hC hR hnm hXl
  unfold F_X4_sink at h
  show G Γ X 8 M 0 0 _ 0 ([(0, .ref this), (1, .ref p1), (2, .ref p2), (3, .int p3), (4, .int p4), (5, .int p5)]) []
  refine g_aload_n hC 0 dX4_sink_0 rfl ?_
  refine g_iload_n hC 3 dX4_sink_1 rfl ?_
  replace h := ob h; obtain ⟨M1, eM1, h⟩ := h
  refine g_putI hC eM1 fk_X4_7 rfl dX4_sink_2 ?_
  refine g_aload_n hC 0 dX4_sink_5 rfl ?_
  refine g_iconst hC 0 dX4_sink_6 (by decide) ?_
  replace h := ob h; obtain ⟨M2, eM2, h⟩ := h
  refine g_putI hC eM2 fk_X4_13 rfl dX4_sink_7 ?_
  refine g_aload_n hC 0 dX4_sink_10 rfl ?_
  refine g_iconst hC 0 dX4_sink_11 (by decide) ?_
  replace h := ob h; obtain ⟨M3, eM3, h⟩ := h
  refine g_putZ hC eM3 fk_X4_16 rfl dX4_sink_12 ?_
  refine g_iconst hC 0 dX4_sink_15 (by decide) ?_
  refine g_istore hC ([(6, .int 0), (0, .ref this), (1, .ref p1), (2, .ref p2), (3, .int p3), (4, .int p4), (5, .int p5)]) dX4_sink_16 (by decide) rfl ?_
  refine g_sub [1, 2, 3, 5, 6, 0] rfl ?_
  refine l_X4_sink_L18 hC hR M'  _ _ _ _ _  _ _ _ h

set_option maxHeartbeats 4000000 in
set_option maxRecDepth 100000 in
theorem c_X5_init (l : Launch) (Γ : Gm) (this : Nat) (p1 : Nat) (M M' : Mm) (h : F_X5_init this p1 M = some M') : Met l yX5_init (wz yX5_init cX5_init 2 none) ({ frames := 1, cells := 10, slots := 480, locals := 20 } : Room) (Pq Γ M [.ref this, .ref p1]) (Qv Γ M') 10 480 (fr Γ) := by
  refine met_of (own := RX5) (by decide +kernel) rfl (Nat.le_of_ble_eq_true rfl) ?_
  intro X hC hR hnm hXl
  unfold F_X5_init at h
  show G Γ X 2 M 0 0 _ 0 ([(0, .ref this), (1, .ref p1)]) []
  refine g_aload_n hC 0 dX5_init_0 rfl ?_
  refine g_objInit hC ok_X5_3 hR (Nat.le_of_ble_eq_true rfl) ⟨(Nat.le_of_ble_eq_true rfl), (Nat.le_of_ble_eq_true rfl)⟩ dX5_init_1 ?_
  refine g_aload_n hC 0 dX5_init_4 rfl ?_
  refine g_iconst hC 3 dX5_init_5 (by decide) ?_
  replace h := nv_e h; obtain ⟨a1, ea1, h⟩ := h
  replace h := nv_e h; obtain ⟨M2, eM2, h⟩ := h
  refine g_newI2 (N := 3) hC ea1 eM2 ak_int (by decide) (by rw [hR]; exact ⟨(Nat.le_of_ble_eq_true rfl), (Nat.le_of_ble_eq_true rfl)⟩) dX5_init_6 ?_
  replace h := ob h; obtain ⟨M3, eM3, h⟩ := h
  refine g_putFR (v := (some a1)) hC eM3 fk_X5_9 (ow_5 rfl) (hnm.trans rfl) (Or.inr ⟨_, rfl⟩) rfl dX5_init_8 ?_
  refine g_aload_n hC 0 dX5_init_11 rfl ?_
  refine g_iconst hC 0 dX5_init_12 (by decide) ?_
  replace h := ob h; obtain ⟨M4, eM4, h⟩ := h
  refine g_putI hC eM4 fk_X5_15 rfl dX5_init_13 ?_
  refine g_aload_n hC 0 dX5_init_16 rfl ?_
  refine g_iconst hC 3 dX5_init_17 (by decide) ?_
  replace h := nv_e h; obtain ⟨a5, ea5, h⟩ := h
  replace h := nv_e h; obtain ⟨M6, eM6, h⟩ := h
  refine g_newI2 (N := 3) hC ea5 eM6 ak_int (by decide) (by rw [hR]; exact ⟨(Nat.le_of_ble_eq_true rfl), (Nat.le_of_ble_eq_true rfl)⟩) dX5_init_18 ?_
  replace h := ob h; obtain ⟨M7, eM7, h⟩ := h
  refine g_putFR (v := (some a5)) hC eM7 fk_X5_19 (ow_5 rfl) (hnm.trans rfl) (Or.inr ⟨_, rfl⟩) rfl dX5_init_20 ?_
  refine g_aload_n hC 0 dX5_init_23 rfl ?_
  refine g_bipush hC 123 dX5_init_24 (by decide) ?_
  replace h := nv_e h; obtain ⟨a8, ea8, h⟩ := h
  replace h := nv_e h; obtain ⟨M9, eM9, h⟩ := h
  refine g_newI2 (N := 123) hC ea8 eM9 ak_int (by decide) (by rw [hR]; exact ⟨(Nat.le_of_ble_eq_true rfl), (Nat.le_of_ble_eq_true rfl)⟩) dX5_init_26 ?_
  replace h := ob h; obtain ⟨M10, eM10, h⟩ := h
  refine g_putFR (v := (some a8)) hC eM10 fk_X5_22 (ow_5 rfl) (hnm.trans rfl) (Or.inr ⟨_, rfl⟩) rfl dX5_init_28 ?_
  refine g_aload_n hC 0 dX5_init_31 rfl ?_
  refine g_bipush hC 123 dX5_init_32 (by decide) ?_
  replace h := nv_e h; obtain ⟨a11, ea11, h⟩ := h
  replace h := nv_e h; obtain ⟨M12, eM12, h⟩ := h
  refine g_newI2 (N := 123) hC ea11 eM12 ak_int (by decide) (by rw [hR]; exact ⟨(Nat.le_of_ble_eq_true rfl), (Nat.le_of_ble_eq_true rfl)⟩) dX5_init_34 ?_
  replace h := ob h; obtain ⟨M13, eM13, h⟩ := h
  refine g_putFR (v := (some a11)) hC eM13 fk_X5_25 (ow_5 rfl) (hnm.trans rfl) (Or.inr ⟨_, rfl⟩) rfl dX5_init_36 ?_
  refine g_aload_n hC 0 dX5_init_39 rfl ?_
  refine g_bipush hC 123 dX5_init_40 (by decide) ?_
  replace h := nv_e h; obtain ⟨a14, ea14, h⟩ := h
  replace h := nv_e h; obtain ⟨M15, eM15, h⟩ := h
  refine g_newI2 (N := 123) hC ea14 eM15 ak_int (by decide) (by rw [hR]; exact ⟨(Nat.le_of_ble_eq_true rfl), (Nat.le_of_ble_eq_true rfl)⟩) dX5_init_42 ?_
  replace h := ob h; obtain ⟨M16, eM16, h⟩ := h
  refine g_putFR (v := (some a14)) hC eM16 fk_X5_28 (ow_5 rfl) (hnm.trans rfl) (Or.inr ⟨_, rfl⟩) rfl dX5_init_44 ?_
  refine g_aload_n hC 0 dX5_init_47 rfl ?_
  refine g_iconst hC 4 dX5_init_48 (by decide) ?_
  replace h := nv_e h; obtain ⟨a17, ea17, h⟩ := h
  replace h := nv_e h; obtain ⟨M18, eM18, h⟩ := h
  refine g_newI2 (N := 4) hC ea17 eM18 ak_int (by decide) (by rw [hR]; exact ⟨(Nat.le_of_ble_eq_true rfl), (Nat.le_of_ble_eq_true rfl)⟩) dX5_init_49 ?_
  replace h := ob h; obtain ⟨M19, eM19, h⟩ := h
  refine g_putFR (v := (some a17)) hC eM19 fk_X5_31 (ow_5 rfl) (hnm.trans rfl) (Or.inr ⟨_, rfl⟩) rfl dX5_init_51 ?_
  refine g_aload_n hC 0 dX5_init_54 rfl ?_
  refine g_bipush hC 80 dX5_init_55 (by decide) ?_
  replace h := nv_e h; obtain ⟨a20, ea20, h⟩ := h
  replace h := nv_e h; obtain ⟨M21, eM21, h⟩ := h
  refine g_newI2 (N := 80) hC ea20 eM21 ak_int (by decide) (by rw [hR]; exact ⟨(Nat.le_of_ble_eq_true rfl), (Nat.le_of_ble_eq_true rfl)⟩) dX5_init_57 ?_
  replace h := ob h; obtain ⟨M22, eM22, h⟩ := h
  refine g_putFR (v := (some a20)) hC eM22 fk_X5_34 (ow_5 rfl) (hnm.trans rfl) (Or.inr ⟨_, rfl⟩) rfl dX5_init_59 ?_
  refine g_aload_n hC 0 dX5_init_62 rfl ?_
  refine g_bipush hC 15 dX5_init_63 (by decide) ?_
  replace h := nv_e h; obtain ⟨a23, ea23, h⟩ := h
  replace h := nv_e h; obtain ⟨M24, eM24, h⟩ := h
  refine g_newI2 (N := 15) hC ea23 eM24 ak_int (by decide) (by rw [hR]; exact ⟨(Nat.le_of_ble_eq_true rfl), (Nat.le_of_ble_eq_true rfl)⟩) dX5_init_65 ?_
  replace h := ob h; obtain ⟨M25, eM25, h⟩ := h
  refine g_putFR (v := (some a23)) hC eM25 fk_X5_37 (ow_5 rfl) (hnm.trans rfl) (Or.inr ⟨_, rfl⟩) rfl dX5_init_67 ?_
  refine g_aload_n hC 0 dX5_init_70 rfl ?_
  refine g_iconst hC 3 dX5_init_71 (by decide) ?_
  replace h := nv_e h; obtain ⟨a26, ea26, h⟩ := h
  replace h := nv_e h; obtain ⟨M27, eM27, h⟩ := h
  refine g_newI2 (N := 3) hC ea26 eM27 ak_int (by decide) (by rw [hR]; exact ⟨(Nat.le_of_ble_eq_true rfl), (Nat.le_of_ble_eq_true rfl)⟩) dX5_init_72 ?_
  replace h := ob h; obtain ⟨M28, eM28, h⟩ := h
  refine g_putFR (v := (some a26)) hC eM28 fk_X5_40 (ow_5 rfl) (hnm.trans rfl) (Or.inr ⟨_, rfl⟩) rfl dX5_init_74 ?_
  refine g_aload_n hC 0 dX5_init_77 rfl ?_
  refine g_iconst hC 3 dX5_init_78 (by decide) ?_
  replace h := nv_e h; obtain ⟨a29, ea29, h⟩ := h
  replace h := nv_e h; obtain ⟨M30, eM30, h⟩ := h
  refine g_newI2 (N := 3) hC ea29 eM30 ak_int (by decide) (by rw [hR]; exact ⟨(Nat.le_of_ble_eq_true rfl), (Nat.le_of_ble_eq_true rfl)⟩) dX5_init_79 ?_
  replace h := ob h; obtain ⟨M31, eM31, h⟩ := h
  refine g_putFR (v := (some a29)) hC eM31 fk_X5_43 (ow_5 rfl) (hnm.trans rfl) (Or.inr ⟨_, rfl⟩) rfl dX5_init_81 ?_
  refine g_aload_n hC 0 dX5_init_84 rfl ?_
  refine g_bipush hC (-4) dX5_init_85 (by decide) ?_
  replace h := ob h; obtain ⟨M32, eM32, h⟩ := h
  refine g_putI hC eM32 fk_X5_46 rfl dX5_init_87 ?_
  refine g_aload_n hC 0 dX5_init_90 rfl ?_
  refine g_aload_n hC 1 dX5_init_91 rfl ?_
  replace h := ob h; obtain ⟨M33, eM33, h⟩ := h
  refine g_putFR (v := (some p1)) hC eM33 fk_X5_49 (ow_5 rfl) (hnm.trans rfl) (Or.inl ⟨_, rfl⟩) rfl dX5_init_92 ?_
  refine g_aload_n hC 0 dX5_init_95 rfl ?_
  refine g_aload_n hC 1 dX5_init_96 rfl ?_
  replace h := ob h; obtain ⟨v34, ev34, h⟩ := h
  refine g_getR hC ev34 fk_X5_53 rfl dX5_init_97 ?_
  replace h := ob h; obtain ⟨M35, eM35, h⟩ := h
  refine g_putFR (v := v34) hC eM35 fk_X5_59 (ow_5 rfl) (hnm.trans rfl) (Or.inl ⟨_, rfl⟩) rfl dX5_init_100 ?_
  exact g_vret hC h ⟨(Nat.le_of_ble_eq_true rfl), (Nat.le_of_ble_eq_true rfl)⟩ dX5_init_103

set_option maxHeartbeats 4000000 in
set_option maxRecDepth 100000 in
theorem c_X7_beside (l : Launch) (Γ : Gm) (this : Nat) (p1 : Int32) (p2 : Int32) (M M' : Mm) (r : Int32) (h : F_X7_beside this p1 p2 M = some (r, M')) : Met l yX7_beside (wz yX7_beside cX7_beside 5 (some .int)) ({ frames := 1, cells := 0, slots := 0, locals := 21 } : Room) (Pq Γ M [.ref this, .int p1, .int p2]) (Qi Γ r M') 0 0 (fr Γ) := by
  refine met_of (own := RX7) (by decide +kernel) rfl (Nat.le_of_ble_eq_true rfl) ?_
  intro X hC hR hnm hXl
  unfold F_X7_beside at h
  show G Γ X 5 M 0 0 _ 0 ([(0, .ref this), (1, .int p1), (2, .int p2)]) []
  refine g_iload_n hC 1 dX7_beside_0 rfl ?_
  replace h := ob h; obtain ⟨⟨v2, M1⟩, eM1, h⟩ := h
  refine g_calli hC (r_SN hC (As := [.int p1]) (c_X11_xOf _ Γ p1 M M1 v2 eM1) yk_X11_xOf lk_X7_69 rfl rfl (Nat.le_of_ble_eq_true rfl) hR ⟨(Nat.le_of_ble_eq_true rfl), (Nat.le_of_ble_eq_true rfl)⟩ ⟨(Nat.le_of_ble_eq_true rfl), (Nat.le_of_ble_eq_true rfl)⟩ dX7_beside_1) ?_
  refine g_getsN hC 2 (by decide) sk_X7_73 dX7_beside_4 ?_
  refine g_iload_n hC 2 dX7_beside_7 rfl ?_
  replace h := ob h; obtain ⟨v3, ev3, h⟩ := h
  refine g_sald hC (by decide) ev3 dX7_beside_8 ?_
  refine g_iadd hC dX7_beside_9 ?_
  refine g_istore_n hC ([(3, .int (v2 + v3)), (0, .ref this), (1, .int p1), (2, .int p2)]) dX7_beside_10 (by decide) rfl ?_
  refine g_iload_n hC 2 dX7_beside_11 rfl ?_
  replace h := ob h; obtain ⟨⟨v5, M4⟩, eM4, h⟩ := h
  refine g_calli hC (r_SN hC (As := [.int p1]) (c_X11_yOf _ Γ p1 M1 M4 v5 eM4) yk_X11_yOf lk_X7_76 rfl rfl (Nat.le_of_ble_eq_true rfl) hR ⟨(Nat.le_of_ble_eq_true rfl), (Nat.le_of_ble_eq_true rfl)⟩ ⟨(Nat.le_of_ble_eq_true rfl), (Nat.le_of_ble_eq_true rfl)⟩ dX7_beside_12) ?_
  refine g_getsN hC 3 (by decide) sk_X7_79 dX7_beside_15 ?_
  refine g_iload_n hC 3 dX7_beside_18 rfl ?_
  replace h := ob h; obtain ⟨v6, ev6, h⟩ := h
  refine g_sald hC (by decide) ev6 dX7_beside_19 ?_
  refine g_iadd hC dX7_beside_20 ?_
  refine g_istore hC ([(4, .int (v5 + v6)), (3, .int (v2 + v3)), (0, .ref this), (1, .int p1), (2, .int p2)]) dX7_beside_21 (by decide) rfl ?_
  refine g_iload_n hC 1 dX7_beside_23 rfl ?_
  refine g_iload hC 0 dX7_beside_24 rfl ?_
  replace h := ob h; obtain ⟨⟨v8, M7⟩, eM7, h⟩ := h
  refine g_calli hC (r_SN hC (As := [.int (v2 + v3), .int (v5 + v6)]) (c_X11_isCell _ Γ (v2 + v3) (v5 + v6) M4 M7 v8 eM7) yk_X11_isCell lk_X7_82 rfl rfl (Nat.le_of_ble_eq_true rfl) hR ⟨(Nat.le_of_ble_eq_true rfl), (Nat.le_of_ble_eq_true rfl)⟩ ⟨(Nat.le_of_ble_eq_true rfl), (Nat.le_of_ble_eq_true rfl)⟩ dX7_beside_26) ?_
  refine g_if_eq hC 41 dX7_beside_29 (by decide) (fun c9 => ?_) (fun c9 => ?_)
  · replace h := it_t c9 h
    refine g_iconst hC (-1) dX7_beside_41 (by decide) ?_
    exact g_iret hC h ⟨(Nat.le_of_ble_eq_true rfl), (Nat.le_of_ble_eq_true rfl)⟩ dX7_beside_42
  · replace h := it_f c9 h
    refine g_iload_n hC 1 dX7_beside_32 rfl ?_
    refine g_iload hC 0 dX7_beside_33 rfl ?_
    replace h := ob h; obtain ⟨⟨v11, M10⟩, eM10, h⟩ := h
    refine g_calli hC (r_SN hC (As := [.int (v2 + v3), .int (v5 + v6)]) (c_X11_cellOf _ Γ (v2 + v3) (v5 + v6) M7 M10 v11 eM10) yk_X11_cellOf lk_X7_61 rfl rfl (Nat.le_of_ble_eq_true rfl) hR ⟨(Nat.le_of_ble_eq_true rfl), (Nat.le_of_ble_eq_true rfl)⟩ ⟨(Nat.le_of_ble_eq_true rfl), (Nat.le_of_ble_eq_true rfl)⟩ dX7_beside_35) ?_
    refine g_goto hC 42 dX7_beside_38 (by decide) ?_
    exact g_iret hC h ⟨(Nat.le_of_ble_eq_true rfl), (Nat.le_of_ble_eq_true rfl)⟩ dX7_beside_42

set_option maxHeartbeats 4000000 in
set_option maxRecDepth 100000 in
theorem c_X5_worth (l : Launch) (Γ : Gm) (this : Nat) (p1 : Int32) (p2 : Int32) (M M' : Mm) (r : Int32) (h : F_X5_worth this p1 p2 M = some (r, M')) : Met l yX5_worth (wz yX5_worth cX5_worth 3 (some .int)) ({ frames := 0, cells := 0, slots := 0, locals := 0 } : Room) (Pq Γ M [.ref this, .int p1, .int p2]) (Qi Γ r M') 0 0 (fr Γ) := by
  refine met_of (own := RX5) (by decide +kernel) rfl (Nat.le_of_ble_eq_true rfl) ?_
  intro X hC hR hnm hXl
  unfold F_X5_worth at h
  show G Γ X 3 M 0 0 _ 0 ([(0, .ref this), (1, .int p1), (2, .int p2)]) []
  refine g_iload_n hC 2 dX5_worth_0 rfl ?_
  refine g_if_ne hC 16 dX5_worth_1 (by decide) (fun c1 => ?_) (fun c1 => ?_)
  · replace h := it_f c1 h
    refine g_aload_n hC 0 dX5_worth_16 rfl ?_
    replace h := ob h; obtain ⟨v2, ev2, h⟩ := h
    refine g_getR hC ev2 fk_X5_59 rfl dX5_worth_17 ?_
    replace h := ob h; obtain ⟨a3, ea3, h⟩ := h
    subst ea3
    replace h := ob h; obtain ⟨v4, ev4, h⟩ := h
    refine g_getR hC ev4 fk_X5_159 rfl dX5_worth_20 ?_
    refine g_iload_n hC 1 dX5_worth_23 rfl ?_
    replace h := ob h; obtain ⟨a6, ea6, h⟩ := h
    subst ea6
    replace h := ob h; obtain ⟨v5, ev5, h⟩ := h
    refine g_iald hC ev5 dX5_worth_24 ?_
    refine g_iconst hC 1 dX5_worth_25 (by decide) ?_
    refine g_iadd hC dX5_worth_26 ?_
    refine g_iconst hC 2 dX5_worth_27 (by decide) ?_
    replace h := ob h; obtain ⟨v7, ev7, h⟩ := h
    refine g_idiv hC ev7 dX5_worth_28 ?_
    exact g_iret hC h ⟨(Nat.le_of_ble_eq_true rfl), (Nat.le_of_ble_eq_true rfl)⟩ dX5_worth_29
  · replace h := it_t c1 h
    refine g_aload_n hC 0 dX5_worth_4 rfl ?_
    replace h := ob h; obtain ⟨v8, ev8, h⟩ := h
    refine g_getR hC ev8 fk_X5_59 rfl dX5_worth_5 ?_
    replace h := ob h; obtain ⟨a9, ea9, h⟩ := h
    subst ea9
    replace h := ob h; obtain ⟨v10, ev10, h⟩ := h
    refine g_getR hC ev10 fk_X5_159 rfl dX5_worth_8 ?_
    refine g_iload_n hC 1 dX5_worth_11 rfl ?_
    replace h := ob h; obtain ⟨a12, ea12, h⟩ := h
    subst ea12
    replace h := ob h; obtain ⟨v11, ev11, h⟩ := h
    refine g_iald hC ev11 dX5_worth_12 ?_
    refine g_goto hC 29 dX5_worth_13 (by decide) ?_
    exact g_iret hC h ⟨(Nat.le_of_ble_eq_true rfl), (Nat.le_of_ble_eq_true rfl)⟩ dX5_worth_29

set_option maxHeartbeats 4000000 in
set_option maxRecDepth 100000 in
theorem l_X5_gainBy_L4 {Γ : Gm} {X : Ct} (hC : Cx Γ X cX5_gainBy RX5 (some .int) 5) (hR : X.2.2.2.1 = ({ frames := 2, cells := 0, slots := 0, locals := 45 } : Room)) (r : Int32) (M' : Mm)  (x0 : Nat) (x1 : Int32) : ∀ (fu : Nat) (x2 : Int32) (x3 : Int32) (M0 : Mm), F_X5_gainBy_L4 x0 x1 fu x2 x3 M0 = some (r, M') → G Γ X 5 M0 0 0 (Fin Γ X (Qi Γ r M') 0 0) 4 ([(0, .ref x0), (1, .int x1), (2, .int x2), (3, .int x3)]) [] := by
  intro fu
  induction fu with
  | zero =>
    intro x2 x3 M0 h
    rw [F_X5_gainBy_L4] at h
    cases h
  | succ n1 ih =>
    intro x2 x3 M0 h
    rw [F_X5_gainBy_L4] at h
    refine g_iload_n hC 3 dX5_gainBy_4 rfl ?_
    refine g_iconst hC 5 dX5_gainBy_5 (by decide) ?_
    refine g_icmp_ge hC 53 dX5_gainBy_6 (by decide) (fun c2 => ?_) (fun c2 => ?_)
    · replace h := it_t c2 h
      refine g_iload_n hC 2 dX5_gainBy_53 rfl ?_
      exact g_iret hC h ⟨(Nat.le_of_ble_eq_true rfl), (Nat.le_of_ble_eq_true rfl)⟩ dX5_gainBy_54
    · replace h := it_f c2 h
      refine g_aload_n hC 0 dX5_gainBy_9 rfl ?_
      replace h := ob h; obtain ⟨v3, ev3, h⟩ := h
      refine g_getR hC ev3 fk_X5_59 rfl dX5_gainBy_10 ?_
      refine g_iload_n hC 1 dX5_gainBy_13 rfl ?_
      refine g_iload_n hC 3 dX5_gainBy_14 rfl ?_
      replace h := ob h; obtain ⟨a4, ea4, h⟩ := h
      subst ea4
      replace h := ob h; obtain ⟨_, eu6, h⟩ := h
      replace h := ob h; obtain ⟨⟨v7, M5⟩, eM5, h⟩ := h
      refine g_calli hC (r_V hC (As := [.int x1, .int x3]) (c_X7_beside _ Γ a4 x1 x3 M0 M5 v7 eM5) yk_X7_beside lk_X5_162 eu6 ⟨_, rfl, rfl⟩ rfl rfl (Nat.le_of_ble_eq_true rfl) hR ⟨(Nat.le_of_ble_eq_true rfl), (Nat.le_of_ble_eq_true rfl)⟩ ⟨(Nat.le_of_ble_eq_true rfl), (Nat.le_of_ble_eq_true rfl)⟩ dX5_gainBy_15) ?_
      refine g_istore hC ([(4, .int v7), (0, .ref x0), (1, .int x1), (2, .int x2), (3, .int x3)]) dX5_gainBy_18 (by decide) rfl ?_
      refine g_iload hC 0 dX5_gainBy_20 rfl ?_
      refine g_if_lt hC 47 dX5_gainBy_22 (by decide) (fun c8 => ?_) (fun c8 => ?_)
      · replace h := it_t c8 h
        refine g_iinc hC 4 (x3 + 1) ([(3, .int (x3 + 1)), (4, .int v7), (0, .ref x0), (1, .int x1), (2, .int x2)]) dX5_gainBy_47 rfl rfl (by decide) rfl ?_
        refine g_goto hC 4 dX5_gainBy_50 (by decide) ?_
        refine g_sub [2, 3, 4, 0] rfl ?_
        exact ih x2 (x3 + 1) M5 h
      · replace h := it_f c8 h
        refine g_iload_n hC 3 dX5_gainBy_25 rfl ?_
        refine g_iconst hC 0 dX5_gainBy_26 (by decide) ?_
        refine g_aload_n hC 1 dX5_gainBy_27 rfl ?_
        refine g_iload hC 0 dX5_gainBy_28 rfl ?_
        refine g_iload_n hC 4 dX5_gainBy_30 rfl ?_
        replace h := ob h; obtain ⟨_, eu10, h⟩ := h
        replace h := ob h; obtain ⟨⟨v11, M9⟩, eM9, h⟩ := h
        refine g_calli hC (r_V hC (As := [.int v7, .int x3]) (c_X5_worth _ Γ x0 v7 x3 M5 M9 v11 eM9) yk_X5_worth lk_X5_165 eu10 ⟨_, rfl, rfl⟩ rfl rfl (Nat.le_of_ble_eq_true rfl) hR ⟨(Nat.le_of_ble_eq_true rfl), (Nat.le_of_ble_eq_true rfl)⟩ ⟨(Nat.le_of_ble_eq_true rfl), (Nat.le_of_ble_eq_true rfl)⟩ dX5_gainBy_31) ?_
        refine g_aload_n hC 1 dX5_gainBy_34 rfl ?_
        replace h := ob h; obtain ⟨v12, ev12, h⟩ := h
        refine g_getR hC ev12 fk_X5_34 rfl dX5_gainBy_35 ?_
        refine g_iload hC 0 dX5_gainBy_38 rfl ?_
        replace h := ob h; obtain ⟨a14, ea14, h⟩ := h
        subst ea14
        replace h := ob h; obtain ⟨v13, ev13, h⟩ := h
        refine g_iald hC ev13 dX5_gainBy_40 ?_
        refine g_isub hC dX5_gainBy_41 ?_
        refine g_max hC lk_X5_142 hR (Nat.le_of_ble_eq_true rfl) ⟨(Nat.le_of_ble_eq_true rfl), (Nat.le_of_ble_eq_true rfl), (Nat.le_of_ble_eq_true rfl), (Nat.le_of_ble_eq_true rfl)⟩ dX5_gainBy_42 ?_
        refine g_iadd hC dX5_gainBy_45 ?_
        refine g_istore_n hC ([(2, .int (x2 + (mxI 0 (v11 - v13)))), (4, .int v7), (0, .ref x0), (1, .int x1), (3, .int x3)]) dX5_gainBy_46 (by decide) rfl ?_
        refine g_iinc hC 4 (x3 + 1) ([(3, .int (x3 + 1)), (2, .int (x2 + (mxI 0 (v11 - v13)))), (4, .int v7), (0, .ref x0), (1, .int x1)]) dX5_gainBy_47 rfl rfl (by decide) rfl ?_
        refine g_goto hC 4 dX5_gainBy_50 (by decide) ?_
        refine g_sub [3, 4, 1, 0] rfl ?_
        exact ih (x2 + (mxI 0 (v11 - v13))) (x3 + 1) M9 h
set_option maxHeartbeats 4000000 in
set_option maxRecDepth 100000 in
theorem c_X5_gainBy (l : Launch) (Γ : Gm) (this : Nat) (p1 : Int32) (M M' : Mm) (r : Int32) (h : F_X5_gainBy this p1 M = some (r, M')) : Met l yX5_gainBy (wz yX5_gainBy cX5_gainBy 5 (some .int)) ({ frames := 2, cells := 0, slots := 0, locals := 45 } : Room) (Pq Γ M [.ref this, .int p1]) (Qi Γ r M') 0 0 (fr Γ) := by
  refine met_of (own := RX5) (by decide +kernel) rfl (Nat.le_of_ble_eq_true rfl) ?_
  intro X hC hR hnm hXl
  unfold F_X5_gainBy at h
  show G Γ X 5 M 0 0 _ 0 ([(0, .ref this), (1, .int p1)]) []
  refine g_iconst hC 0 dX5_gainBy_0 (by decide) ?_
  refine g_istore_n hC ([(2, .int 0), (0, .ref this), (1, .int p1)]) dX5_gainBy_1 (by decide) rfl ?_
  refine g_iconst hC 0 dX5_gainBy_2 (by decide) ?_
  refine g_istore_n hC ([(3, .int 0), (2, .int 0), (0, .ref this), (1, .int p1)]) dX5_gainBy_3 (by decide) rfl ?_
  refine g_sub [2, 3, 1, 0] rfl ?_
  refine l_X5_gainBy_L4 hC hR r M'  _ _  _ _ _ _ h
