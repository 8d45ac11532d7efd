set_option maxHeartbeats 4000000 in
set_option maxRecDepth 100000 in
theorem l_X12_comesTo_L5 {Γ : Gm} {X : Ct} (hC : Cx Γ X cX12_comesTo RX12 (some .int) 8) (hR : X.2.2.2.1 = ({ frames := 3, cells := 0, slots := 0, locals := 69 } : Room)) (r : Int32) (M' : Mm)  (x0 : Nat) (x1 : Int32) (x2 : Int32) : ∀ (fu : Nat) (x3 : Int32) (x4 : Int32) (M0 : Mm), F_X12_comesTo_L5 x0 x1 x2 fu x3 x4 M0 = some (r, M') → G Γ X 8 M0 0 0 (Fin Γ X (Qi Γ r M') 0 0) 5 ([(0, .ref x0), (1, .int x1), (2, .int x2), (3, .int x3), (4, .int x4)]) [] := by
  intro fu
  induction fu with
  | zero =>
    intro x3 x4 M0 h
    rw [F_X12_comesTo_L5] at h
    cases h
  | succ n1 ih =>
    intro x3 x4 M0 h
    rw [F_X12_comesTo_L5] at h
    refine g_iload hC 4 dX12_comesTo_5 rfl ?_
    refine g_iconst hC 4 dX12_comesTo_7 (by decide) ?_
    refine g_icmp_ge hC 120 dX12_comesTo_8 (by decide) (fun c2 => ?_) (fun c2 => ?_)
    · replace h := it_t c2 h
      refine g_iload_n hC 3 dX12_comesTo_120 rfl ?_
      exact g_iret hC h ⟨(Nat.le_of_ble_eq_true rfl), (Nat.le_of_ble_eq_true rfl)⟩ dX12_comesTo_121
    · replace h := it_f c2 h
      refine g_aload_n hC 0 dX12_comesTo_11 rfl ?_
      refine g_iload_n hC 1 dX12_comesTo_12 rfl ?_
      refine g_iload hC 4 dX12_comesTo_13 rfl ?_
      replace h := ob h; obtain ⟨_, eu4, h⟩ := h
      replace h := ob h; obtain ⟨⟨v5, M3⟩, eM3, h⟩ := h
      refine g_calli hC (r_V hC (As := [.int x1, .int x4]) (c_X12_besideOf _ Γ x0 x1 x4 M0 M3 v5 eM3) yk_X12_besideOf lk_X12_165 eu4 ⟨_, rfl, rfl⟩ rfl rfl (Nat.le_of_ble_eq_true rfl) hR ⟨(Nat.le_of_ble_eq_true rfl), (Nat.le_of_ble_eq_true rfl)⟩ ⟨(Nat.le_of_ble_eq_true rfl), (Nat.le_of_ble_eq_true rfl)⟩ dX12_comesTo_15) ?_
      refine g_istore hC ([(5, .int v5), (0, .ref x0), (1, .int x1), (2, .int x2), (3, .int x3), (4, .int x4)]) dX12_comesTo_18 (by decide) rfl ?_
      refine g_iload hC 0 dX12_comesTo_20 rfl ?_
      refine g_if_lt hC 114 dX12_comesTo_22 (by decide) (fun c6 => ?_) (fun c6 => ?_)
      · replace h := it_t c6 h
        refine g_iinc hC 5 (x4 + 1) ([(4, .int (x4 + 1)), (5, .int v5), (0, .ref x0), (1, .int x1), (2, .int x2), (3, .int x3)]) dX12_comesTo_114 rfl rfl (by decide) rfl ?_
        refine g_goto hC 5 dX12_comesTo_117 (by decide) ?_
        refine g_sub [2, 3, 4, 5, 0] rfl ?_
        exact ih x3 (x4 + 1) M3 h
      · replace h := it_f c6 h
        refine g_aload_n hC 1 dX12_comesTo_25 rfl ?_
        replace h := ob h; obtain ⟨v7, ev7, h⟩ := h
        refine g_getR hC ev7 fk_X12_13 rfl dX12_comesTo_26 ?_
        refine g_bipush hC 10 dX12_comesTo_29 (by decide) ?_
        refine g_iload hC 0 dX12_comesTo_31 rfl ?_
        refine g_iadd hC dX12_comesTo_33 ?_
        replace h := ob h; obtain ⟨a9, ea9, h⟩ := h
        subst ea9
        replace h := ob h; obtain ⟨v8, ev8, h⟩ := h
        refine g_iald hC ev8 dX12_comesTo_34 ?_
        refine g_iload_n hC 3 dX12_comesTo_35 rfl ?_
        refine g_icmp_gt hC 42 dX12_comesTo_36 (by decide) (fun c10 => ?_) (fun c10 => ?_)
        · replace h := it_t c10 h
          refine g_iload hC 5 dX12_comesTo_42 rfl ?_
          refine g_iconst hC 2 dX12_comesTo_44 (by decide) ?_
          replace h := ob h; obtain ⟨v11, ev11, h⟩ := h
          refine g_irem hC ev11 dX12_comesTo_45 ?_
          replace h := jp_e h; obtain ⟨k12, ek12, h⟩ := h
          have J21 : ∀ (s13 : Int32) (M14 : Mm), k12 s13 M14 = some (r, M') → G Γ X 8 M14 0 0 (Fin Γ X (Qi Γ r M') 0 0) 82 ([(0, .ref x0), (1, .int x1), (2, .int x2), (3, .int x3), (4, .int x4)]) ([.int s13]) := by
            intro s13 M14 h
            rw [ek12] at h
            refine g_istore hC ([(6, .int s13), (0, .ref x0), (1, .int x1), (2, .int x2), (3, .int x3), (4, .int x4)]) dX12_comesTo_82 (by decide) rfl ?_
            refine g_iload hC 5 dX12_comesTo_84 rfl ?_
            refine g_iconst hC 2 dX12_comesTo_86 (by decide) ?_
            replace h := nv_e h; obtain ⟨v15, ev15, h⟩ := h
            have J16 : G Γ X 8 M14 0 0 (Fin Γ X (Qi Γ r M') 0 0) 98 ([(6, .int s13), (0, .ref x0), (1, .int x1), (2, .int x2), (3, .int x3), (4, .int x4)]) ([.int v15]) := by
              refine g_istore hC ([(7, .int v15), (6, .int s13), (0, .ref x0), (1, .int x1), (2, .int x2), (3, .int x3), (4, .int x4)]) dX12_comesTo_98 (by decide) rfl ?_
              refine g_iload_n hC 5 dX12_comesTo_100 rfl ?_
              refine g_iload hC 0 dX12_comesTo_101 rfl ?_
              replace h := nv_e h; obtain ⟨v17, ev17, h⟩ := h
              have J18 : G Γ X 8 M14 0 0 (Fin Γ X (Qi Γ r M') 0 0) 112 ([(7, .int v15), (6, .int s13), (0, .ref x0), (1, .int x1), (2, .int x2), (3, .int x3), (4, .int x4)]) ([.int v17, .int x3]) := by
                refine g_iadd hC dX12_comesTo_112 ?_
                refine g_istore_n hC ([(3, .int (x3 + v17)), (7, .int v15), (6, .int s13), (0, .ref x0), (1, .int x1), (2, .int x2), (4, .int x4)]) dX12_comesTo_113 (by decide) rfl ?_
                refine g_iinc hC 6 (x4 + 1) ([(4, .int (x4 + 1)), (3, .int (x3 + v17)), (7, .int v15), (6, .int s13), (0, .ref x0), (1, .int x1), (2, .int x2)]) dX12_comesTo_114 rfl rfl (by decide) rfl ?_
                refine g_goto hC 5 dX12_comesTo_117 (by decide) ?_
                refine g_sub [4, 5, 6, 1, 0] rfl ?_
                exact ih (x3 + v17) (x4 + 1) M14 h
              refine g_if_le hC 111 dX12_comesTo_103 (by decide) (fun c19 => ?_) (fun c19 => ?_)
              · refine g_iconst hC 0 dX12_comesTo_111 (by decide) ?_
                rw [show v17 = _ from ev17.trans (if_pos c19)] at J18
                exact J18
              · refine g_iload hC 0 dX12_comesTo_106 rfl ?_
                refine g_goto hC 112 dX12_comesTo_108 (by decide) ?_
                rw [show v17 = _ from ev17.trans (if_neg c19)] at J18
                exact J18
            refine g_icmp_ge hC 96 dX12_comesTo_87 (by decide) (fun c20 => ?_) (fun c20 => ?_)
            · refine g_iload hC 0 dX12_comesTo_96 rfl ?_
              rw [show v15 = _ from ev15.trans (if_pos c20)] at J16
              exact J16
            · refine g_iload hC 0 dX12_comesTo_90 rfl ?_
              refine g_ineg hC dX12_comesTo_92 ?_
              refine g_goto hC 98 dX12_comesTo_93 (by decide) ?_
              rw [show v15 = _ from ev15.trans (if_neg c20)] at J16
              exact J16
          refine g_if_ne hC 67 dX12_comesTo_46 (by decide) (fun c22 => ?_) (fun c22 => ?_)
          · replace h := it_f c22 h
            refine g_aload_n hC 1 dX12_comesTo_67 rfl ?_
            replace h := ob h; obtain ⟨v23, ev23, h⟩ := h
            refine g_getR hC ev23 fk_X12_13 rfl dX12_comesTo_68 ?_
            refine g_sipush hC 1210 dX12_comesTo_71 (by decide) ?_
            refine g_iconst hC 4 dX12_comesTo_74 (by decide) ?_
            refine g_iload hC 0 dX12_comesTo_75 rfl ?_
            refine g_imul hC dX12_comesTo_77 ?_
            refine g_iadd hC dX12_comesTo_78 ?_
            refine g_iload_n hC 3 dX12_comesTo_79 rfl ?_
            refine g_iadd hC dX12_comesTo_80 ?_
            replace h := ob h; obtain ⟨a25, ea25, h⟩ := h
            subst ea25
            replace h := ob h; obtain ⟨v24, ev24, h⟩ := h
            refine g_iald hC ev24 dX12_comesTo_81 ?_
            refine g_sub [1, 2, 3, 4, 5] rfl ?_
            exact J21 v24 M3 h
          · replace h := it_t c22 h
            refine g_aload_n hC 1 dX12_comesTo_49 rfl ?_
            replace h := ob h; obtain ⟨v26, ev26, h⟩ := h
            refine g_getR hC ev26 fk_X12_13 rfl dX12_comesTo_50 ?_
            refine g_sipush hC 890 dX12_comesTo_53 (by decide) ?_
            refine g_iconst hC 4 dX12_comesTo_56 (by decide) ?_
            refine g_iload hC 0 dX12_comesTo_57 rfl ?_
            refine g_imul hC dX12_comesTo_59 ?_
            refine g_iadd hC dX12_comesTo_60 ?_
            refine g_iload_n hC 3 dX12_comesTo_61 rfl ?_
            refine g_iadd hC dX12_comesTo_62 ?_
            replace h := ob h; obtain ⟨a28, ea28, h⟩ := h
            subst ea28
            replace h := ob h; obtain ⟨v27, ev27, h⟩ := h
            refine g_iald hC ev27 dX12_comesTo_63 ?_
            refine g_goto hC 82 dX12_comesTo_64 (by decide) ?_
            refine g_sub [1, 2, 3, 4, 5] rfl ?_
            exact J21 v27 M3 h
        · replace h := it_f c10 h
          refine g_goto hC 114 dX12_comesTo_39 (by decide) ?_
          refine g_iinc hC 5 (x4 + 1) ([(4, .int (x4 + 1)), (5, .int v5), (0, .ref x0), (1, .int x1), (2, .int x2), (3, .int x3)]) dX12_comesTo_114 rfl rfl (by decide) rfl ?_
          refine g_goto hC 5 dX12_comesTo_117 (by decide) ?_
          refine g_sub [2, 3, 4, 5, 0] rfl ?_
          exact ih x3 (x4 + 1) M3 h
set_option maxHeartbeats 4000000 in
set_option maxRecDepth 100000 in
theorem c_X12_comesTo (l : Launch) (Γ : Gm) (this : Nat) (p1 : Int32) (p2 : Int32) (M M' : Mm) (r : Int32) (h : F_X12_comesTo this p1 p2 M = some (r, M')) : Met l yX12_comesTo (wz yX12_comesTo cX12_comesTo 8 (some .int)) ({ frames := 3, cells := 0, slots := 0, locals := 69 } : Room) (Pq Γ M [.ref this, .int p1, .int p2]) (Qi Γ r M') 0 0 (fr Γ) := by
  refine met_of (own := RX12) (by decide +kernel) rfl (Nat.le_of_ble_eq_true rfl) ?_
  intro X hC hR hnm hXl
  unfold F_X12_comesTo at h
  show G Γ X 8 M 0 0 _ 0 ([(0, .ref this), (1, .int p1), (2, .int p2)]) []
  refine g_iconst hC 0 dX12_comesTo_0 (by decide) ?_
  refine g_istore_n hC ([(3, .int 0), (0, .ref this), (1, .int p1), (2, .int p2)]) dX12_comesTo_1 (by decide) rfl ?_
  refine g_iconst hC 0 dX12_comesTo_2 (by decide) ?_
  refine g_istore hC ([(4, .int 0), (3, .int 0), (0, .ref this), (1, .int p1), (2, .int p2)]) dX12_comesTo_3 (by decide) rfl ?_
  refine g_sub [2, 3, 4, 1, 0] rfl ?_
  refine l_X12_comesTo_L5 hC hR r M'  _ _ _  _ _ _ _ h

set_option maxHeartbeats 4000000 in
set_option maxRecDepth 100000 in
theorem l_X12_whole_L16 {Γ : Gm} {X : Ct} (hC : Cx Γ X cX12_whole RX12 (some .int) 4) (hR : X.2.2.2.1 = ({ frames := 4, cells := 0, slots := 0, locals := 96 } : Room)) (r : Int32) (M' : Mm)  (x0 : Nat) (x1 : Int32) : ∀ (fu : Nat) (x2 : Int32) (x3 : Int32) (M0 : Mm), F_X12_whole_L16 x0 x1 fu x2 x3 M0 = some (r, M') → G Γ X 4 M0 0 0 (Fin Γ X (Qi Γ r M') 0 0) 16 ([(0, .ref x0), (1, .int x1), (2, .int x2), (3, .int x3)]) [] := by
  intro fu
  induction fu with
  | zero =>
    intro x2 x3 M0 h
    rw [F_X12_whole_L16] at h
    cases h
  | succ n5 ih =>
    intro x2 x3 M0 h
    rw [F_X12_whole_L16] at h
    refine g_iload_n hC 3 dX12_whole_16 rfl ?_
    refine g_bipush hC 80 dX12_whole_17 (by decide) ?_
    refine g_icmp_ge hC 90 dX12_whole_19 (by decide) (fun c6 => ?_) (fun c6 => ?_)
    · replace h := it_t c6 h
      refine g_iload_n hC 2 dX12_whole_90 rfl ?_
      exact g_iret hC h ⟨(Nat.le_of_ble_eq_true rfl), (Nat.le_of_ble_eq_true rfl)⟩ dX12_whole_91
    · replace h := it_f c6 h
      refine g_aload_n hC 0 dX12_whole_22 rfl ?_
      replace h := ob h; obtain ⟨v7, ev7, h⟩ := h
      refine g_getR hC ev7 fk_X12_13 rfl dX12_whole_23 ?_
      refine g_bipush hC 10 dX12_whole_26 (by decide) ?_
      refine g_iload_n hC 3 dX12_whole_28 rfl ?_
      refine g_iadd hC dX12_whole_29 ?_
      replace h := ob h; obtain ⟨a9, ea9, h⟩ := h
      subst ea9
      replace h := ob h; obtain ⟨v8, ev8, h⟩ := h
      refine g_iald hC ev8 dX12_whole_30 ?_
      refine g_iload_n hC 1 dX12_whole_31 rfl ?_
      refine g_icmp_le hC 84 dX12_whole_32 (by decide) (fun c10 => ?_) (fun c10 => ?_)
      · replace h := it_t c10 h
        refine g_iinc hC 3 (x3 + 1) ([(3, .int (x3 + 1)), (0, .ref x0), (1, .int x1), (2, .int x2)]) dX12_whole_84 rfl rfl (by decide) rfl ?_
        refine g_goto hC 16 dX12_whole_87 (by decide) ?_
        refine g_sub [1, 2, 3, 0] rfl ?_
        exact ih x2 (x3 + 1) M0 h
      · replace h := it_f c10 h
        refine g_aload_n hC 0 dX12_whole_35 rfl ?_
        refine g_aload_n hC 0 dX12_whole_36 rfl ?_
        replace h := ob h; obtain ⟨v11, ev11, h⟩ := h
        refine g_getR hC ev11 fk_X12_13 rfl dX12_whole_37 ?_
        refine g_sipush hC 890 dX12_whole_40 (by decide) ?_
        refine g_iconst hC 4 dX12_whole_43 (by decide) ?_
        refine g_iload_n hC 3 dX12_whole_44 rfl ?_
        refine g_imul hC dX12_whole_45 ?_
        refine g_iadd hC dX12_whole_46 ?_
        refine g_iload_n hC 1 dX12_whole_47 rfl ?_
        refine g_iadd hC dX12_whole_48 ?_
        replace h := ob h; obtain ⟨a13, ea13, h⟩ := h
        subst ea13
        replace h := ob h; obtain ⟨v12, ev12, h⟩ := h
        refine g_iald hC ev12 dX12_whole_49 ?_
        replace h := ob h; obtain ⟨_, eu15, h⟩ := h
        replace h := ob h; obtain ⟨⟨v16, M14⟩, eM14, h⟩ := h
        refine g_calli hC (r_V hC (As := [.int v12]) (c_X12_abs _ Γ x0 v12 M0 M14 v16 eM14) yk_X12_abs lk_X12_152 eu15 ⟨_, rfl, rfl⟩ rfl rfl (Nat.le_of_ble_eq_true rfl) hR ⟨(Nat.le_of_ble_eq_true rfl), (Nat.le_of_ble_eq_true rfl)⟩ ⟨(Nat.le_of_ble_eq_true rfl), (Nat.le_of_ble_eq_true rfl)⟩ dX12_whole_50) ?_
        refine g_aload_n hC 0 dX12_whole_53 rfl ?_
        refine g_aload_n hC 0 dX12_whole_54 rfl ?_
        replace h := ob h; obtain ⟨v17, ev17, h⟩ := h
        refine g_getR hC ev17 fk_X12_13 rfl dX12_whole_55 ?_
        refine g_sipush hC 1210 dX12_whole_58 (by decide) ?_
        refine g_iconst hC 4 dX12_whole_61 (by decide) ?_
        refine g_iload_n hC 3 dX12_whole_62 rfl ?_
        refine g_imul hC dX12_whole_63 ?_
        refine g_iadd hC dX12_whole_64 ?_
        refine g_iload_n hC 1 dX12_whole_65 rfl ?_
        refine g_iadd hC dX12_whole_66 ?_
        replace h := ob h; obtain ⟨a19, ea19, h⟩ := h
        subst ea19
        replace h := ob h; obtain ⟨v18, ev18, h⟩ := h
        refine g_iald hC ev18 dX12_whole_67 ?_
        replace h := ob h; obtain ⟨_, eu21, h⟩ := h
        replace h := ob h; obtain ⟨⟨v22, M20⟩, eM20, h⟩ := h
        refine g_calli hC (r_V hC (As := [.int v18]) (c_X12_abs _ Γ x0 v18 M14 M20 v22 eM20) yk_X12_abs lk_X12_152 eu21 ⟨_, rfl, rfl⟩ rfl rfl (Nat.le_of_ble_eq_true rfl) hR ⟨(Nat.le_of_ble_eq_true rfl), (Nat.le_of_ble_eq_true rfl)⟩ ⟨(Nat.le_of_ble_eq_true rfl), (Nat.le_of_ble_eq_true rfl)⟩ dX12_whole_68) ?_
        refine g_iadd hC dX12_whole_71 ?_
        refine g_aload_n hC 0 dX12_whole_72 rfl ?_
        refine g_iload_n hC 3 dX12_whole_73 rfl ?_
        refine g_iload_n hC 1 dX12_whole_74 rfl ?_
        replace h := ob h; obtain ⟨_, eu24, h⟩ := h
        replace h := ob h; obtain ⟨⟨v25, M23⟩, eM23, h⟩ := h
        refine g_calli hC (r_V hC (As := [.int x3, .int x1]) (c_X12_comesTo _ Γ x0 x3 x1 M20 M23 v25 eM23) yk_X12_comesTo lk_X12_271 eu24 ⟨_, rfl, rfl⟩ rfl rfl (Nat.le_of_ble_eq_true rfl) hR ⟨(Nat.le_of_ble_eq_true rfl), (Nat.le_of_ble_eq_true rfl)⟩ ⟨(Nat.le_of_ble_eq_true rfl), (Nat.le_of_ble_eq_true rfl)⟩ dX12_whole_75) ?_
        refine g_icmp_ne hC 84 dX12_whole_78 (by decide) (fun c26 => ?_) (fun c26 => ?_)
        · replace h := it_f c26 h
          refine g_iinc hC 3 (x3 + 1) ([(3, .int (x3 + 1)), (0, .ref x0), (1, .int x1), (2, .int x2)]) dX12_whole_84 rfl rfl (by decide) rfl ?_
          refine g_goto hC 16 dX12_whole_87 (by decide) ?_
          refine g_sub [1, 2, 3, 0] rfl ?_
          exact ih x2 (x3 + 1) M23 h
        · replace h := it_t c26 h
          refine g_iinc hC 2 (x2 + 1) ([(2, .int (x2 + 1)), (0, .ref x0), (1, .int x1), (3, .int x3)]) dX12_whole_81 rfl rfl (by decide) rfl ?_
          refine g_iinc hC 3 (x3 + 1) ([(3, .int (x3 + 1)), (2, .int (x2 + 1)), (0, .ref x0), (1, .int x1)]) dX12_whole_84 rfl rfl (by decide) rfl ?_
          refine g_goto hC 16 dX12_whole_87 (by decide) ?_
          refine g_sub [2, 3, 1, 0] rfl ?_
          exact ih (x2 + 1) (x3 + 1) M23 h
set_option maxHeartbeats 4000000 in
set_option maxRecDepth 100000 in
theorem c_X12_whole (l : Launch) (Γ : Gm) (this : Nat) (p1 : Int32) (M M' : Mm) (r : Int32) (h : F_X12_whole this p1 M = some (r, M')) : Met l yX12_whole (wz yX12_whole cX12_whole 4 (some .int)) ({ frames := 4, cells := 0, slots := 0, locals := 96 } : Room) (Pq Γ M [.ref this, .int p1]) (Qi Γ r M') 0 0 (fr Γ) := by
  refine met_of (own := RX12) (by decide +kernel) rfl (Nat.le_of_ble_eq_true rfl) ?_
  intro X hC hR hnm hXl
  unfold F_X12_whole at h
  show G Γ X 4 M 0 0 _ 0 ([(0, .ref this), (1, .int p1)]) []
  refine g_aload_n hC 0 dX12_whole_0 rfl ?_
  refine g_iload_n hC 1 dX12_whole_1 rfl ?_
  refine g_iconst hC 0 dX12_whole_2 (by decide) ?_
  refine g_iconst hC 3 dX12_whole_3 (by decide) ?_
  replace h := ob h; obtain ⟨_, eu2, h⟩ := h
  replace h := ob h; obtain ⟨⟨v3, M1⟩, eM1, h⟩ := h
  refine g_calli hC (r_V hC (As := [.int p1, .int 0, .int 3]) (c_X12_is _ Γ this p1 0 3 M M1 v3 eM1) yk_X12_is lk_X12_123 eu2 ⟨_, rfl, rfl⟩ rfl rfl (Nat.le_of_ble_eq_true rfl) hR ⟨(Nat.le_of_ble_eq_true rfl), (Nat.le_of_ble_eq_true rfl)⟩ ⟨(Nat.le_of_ble_eq_true rfl), (Nat.le_of_ble_eq_true rfl)⟩ dX12_whole_4) ?_
  refine g_if_ne hC 12 dX12_whole_7 (by decide) (fun c4 => ?_) (fun c4 => ?_)
  · replace h := it_f c4 h
    refine g_iconst hC 0 dX12_whole_12 (by decide) ?_
    refine g_istore_n hC ([(2, .int 0), (0, .ref this), (1, .int p1)]) dX12_whole_13 (by decide) rfl ?_
    refine g_iconst hC 0 dX12_whole_14 (by decide) ?_
    refine g_istore_n hC ([(3, .int 0), (2, .int 0), (0, .ref this), (1, .int p1)]) dX12_whole_15 (by decide) rfl ?_
    refine g_sub [2, 3, 1, 0] rfl ?_
    refine l_X12_whole_L16 hC hR r M'  _ _  _ _ _ _ h
  · replace h := it_t c4 h
    refine g_iconst hC (-1) dX12_whole_10 (by decide) ?_
    exact g_iret hC h ⟨(Nat.le_of_ble_eq_true rfl), (Nat.le_of_ble_eq_true rfl)⟩ dX12_whole_11

set_option maxHeartbeats 4000000 in
set_option maxRecDepth 100000 in
theorem c_X12_ship (l : Launch) (Γ : Gm) (this : Nat) (p1 : Int32) (p2 : Int32) (M M' : Mm) (r : Int32) (h : F_X12_ship this p1 p2 M = some (r, M')) : Met l yX12_ship (wz yX12_ship cX12_ship 4 (some .int)) ({ frames := 3, cells := 0, slots := 0, locals := 67 } : Room) (Pq Γ M [.ref this, .int p1, .int p2]) (Qi Γ r M') 0 0 (fr Γ) := by
  refine met_of (own := RX12) (by decide +kernel) rfl (Nat.le_of_ble_eq_true rfl) ?_
  intro X hC hR hnm hXl
  unfold F_X12_ship at h
  show G Γ X 4 M 0 0 _ 0 ([(0, .ref this), (1, .int p1), (2, .int p2)]) []
  refine g_aload_n hC 0 dX12_ship_0 rfl ?_
  refine g_iload_n hC 1 dX12_ship_1 rfl ?_
  refine g_iload_n hC 2 dX12_ship_2 rfl ?_
  replace h := ob h; obtain ⟨_, eu2, h⟩ := h
  replace h := ob h; obtain ⟨⟨v3, M1⟩, eM1, h⟩ := h
  refine g_calli hC (r_V hC (As := [.int p1, .int p2]) (c_X12_isCell _ Γ this p1 p2 M M1 v3 eM1) yk_X12_isCell lk_X12_127 eu2 ⟨_, rfl, rfl⟩ rfl rfl (Nat.le_of_ble_eq_true rfl) hR ⟨(Nat.le_of_ble_eq_true rfl), (Nat.le_of_ble_eq_true rfl)⟩ ⟨(Nat.le_of_ble_eq_true rfl), (Nat.le_of_ble_eq_true rfl)⟩ dX12_ship_3) ?_
  refine g_if_ne hC 11 dX12_ship_6 (by decide) (fun c4 => ?_) (fun c4 => ?_)
  · replace h := it_f c4 h
    refine g_aload_n hC 0 dX12_ship_11 rfl ?_
    refine g_iload_n hC 1 dX12_ship_12 rfl ?_
    refine g_iload_n hC 2 dX12_ship_13 rfl ?_
    replace h := ob h; obtain ⟨_, eu6, h⟩ := h
    replace h := ob h; obtain ⟨⟨v7, M5⟩, eM5, h⟩ := h
    refine g_calli hC (r_V hC (As := [.int p1, .int p2]) (c_X12_isWater _ Γ this p1 p2 M1 M5 v7 eM5) yk_X12_isWater lk_X12_139 eu6 ⟨_, rfl, rfl⟩ rfl rfl (Nat.le_of_ble_eq_true rfl) hR ⟨(Nat.le_of_ble_eq_true rfl), (Nat.le_of_ble_eq_true rfl)⟩ ⟨(Nat.le_of_ble_eq_true rfl), (Nat.le_of_ble_eq_true rfl)⟩ dX12_ship_14) ?_
    refine g_if_ne hC 23 dX12_ship_17 (by decide) (fun c8 => ?_) (fun c8 => ?_)
    · replace h := it_f c8 h
      refine g_aload_n hC 0 dX12_ship_23 rfl ?_
      replace h := ob h; obtain ⟨v9, ev9, h⟩ := h
      refine g_getR hC ev9 fk_X12_13 rfl dX12_ship_24 ?_
      refine g_bipush hC 6 dX12_ship_27 (by decide) ?_
      replace h := ob h; obtain ⟨a11, ea11, h⟩ := h
      subst ea11
      replace h := ob h; obtain ⟨v10, ev10, h⟩ := h
      refine g_iald hC ev10 dX12_ship_29 ?_
      refine g_istore_n hC ([(3, .int v10), (0, .ref this), (1, .int p1), (2, .int p2)]) dX12_ship_30 (by decide) rfl ?_
      refine g_aload_n hC 1 dX12_ship_31 rfl ?_
      replace h := ob h; obtain ⟨v12, ev12, h⟩ := h
      refine g_getR hC ev12 fk_X12_13 rfl dX12_ship_32 ?_
      refine g_bipush hC 6 dX12_ship_35 (by decide) ?_
      refine g_bipush hC 8 dX12_ship_37 (by decide) ?_
      refine g_iload_n hC 2 dX12_ship_39 rfl ?_
      refine g_imul hC dX12_ship_40 ?_
      refine g_iload_n hC 3 dX12_ship_41 rfl ?_
      refine g_iadd hC dX12_ship_42 ?_
      replace h := ob h; obtain ⟨a14, ea14, h⟩ := h
      subst ea14
      replace h := ob h; obtain ⟨M13, eM13, h⟩ := h
      refine g_iast hC eM13 dX12_ship_43 ?_
      refine g_iload_n hC 0 dX12_ship_44 rfl ?_
      exact g_iret hC h ⟨(Nat.le_of_ble_eq_true rfl), (Nat.le_of_ble_eq_true rfl)⟩ dX12_ship_45
    · replace h := it_t c8 h
      refine g_bipush hC (-3) dX12_ship_20 (by decide) ?_
      exact g_iret hC h ⟨(Nat.le_of_ble_eq_true rfl), (Nat.le_of_ble_eq_true rfl)⟩ dX12_ship_22
  · replace h := it_t c4 h
    refine g_iconst hC (-1) dX12_ship_9 (by decide) ?_
    exact g_iret hC h ⟨(Nat.le_of_ble_eq_true rfl), (Nat.le_of_ble_eq_true rfl)⟩ dX12_ship_10

set_option maxHeartbeats 4000000 in
set_option maxRecDepth 100000 in
theorem c_X12_leftOf (l : Launch) (Γ : Gm) (this : Nat) (p1 : Int32) (M M' : Mm) (r : Int32) (h : F_X12_leftOf this p1 M = some (r, M')) : Met l yX12_leftOf (wz yX12_leftOf cX12_leftOf 2 (some .int)) ({ frames := 2, cells := 0, slots := 0, locals := 44 } : Room) (Pq Γ M [.ref this, .int p1]) (Qi Γ r M') 0 0 (fr Γ) := by
  refine met_of (own := RX12) (by decide +kernel) rfl (Nat.le_of_ble_eq_true rfl) ?_
  intro X hC hR hnm hXl
  unfold F_X12_leftOf at h
  show G Γ X 2 M 0 0 _ 0 ([(0, .ref this), (1, .int p1)]) []
  refine g_aload_n hC 0 dX12_leftOf_0 rfl ?_
  replace h := ob h; obtain ⟨v1, ev1, h⟩ := h
  refine g_getR hC ev1 fk_X12_13 rfl dX12_leftOf_1 ?_
  refine g_sipush hC 2194 dX12_leftOf_4 (by decide) ?_
  refine g_iload_n hC 1 dX12_leftOf_7 rfl ?_
  refine g_iadd hC dX12_leftOf_8 ?_
  replace h := ob h; obtain ⟨a3, ea3, h⟩ := h
  subst ea3
  replace h := ob h; obtain ⟨v2, ev2, h⟩ := h
  refine g_iald hC ev2 dX12_leftOf_9 ?_
  refine g_aload_n hC 0 dX12_leftOf_10 rfl ?_
  refine g_iload_n hC 1 dX12_leftOf_11 rfl ?_
  refine g_iconst hC 1 dX12_leftOf_12 (by decide) ?_
  replace h := ob h; obtain ⟨_, eu5, h⟩ := h
  replace h := ob h; obtain ⟨⟨v6, M4⟩, eM4, h⟩ := h
  refine g_calli hC (r_V hC (As := [.int p1, .int 1]) (c_X12_cost _ Γ this p1 1 M M4 v6 eM4) yk_X12_cost lk_X12_149 eu5 ⟨_, rfl, rfl⟩ rfl rfl (Nat.le_of_ble_eq_true rfl) hR ⟨(Nat.le_of_ble_eq_true rfl), (Nat.le_of_ble_eq_true rfl)⟩ ⟨(Nat.le_of_ble_eq_true rfl), (Nat.le_of_ble_eq_true rfl)⟩ dX12_leftOf_13) ?_
  replace h := ob h; obtain ⟨v7, ev7, h⟩ := h
  refine g_idiv hC ev7 dX12_leftOf_16 ?_
  exact g_iret hC h ⟨(Nat.le_of_ble_eq_true rfl), (Nat.le_of_ble_eq_true rfl)⟩ dX12_leftOf_17

set_option maxHeartbeats 4000000 in
set_option maxRecDepth 100000 in
theorem c_X12_left (l : Launch) (Γ : Gm) (this : Nat) (p1 : Int32) (M M' : Mm) (r : Int32) (h : F_X12_left this p1 M = some (r, M')) : Met l yX12_left (wz yX12_left cX12_left 2 (some .int)) ({ frames := 3, cells := 0, slots := 0, locals := 65 } : Room) (Pq Γ M [.ref this, .int p1]) (Qi Γ r M') 0 0 (fr Γ) := by
  refine met_of (own := RX12) (by decide +kernel) rfl (Nat.le_of_ble_eq_true rfl) ?_
  intro X hC hR hnm hXl
  unfold F_X12_left at h
  show G Γ X 2 M 0 0 _ 0 ([(0, .ref this), (1, .int p1)]) []
  refine g_aload_n hC 0 dX12_left_0 rfl ?_
  refine g_iload_n hC 1 dX12_left_1 rfl ?_
  replace h := ob h; obtain ⟨_, eu2, h⟩ := h
  replace h := ob h; obtain ⟨⟨v3, M1⟩, eM1, h⟩ := h
  refine g_calli hC (r_V hC (As := [.int p1]) (c_X12_isGlider _ Γ this p1 M M1 v3 eM1) yk_X12_isGlider lk_X12_142 eu2 ⟨_, rfl, rfl⟩ rfl rfl (Nat.le_of_ble_eq_true rfl) hR ⟨(Nat.le_of_ble_eq_true rfl), (Nat.le_of_ble_eq_true rfl)⟩ ⟨(Nat.le_of_ble_eq_true rfl), (Nat.le_of_ble_eq_true rfl)⟩ dX12_left_2) ?_
  refine g_if_ne hC 12 dX12_left_5 (by decide) (fun c4 => ?_) (fun c4 => ?_)
  · replace h := it_f c4 h
    refine g_aload_n hC 0 dX12_left_12 rfl ?_
    refine g_iload_n hC 1 dX12_left_13 rfl ?_
    replace h := ob h; obtain ⟨_, eu6, h⟩ := h
    replace h := ob h; obtain ⟨⟨v7, M5⟩, eM5, h⟩ := h
    refine g_calli hC (r_V hC (As := [.int p1]) (c_X12_isUp _ Γ this p1 M1 M5 v7 eM5) yk_X12_isUp lk_X12_187 eu6 ⟨_, rfl, rfl⟩ rfl rfl (Nat.le_of_ble_eq_true rfl) hR ⟨(Nat.le_of_ble_eq_true rfl), (Nat.le_of_ble_eq_true rfl)⟩ ⟨(Nat.le_of_ble_eq_true rfl), (Nat.le_of_ble_eq_true rfl)⟩ dX12_left_14) ?_
    refine g_if_ne hC 25 dX12_left_17 (by decide) (fun c8 => ?_) (fun c8 => ?_)
    · replace h := it_f c8 h
      refine g_aload_n hC 0 dX12_left_25 rfl ?_
      refine g_iload_n hC 1 dX12_left_26 rfl ?_
      replace h := ob h; obtain ⟨_, eu10, h⟩ := h
      replace h := ob h; obtain ⟨⟨v11, M9⟩, eM9, h⟩ := h
      refine g_calli hC (r_V hC (As := [.int p1]) (c_X12_leftOf _ Γ this p1 M5 M9 v11 eM9) yk_X12_leftOf lk_X12_274 eu10 ⟨_, rfl, rfl⟩ rfl rfl (Nat.le_of_ble_eq_true rfl) hR ⟨(Nat.le_of_ble_eq_true rfl), (Nat.le_of_ble_eq_true rfl)⟩ ⟨(Nat.le_of_ble_eq_true rfl), (Nat.le_of_ble_eq_true rfl)⟩ dX12_left_27) ?_
      exact g_iret hC h ⟨(Nat.le_of_ble_eq_true rfl), (Nat.le_of_ble_eq_true rfl)⟩ dX12_left_30
    · replace h := it_t c8 h
      refine g_bipush hC (-3) dX12_left_20 (by decide) ?_
      refine g_goto hC 30 dX12_left_22 (by decide) ?_
      exact g_iret hC h ⟨(Nat.le_of_ble_eq_true rfl), (Nat.le_of_ble_eq_true rfl)⟩ dX12_left_30
  · replace h := it_t c4 h
    refine g_iconst hC (-1) dX12_left_8 (by decide) ?_
    refine g_goto hC 30 dX12_left_9 (by decide) ?_
    exact g_iret hC h ⟨(Nat.le_of_ble_eq_true rfl), (Nat.le_of_ble_eq_true rfl)⟩ dX12_left_30

set_option maxHeartbeats 4000000 in
set_option maxRecDepth 100000 in
theorem c_X12_offShip (l : Launch) (Γ : Gm) (this : Nat) (p1 : Int32) (M M' : Mm) (r : Int32) (h : F_X12_offShip this p1 M = some (r, M')) : Met l yX12_offShip (wz yX12_offShip cX12_offShip 2 (some .int)) ({ frames := 1, cells := 0, slots := 0, locals := 21 } : Room) (Pq Γ M [.ref this, .int p1]) (Qi Γ r M') 0 0 (fr Γ) := by
  refine met_of (own := RX12) (by decide +kernel) rfl (Nat.le_of_ble_eq_true rfl) ?_
  intro X hC hR hnm hXl
  unfold F_X12_offShip at h
  show G Γ X 2 M 0 0 _ 0 ([(0, .ref this), (1, .int p1)]) []
  refine g_aload_n hC 0 dX12_offShip_0 rfl ?_
  refine g_aload_n hC 0 dX12_offShip_1 rfl ?_
  replace h := ob h; obtain ⟨v1, ev1, h⟩ := h
  refine g_getR hC ev1 fk_X12_13 rfl dX12_offShip_2 ?_
  refine g_sipush hC 2178 dX12_offShip_5 (by decide) ?_
  refine g_iload_n hC 1 dX12_offShip_8 rfl ?_
  refine g_iadd hC dX12_offShip_9 ?_
  replace h := ob h; obtain ⟨a3, ea3, h⟩ := h
  subst ea3
  replace h := ob h; obtain ⟨v2, ev2, h⟩ := h
  refine g_iald hC ev2 dX12_offShip_10 ?_
  refine g_aload_n hC 0 dX12_offShip_11 rfl ?_
  replace h := ob h; obtain ⟨v4, ev4, h⟩ := h
  refine g_getR hC ev4 fk_X12_13 rfl dX12_offShip_12 ?_
  refine g_bipush hC 6 dX12_offShip_15 (by decide) ?_
  replace h := ob h; obtain ⟨a6, ea6, h⟩ := h
  subst ea6
  replace h := ob h; obtain ⟨v5, ev5, h⟩ := h
  refine g_iald hC ev5 dX12_offShip_17 ?_
  refine g_bipush hC 8 dX12_offShip_18 (by decide) ?_
  replace h := ob h; obtain ⟨v7, ev7, h⟩ := h
  refine g_idiv hC ev7 dX12_offShip_20 ?_
  refine g_isub hC dX12_offShip_21 ?_
  replace h := ob h; obtain ⟨_, eu9, h⟩ := h
  replace h := ob h; obtain ⟨⟨v10, M8⟩, eM8, h⟩ := h
  refine g_calli hC (r_V hC (As := [.int (v2 - v7)]) (c_X12_abs _ Γ this (v2 - v7) M M8 v10 eM8) yk_X12_abs lk_X12_152 eu9 ⟨_, rfl, rfl⟩ rfl rfl (Nat.le_of_ble_eq_true rfl) hR ⟨(Nat.le_of_ble_eq_true rfl), (Nat.le_of_ble_eq_true rfl)⟩ ⟨(Nat.le_of_ble_eq_true rfl), (Nat.le_of_ble_eq_true rfl)⟩ dX12_offShip_22) ?_
  refine g_aload_n hC 0 dX12_offShip_25 rfl ?_
  refine g_aload_n hC 0 dX12_offShip_26 rfl ?_
  replace h := ob h; obtain ⟨v11, ev11, h⟩ := h
  refine g_getR hC ev11 fk_X12_13 rfl dX12_offShip_27 ?_
  refine g_sipush hC 2186 dX12_offShip_30 (by decide) ?_
  refine g_iload_n hC 1 dX12_offShip_33 rfl ?_
  refine g_iadd hC dX12_offShip_34 ?_
  replace h := ob h; obtain ⟨a13, ea13, h⟩ := h
  subst ea13
  replace h := ob h; obtain ⟨v12, ev12, h⟩ := h
  refine g_iald hC ev12 dX12_offShip_35 ?_
  refine g_aload_n hC 0 dX12_offShip_36 rfl ?_
  replace h := ob h; obtain ⟨v14, ev14, h⟩ := h
  refine g_getR hC ev14 fk_X12_13 rfl dX12_offShip_37 ?_
  refine g_bipush hC 6 dX12_offShip_40 (by decide) ?_
  replace h := ob h; obtain ⟨a16, ea16, h⟩ := h
  subst ea16
  replace h := ob h; obtain ⟨v15, ev15, h⟩ := h
  refine g_iald hC ev15 dX12_offShip_42 ?_
  refine g_bipush hC 8 dX12_offShip_43 (by decide) ?_
  replace h := ob h; obtain ⟨v17, ev17, h⟩ := h
  refine g_irem hC ev17 dX12_offShip_45 ?_
  refine g_isub hC dX12_offShip_46 ?_
  replace h := ob h; obtain ⟨_, eu19, h⟩ := h
  replace h := ob h; obtain ⟨⟨v20, M18⟩, eM18, h⟩ := h
  refine g_calli hC (r_V hC (As := [.int (v12 - v17)]) (c_X12_abs _ Γ this (v12 - v17) M8 M18 v20 eM18) yk_X12_abs lk_X12_152 eu19 ⟨_, rfl, rfl⟩ rfl rfl (Nat.le_of_ble_eq_true rfl) hR ⟨(Nat.le_of_ble_eq_true rfl), (Nat.le_of_ble_eq_true rfl)⟩ ⟨(Nat.le_of_ble_eq_true rfl), (Nat.le_of_ble_eq_true rfl)⟩ dX12_offShip_47) ?_
  refine g_iadd hC dX12_offShip_50 ?_
  exact g_iret hC h ⟨(Nat.le_of_ble_eq_true rfl), (Nat.le_of_ble_eq_true rfl)⟩ dX12_offShip_51

set_option maxHeartbeats 4000000 in
set_option maxRecDepth 100000 in
theorem l_X12_next_L5 {Γ : Gm} {X : Ct} (hC : Cx Γ X cX12_next RX12 (some .int) 3) (hR : X.2.2.2.1 = ({ frames := 3, cells := 0, slots := 0, locals := 65 } : Room)) (r : Int32) (M' : Mm)  (x0 : Nat) : ∀ (fu : Nat) (x1 : Int32) (x2 : Int32) (M0 : Mm), F_X12_next_L5 x0 fu x1 x2 M0 = some (r, M') → G Γ X 3 M0 0 0 (Fin Γ X (Qi Γ r M') 0 0) 5 ([(0, .ref x0), (1, .int x1), (2, .int x2)]) [] := by
  intro fu
  induction fu with
  | zero =>
    intro x1 x2 M0 h
    rw [F_X12_next_L5] at h
    cases h
  | succ n1 ih =>
    intro x1 x2 M0 h
    rw [F_X12_next_L5] at h
    refine g_iload_n hC 2 dX12_next_5 rfl ?_
    refine g_aload_n hC 0 dX12_next_6 rfl ?_
    replace h := ob h; obtain ⟨v2, ev2, h⟩ := h
    refine g_getR hC ev2 fk_X12_13 rfl dX12_next_7 ?_
    refine g_iconst hC 0 dX12_next_10 (by decide) ?_
    replace h := ob h; obtain ⟨a4, ea4, h⟩ := h
    subst ea4
    replace h := ob h; obtain ⟨v3, ev3, h⟩ := h
    refine g_iald hC ev3 dX12_next_11 ?_
    refine g_icmp_ge hC 77 dX12_next_12 (by decide) (fun c5 => ?_) (fun c5 => ?_)
    · replace h := it_t c5 h
      refine g_iload_n hC 1 dX12_next_77 rfl ?_
      exact g_iret hC h ⟨(Nat.le_of_ble_eq_true rfl), (Nat.le_of_ble_eq_true rfl)⟩ dX12_next_78
    · replace h := it_f c5 h
      refine g_aload_n hC 0 dX12_next_15 rfl ?_
      refine g_iload_n hC 2 dX12_next_16 rfl ?_
      replace h := ob h; obtain ⟨_, eu7, h⟩ := h
      replace h := ob h; obtain ⟨⟨v8, M6⟩, eM6, h⟩ := h
      refine g_calli hC (r_V hC (As := [.int x2]) (c_X12_isUp _ Γ x0 x2 M0 M6 v8 eM6) yk_X12_isUp lk_X12_187 eu7 ⟨_, rfl, rfl⟩ rfl rfl (Nat.le_of_ble_eq_true rfl) hR ⟨(Nat.le_of_ble_eq_true rfl), (Nat.le_of_ble_eq_true rfl)⟩ ⟨(Nat.le_of_ble_eq_true rfl), (Nat.le_of_ble_eq_true rfl)⟩ dX12_next_17) ?_
      refine g_if_ne hC 26 dX12_next_20 (by decide) (fun c9 => ?_) (fun c9 => ?_)
      · replace h := it_f c9 h
        refine g_iload_n hC 1 dX12_next_26 rfl ?_
        refine g_if_lt hC 69 dX12_next_27 (by decide) (fun c10 => ?_) (fun c10 => ?_)
        · replace h := it_t c10 h
          refine g_iload_n hC 2 dX12_next_69 rfl ?_
          refine g_istore_n hC ([(1, .int x2), (0, .ref x0), (2, .int x2)]) dX12_next_70 (by decide) rfl ?_
          refine g_iinc hC 2 (x2 + 1) ([(2, .int (x2 + 1)), (1, .int x2), (0, .ref x0)]) dX12_next_71 rfl rfl (by decide) rfl ?_
          refine g_goto hC 5 dX12_next_74 (by decide) ?_
          refine g_sub [2, 1, 0] rfl ?_
          exact ih x2 (x2 + 1) M6 h
        · replace h := it_f c10 h
          refine g_aload_n hC 0 dX12_next_30 rfl ?_
          refine g_iload_n hC 2 dX12_next_31 rfl ?_
          replace h := ob h; obtain ⟨_, eu12, h⟩ := h
          replace h := ob h; obtain ⟨⟨v13, M11⟩, eM11, h⟩ := h
          refine g_calli hC (r_V hC (As := [.int x2]) (c_X12_leftOf _ Γ x0 x2 M6 M11 v13 eM11) yk_X12_leftOf lk_X12_274 eu12 ⟨_, rfl, rfl⟩ rfl rfl (Nat.le_of_ble_eq_true rfl) hR ⟨(Nat.le_of_ble_eq_true rfl), (Nat.le_of_ble_eq_true rfl)⟩ ⟨(Nat.le_of_ble_eq_true rfl), (Nat.le_of_ble_eq_true rfl)⟩ dX12_next_32) ?_
          refine g_aload_n hC 0 dX12_next_35 rfl ?_
          refine g_iload_n hC 1 dX12_next_36 rfl ?_
          replace h := ob h; obtain ⟨_, eu15, h⟩ := h
          replace h := ob h; obtain ⟨⟨v16, M14⟩, eM14, h⟩ := h
          refine g_calli hC (r_V hC (As := [.int x1]) (c_X12_leftOf _ Γ x0 x1 M11 M14 v16 eM14) yk_X12_leftOf lk_X12_274 eu15 ⟨_, rfl, rfl⟩ rfl rfl (Nat.le_of_ble_eq_true rfl) hR ⟨(Nat.le_of_ble_eq_true rfl), (Nat.le_of_ble_eq_true rfl)⟩ ⟨(Nat.le_of_ble_eq_true rfl), (Nat.le_of_ble_eq_true rfl)⟩ dX12_next_37) ?_
          refine g_icmp_lt hC 69 dX12_next_40 (by decide) (fun c17 => ?_) (fun c17 => ?_)
          · replace h := it_t c17 h
            refine g_iload_n hC 2 dX12_next_69 rfl ?_
            refine g_istore_n hC ([(1, .int x2), (0, .ref x0), (2, .int x2)]) dX12_next_70 (by decide) rfl ?_
            refine g_iinc hC 2 (x2 + 1) ([(2, .int (x2 + 1)), (1, .int x2), (0, .ref x0)]) dX12_next_71 rfl rfl (by decide) rfl ?_
            refine g_goto hC 5 dX12_next_74 (by decide) ?_
            refine g_sub [2, 1, 0] rfl ?_
            exact ih x2 (x2 + 1) M14 h
          · replace h := it_f c17 h
            refine g_aload_n hC 0 dX12_next_43 rfl ?_
            refine g_iload_n hC 2 dX12_next_44 rfl ?_
            replace h := ob h; obtain ⟨_, eu19, h⟩ := h
            replace h := ob h; obtain ⟨⟨v20, M18⟩, eM18, h⟩ := h
            refine g_calli hC (r_V hC (As := [.int x2]) (c_X12_leftOf _ Γ x0 x2 M14 M18 v20 eM18) yk_X12_leftOf lk_X12_274 eu19 ⟨_, rfl, rfl⟩ rfl rfl (Nat.le_of_ble_eq_true rfl) hR ⟨(Nat.le_of_ble_eq_true rfl), (Nat.le_of_ble_eq_true rfl)⟩ ⟨(Nat.le_of_ble_eq_true rfl), (Nat.le_of_ble_eq_true rfl)⟩ dX12_next_45) ?_
            refine g_aload_n hC 0 dX12_next_48 rfl ?_
            refine g_iload_n hC 1 dX12_next_49 rfl ?_
            replace h := ob h; obtain ⟨_, eu22, h⟩ := h
            replace h := ob h; obtain ⟨⟨v23, M21⟩, eM21, h⟩ := h
            refine g_calli hC (r_V hC (As := [.int x1]) (c_X12_leftOf _ Γ x0 x1 M18 M21 v23 eM21) yk_X12_leftOf lk_X12_274 eu22 ⟨_, rfl, rfl⟩ rfl rfl (Nat.le_of_ble_eq_true rfl) hR ⟨(Nat.le_of_ble_eq_true rfl), (Nat.le_of_ble_eq_true rfl)⟩ ⟨(Nat.le_of_ble_eq_true rfl), (Nat.le_of_ble_eq_true rfl)⟩ dX12_next_50) ?_
            refine g_icmp_ne hC 71 dX12_next_53 (by decide) (fun c24 => ?_) (fun c24 => ?_)
            · replace h := it_f c24 h
              refine g_iinc hC 2 (x2 + 1) ([(2, .int (x2 + 1)), (0, .ref x0), (1, .int x1)]) dX12_next_71 rfl rfl (by decide) rfl ?_
              refine g_goto hC 5 dX12_next_74 (by decide) ?_
              refine g_sub [1, 2, 0] rfl ?_
              exact ih x1 (x2 + 1) M21 h
            · replace h := it_t c24 h
              refine g_aload_n hC 0 dX12_next_56 rfl ?_
              refine g_iload_n hC 2 dX12_next_57 rfl ?_
              replace h := ob h; obtain ⟨_, eu26, h⟩ := h
              replace h := ob h; obtain ⟨⟨v27, M25⟩, eM25, h⟩ := h
              refine g_calli hC (r_V hC (As := [.int x2]) (c_X12_offShip _ Γ x0 x2 M21 M25 v27 eM25) yk_X12_offShip lk_X12_277 eu26 ⟨_, rfl, rfl⟩ rfl rfl (Nat.le_of_ble_eq_true rfl) hR ⟨(Nat.le_of_ble_eq_true rfl), (Nat.le_of_ble_eq_true rfl)⟩ ⟨(Nat.le_of_ble_eq_true rfl), (Nat.le_of_ble_eq_true rfl)⟩ dX12_next_58) ?_
              refine g_aload_n hC 0 dX12_next_61 rfl ?_
              refine g_iload_n hC 1 dX12_next_62 rfl ?_
              replace h := ob h; obtain ⟨_, eu29, h⟩ := h
              replace h := ob h; obtain ⟨⟨v30, M28⟩, eM28, h⟩ := h
              refine g_calli hC (r_V hC (As := [.int x1]) (c_X12_offShip _ Γ x0 x1 M25 M28 v30 eM28) yk_X12_offShip lk_X12_277 eu29 ⟨_, rfl, rfl⟩ rfl rfl (Nat.le_of_ble_eq_true rfl) hR ⟨(Nat.le_of_ble_eq_true rfl), (Nat.le_of_ble_eq_true rfl)⟩ ⟨(Nat.le_of_ble_eq_true rfl), (Nat.le_of_ble_eq_true rfl)⟩ dX12_next_63) ?_
              refine g_icmp_ge hC 71 dX12_next_66 (by decide) (fun c31 => ?_) (fun c31 => ?_)
              · replace h := it_t c31 h
                refine g_iinc hC 2 (x2 + 1) ([(2, .int (x2 + 1)), (0, .ref x0), (1, .int x1)]) dX12_next_71 rfl rfl (by decide) rfl ?_
                refine g_goto hC 5 dX12_next_74 (by decide) ?_
                refine g_sub [1, 2, 0] rfl ?_
                exact ih x1 (x2 + 1) M28 h
              · replace h := it_f c31 h
                refine g_iload_n hC 2 dX12_next_69 rfl ?_
                refine g_istore_n hC ([(1, .int x2), (0, .ref x0), (2, .int x2)]) dX12_next_70 (by decide) rfl ?_
                refine g_iinc hC 2 (x2 + 1) ([(2, .int (x2 + 1)), (1, .int x2), (0, .ref x0)]) dX12_next_71 rfl rfl (by decide) rfl ?_
                refine g_goto hC 5 dX12_next_74 (by decide) ?_
                refine g_sub [2, 1, 0] rfl ?_
                exact ih x2 (x2 + 1) M28 h
      · replace h := it_t c9 h
        refine g_goto hC 71 dX12_next_23 (by decide) ?_
        refine g_iinc hC 2 (x2 + 1) ([(2, .int (x2 + 1)), (0, .ref x0), (1, .int x1)]) dX12_next_71 rfl rfl (by decide) rfl ?_
        refine g_goto hC 5 dX12_next_74 (by decide) ?_
        refine g_sub [1, 2, 0] rfl ?_
        exact ih x1 (x2 + 1) M6 h
set_option maxHeartbeats 4000000 in
set_option maxRecDepth 100000 in
theorem c_X12_next (l : Launch) (Γ : Gm) (this : Nat) (M M' : Mm) (r : Int32) (h : F_X12_next this M = some (r, M')) : Met l yX12_next (wz yX12_next cX12_next 3 (some .int)) ({ frames := 3, cells := 0, slots := 0, locals := 65 } : Room) (Pq Γ M [.ref this]) (Qi Γ r M') 0 0 (fr Γ) := by
  refine met_of (own := RX12) (by decide +kernel) rfl (Nat.le_of_ble_eq_true rfl) ?_
  intro X hC hR hnm hXl
  unfold F_X12_next at h
  show G Γ X 3 M 0 0 _ 0 ([(0, .ref this)]) []
  refine g_bipush hC (-4) dX12_next_0 (by decide) ?_
  refine g_istore_n hC ([(1, .int (-4)), (0, .ref this)]) dX12_next_2 (by decide) rfl ?_
  refine g_iconst hC 0 dX12_next_3 (by decide) ?_
  refine g_istore_n hC ([(2, .int 0), (1, .int (-4)), (0, .ref this)]) dX12_next_4 (by decide) rfl ?_
  refine g_sub [2, 1, 0] rfl ?_
  refine l_X12_next_L5 hC hR r M'  _  _ _ _ _ h

set_option maxHeartbeats 4000000 in
set_option maxRecDepth 100000 in
theorem c_X12_fetch (l : Launch) (Γ : Gm) (this : Nat) (p1 : Int32) (M M' : Mm) (r : Int32) (h : F_X12_fetch this p1 M = some (r, M')) : Met l yX12_fetch (wz yX12_fetch cX12_fetch 2 (some .int)) ({ frames := 2, cells := 0, slots := 0, locals := 44 } : Room) (Pq Γ M [.ref this, .int p1]) (Qi Γ r M') 0 0 (fr Γ) := by
  refine met_of (own := RX12) (by decide +kernel) rfl (Nat.le_of_ble_eq_true rfl) ?_
  intro X hC hR hnm hXl
  unfold F_X12_fetch at h
  show G Γ X 2 M 0 0 _ 0 ([(0, .ref this), (1, .int p1)]) []
  refine g_aload_n hC 0 dX12_fetch_0 rfl ?_
  refine g_iload_n hC 1 dX12_fetch_1 rfl ?_
  replace h := ob h; obtain ⟨_, eu2, h⟩ := h
  replace h := ob h; obtain ⟨⟨v3, M1⟩, eM1, h⟩ := h
  refine g_calli hC (r_V hC (As := [.int p1]) (c_X12_isGlider _ Γ this p1 M M1 v3 eM1) yk_X12_isGlider lk_X12_142 eu2 ⟨_, rfl, rfl⟩ rfl rfl (Nat.le_of_ble_eq_true rfl) hR ⟨(Nat.le_of_ble_eq_true rfl), (Nat.le_of_ble_eq_true rfl)⟩ ⟨(Nat.le_of_ble_eq_true rfl), (Nat.le_of_ble_eq_true rfl)⟩ dX12_fetch_2) ?_
  refine g_if_ne hC 10 dX12_fetch_5 (by decide) (fun c4 => ?_) (fun c4 => ?_)
  · replace h := it_f c4 h
    refine g_aload_n hC 0 dX12_fetch_10 rfl ?_
    refine g_iload_n hC 1 dX12_fetch_11 rfl ?_
    replace h := ob h; obtain ⟨_, eu6, h⟩ := h
    replace h := ob h; obtain ⟨⟨v7, M5⟩, eM5, h⟩ := h
    refine g_calli hC (r_V hC (As := [.int p1]) (c_X12_isUp _ Γ this p1 M1 M5 v7 eM5) yk_X12_isUp lk_X12_187 eu6 ⟨_, rfl, rfl⟩ rfl rfl (Nat.le_of_ble_eq_true rfl) hR ⟨(Nat.le_of_ble_eq_true rfl), (Nat.le_of_ble_eq_true rfl)⟩ ⟨(Nat.le_of_ble_eq_true rfl), (Nat.le_of_ble_eq_true rfl)⟩ dX12_fetch_12) ?_
    refine g_if_eq hC 27 dX12_fetch_15 (by decide) (fun c8 => ?_) (fun c8 => ?_)
    · replace h := it_t c8 h
      refine g_bipush hC (-3) dX12_fetch_27 (by decide) ?_
      exact g_iret hC h ⟨(Nat.le_of_ble_eq_true rfl), (Nat.le_of_ble_eq_true rfl)⟩ dX12_fetch_29
    · replace h := it_f c8 h
      refine g_aload_n hC 0 dX12_fetch_18 rfl ?_
      refine g_iload_n hC 1 dX12_fetch_19 rfl ?_
      replace h := ob h; obtain ⟨_, eu10, h⟩ := h
      replace h := ob h; obtain ⟨⟨v11, M9⟩, eM9, h⟩ := h
      refine g_calli hC (r_V hC (As := [.int p1]) (c_X12_offShip _ Γ this p1 M5 M9 v11 eM9) yk_X12_offShip lk_X12_277 eu10 ⟨_, rfl, rfl⟩ rfl rfl (Nat.le_of_ble_eq_true rfl) hR ⟨(Nat.le_of_ble_eq_true rfl), (Nat.le_of_ble_eq_true rfl)⟩ ⟨(Nat.le_of_ble_eq_true rfl), (Nat.le_of_ble_eq_true rfl)⟩ dX12_fetch_20) ?_
      refine g_iconst hC 3 dX12_fetch_23 (by decide) ?_
      refine g_icmp_le hC 30 dX12_fetch_24 (by decide) (fun c12 => ?_) (fun c12 => ?_)
      · replace h := it_t c12 h
        refine g_aload_n hC 0 dX12_fetch_30 rfl ?_
        replace h := ob h; obtain ⟨v13, ev13, h⟩ := h
        refine g_getR hC ev13 fk_X12_13 rfl dX12_fetch_31 ?_
        refine g_sipush hC 2202 dX12_fetch_34 (by decide) ?_
        refine g_iload_n hC 1 dX12_fetch_37 rfl ?_
        refine g_iadd hC dX12_fetch_38 ?_
        refine g_iconst hC 1 dX12_fetch_39 (by decide) ?_
        replace h := ob h; obtain ⟨a15, ea15, h⟩ := h
        subst ea15
        replace h := ob h; obtain ⟨M14, eM14, h⟩ := h
        refine g_iast hC eM14 dX12_fetch_40 ?_
        refine g_aload_n hC 0 dX12_fetch_41 rfl ?_
        refine g_iload_n hC 1 dX12_fetch_42 rfl ?_
        replace h := ob h; obtain ⟨_, eu17, h⟩ := h
        replace h := ob h; obtain ⟨⟨v18, M16⟩, eM16, h⟩ := h
        refine g_calli hC (r_V hC (As := [.int p1]) (c_X12_offShip _ Γ this p1 M14 M16 v18 eM16) yk_X12_offShip lk_X12_277 eu17 ⟨_, rfl, rfl⟩ rfl rfl (Nat.le_of_ble_eq_true rfl) hR ⟨(Nat.le_of_ble_eq_true rfl), (Nat.le_of_ble_eq_true rfl)⟩ ⟨(Nat.le_of_ble_eq_true rfl), (Nat.le_of_ble_eq_true rfl)⟩ dX12_fetch_43) ?_
        exact g_iret hC h ⟨(Nat.le_of_ble_eq_true rfl), (Nat.le_of_ble_eq_true rfl)⟩ dX12_fetch_46
      · replace h := it_f c12 h
        refine g_bipush hC (-3) dX12_fetch_27 (by decide) ?_
        exact g_iret hC h ⟨(Nat.le_of_ble_eq_true rfl), (Nat.le_of_ble_eq_true rfl)⟩ dX12_fetch_29
  · replace h := it_t c4 h
    refine g_iconst hC (-1) dX12_fetch_8 (by decide) ?_
    exact g_iret hC h ⟨(Nat.le_of_ble_eq_true rfl), (Nat.le_of_ble_eq_true rfl)⟩ dX12_fetch_9

set_option maxHeartbeats 4000000 in
set_option maxRecDepth 100000 in
theorem l_X12_image_L2 {Γ : Gm} {X : Ct} (hC : Cx Γ X cX12_image RX12 (some .int) 2) (hR : X.2.2.2.1 = ({ frames := 0, cells := 0, slots := 0, locals := 0 } : Room)) (r : Int32) (M' : Mm)  (x0 : Nat) : ∀ (fu : Nat) (x1 : Int32) (M0 : Mm), F_X12_image_L2 x0 fu x1 M0 = some (r, M') → G Γ X 2 M0 0 0 (Fin Γ X (Qi Γ r M') 0 0) 2 ([(0, .ref x0), (1, .int x1)]) [] := by
  intro fu
  induction fu with
  | zero =>
    intro x1 M0 h
    rw [F_X12_image_L2] at h
    cases h
  | succ n1 ih =>
    intro x1 M0 h
    rw [F_X12_image_L2] at h
    refine g_iload_n hC 1 dX12_image_2 rfl ?_
    refine g_sipush hC 8369 dX12_image_3 (by decide) ?_
    refine g_icmp_ge hC 27 dX12_image_6 (by decide) (fun c2 => ?_) (fun c2 => ?_)
    · replace h := it_t c2 h
      refine g_aload_n hC 0 dX12_image_27 rfl ?_
      refine g_iconst hC 1 dX12_image_28 (by decide) ?_
      replace h := ob h; obtain ⟨M3, eM3, h⟩ := h
      refine g_putZ hC eM3 fk_X12_20 rfl dX12_image_29 ?_
      refine g_aload_n hC 0 dX12_image_32 rfl ?_
      replace h := ob h; obtain ⟨v4, ev4, h⟩ := h
      refine g_getR hC ev4 fk_X12_13 rfl dX12_image_33 ?_
      refine g_iconst hC 1 dX12_image_36 (by decide) ?_
      replace h := ob h; obtain ⟨a6, ea6, h⟩ := h
      subst ea6
      replace h := ob h; obtain ⟨v5, ev5, h⟩ := h
      refine g_iald hC ev5 dX12_image_37 ?_
      exact g_iret hC h ⟨(Nat.le_of_ble_eq_true rfl), (Nat.le_of_ble_eq_true rfl)⟩ dX12_image_38
    · replace h := it_f c2 h
      refine g_aload_n hC 0 dX12_image_9 rfl ?_
      replace h := ob h; obtain ⟨v7, ev7, h⟩ := h
      refine g_getR hC ev7 fk_X12_17 rfl dX12_image_10 ?_
      refine g_iload_n hC 1 dX12_image_13 rfl ?_
      refine g_aload_n hC 0 dX12_image_14 rfl ?_
      replace h := ob h; obtain ⟨v8, ev8, h⟩ := h
      refine g_getR hC ev8 fk_X12_13 rfl dX12_image_15 ?_
      refine g_iload_n hC 1 dX12_image_18 rfl ?_
      replace h := ob h; obtain ⟨a10, ea10, h⟩ := h
      subst ea10
      replace h := ob h; obtain ⟨v9, ev9, h⟩ := h
      refine g_iald hC ev9 dX12_image_19 ?_
      replace h := ob h; obtain ⟨a12, ea12, h⟩ := h
      subst ea12
      replace h := ob h; obtain ⟨M11, eM11, h⟩ := h
      refine g_iast hC eM11 dX12_image_20 ?_
      refine g_iinc hC 1 (x1 + 1) ([(1, .int (x1 + 1)), (0, .ref x0)]) dX12_image_21 rfl rfl (by decide) rfl ?_
      refine g_goto hC 2 dX12_image_24 (by decide) ?_
      refine g_sub [1, 0] rfl ?_
      exact ih (x1 + 1) M11 h
set_option maxHeartbeats 4000000 in
set_option maxRecDepth 100000 in
theorem c_X12_image (l : Launch) (Γ : Gm) (this : Nat) (M M' : Mm) (r : Int32) (h : F_X12_image this M = some (r, M')) : Met l yX12_image (wz yX12_image cX12_image 2 (some .int)) ({ frames := 0, cells := 0, slots := 0, locals := 0 } : Room) (Pq Γ M [.ref this]) (Qi Γ r M') 0 0 (fr Γ) := by
  refine met_of (own := RX12) (by decide +kernel) rfl (Nat.le_of_ble_eq_true rfl) ?_
  intro X hC hR hnm hXl
  unfold F_X12_image at h
  show G Γ X 2 M 0 0 _ 0 ([(0, .ref this)]) []
  refine g_iconst hC 0 dX12_image_0 (by decide) ?_
  refine g_istore_n hC ([(1, .int 0), (0, .ref this)]) dX12_image_1 (by decide) rfl ?_
  refine g_sub [1, 0] rfl ?_
  refine l_X12_image_L2 hC hR r M'  _  _ _ _ h

set_option maxHeartbeats 4000000 in
set_option maxRecDepth 100000 in
theorem l_X12_restore_L12 {Γ : Gm} {X : Ct} (hC : Cx Γ X cX12_restore RX12 (some .int) 2) (hR : X.2.2.2.1 = ({ frames := 0, cells := 0, slots := 0, locals := 0 } : Room)) (r : Int32) (M' : Mm)  (x0 : Nat) : ∀ (fu : Nat) (x1 : Int32) (M0 : Mm), F_X12_restore_L12 x0 fu x1 M0 = some (r, M') → G Γ X 2 M0 0 0 (Fin Γ X (Qi Γ r M') 0 0) 12 ([(0, .ref x0), (1, .int x1)]) [] := by
  intro fu
  induction fu with
  | zero =>
    intro x1 M0 h
    rw [F_X12_restore_L12] at h
    cases h
  | succ n3 ih =>
    intro x1 M0 h
    rw [F_X12_restore_L12] at h
    refine g_iload_n hC 1 dX12_restore_12 rfl ?_
    refine g_sipush hC 8369 dX12_restore_13 (by decide) ?_
    refine g_icmp_ge hC 37 dX12_restore_16 (by decide) (fun c4 => ?_) (fun c4 => ?_)
    · replace h := it_t c4 h
      refine g_aload_n hC 0 dX12_restore_37 rfl ?_
      replace h := ob h; obtain ⟨v5, ev5, h⟩ := h
      refine g_getR hC ev5 fk_X12_13 rfl dX12_restore_38 ?_
      refine g_iconst hC 1 dX12_restore_41 (by decide) ?_
      replace h := ob h; obtain ⟨a7, ea7, h⟩ := h
      subst ea7
      replace h := ob h; obtain ⟨v6, ev6, h⟩ := h
      refine g_iald hC ev6 dX12_restore_42 ?_
      exact g_iret hC h ⟨(Nat.le_of_ble_eq_true rfl), (Nat.le_of_ble_eq_true rfl)⟩ dX12_restore_43
    · replace h := it_f c4 h
      refine g_aload_n hC 0 dX12_restore_19 rfl ?_
      replace h := ob h; obtain ⟨v8, ev8, h⟩ := h
      refine g_getR hC ev8 fk_X12_13 rfl dX12_restore_20 ?_
      refine g_iload_n hC 1 dX12_restore_23 rfl ?_
      refine g_aload_n hC 0 dX12_restore_24 rfl ?_
      replace h := ob h; obtain ⟨v9, ev9, h⟩ := h
      refine g_getR hC ev9 fk_X12_17 rfl dX12_restore_25 ?_
      refine g_iload_n hC 1 dX12_restore_28 rfl ?_
      replace h := ob h; obtain ⟨a11, ea11, h⟩ := h
      subst ea11
      replace h := ob h; obtain ⟨v10, ev10, h⟩ := h
      refine g_iald hC ev10 dX12_restore_29 ?_
      replace h := ob h; obtain ⟨a13, ea13, h⟩ := h
      subst ea13
      replace h := ob h; obtain ⟨M12, eM12, h⟩ := h
      refine g_iast hC eM12 dX12_restore_30 ?_
      refine g_iinc hC 1 (x1 + 1) ([(1, .int (x1 + 1)), (0, .ref x0)]) dX12_restore_31 rfl rfl (by decide) rfl ?_
      refine g_goto hC 12 dX12_restore_34 (by decide) ?_
      refine g_sub [1, 0] rfl ?_
      exact ih (x1 + 1) M12 h
set_option maxHeartbeats 4000000 in
set_option maxRecDepth 100000 in
theorem c_X12_restore (l : Launch) (Γ : Gm) (this : Nat) (M M' : Mm) (r : Int32) (h : F_X12_restore this M = some (r, M')) : Met l yX12_restore (wz yX12_restore cX12_restore 2 (some .int)) ({ frames := 0, cells := 0, slots := 0, locals := 0 } : Room) (Pq Γ M [.ref this]) (Qi Γ r M') 0 0 (fr Γ) := by
  refine met_of (own := RX12) (by decide +kernel) rfl (Nat.le_of_ble_eq_true rfl) ?_
  intro X hC hR hnm hXl
  unfold F_X12_restore at h
  show G Γ X 2 M 0 0 _ 0 ([(0, .ref this)]) []
  refine g_aload_n hC 0 dX12_restore_0 rfl ?_
  replace h := ob h; obtain ⟨v1, ev1, h⟩ := h
  refine g_getI hC ev1 fk_X12_20 rfl dX12_restore_1 ?_
  refine g_if_ne hC 10 dX12_restore_4 (by decide) (fun c2 => ?_) (fun c2 => ?_)
  · replace h := it_f c2 h
    refine g_iconst hC 0 dX12_restore_10 (by decide) ?_
    refine g_istore_n hC ([(1, .int 0), (0, .ref this)]) dX12_restore_11 (by decide) rfl ?_
    refine g_sub [1, 0] rfl ?_
    refine l_X12_restore_L12 hC hR r M'  _  _ _ _ h
  · replace h := it_t c2 h
    refine g_bipush hC (-3) dX12_restore_7 (by decide) ?_
    exact g_iret hC h ⟨(Nat.le_of_ble_eq_true rfl), (Nat.le_of_ble_eq_true rfl)⟩ dX12_restore_9

set_option maxHeartbeats 4000000 in
set_option maxRecDepth 100000 in
theorem l_X12_count_L69 {Γ : Gm} {X : Ct} (hC : Cx Γ X cX12_count RX12 (some .int) 4) (hR : X.2.2.2.1 = ({ frames := 0, cells := 0, slots := 0, locals := 0 } : Room)) (r : Int32) (M' : Mm)  (x0 : Nat) (x1 : Int32) : ∀ (fu : Nat) (x2 : Int32) (x3 : Int32) (M0 : Mm), F_X12_count_L69 x0 x1 fu x2 x3 M0 = some (r, M') → G Γ X 4 M0 0 0 (Fin Γ X (Qi Γ r M') 0 0) 69 ([(0, .ref x0), (1, .int x1), (2, .int x2), (3, .int x3)]) [] := by
  intro fu
  induction fu with
  | zero =>
    intro x2 x3 M0 h
    rw [F_X12_count_L69] at h
    cases h
  | succ n6 ih =>
    intro x2 x3 M0 h
    rw [F_X12_count_L69] at h
    refine g_iload_n hC 3 dX12_count_69 rfl ?_
    refine g_aload_n hC 0 dX12_count_70 rfl ?_
    replace h := ob h; obtain ⟨v7, ev7, h⟩ := h
    refine g_getR hC ev7 fk_X12_13 rfl dX12_count_71 ?_
    refine g_iconst hC 0 dX12_count_74 (by decide) ?_
    replace h := ob h; obtain ⟨a9, ea9, h⟩ := h
    subst ea9
    replace h := ob h; obtain ⟨v8, ev8, h⟩ := h
    refine g_iald hC ev8 dX12_count_75 ?_
    refine g_icmp_ge hC 109 dX12_count_76 (by decide) (fun c10 => ?_) (fun c10 => ?_)
    · replace h := it_t c10 h
      refine g_iload_n hC 2 dX12_count_109 rfl ?_
      exact g_iret hC h ⟨(Nat.le_of_ble_eq_true rfl), (Nat.le_of_ble_eq_true rfl)⟩ dX12_count_110
    · replace h := it_f c10 h
      refine g_iload_n hC 2 dX12_count_79 rfl ?_
      refine g_aload_n hC 0 dX12_count_80 rfl ?_
      replace h := ob h; obtain ⟨v11, ev11, h⟩ := h
      refine g_getR hC ev11 fk_X12_13 rfl dX12_count_81 ?_
      refine g_sipush hC 2202 dX12_count_84 (by decide) ?_
      refine g_iload_n hC 3 dX12_count_87 rfl ?_
      refine g_iadd hC dX12_count_88 ?_
      replace h := ob h; obtain ⟨a13, ea13, h⟩ := h
      subst ea13
      replace h := ob h; obtain ⟨v12, ev12, h⟩ := h
      refine g_iald hC ev12 dX12_count_89 ?_
      refine g_iload_n hC 1 dX12_count_90 rfl ?_
      refine g_iconst hC 1 dX12_count_91 (by decide) ?_
      refine g_isub hC dX12_count_92 ?_
      replace h := nv_e h; obtain ⟨v14, ev14, h⟩ := h
      have J15 : G Γ X 4 M0 0 0 (Fin Γ X (Qi Γ r M') 0 0) 101 ([(0, .ref x0), (1, .int x1), (2, .int x2), (3, .int x3)]) ([.int v14, .int x2]) := by
        refine g_iadd hC dX12_count_101 ?_
        refine g_istore_n hC ([(2, .int (x2 + v14)), (0, .ref x0), (1, .int x1), (3, .int x3)]) dX12_count_102 (by decide) rfl ?_
        refine g_iinc hC 3 (x3 + 1) ([(3, .int (x3 + 1)), (2, .int (x2 + v14)), (0, .ref x0), (1, .int x1)]) dX12_count_103 rfl rfl (by decide) rfl ?_
        refine g_goto hC 69 dX12_count_106 (by decide) ?_
        refine g_sub [2, 3, 1, 0] rfl ?_
        exact ih (x2 + v14) (x3 + 1) M0 h
      refine g_icmp_ne hC 100 dX12_count_93 (by decide) (fun c16 => ?_) (fun c16 => ?_)
      · refine g_iconst hC 0 dX12_count_100 (by decide) ?_
        rw [show v14 = _ from ev14.trans (if_neg c16)] at J15
        exact J15
      · refine g_iconst hC 1 dX12_count_96 (by decide) ?_
        refine g_goto hC 101 dX12_count_97 (by decide) ?_
        rw [show v14 = _ from ev14.trans (if_pos c16)] at J15
        exact J15
set_option maxHeartbeats 4000000 in
set_option maxRecDepth 100000 in
theorem l_X12_count_L141 {Γ : Gm} {X : Ct} (hC : Cx Γ X cX12_count RX12 (some .int) 4) (hR : X.2.2.2.1 = ({ frames := 0, cells := 0, slots := 0, locals := 0 } : Room)) (r : Int32) (M' : Mm)  (x0 : Nat) : ∀ (fu : Nat) (x2 : Int32) (x3 : Int32) (M0 : Mm), F_X12_count_L141 x0 fu x2 x3 M0 = some (r, M') → G Γ X 4 M0 0 0 (Fin Γ X (Qi Γ r M') 0 0) 141 ([(0, .ref x0), (2, .int x2), (3, .int x3)]) [] := by
  intro fu
  induction fu with
  | zero =>
    intro x2 x3 M0 h
    rw [F_X12_count_L141] at h
    cases h
  | succ n35 ih =>
    intro x2 x3 M0 h
    rw [F_X12_count_L141] at h
    refine g_iload_n hC 2 dX12_count_141 rfl ?_
    refine g_bipush hC 80 dX12_count_142 (by decide) ?_
    refine g_icmp_ge hC 166 dX12_count_144 (by decide) (fun c36 => ?_) (fun c36 => ?_)
    · replace h := it_t c36 h
      refine g_iload_n hC 1 dX12_count_166 rfl ?_
      exact g_iret hC h ⟨(Nat.le_of_ble_eq_true rfl), (Nat.le_of_ble_eq_true rfl)⟩ dX12_count_167
    · replace h := it_f c36 h
      refine g_iload_n hC 1 dX12_count_147 rfl ?_
      refine g_aload_n hC 0 dX12_count_148 rfl ?_
      replace h := ob h; obtain ⟨v37, ev37, h⟩ := h
      refine g_getR hC ev37 fk_X12_13 rfl dX12_count_149 ?_
      refine g_sipush hC 170 dX12_count_152 (by decide) ?_
      refine g_iload_n hC 2 dX12_count_155 rfl ?_
      refine g_iadd hC dX12_count_156 ?_
      replace h := ob h; obtain ⟨a39, ea39, h⟩ := h
      subst ea39
      replace h := ob h; obtain ⟨v38, ev38, h⟩ := h
      refine g_iald hC ev38 dX12_count_157 ?_
      refine g_iadd hC dX12_count_158 ?_
      refine g_istore_n hC ([(2, .int (x2 + v38)), (0, .ref x0), (3, .int x3)]) dX12_count_159 (by decide) rfl ?_
      refine g_iinc hC 2 (x3 + 1) ([(3, .int (x3 + 1)), (2, .int (x2 + v38)), (0, .ref x0)]) dX12_count_160 rfl rfl (by decide) rfl ?_
      refine g_goto hC 141 dX12_count_163 (by decide) ?_
      refine g_sub [2, 1, 0] rfl ?_
      exact ih (x2 + v38) (x3 + 1) M0 h
set_option maxHeartbeats 4000000 in
set_option maxRecDepth 100000 in
theorem l_X12_count_L177 {Γ : Gm} {X : Ct} (hC : Cx Γ X cX12_count RX12 (some .int) 4) (hR : X.2.2.2.1 = ({ frames := 0, cells := 0, slots := 0, locals := 0 } : Room)) (r : Int32) (M' : Mm)  (x0 : Nat) : ∀ (fu : Nat) (x2 : Int32) (x3 : Int32) (M0 : Mm), F_X12_count_L177 x0 fu x2 x3 M0 = some (r, M') → G Γ X 4 M0 0 0 (Fin Γ X (Qi Γ r M') 0 0) 177 ([(0, .ref x0), (2, .int x2), (3, .int x3)]) [] := by
  intro fu
  induction fu with
  | zero =>
    intro x2 x3 M0 h
    rw [F_X12_count_L177] at h
    cases h
  | succ n45 ih =>
    intro x2 x3 M0 h
    rw [F_X12_count_L177] at h
    refine g_iload_n hC 2 dX12_count_177 rfl ?_
    refine g_aload_n hC 0 dX12_count_178 rfl ?_
    replace h := ob h; obtain ⟨v46, ev46, h⟩ := h
    refine g_getR hC ev46 fk_X12_13 rfl dX12_count_179 ?_
    refine g_iconst hC 0 dX12_count_182 (by decide) ?_
    replace h := ob h; obtain ⟨a48, ea48, h⟩ := h
    subst ea48
    replace h := ob h; obtain ⟨v47, ev47, h⟩ := h
    refine g_iald hC ev47 dX12_count_183 ?_
    refine g_icmp_ge hC 206 dX12_count_184 (by decide) (fun c49 => ?_) (fun c49 => ?_)
    · replace h := it_t c49 h
      refine g_iload_n hC 1 dX12_count_206 rfl ?_
      exact g_iret hC h ⟨(Nat.le_of_ble_eq_true rfl), (Nat.le_of_ble_eq_true rfl)⟩ dX12_count_207
    · replace h := it_f c49 h
      refine g_iload_n hC 1 dX12_count_187 rfl ?_
      refine g_aload_n hC 0 dX12_count_188 rfl ?_
      replace h := ob h; obtain ⟨v50, ev50, h⟩ := h
      refine g_getR hC ev50 fk_X12_13 rfl dX12_count_189 ?_
      refine g_sipush hC 2194 dX12_count_192 (by decide) ?_
      refine g_iload_n hC 2 dX12_count_195 rfl ?_
      refine g_iadd hC dX12_count_196 ?_
      replace h := ob h; obtain ⟨a52, ea52, h⟩ := h
      subst ea52
      replace h := ob h; obtain ⟨v51, ev51, h⟩ := h
      refine g_iald hC ev51 dX12_count_197 ?_
      refine g_iadd hC dX12_count_198 ?_
      refine g_istore_n hC ([(2, .int (x2 + v51)), (0, .ref x0), (3, .int x3)]) dX12_count_199 (by decide) rfl ?_
      refine g_iinc hC 2 (x3 + 1) ([(3, .int (x3 + 1)), (2, .int (x2 + v51)), (0, .ref x0)]) dX12_count_200 rfl rfl (by decide) rfl ?_
      refine g_goto hC 177 dX12_count_203 (by decide) ?_
      refine g_sub [2, 1, 0] rfl ?_
      exact ih (x2 + v51) (x3 + 1) M0 h
set_option maxHeartbeats 4000000 in
set_option maxRecDepth 100000 in
theorem c_X12_count (l : Launch) (Γ : Gm) (this : Nat) (p1 : Int32) (M M' : Mm) (r : Int32) (h : F_X12_count this p1 M = some (r, M')) : Met l yX12_count (wz yX12_count cX12_count 4 (some .int)) ({ frames := 0, cells := 0, slots := 0, locals := 0 } : Room) (Pq Γ M [.ref this, .int p1]) (Qi Γ r M') 0 0 (fr Γ) := by
  refine met_of (own := RX12) (by decide +kernel) rfl (Nat.le_of_ble_eq_true rfl) ?_
  intro X hC hR hnm hXl
  unfold F_X12_count at h
  show G Γ X 4 M 0 0 _ 0 ([(0, .ref this), (1, .int p1)]) []
  refine g_iconst hC 0 dX12_count_0 (by decide) ?_
  refine g_istore_n hC ([(2, .int 0), (0, .ref this), (1, .int p1)]) dX12_count_1 (by decide) rfl ?_
  refine g_iload_n hC 2 dX12_count_2 rfl ?_
  by_cases c1 : p1 = 0
  · replace h := it_t c1 h
    refine g_tbl (off := 57) hC 60 c1 dX12_count_3 (by decide) ?_
    refine g_aload_n hC 1 dX12_count_60 rfl ?_
    replace h := ob h; obtain ⟨v2, ev2, h⟩ := h
    refine g_getR hC ev2 fk_X12_13 rfl dX12_count_61 ?_
    refine g_iconst hC 0 dX12_count_64 (by decide) ?_
    replace h := ob h; obtain ⟨a4, ea4, h⟩ := h
    subst ea4
    replace h := ob h; obtain ⟨v3, ev3, h⟩ := h
    refine g_iald hC ev3 dX12_count_65 ?_
    exact g_iret hC h ⟨(Nat.le_of_ble_eq_true rfl), (Nat.le_of_ble_eq_true rfl)⟩ dX12_count_66
  replace h := it_f c1 h
  by_cases c5 : p1 = 1 ∨ p1 = 2 ∨ p1 = 3
  · replace h := it_t c5 h
    have J17 : G Γ X 4 M 0 0 (Fin Γ X (Qi Γ r M') 0 0) 67 ([(2, .int 0), (0, .ref this), (1, .int p1)]) ([]) := by
      refine g_iconst hC 0 dX12_count_67 (by decide) ?_
      refine g_istore_n hC ([(3, .int 0), (2, .int 0), (0, .ref this), (1, .int p1)]) dX12_count_68 (by decide) rfl ?_
      refine g_sub [2, 3, 1, 0] rfl ?_
      refine l_X12_count_L69 hC hR r M'  _ _  _ _ _ _ h
    rcases c5 with c5 | c5 | c5
    · exact g_tbl (off := 64) hC 67 c5 dX12_count_3 (by decide) J17
    · exact g_tbl (off := 64) hC 67 c5 dX12_count_3 (by decide) J17
    · exact g_tbl (off := 64) hC 67 c5 dX12_count_3 (by decide) J17
  replace h := it_f c5 h
  by_cases c18 : p1 = 4
  · replace h := it_t c18 h
    refine g_tbl (off := 108) hC 111 c18 dX12_count_3 (by decide) ?_
    refine g_aload_n hC 1 dX12_count_111 rfl ?_
    replace h := ob h; obtain ⟨v19, ev19, h⟩ := h
    refine g_getR hC ev19 fk_X12_13 rfl dX12_count_112 ?_
    refine g_iconst hC 1 dX12_count_115 (by decide) ?_
    replace h := ob h; obtain ⟨a21, ea21, h⟩ := h
    subst ea21
    replace h := ob h; obtain ⟨v20, ev20, h⟩ := h
    refine g_iald hC ev20 dX12_count_116 ?_
    exact g_iret hC h ⟨(Nat.le_of_ble_eq_true rfl), (Nat.le_of_ble_eq_true rfl)⟩ dX12_count_117
  replace h := it_f c18 h
  by_cases c22 : p1 = 5
  · replace h := it_t c22 h
    refine g_tbl (off := 115) hC 118 c22 dX12_count_3 (by decide) ?_
    refine g_aload_n hC 1 dX12_count_118 rfl ?_
    replace h := ob h; obtain ⟨v23, ev23, h⟩ := h
    refine g_getR hC ev23 fk_X12_13 rfl dX12_count_119 ?_
    refine g_iconst hC 2 dX12_count_122 (by decide) ?_
    replace h := ob h; obtain ⟨a25, ea25, h⟩ := h
    subst ea25
    replace h := ob h; obtain ⟨v24, ev24, h⟩ := h
    refine g_iald hC ev24 dX12_count_123 ?_
    exact g_iret hC h ⟨(Nat.le_of_ble_eq_true rfl), (Nat.le_of_ble_eq_true rfl)⟩ dX12_count_124
  replace h := it_f c22 h
  by_cases c26 : p1 = 6
  · replace h := it_t c26 h
    refine g_tbl (off := 122) hC 125 c26 dX12_count_3 (by decide) ?_
    refine g_aload_n hC 1 dX12_count_125 rfl ?_
    replace h := ob h; obtain ⟨v27, ev27, h⟩ := h
    refine g_getR hC ev27 fk_X12_13 rfl dX12_count_126 ?_
    refine g_iconst hC 3 dX12_count_129 (by decide) ?_
    replace h := ob h; obtain ⟨a29, ea29, h⟩ := h
    subst ea29
    replace h := ob h; obtain ⟨v28, ev28, h⟩ := h
    refine g_iald hC ev28 dX12_count_130 ?_
    exact g_iret hC h ⟨(Nat.le_of_ble_eq_true rfl), (Nat.le_of_ble_eq_true rfl)⟩ dX12_count_131
  replace h := it_f c26 h
  by_cases c30 : p1 = 7
  · replace h := it_t c30 h
    refine g_tbl (off := 129) hC 132 c30 dX12_count_3 (by decide) ?_
    refine g_aload_n hC 1 dX12_count_132 rfl ?_
    replace h := ob h; obtain ⟨v31, ev31, h⟩ := h
    refine g_getR hC ev31 fk_X12_13 rfl dX12_count_133 ?_
    refine g_iconst hC 4 dX12_count_136 (by decide) ?_
    replace h := ob h; obtain ⟨a33, ea33, h⟩ := h
    subst ea33
    replace h := ob h; obtain ⟨v32, ev32, h⟩ := h
    refine g_iald hC ev32 dX12_count_137 ?_
    exact g_iret hC h ⟨(Nat.le_of_ble_eq_true rfl), (Nat.le_of_ble_eq_true rfl)⟩ dX12_count_138
  replace h := it_f c30 h
  by_cases c34 : p1 = 8
  · replace h := it_t c34 h
    refine g_tbl (off := 136) hC 139 c34 dX12_count_3 (by decide) ?_
    refine g_iconst hC 0 dX12_count_139 (by decide) ?_
    refine g_istore_n hC ([(3, .int 0), (2, .int 0), (0, .ref this), (1, .int p1)]) dX12_count_140 (by decide) rfl ?_
    refine g_sub [2, 1, 0] rfl ?_
    refine l_X12_count_L141 hC hR r M'  _  _ _ _ _ h
  replace h := it_f c34 h
  by_cases c40 : p1 = 9
  · replace h := it_t c40 h
    refine g_tbl (off := 165) hC 168 c40 dX12_count_3 (by decide) ?_
    refine g_aload_n hC 1 dX12_count_168 rfl ?_
    replace h := ob h; obtain ⟨v41, ev41, h⟩ := h
    refine g_getR hC ev41 fk_X12_13 rfl dX12_count_169 ?_
    refine g_iconst hC 5 dX12_count_172 (by decide) ?_
    replace h := ob h; obtain ⟨a43, ea43, h⟩ := h
    subst ea43
    replace h := ob h; obtain ⟨v42, ev42, h⟩ := h
    refine g_iald hC ev42 dX12_count_173 ?_
    exact g_iret hC h ⟨(Nat.le_of_ble_eq_true rfl), (Nat.le_of_ble_eq_true rfl)⟩ dX12_count_174
  replace h := it_f c40 h
  by_cases c44 : p1 = 10
  · replace h := it_t c44 h
    refine g_tbl (off := 172) hC 175 c44 dX12_count_3 (by decide) ?_
    refine g_iconst hC 0 dX12_count_175 (by decide) ?_
    refine g_istore_n hC ([(3, .int 0), (2, .int 0), (0, .ref this), (1, .int p1)]) dX12_count_176 (by decide) rfl ?_
    refine g_sub [2, 1, 0] rfl ?_
    refine l_X12_count_L177 hC hR r M'  _  _ _ _ _ h
  replace h := it_f c44 h
  refine g_tbd (n := 11) hC 208 (fun j hj => ?_) (by decide) dX12_count_3 (by decide) ?_
  · match j, hj with
    | 0, _ => exact c1
    | 1, _ => exact fun z => c5 (Or.inl z)
    | 2, _ => exact fun z => c5 (Or.inr (Or.inl z))
    | 3, _ => exact fun z => c5 (Or.inr (Or.inr (z)))
    | 4, _ => exact c18
    | 5, _ => exact c22
    | 6, _ => exact c26
    | 7, _ => exact c30
    | 8, _ => exact c34
    | 9, _ => exact c40
    | 10, _ => exact c44
    | j + 11, hj => exact absurd hj (by omega)
  refine g_iconst hC (-1) dX12_count_208 (by decide) ?_
  exact g_iret hC h ⟨(Nat.le_of_ble_eq_true rfl), (Nat.le_of_ble_eq_true rfl)⟩ dX12_count_209

set_option maxHeartbeats 4000000 in
set_option maxRecDepth 100000 in
theorem c_X12_isShelf (l : Launch) (Γ : Gm) (this : Nat) (p1 : Int32) (M M' : Mm) (r : Int32) (h : F_X12_isShelf this p1 M = some (r, M')) : Met l yX12_isShelf (wz yX12_isShelf cX12_isShelf 2 (some .boolean)) ({ frames := 1, cells := 0, slots := 0, locals := 23 } : Room) (Pq Γ M [.ref this, .int p1]) (Qi Γ r M') 0 0 (fr Γ) := by
  refine met_of (own := RX12) (by decide +kernel) rfl (Nat.le_of_ble_eq_true rfl) ?_
  intro X hC hR hnm hXl
  unfold F_X12_isShelf at h
  show G Γ X 2 M 0 0 _ 0 ([(0, .ref this), (1, .int p1)]) []
  refine g_aload_n hC 0 dX12_isShelf_0 rfl ?_
  refine g_iload_n hC 1 dX12_isShelf_1 rfl ?_
  refine g_iconst hC 0 dX12_isShelf_2 (by decide) ?_
  refine g_bipush hC 7 dX12_isShelf_3 (by decide) ?_
  replace h := ob h; obtain ⟨_, eu2, h⟩ := h
  replace h := ob h; obtain ⟨⟨v3, M1⟩, eM1, h⟩ := h
  refine g_calli hC (r_V hC (As := [.int p1, .int 0, .int 7]) (c_X12_is _ Γ this p1 0 7 M M1 v3 eM1) yk_X12_is lk_X12_123 eu2 ⟨_, rfl, rfl⟩ rfl rfl (Nat.le_of_ble_eq_true rfl) hR ⟨(Nat.le_of_ble_eq_true rfl), (Nat.le_of_ble_eq_true rfl)⟩ ⟨(Nat.le_of_ble_eq_true rfl), (Nat.le_of_ble_eq_true rfl)⟩ dX12_isShelf_5) ?_
  replace h := ob h; obtain ⟨_, ez, h⟩ := h
  exact g_zret hC (ckZ_e ez) h ⟨(Nat.le_of_ble_eq_true rfl), (Nat.le_of_ble_eq_true rfl)⟩ dX12_isShelf_8

set_option maxHeartbeats 4000000 in
set_option maxRecDepth 100000 in
theorem c_X12_keep (l : Launch) (Γ : Gm) (this : Nat) (p1 : Int32) (p2 : Int32) (p3 : Int32) (M M' : Mm) (r : Int32) (h : F_X12_keep this p1 p2 p3 M = some (r, M')) : Met l yX12_keep (wz yX12_keep cX12_keep 4 (some .int)) ({ frames := 2, cells := 0, slots := 0, locals := 44 } : Room) (Pq Γ M [.ref this, .int p1, .int p2, .int p3]) (Qi Γ r M') 0 0 (fr Γ) := by
  refine met_of (own := RX12) (by decide +kernel) rfl (Nat.le_of_ble_eq_true rfl) ?_
  intro X hC hR hnm hXl
  unfold F_X12_keep at h
  show G Γ X 4 M 0 0 _ 0 ([(0, .ref this), (1, .int p1), (2, .int p2), (3, .int p3)]) []
  refine g_aload_n hC 0 dX12_keep_0 rfl ?_
  refine g_iload_n hC 1 dX12_keep_1 rfl ?_
  replace h := ob h; obtain ⟨_, eu2, h⟩ := h
  replace h := ob h; obtain ⟨⟨v3, M1⟩, eM1, h⟩ := h
  refine g_calli hC (r_V hC (As := [.int p1]) (c_X12_isShelf _ Γ this p1 M M1 v3 eM1) yk_X12_isShelf lk_X12_280 eu2 ⟨_, rfl, rfl⟩ rfl rfl (Nat.le_of_ble_eq_true rfl) hR ⟨(Nat.le_of_ble_eq_true rfl), (Nat.le_of_ble_eq_true rfl)⟩ ⟨(Nat.le_of_ble_eq_true rfl), (Nat.le_of_ble_eq_true rfl)⟩ dX12_keep_2) ?_
  refine g_if_eq hC 31 dX12_keep_5 (by decide) (fun c4 => ?_) (fun c4 => ?_)
  · replace h := it_t c4 h
    refine g_iconst hC (-1) dX12_keep_31 (by decide) ?_
    exact g_iret hC h ⟨(Nat.le_of_ble_eq_true rfl), (Nat.le_of_ble_eq_true rfl)⟩ dX12_keep_32
  · replace h := it_f c4 h
    refine g_aload_n hC 0 dX12_keep_8 rfl ?_
    refine g_iload_n hC 2 dX12_keep_9 rfl ?_
    refine g_iconst hC 0 dX12_keep_10 (by decide) ?_
    refine g_iconst hC 1 dX12_keep_11 (by decide) ?_
    replace h := ob h; obtain ⟨_, eu6, h⟩ := h
    replace h := ob h; obtain ⟨⟨v7, M5⟩, eM5, h⟩ := h
    refine g_calli hC (r_V hC (As := [.int p2, .int 0, .int 1]) (c_X12_is _ Γ this p2 0 1 M1 M5 v7 eM5) yk_X12_is lk_X12_123 eu6 ⟨_, rfl, rfl⟩ rfl rfl (Nat.le_of_ble_eq_true rfl) hR ⟨(Nat.le_of_ble_eq_true rfl), (Nat.le_of_ble_eq_true rfl)⟩ ⟨(Nat.le_of_ble_eq_true rfl), (Nat.le_of_ble_eq_true rfl)⟩ dX12_keep_12) ?_
    refine g_if_eq hC 31 dX12_keep_15 (by decide) (fun c8 => ?_) (fun c8 => ?_)
    · replace h := it_t c8 h
      refine g_iconst hC (-1) dX12_keep_31 (by decide) ?_
      exact g_iret hC h ⟨(Nat.le_of_ble_eq_true rfl), (Nat.le_of_ble_eq_true rfl)⟩ dX12_keep_32
    · replace h := it_f c8 h
      refine g_iload_n hC 2 dX12_keep_18 rfl ?_
      refine g_iconst hC 1 dX12_keep_19 (by decide) ?_
      replace h := jp_e h; obtain ⟨k9, ek9, h⟩ := h
      have J42 : ∀  (M10 : Mm), k9  M10 = some (r, M') → G Γ X 4 M10 0 0 (Fin Γ X (Qi Γ r M') 0 0) 33 ([(0, .ref this), (1, .int p1), (2, .int p2), (3, .int p3)]) ([]) := by
        intro  M10 h
        rw [ek9] at h
        refine g_aload_n hC 0 dX12_keep_33 rfl ?_
        replace h := ob h; obtain ⟨v11, ev11, h⟩ := h
        refine g_getR hC ev11 fk_X12_96 rfl dX12_keep_34 ?_
        refine g_iload_n hC 1 dX12_keep_37 rfl ?_
        refine g_iload_n hC 2 dX12_keep_38 rfl ?_
        replace h := ob h; obtain ⟨a13, ea13, h⟩ := h
        subst ea13
        replace h := ob h; obtain ⟨M12, eM12, h⟩ := h
        refine g_iast hC eM12 dX12_keep_39 ?_
        refine g_iload_n hC 2 dX12_keep_40 rfl ?_
        refine g_iconst hC 1 dX12_keep_41 (by decide) ?_
        refine g_icmp_ne hC 123 dX12_keep_42 (by decide) (fun c14 => ?_) (fun c14 => ?_)
        · replace h := it_f c14 h
          refine g_iconst hC 0 dX12_keep_123 (by decide) ?_
          exact g_iret hC h ⟨(Nat.le_of_ble_eq_true rfl), (Nat.le_of_ble_eq_true rfl)⟩ dX12_keep_124
        · replace h := it_t c14 h
          refine g_aload_n hC 0 dX12_keep_45 rfl ?_
          replace h := ob h; obtain ⟨v15, ev15, h⟩ := h
          refine g_getR hC ev15 fk_X12_99 rfl dX12_keep_46 ?_
          refine g_iload_n hC 1 dX12_keep_49 rfl ?_
          refine g_aload_n hC 0 dX12_keep_50 rfl ?_
          replace h := ob h; obtain ⟨v16, ev16, h⟩ := h
          refine g_getR hC ev16 fk_X12_13 rfl dX12_keep_51 ?_
          refine g_sipush hC 2170 dX12_keep_54 (by decide) ?_
          refine g_iload_n hC 3 dX12_keep_57 rfl ?_
          refine g_iadd hC dX12_keep_58 ?_
          replace h := ob h; obtain ⟨a18, ea18, h⟩ := h
          subst ea18
          replace h := ob h; obtain ⟨v17, ev17, h⟩ := h
          refine g_iald hC ev17 dX12_keep_59 ?_
          replace h := ob h; obtain ⟨a20, ea20, h⟩ := h
          subst ea20
          replace h := ob h; obtain ⟨M19, eM19, h⟩ := h
          refine g_iast hC eM19 dX12_keep_60 ?_
          refine g_aload_n hC 0 dX12_keep_61 rfl ?_
          replace h := ob h; obtain ⟨v21, ev21, h⟩ := h
          refine g_getR hC ev21 fk_X12_102 rfl dX12_keep_62 ?_
          refine g_iload_n hC 1 dX12_keep_65 rfl ?_
          refine g_bipush hC 8 dX12_keep_66 (by decide) ?_
          refine g_aload_n hC 0 dX12_keep_68 rfl ?_
          replace h := ob h; obtain ⟨v22, ev22, h⟩ := h
          refine g_getR hC ev22 fk_X12_13 rfl dX12_keep_69 ?_
          refine g_sipush hC 2178 dX12_keep_72 (by decide) ?_
          refine g_iload_n hC 3 dX12_keep_75 rfl ?_
          refine g_iadd hC dX12_keep_76 ?_
          replace h := ob h; obtain ⟨a24, ea24, h⟩ := h
          subst ea24
          replace h := ob h; obtain ⟨v23, ev23, h⟩ := h
          refine g_iald hC ev23 dX12_keep_77 ?_
          refine g_imul hC dX12_keep_78 ?_
          refine g_aload_n hC 0 dX12_keep_79 rfl ?_
          replace h := ob h; obtain ⟨v25, ev25, h⟩ := h
          refine g_getR hC ev25 fk_X12_13 rfl dX12_keep_80 ?_
          refine g_sipush hC 2186 dX12_keep_83 (by decide) ?_
          refine g_iload_n hC 3 dX12_keep_86 rfl ?_
          refine g_iadd hC dX12_keep_87 ?_
          replace h := ob h; obtain ⟨a27, ea27, h⟩ := h
          subst ea27
          replace h := ob h; obtain ⟨v26, ev26, h⟩ := h
          refine g_iald hC ev26 dX12_keep_88 ?_
          refine g_iadd hC dX12_keep_89 ?_
          replace h := ob h; obtain ⟨a29, ea29, h⟩ := h
          subst ea29
          replace h := ob h; obtain ⟨M28, eM28, h⟩ := h
          refine g_iast hC eM28 dX12_keep_90 ?_
          refine g_aload_n hC 0 dX12_keep_91 rfl ?_
          replace h := ob h; obtain ⟨v30, ev30, h⟩ := h
          refine g_getR hC ev30 fk_X12_105 rfl dX12_keep_92 ?_
          refine g_iload_n hC 1 dX12_keep_95 rfl ?_
          refine g_aload_n hC 0 dX12_keep_96 rfl ?_
          replace h := ob h; obtain ⟨v31, ev31, h⟩ := h
          refine g_getR hC ev31 fk_X12_13 rfl dX12_keep_97 ?_
          refine g_sipush hC 2194 dX12_keep_100 (by decide) ?_
          refine g_iload_n hC 3 dX12_keep_103 rfl ?_
          refine g_iadd hC dX12_keep_104 ?_
          replace h := ob h; obtain ⟨a33, ea33, h⟩ := h
          subst ea33
          replace h := ob h; obtain ⟨v32, ev32, h⟩ := h
          refine g_iald hC ev32 dX12_keep_105 ?_
          replace h := ob h; obtain ⟨a35, ea35, h⟩ := h
          subst ea35
          replace h := ob h; obtain ⟨M34, eM34, h⟩ := h
          refine g_iast hC eM34 dX12_keep_106 ?_
          refine g_aload_n hC 0 dX12_keep_107 rfl ?_
          replace h := ob h; obtain ⟨v36, ev36, h⟩ := h
          refine g_getR hC ev36 fk_X12_108 rfl dX12_keep_108 ?_
          refine g_iload_n hC 1 dX12_keep_111 rfl ?_
          refine g_aload_n hC 0 dX12_keep_112 rfl ?_
          replace h := ob h; obtain ⟨v37, ev37, h⟩ := h
          refine g_getR hC ev37 fk_X12_13 rfl dX12_keep_113 ?_
          refine g_sipush hC 2202 dX12_keep_116 (by decide) ?_
          refine g_iload_n hC 3 dX12_keep_119 rfl ?_
          refine g_iadd hC dX12_keep_120 ?_
          replace h := ob h; obtain ⟨a39, ea39, h⟩ := h
          subst ea39
          replace h := ob h; obtain ⟨v38, ev38, h⟩ := h
          refine g_iald hC ev38 dX12_keep_121 ?_
          replace h := ob h; obtain ⟨a41, ea41, h⟩ := h
          subst ea41
          replace h := ob h; obtain ⟨M40, eM40, h⟩ := h
          refine g_iast hC eM40 dX12_keep_122 ?_
          refine g_iconst hC 0 dX12_keep_123 (by decide) ?_
          exact g_iret hC h ⟨(Nat.le_of_ble_eq_true rfl), (Nat.le_of_ble_eq_true rfl)⟩ dX12_keep_124
      refine g_icmp_ne hC 33 dX12_keep_20 (by decide) (fun c43 => ?_) (fun c43 => ?_)
      · replace h := it_f c43 h
        refine g_sub [0, 1, 2, 3] rfl ?_
        exact J42  M5 h
      · replace h := it_t c43 h
        refine g_aload_n hC 0 dX12_keep_23 rfl ?_
        refine g_iload_n hC 3 dX12_keep_24 rfl ?_
        replace h := ob h; obtain ⟨_, eu45, h⟩ := h
        replace h := ob h; obtain ⟨⟨v46, M44⟩, eM44, h⟩ := h
        refine g_calli hC (r_V hC (As := [.int p3]) (c_X12_isGlider _ Γ this p3 M5 M44 v46 eM44) yk_X12_isGlider lk_X12_142 eu45 ⟨_, rfl, rfl⟩ rfl rfl (Nat.le_of_ble_eq_true rfl) hR ⟨(Nat.le_of_ble_eq_true rfl), (Nat.le_of_ble_eq_true rfl)⟩ ⟨(Nat.le_of_ble_eq_true rfl), (Nat.le_of_ble_eq_true rfl)⟩ dX12_keep_25) ?_
        refine g_if_ne hC 33 dX12_keep_28 (by decide) (fun c47 => ?_) (fun c47 => ?_)
        · replace h := it_f c47 h
          refine g_sub [0, 1, 2, 3] rfl ?_
          exact J42  M44 h
        · replace h := it_t c47 h
          refine g_iconst hC (-1) dX12_keep_31 (by decide) ?_
          exact g_iret hC h ⟨(Nat.le_of_ble_eq_true rfl), (Nat.le_of_ble_eq_true rfl)⟩ dX12_keep_32

set_option maxHeartbeats 4000000 in
set_option maxRecDepth 100000 in
theorem l_X12_row_L57 {Γ : Gm} {X : Ct} (hC : Cx Γ X cX12_row RX12 (some .int) 5) (hR : X.2.2.2.1 = ({ frames := 2, cells := 0, slots := 0, locals := 44 } : Room)) (r : Int32) (M' : Mm)  (x0 : Nat) (x1 : Int32) : ∀ (fu : Nat) (x4 : Int32) (M0 : Mm), F_X12_row_L57 x0 x1 fu x4 M0 = some (r, M') → G Γ X 5 M0 0 0 (Fin Γ X (Qi Γ r M') 0 0) 57 ([(0, .ref x0), (1, .int x1), (4, .int x4)]) [] := by
  intro fu
  induction fu with
  | zero =>
    intro x4 M0 h
    rw [F_X12_row_L57] at h
    cases h
  | succ n20 ih =>
    intro x4 M0 h
    rw [F_X12_row_L57] at h
    refine g_iload hC 2 dX12_row_57 rfl ?_
    refine g_bipush hC 80 dX12_row_59 (by decide) ?_
    refine g_icmp_ge hC 83 dX12_row_61 (by decide) (fun c21 => ?_) (fun c21 => ?_)
    · replace h := it_t c21 h
      refine g_iconst hC 0 dX12_row_83 (by decide) ?_
      exact g_iret hC h ⟨(Nat.le_of_ble_eq_true rfl), (Nat.le_of_ble_eq_true rfl)⟩ dX12_row_84
    · replace h := it_f c21 h
      refine g_aload_n hC 0 dX12_row_64 rfl ?_
      replace h := ob h; obtain ⟨v22, ev22, h⟩ := h
      refine g_getR hC ev22 fk_X12_117 rfl dX12_row_65 ?_
      refine g_bipush hC 80 dX12_row_68 (by decide) ?_
      refine g_iload_n hC 1 dX12_row_70 rfl ?_
      refine g_imul hC dX12_row_71 ?_
      refine g_iload hC 2 dX12_row_72 rfl ?_
      refine g_iadd hC dX12_row_74 ?_
      refine g_iconst hC 0 dX12_row_75 (by decide) ?_
      replace h := ob h; obtain ⟨a24, ea24, h⟩ := h
      subst ea24
      replace h := ob h; obtain ⟨M23, eM23, h⟩ := h
      refine g_iast hC eM23 dX12_row_76 ?_
      refine g_iinc hC 2 (x4 + 1) ([(4, .int (x4 + 1)), (0, .ref x0), (1, .int x1)]) dX12_row_77 rfl rfl (by decide) rfl ?_
      refine g_goto hC 57 dX12_row_80 (by decide) ?_
      refine g_sub [1, 2, 0] rfl ?_
      exact ih (x4 + 1) M23 h
set_option maxHeartbeats 4000000 in
set_option maxRecDepth 100000 in
theorem c_X12_row (l : Launch) (Γ : Gm) (this : Nat) (p1 : Int32) (p2 : Int32) (p3 : Int32) (M M' : Mm) (r : Int32) (h : F_X12_row this p1 p2 p3 M = some (r, M')) : Met l yX12_row (wz yX12_row cX12_row 5 (some .int)) ({ frames := 2, cells := 0, slots := 0, locals := 44 } : Room) (Pq Γ M [.ref this, .int p1, .int p2, .int p3]) (Qi Γ r M') 0 0 (fr Γ) := by
  refine met_of (own := RX12) (by decide +kernel) rfl (Nat.le_of_ble_eq_true rfl) ?_
  intro X hC hR hnm hXl
  unfold F_X12_row at h
  show G Γ X 5 M 0 0 _ 0 ([(0, .ref this), (1, .int p1), (2, .int p2), (3, .int p3)]) []
  refine g_aload_n hC 0 dX12_row_0 rfl ?_
  refine g_iload_n hC 1 dX12_row_1 rfl ?_
  replace h := ob h; obtain ⟨_, eu2, h⟩ := h
  replace h := ob h; obtain ⟨⟨v3, M1⟩, eM1, h⟩ := h
  refine g_calli hC (r_V hC (As := [.int p1]) (c_X12_isShelf _ Γ this p1 M M1 v3 eM1) yk_X12_isShelf lk_X12_280 eu2 ⟨_, rfl, rfl⟩ rfl rfl (Nat.le_of_ble_eq_true rfl) hR ⟨(Nat.le_of_ble_eq_true rfl), (Nat.le_of_ble_eq_true rfl)⟩ ⟨(Nat.le_of_ble_eq_true rfl), (Nat.le_of_ble_eq_true rfl)⟩ dX12_row_2) ?_
  refine g_if_eq hC 24 dX12_row_5 (by decide) (fun c4 => ?_) (fun c4 => ?_)
  · replace h := it_t c4 h
    refine g_iconst hC (-1) dX12_row_24 (by decide) ?_
    exact g_iret hC h ⟨(Nat.le_of_ble_eq_true rfl), (Nat.le_of_ble_eq_true rfl)⟩ dX12_row_25
  · replace h := it_f c4 h
    refine g_aload_n hC 0 dX12_row_8 rfl ?_
    refine g_iload_n hC 2 dX12_row_9 rfl ?_
    refine g_iconst hC 0 dX12_row_10 (by decide) ?_
    refine g_iconst hC 2 dX12_row_11 (by decide) ?_
    replace h := ob h; obtain ⟨_, eu6, h⟩ := h
    replace h := ob h; obtain ⟨⟨v7, M5⟩, eM5, h⟩ := h
    refine g_calli hC (r_V hC (As := [.int p2, .int 0, .int 2]) (c_X12_is _ Γ this p2 0 2 M1 M5 v7 eM5) yk_X12_is lk_X12_123 eu6 ⟨_, rfl, rfl⟩ rfl rfl (Nat.le_of_ble_eq_true rfl) hR ⟨(Nat.le_of_ble_eq_true rfl), (Nat.le_of_ble_eq_true rfl)⟩ ⟨(Nat.le_of_ble_eq_true rfl), (Nat.le_of_ble_eq_true rfl)⟩ dX12_row_12) ?_
    refine g_if_eq hC 24 dX12_row_15 (by decide) (fun c8 => ?_) (fun c8 => ?_)
    · replace h := it_t c8 h
      refine g_iconst hC (-1) dX12_row_24 (by decide) ?_
      exact g_iret hC h ⟨(Nat.le_of_ble_eq_true rfl), (Nat.le_of_ble_eq_true rfl)⟩ dX12_row_25
    · replace h := it_f c8 h
      refine g_iload_n hC 3 dX12_row_18 rfl ?_
      refine g_bipush hC 80 dX12_row_19 (by decide) ?_
      refine g_icmp_le hC 26 dX12_row_21 (by decide) (fun c9 => ?_) (fun c9 => ?_)
      · replace h := it_t c9 h
        refine g_iload_n hC 3 dX12_row_26 rfl ?_
        refine g_if_ge hC 33 dX12_row_27 (by decide) (fun c10 => ?_) (fun c10 => ?_)
        · replace h := it_t c10 h
          refine g_aload_n hC 0 dX12_row_33 rfl ?_
          replace h := ob h; obtain ⟨v11, ev11, h⟩ := h
          refine g_getR hC ev11 fk_X12_96 rfl dX12_row_34 ?_
          refine g_iload_n hC 1 dX12_row_37 rfl ?_
          refine g_iconst hC 2 dX12_row_38 (by decide) ?_
          replace h := ob h; obtain ⟨a13, ea13, h⟩ := h
          subst ea13
          replace h := ob h; obtain ⟨M12, eM12, h⟩ := h
          refine g_iast hC eM12 dX12_row_39 ?_
          refine g_aload_n hC 0 dX12_row_40 rfl ?_
          replace h := ob h; obtain ⟨v14, ev14, h⟩ := h
          refine g_getR hC ev14 fk_X12_111 rfl dX12_row_41 ?_
          refine g_iload_n hC 1 dX12_row_44 rfl ?_
          refine g_iload_n hC 2 dX12_row_45 rfl ?_
          replace h := ob h; obtain ⟨a16, ea16, h⟩ := h
          subst ea16
          replace h := ob h; obtain ⟨M15, eM15, h⟩ := h
          refine g_iast hC eM15 dX12_row_46 ?_
          refine g_aload_n hC 0 dX12_row_47 rfl ?_
          replace h := ob h; obtain ⟨v17, ev17, h⟩ := h
          refine g_getR hC ev17 fk_X12_114 rfl dX12_row_48 ?_
          refine g_iload_n hC 1 dX12_row_51 rfl ?_
          refine g_iload_n hC 3 dX12_row_52 rfl ?_
          replace h := ob h; obtain ⟨a19, ea19, h⟩ := h
          subst ea19
          replace h := ob h; obtain ⟨M18, eM18, h⟩ := h
          refine g_iast hC eM18 dX12_row_53 ?_
          refine g_iconst hC 0 dX12_row_54 (by decide) ?_
          refine g_istore hC ([(4, .int 0), (0, .ref this), (1, .int p1), (2, .int p2), (3, .int p3)]) dX12_row_55 (by decide) rfl ?_
          refine g_sub [1, 2, 0] rfl ?_
          refine l_X12_row_L57 hC hR r M'  _ _  _ _ _ h
        · replace h := it_f c10 h
          refine g_bipush hC (-14) dX12_row_30 (by decide) ?_
          exact g_iret hC h ⟨(Nat.le_of_ble_eq_true rfl), (Nat.le_of_ble_eq_true rfl)⟩ dX12_row_32
      · replace h := it_f c9 h
        refine g_iconst hC (-1) dX12_row_24 (by decide) ?_
        exact g_iret hC h ⟨(Nat.le_of_ble_eq_true rfl), (Nat.le_of_ble_eq_true rfl)⟩ dX12_row_25

set_option maxHeartbeats 4000000 in
set_option maxRecDepth 100000 in
theorem c_X12_narrow (l : Launch) (Γ : Gm) (this : Nat) (p1 : Int32) (p2 : Int32) (M M' : Mm) (r : Int32) (h : F_X12_narrow this p1 p2 M = some (r, M')) : Met l yX12_narrow (wz yX12_narrow cX12_narrow 3 (some .int)) ({ frames := 0, cells := 0, slots := 0, locals := 0 } : Room) (Pq Γ M [.ref this, .int p1, .int p2]) (Qi Γ r M') 0 0 (fr Γ) := by
  refine met_of (own := RX12) (by decide +kernel) rfl (Nat.le_of_ble_eq_true rfl) ?_
  intro X hC hR hnm hXl
  unfold F_X12_narrow at h
  show G Γ X 3 M 0 0 _ 0 ([(0, .ref this), (1, .int p1), (2, .int p2)]) []
  refine g_iload_n hC 1 dX12_narrow_0 rfl ?_
  refine g_if_ne hC 9 dX12_narrow_1 (by decide) (fun c1 => ?_) (fun c1 => ?_)
  · replace h := it_f c1 h
    refine g_iload_n hC 1 dX12_narrow_9 rfl ?_
    refine g_iconst hC 1 dX12_narrow_10 (by decide) ?_
    refine g_icmp_ne hC 19 dX12_narrow_11 (by decide) (fun c2 => ?_) (fun c2 => ?_)
    · replace h := it_f c2 h
      refine g_iload_n hC 2 dX12_narrow_19 rfl ?_
      exact g_iret hC h ⟨(Nat.le_of_ble_eq_true rfl), (Nat.le_of_ble_eq_true rfl)⟩ dX12_narrow_20
    · replace h := it_t c2 h
      refine g_iload_n hC 2 dX12_narrow_14 rfl ?_
      refine g_i2s hC dX12_narrow_15 ?_
      refine g_goto hC 20 dX12_narrow_16 (by decide) ?_
      exact g_iret hC h ⟨(Nat.le_of_ble_eq_true rfl), (Nat.le_of_ble_eq_true rfl)⟩ dX12_narrow_20
  · replace h := it_t c1 h
    refine g_iload_n hC 2 dX12_narrow_4 rfl ?_
    refine g_i2b hC dX12_narrow_5 ?_
    refine g_goto hC 20 dX12_narrow_6 (by decide) ?_
    exact g_iret hC h ⟨(Nat.le_of_ble_eq_true rfl), (Nat.le_of_ble_eq_true rfl)⟩ dX12_narrow_20

set_option maxHeartbeats 4000000 in
set_option maxRecDepth 100000 in
theorem c_X12_put (l : Launch) (Γ : Gm) (this : Nat) (p1 : Int32) (p2 : Int32) (p3 : Int32) (M M' : Mm) (r : Int32) (h : F_X12_put this p1 p2 p3 M = some (r, M')) : Met l yX12_put (wz yX12_put cX12_put 4 (some .int)) ({ frames := 2, cells := 0, slots := 0, locals := 44 } : Room) (Pq Γ M [.ref this, .int p1, .int p2, .int p3]) (Qi Γ r M') 0 0 (fr Γ) := by
  refine met_of (own := RX12) (by decide +kernel) rfl (Nat.le_of_ble_eq_true rfl) ?_
  intro X hC hR hnm hXl
  unfold F_X12_put at h
  show G Γ X 4 M 0 0 _ 0 ([(0, .ref this), (1, .int p1), (2, .int p2), (3, .int p3)]) []
  refine g_aload_n hC 0 dX12_put_0 rfl ?_
  refine g_iload_n hC 1 dX12_put_1 rfl ?_
  replace h := ob h; obtain ⟨_, eu2, h⟩ := h
  replace h := ob h; obtain ⟨⟨v3, M1⟩, eM1, h⟩ := h
  refine g_calli hC (r_V hC (As := [.int p1]) (c_X12_isShelf _ Γ this p1 M M1 v3 eM1) yk_X12_isShelf lk_X12_280 eu2 ⟨_, rfl, rfl⟩ rfl rfl (Nat.le_of_ble_eq_true rfl) hR ⟨(Nat.le_of_ble_eq_true rfl), (Nat.le_of_ble_eq_true rfl)⟩ ⟨(Nat.le_of_ble_eq_true rfl), (Nat.le_of_ble_eq_true rfl)⟩ dX12_put_2) ?_
  refine g_if_ne hC 10 dX12_put_5 (by decide) (fun c4 => ?_) (fun c4 => ?_)
  · replace h := it_f c4 h
    refine g_aload_n hC 0 dX12_put_10 rfl ?_
    replace h := ob h; obtain ⟨v5, ev5, h⟩ := h
    refine g_getR hC ev5 fk_X12_96 rfl dX12_put_11 ?_
    refine g_iload_n hC 1 dX12_put_14 rfl ?_
    replace h := ob h; obtain ⟨a7, ea7, h⟩ := h
    subst ea7
    replace h := ob h; obtain ⟨v6, ev6, h⟩ := h
    refine g_iald hC ev6 dX12_put_15 ?_
    refine g_if_ne hC 22 dX12_put_16 (by decide) (fun c8 => ?_) (fun c8 => ?_)
    · replace h := it_f c8 h
      refine g_aload_n hC 0 dX12_put_22 rfl ?_
      replace h := ob h; obtain ⟨v9, ev9, h⟩ := h
      refine g_getR hC ev9 fk_X12_96 rfl dX12_put_23 ?_
      refine g_iload_n hC 1 dX12_put_26 rfl ?_
      replace h := ob h; obtain ⟨a11, ea11, h⟩ := h
      subst ea11
      replace h := ob h; obtain ⟨v10, ev10, h⟩ := h
      refine g_iald hC ev10 dX12_put_27 ?_
      refine g_iconst hC 2 dX12_put_28 (by decide) ?_
      refine g_icmp_eq hC 35 dX12_put_29 (by decide) (fun c12 => ?_) (fun c12 => ?_)
      · replace h := it_t c12 h
        refine g_aload_n hC 0 dX12_put_35 rfl ?_
        refine g_iload_n hC 2 dX12_put_36 rfl ?_
        refine g_iconst hC 0 dX12_put_37 (by decide) ?_
        refine g_aload_n hC 0 dX12_put_38 rfl ?_
        replace h := ob h; obtain ⟨v13, ev13, h⟩ := h
        refine g_getR hC ev13 fk_X12_114 rfl dX12_put_39 ?_
        refine g_iload_n hC 1 dX12_put_42 rfl ?_
        replace h := ob h; obtain ⟨a15, ea15, h⟩ := h
        subst ea15
        replace h := ob h; obtain ⟨v14, ev14, h⟩ := h
        refine g_iald hC ev14 dX12_put_43 ?_
        refine g_iconst hC 1 dX12_put_44 (by decide) ?_
        refine g_isub hC dX12_put_45 ?_
        replace h := ob h; obtain ⟨_, eu17, h⟩ := h
        replace h := ob h; obtain ⟨⟨v18, M16⟩, eM16, h⟩ := h
        refine g_calli hC (r_V hC (As := [.int p2, .int 0, .int (v14 - 1)]) (c_X12_is _ Γ this p2 0 (v14 - 1) M1 M16 v18 eM16) yk_X12_is lk_X12_123 eu17 ⟨_, rfl, rfl⟩ rfl rfl (Nat.le_of_ble_eq_true rfl) hR ⟨(Nat.le_of_ble_eq_true rfl), (Nat.le_of_ble_eq_true rfl)⟩ ⟨(Nat.le_of_ble_eq_true rfl), (Nat.le_of_ble_eq_true rfl)⟩ dX12_put_46) ?_
        refine g_if_ne hC 55 dX12_put_49 (by decide) (fun c19 => ?_) (fun c19 => ?_)
        · replace h := it_f c19 h
          refine g_aload_n hC 0 dX12_put_55 rfl ?_
          replace h := ob h; obtain ⟨v20, ev20, h⟩ := h
          refine g_getR hC ev20 fk_X12_117 rfl dX12_put_56 ?_
          refine g_bipush hC 80 dX12_put_59 (by decide) ?_
          refine g_iload_n hC 1 dX12_put_61 rfl ?_
          refine g_imul hC dX12_put_62 ?_
          refine g_iload_n hC 2 dX12_put_63 rfl ?_
          refine g_iadd hC dX12_put_64 ?_
          refine g_aload_n hC 0 dX12_put_65 rfl ?_
          refine g_aload_n hC 0 dX12_put_66 rfl ?_
          replace h := ob h; obtain ⟨v21, ev21, h⟩ := h
          refine g_getR hC ev21 fk_X12_111 rfl dX12_put_67 ?_
          refine g_iload_n hC 1 dX12_put_70 rfl ?_
          replace h := ob h; obtain ⟨a23, ea23, h⟩ := h
          subst ea23
          replace h := ob h; obtain ⟨v22, ev22, h⟩ := h
          refine g_iald hC ev22 dX12_put_71 ?_
          refine g_iload_n hC 3 dX12_put_72 rfl ?_
          replace h := ob h; obtain ⟨_, eu25, h⟩ := h
          replace h := ob h; obtain ⟨⟨v26, M24⟩, eM24, h⟩ := h
          refine g_calli hC (r_V hC (As := [.int v22, .int p3]) (c_X12_narrow _ Γ this v22 p3 M16 M24 v26 eM24) yk_X12_narrow lk_X12_283 eu25 ⟨_, rfl, rfl⟩ rfl rfl (by simp only [List.map, cat_rf]; exact Nat.le_of_ble_eq_true rfl) hR ⟨(Nat.le_of_ble_eq_true rfl), (Nat.le_of_ble_eq_true rfl)⟩ ⟨(Nat.le_of_ble_eq_true rfl), (Nat.le_of_ble_eq_true rfl)⟩ dX12_put_73) ?_
          replace h := ob h; obtain ⟨a28, ea28, h⟩ := h
          subst ea28
          replace h := ob h; obtain ⟨M27, eM27, h⟩ := h
          refine g_iast hC eM27 dX12_put_76 ?_
          refine g_iconst hC 0 dX12_put_77 (by decide) ?_
          exact g_iret hC h ⟨(Nat.le_of_ble_eq_true rfl), (Nat.le_of_ble_eq_true rfl)⟩ dX12_put_78
        · replace h := it_t c19 h
          refine g_bipush hC (-13) dX12_put_52 (by decide) ?_
          exact g_iret hC h ⟨(Nat.le_of_ble_eq_true rfl), (Nat.le_of_ble_eq_true rfl)⟩ dX12_put_54
      · replace h := it_f c12 h
        refine g_bipush hC (-12) dX12_put_32 (by decide) ?_
        exact g_iret hC h ⟨(Nat.le_of_ble_eq_true rfl), (Nat.le_of_ble_eq_true rfl)⟩ dX12_put_34
    · replace h := it_t c8 h
      refine g_bipush hC (-11) dX12_put_19 (by decide) ?_
      exact g_iret hC h ⟨(Nat.le_of_ble_eq_true rfl), (Nat.le_of_ble_eq_true rfl)⟩ dX12_put_21
  · replace h := it_t c4 h
    refine g_iconst hC (-1) dX12_put_8 (by decide) ?_
    exact g_iret hC h ⟨(Nat.le_of_ble_eq_true rfl), (Nat.le_of_ble_eq_true rfl)⟩ dX12_put_9

set_option maxHeartbeats 4000000 in
set_option maxRecDepth 100000 in
theorem c_X12_element (l : Launch) (Γ : Gm) (this : Nat) (p1 : Int32) (p2 : Int32) (M M' : Mm) (r : Int64) (h : F_X12_element this p1 p2 M = some (r, M')) : Met l yX12_element (wz yX12_element cX12_element 3 (some .long)) ({ frames := 2, cells := 0, slots := 0, locals := 44 } : Room) (Pq Γ M [.ref this, .int p1, .int p2]) (Ql Γ r M') 0 0 (fr Γ) := by
  refine met_of (own := RX12) (by decide +kernel) rfl (Nat.le_of_ble_eq_true rfl) ?_
  intro X hC hR hnm hXl
  unfold F_X12_element at h
  show G Γ X 3 M 0 0 _ 0 ([(0, .ref this), (1, .int p1), (2, .int p2)]) []
  refine g_aload_n hC 0 dX12_element_0 rfl ?_
  refine g_aload_n hC 0 dX12_element_1 rfl ?_
  refine g_iload_n hC 1 dX12_element_2 rfl ?_
  replace h := ob h; obtain ⟨_, eu2, h⟩ := h
  replace h := ob h; obtain ⟨⟨v3, M1⟩, eM1, h⟩ := h
  refine g_calli hC (r_V hC (As := [.int p1]) (c_X12_isShelf _ Γ this p1 M M1 v3 eM1) yk_X12_isShelf lk_X12_280 eu2 ⟨_, rfl, rfl⟩ rfl rfl (Nat.le_of_ble_eq_true rfl) hR ⟨(Nat.le_of_ble_eq_true rfl), (Nat.le_of_ble_eq_true rfl)⟩ ⟨(Nat.le_of_ble_eq_true rfl), (Nat.le_of_ble_eq_true rfl)⟩ dX12_element_3) ?_
  replace h := jp_e h; obtain ⟨k4, ek4, h⟩ := h
  have J13 : ∀ (s5 : Int32) (M6 : Mm), k4 s5 M6 = some (r, M') → G Γ X 3 M6 0 0 (Fin Γ X (Ql Γ r M') 0 0) 45 ([(0, .ref this), (1, .int p1), (2, .int p2)]) ([.int s5, .ref this]) := by
    intro s5 M6 h
    rw [ek4] at h
    replace h := ob h; obtain ⟨M7, eM7, h⟩ := h
    refine g_putI hC eM7 fk_X12_1 rfl dX12_element_45 ?_
    refine g_aload_n hC 0 dX12_element_48 rfl ?_
    replace h := ob h; obtain ⟨v8, ev8, h⟩ := h
    refine g_getI hC ev8 fk_X12_1 rfl dX12_element_49 ?_
    refine g_if_le hC 59 dX12_element_52 (by decide) (fun c9 => ?_) (fun c9 => ?_)
    · replace h := it_t c9 h
      refine g_aload_n hC 0 dX12_element_59 rfl ?_
      replace h := ob h; obtain ⟨v10, ev10, h⟩ := h
      refine g_getR hC ev10 fk_X12_117 rfl dX12_element_60 ?_
      refine g_bipush hC 80 dX12_element_63 (by decide) ?_
      refine g_iload_n hC 1 dX12_element_65 rfl ?_
      refine g_imul hC dX12_element_66 ?_
      refine g_iload_n hC 2 dX12_element_67 rfl ?_
      refine g_iadd hC dX12_element_68 ?_
      replace h := ob h; obtain ⟨a12, ea12, h⟩ := h
      subst ea12
      replace h := ob h; obtain ⟨v11, ev11, h⟩ := h
      refine g_iald hC ev11 dX12_element_69 ?_
      refine g_i2l hC dX12_element_70 ?_
      exact g_lret hC h ⟨(Nat.le_of_ble_eq_true rfl), (Nat.le_of_ble_eq_true rfl)⟩ dX12_element_71
    · replace h := it_f c9 h
      refine g_lconst hC 0 dX12_element_55 (by decide) ?_
      refine g_goto hC 71 dX12_element_56 (by decide) ?_
      exact g_lret hC h ⟨(Nat.le_of_ble_eq_true rfl), (Nat.le_of_ble_eq_true rfl)⟩ dX12_element_71
  refine g_if_ne hC 13 dX12_element_6 (by decide) (fun c14 => ?_) (fun c14 => ?_)
  · replace h := it_f c14 h
    refine g_aload_n hC 0 dX12_element_13 rfl ?_
    replace h := ob h; obtain ⟨v15, ev15, h⟩ := h
    refine g_getR hC ev15 fk_X12_96 rfl dX12_element_14 ?_
    refine g_iload_n hC 1 dX12_element_17 rfl ?_
    replace h := ob h; obtain ⟨a17, ea17, h⟩ := h
    subst ea17
    replace h := ob h; obtain ⟨v16, ev16, h⟩ := h
    refine g_iald hC ev16 dX12_element_18 ?_
    refine g_iconst hC 2 dX12_element_19 (by decide) ?_
    refine g_icmp_ne hC 40 dX12_element_20 (by decide) (fun c18 => ?_) (fun c18 => ?_)
    · replace h := it_f c18 h
      refine g_iconst hC 2 dX12_element_40 (by decide) ?_
      refine g_goto hC 45 dX12_element_41 (by decide) ?_
      refine g_sub [0, 1, 2] rfl ?_
      exact J13 2 M1 h
    · replace h := it_t c18 h
      refine g_aload_n hC 0 dX12_element_23 rfl ?_
      refine g_iload_n hC 2 dX12_element_24 rfl ?_
      refine g_iconst hC 0 dX12_element_25 (by decide) ?_
      refine g_aload_n hC 0 dX12_element_26 rfl ?_
      replace h := ob h; obtain ⟨v19, ev19, h⟩ := h
      refine g_getR hC ev19 fk_X12_114 rfl dX12_element_27 ?_
      refine g_iload_n hC 1 dX12_element_30 rfl ?_
      replace h := ob h; obtain ⟨a21, ea21, h⟩ := h
      subst ea21
      replace h := ob h; obtain ⟨v20, ev20, h⟩ := h
      refine g_iald hC ev20 dX12_element_31 ?_
      refine g_iconst hC 1 dX12_element_32 (by decide) ?_
      refine g_isub hC dX12_element_33 ?_
      replace h := ob h; obtain ⟨_, eu23, h⟩ := h
      replace h := ob h; obtain ⟨⟨v24, M22⟩, eM22, h⟩ := h
      refine g_calli hC (r_V hC (As := [.int p2, .int 0, .int (v20 - 1)]) (c_X12_is _ Γ this p2 0 (v20 - 1) M1 M22 v24 eM22) yk_X12_is lk_X12_123 eu23 ⟨_, rfl, rfl⟩ rfl rfl (Nat.le_of_ble_eq_true rfl) hR ⟨(Nat.le_of_ble_eq_true rfl), (Nat.le_of_ble_eq_true rfl)⟩ ⟨(Nat.le_of_ble_eq_true rfl), (Nat.le_of_ble_eq_true rfl)⟩ dX12_element_34) ?_
      refine g_if_ne hC 44 dX12_element_37 (by decide) (fun c25 => ?_) (fun c25 => ?_)
      · replace h := it_f c25 h
        refine g_iconst hC 0 dX12_element_44 (by decide) ?_
        refine g_sub [0, 1, 2] rfl ?_
        exact J13 0 M22 h
      · replace h := it_t c25 h
        refine g_iconst hC 2 dX12_element_40 (by decide) ?_
        refine g_goto hC 45 dX12_element_41 (by decide) ?_
        refine g_sub [0, 1, 2] rfl ?_
        exact J13 2 M22 h
  · replace h := it_t c14 h
    refine g_iconst hC 1 dX12_element_9 (by decide) ?_
    refine g_goto hC 45 dX12_element_10 (by decide) ?_
    refine g_sub [0, 1, 2] rfl ?_
    exact J13 1 M1 h

set_option maxHeartbeats 4000000 in
set_option maxRecDepth 100000 in
theorem l_X12_copy_L124 {Γ : Gm} {X : Ct} (hC : Cx Γ X cX12_copy RX12 (some .int) 7) (hR : X.2.2.2.1 = ({ frames := 2, cells := 0, slots := 0, locals := 44 } : Room)) (r : Int32) (M' : Mm) (k158 : Mm → Option (Int32 × Mm)) (x0 : Nat) (x1 : Int32) (x2 : Int32) (x3 : Int32) (x4 : Int32) (x5 : Int32) (hk158 : ∀  (M1 : Mm), k158  M1 = some (r, M') → G Γ X 7 M1 0 0 (Fin Γ X (Qi Γ r M') 0 0) 158 ([(0, .ref x0), (3, .int x3), (4, .int x4), (5, .int x5)]) []) : ∀ (fu : Nat) (x6 : Int32) (M0 : Mm), F_X12_copy_L124 k158 x0 x1 x2 x3 x4 x5 fu x6 M0 = some (r, M') → G Γ X 7 M0 0 0 (Fin Γ X (Qi Γ r M') 0 0) 124 ([(0, .ref x0), (1, .int x1), (2, .int x2), (3, .int x3), (4, .int x4), (5, .int x5), (6, .int x6)]) [] := by
  intro fu
  induction fu with
  | zero =>
    intro x6 M0 h
    rw [F_X12_copy_L124] at h
    cases h
  | succ n43 ih =>
    intro x6 M0 h
    rw [F_X12_copy_L124] at h
    refine g_iload hC 6 dX12_copy_124 rfl ?_
    refine g_iload hC 5 dX12_copy_126 rfl ?_
    refine g_icmp_ge hC 158 dX12_copy_128 (by decide) (fun c44 => ?_) (fun c44 => ?_)
    · replace h := it_t c44 h
      refine g_sub [0, 3, 4, 5] rfl ?_
      exact hk158  M0 h
    · replace h := it_f c44 h
      refine g_aload_n hC 0 dX12_copy_131 rfl ?_
      replace h := ob h; obtain ⟨v45, ev45, h⟩ := h
      refine g_getR hC ev45 fk_X12_120 rfl dX12_copy_132 ?_
      refine g_iload hC 6 dX12_copy_135 rfl ?_
      refine g_aload_n hC 0 dX12_copy_137 rfl ?_
      replace h := ob h; obtain ⟨v46, ev46, h⟩ := h
      refine g_getR hC ev46 fk_X12_117 rfl dX12_copy_138 ?_
      refine g_bipush hC 80 dX12_copy_141 (by decide) ?_
      refine g_iload_n hC 1 dX12_copy_143 rfl ?_
      refine g_imul hC dX12_copy_144 ?_
      refine g_iload_n hC 2 dX12_copy_145 rfl ?_
      refine g_iadd hC dX12_copy_146 ?_
      refine g_iload hC 6 dX12_copy_147 rfl ?_
      refine g_iadd hC dX12_copy_149 ?_
      replace h := ob h; obtain ⟨a48, ea48, h⟩ := h
      subst ea48
      replace h := ob h; obtain ⟨v47, ev47, h⟩ := h
      refine g_iald hC ev47 dX12_copy_150 ?_
      replace h := ob h; obtain ⟨a50, ea50, h⟩ := h
      subst ea50
      replace h := ob h; obtain ⟨M49, eM49, h⟩ := h
      refine g_iast hC eM49 dX12_copy_151 ?_
      refine g_iinc hC 6 (x6 + 1) ([(6, .int (x6 + 1)), (0, .ref x0), (1, .int x1), (2, .int x2), (3, .int x3), (4, .int x4), (5, .int x5)]) dX12_copy_152 rfl rfl (by decide) rfl ?_
      refine g_goto hC 124 dX12_copy_155 (by decide) ?_
      refine g_sub [1, 2, 3, 4, 5, 6, 0] rfl ?_
      exact ih (x6 + 1) M49 h
set_option maxHeartbeats 4000000 in
set_option maxRecDepth 100000 in
theorem l_X12_copy_L161 {Γ : Gm} {X : Ct} (hC : Cx Γ X cX12_copy RX12 (some .int) 7) (hR : X.2.2.2.1 = ({ frames := 2, cells := 0, slots := 0, locals := 44 } : Room)) (r : Int32) (M' : Mm)  (x0 : Nat) (x3 : Int32) (x4 : Int32) (x5 : Int32) : ∀ (fu : Nat) (x6 : Int32) (M0 : Mm), F_X12_copy_L161 x0 x3 x4 x5 fu x6 M0 = some (r, M') → G Γ X 7 M0 0 0 (Fin Γ X (Qi Γ r M') 0 0) 161 ([(0, .ref x0), (3, .int x3), (4, .int x4), (5, .int x5), (6, .int x6)]) [] := by
  intro fu
  induction fu with
  | zero =>
    intro x6 M0 h
    rw [F_X12_copy_L161] at h
    cases h
  | succ n52 ih =>
    intro x6 M0 h
    rw [F_X12_copy_L161] at h
    refine g_iload hC 4 dX12_copy_161 rfl ?_
    refine g_iload hC 3 dX12_copy_163 rfl ?_
    refine g_icmp_ge hC 196 dX12_copy_165 (by decide) (fun c53 => ?_) (fun c53 => ?_)
    · replace h := it_t c53 h
      refine g_iload hC 3 dX12_copy_196 rfl ?_
      exact g_iret hC h ⟨(Nat.le_of_ble_eq_true rfl), (Nat.le_of_ble_eq_true rfl)⟩ dX12_copy_198
    · replace h := it_f c53 h
      refine g_aload_n hC 0 dX12_copy_168 rfl ?_
      replace h := ob h; obtain ⟨v54, ev54, h⟩ := h
      refine g_getR hC ev54 fk_X12_117 rfl dX12_copy_169 ?_
      refine g_bipush hC 80 dX12_copy_172 (by decide) ?_
      refine g_iload_n hC 1 dX12_copy_174 rfl ?_
      refine g_imul hC dX12_copy_175 ?_
      refine g_iload hC 2 dX12_copy_176 rfl ?_
      refine g_iadd hC dX12_copy_178 ?_
      refine g_iload hC 4 dX12_copy_179 rfl ?_
      refine g_iadd hC dX12_copy_181 ?_
      refine g_aload_n hC 0 dX12_copy_182 rfl ?_
      replace h := ob h; obtain ⟨v55, ev55, h⟩ := h
      refine g_getR hC ev55 fk_X12_120 rfl dX12_copy_183 ?_
      refine g_iload hC 4 dX12_copy_186 rfl ?_
      replace h := ob h; obtain ⟨a57, ea57, h⟩ := h
      subst ea57
      replace h := ob h; obtain ⟨v56, ev56, h⟩ := h
      refine g_iald hC ev56 dX12_copy_188 ?_
      replace h := ob h; obtain ⟨a59, ea59, h⟩ := h
      subst ea59
      replace h := ob h; obtain ⟨M58, eM58, h⟩ := h
      refine g_iast hC eM58 dX12_copy_189 ?_
      refine g_iinc hC 4 (x6 + 1) ([(6, .int (x6 + 1)), (0, .ref x0), (3, .int x3), (4, .int x4), (5, .int x5)]) dX12_copy_190 rfl rfl (by decide) rfl ?_
      refine g_goto hC 161 dX12_copy_193 (by decide) ?_
      refine g_sub [1, 2, 3, 4, 0] rfl ?_
      exact ih (x6 + 1) M58 h
set_option maxHeartbeats 4000000 in
set_option maxRecDepth 100000 in
theorem c_X12_copy (l : Launch) (Γ : Gm) (this : Nat) (p1 : Int32) (p2 : Int32) (p3 : Int32) (p4 : Int32) (p5 : Int32) (M M' : Mm) (r : Int32) (h : F_X12_copy this p1 p2 p3 p4 p5 M = some (r, M')) : Met l yX12_copy (wz yX12_copy cX12_copy 7 (some .int)) ({ frames := 2, cells := 0, slots := 0, locals := 44 } : Room) (Pq Γ M [.ref this, .int p1, .int p2, .int p3, .int p4, .int p5]) (Qi Γ r M') 0 0 (fr Γ) := by
  refine met_of (own := RX12) (by decide +kernel) rfl (Nat.le_of_ble_eq_true rfl) ?_
  intro X hC hR hnm hXl
  unfold F_X12_copy at h
  show G Γ X 7 M 0 0 _ 0 ([(0, .ref this), (1, .int p1), (2, .int p2), (3, .int p3), (4, .int p4), (5, .int p5)]) []
  refine g_aload_n hC 0 dX12_copy_0 rfl ?_
  refine g_iload_n hC 1 dX12_copy_1 rfl ?_
  replace h := ob h; obtain ⟨_, eu2, h⟩ := h
  replace h := ob h; obtain ⟨⟨v3, M1⟩, eM1, h⟩ := h
  refine g_calli hC (r_V hC (As := [.int p1]) (c_X12_isShelf _ Γ this p1 M M1 v3 eM1) yk_X12_isShelf lk_X12_280 eu2 ⟨_, rfl, rfl⟩ rfl rfl (Nat.le_of_ble_eq_true rfl) hR ⟨(Nat.le_of_ble_eq_true rfl), (Nat.le_of_ble_eq_true rfl)⟩ ⟨(Nat.le_of_ble_eq_true rfl), (Nat.le_of_ble_eq_true rfl)⟩ dX12_copy_2) ?_
  refine g_if_eq hC 16 dX12_copy_5 (by decide) (fun c4 => ?_) (fun c4 => ?_)
  · replace h := it_t c4 h
    refine g_iconst hC (-1) dX12_copy_16 (by decide) ?_
    exact g_iret hC h ⟨(Nat.le_of_ble_eq_true rfl), (Nat.le_of_ble_eq_true rfl)⟩ dX12_copy_17
  · replace h := it_f c4 h
    refine g_aload_n hC 0 dX12_copy_8 rfl ?_
    refine g_iload_n hC 3 dX12_copy_9 rfl ?_
    replace h := ob h; obtain ⟨_, eu6, h⟩ := h
    replace h := ob h; obtain ⟨⟨v7, M5⟩, eM5, h⟩ := h
    refine g_calli hC (r_V hC (As := [.int p3]) (c_X12_isShelf _ Γ this p3 M1 M5 v7 eM5) yk_X12_isShelf lk_X12_280 eu6 ⟨_, rfl, rfl⟩ rfl rfl (Nat.le_of_ble_eq_true rfl) hR ⟨(Nat.le_of_ble_eq_true rfl), (Nat.le_of_ble_eq_true rfl)⟩ ⟨(Nat.le_of_ble_eq_true rfl), (Nat.le_of_ble_eq_true rfl)⟩ dX12_copy_10) ?_
    refine g_if_ne hC 18 dX12_copy_13 (by decide) (fun c8 => ?_) (fun c8 => ?_)
    · replace h := it_f c8 h
      refine g_aload_n hC 0 dX12_copy_18 rfl ?_
      replace h := ob h; obtain ⟨v9, ev9, h⟩ := h
      refine g_getR hC ev9 fk_X12_96 rfl dX12_copy_19 ?_
      refine g_iload_n hC 1 dX12_copy_22 rfl ?_
      replace h := ob h; obtain ⟨a11, ea11, h⟩ := h
      subst ea11
      replace h := ob h; obtain ⟨v10, ev10, h⟩ := h
      refine g_iald hC ev10 dX12_copy_23 ?_
      refine g_if_eq hC 36 dX12_copy_24 (by decide) (fun c12 => ?_) (fun c12 => ?_)
      · replace h := it_t c12 h
        refine g_bipush hC (-11) dX12_copy_36 (by decide) ?_
        exact g_iret hC h ⟨(Nat.le_of_ble_eq_true rfl), (Nat.le_of_ble_eq_true rfl)⟩ dX12_copy_38
      · replace h := it_f c12 h
        refine g_aload_n hC 0 dX12_copy_27 rfl ?_
        replace h := ob h; obtain ⟨v13, ev13, h⟩ := h
        refine g_getR hC ev13 fk_X12_96 rfl dX12_copy_28 ?_
        refine g_iload_n hC 3 dX12_copy_31 rfl ?_
        replace h := ob h; obtain ⟨a15, ea15, h⟩ := h
        subst ea15
        replace h := ob h; obtain ⟨v14, ev14, h⟩ := h
        refine g_iald hC ev14 dX12_copy_32 ?_
        refine g_if_ne hC 39 dX12_copy_33 (by decide) (fun c16 => ?_) (fun c16 => ?_)
        · replace h := it_f c16 h
          refine g_aload_n hC 0 dX12_copy_39 rfl ?_
          replace h := ob h; obtain ⟨v17, ev17, h⟩ := h
          refine g_getR hC ev17 fk_X12_96 rfl dX12_copy_40 ?_
          refine g_iload_n hC 1 dX12_copy_43 rfl ?_
          replace h := ob h; obtain ⟨a19, ea19, h⟩ := h
          subst ea19
          replace h := ob h; obtain ⟨v18, ev18, h⟩ := h
          refine g_iald hC ev18 dX12_copy_44 ?_
          refine g_iconst hC 2 dX12_copy_45 (by decide) ?_
          refine g_icmp_ne hC 74 dX12_copy_46 (by decide) (fun c20 => ?_) (fun c20 => ?_)
          · replace h := it_f c20 h
            refine g_bipush hC (-12) dX12_copy_74 (by decide) ?_
            exact g_iret hC h ⟨(Nat.le_of_ble_eq_true rfl), (Nat.le_of_ble_eq_true rfl)⟩ dX12_copy_76
          · replace h := it_t c20 h
            refine g_aload_n hC 0 dX12_copy_49 rfl ?_
            replace h := ob h; obtain ⟨v21, ev21, h⟩ := h
            refine g_getR hC ev21 fk_X12_96 rfl dX12_copy_50 ?_
            refine g_iload_n hC 3 dX12_copy_53 rfl ?_
            replace h := ob h; obtain ⟨a23, ea23, h⟩ := h
            subst ea23
            replace h := ob h; obtain ⟨v22, ev22, h⟩ := h
            refine g_iald hC ev22 dX12_copy_54 ?_
            refine g_iconst hC 2 dX12_copy_55 (by decide) ?_
            refine g_icmp_ne hC 74 dX12_copy_56 (by decide) (fun c24 => ?_) (fun c24 => ?_)
            · replace h := it_f c24 h
              refine g_bipush hC (-12) dX12_copy_74 (by decide) ?_
              exact g_iret hC h ⟨(Nat.le_of_ble_eq_true rfl), (Nat.le_of_ble_eq_true rfl)⟩ dX12_copy_76
            · replace h := it_t c24 h
              refine g_aload_n hC 0 dX12_copy_59 rfl ?_
              replace h := ob h; obtain ⟨v25, ev25, h⟩ := h
              refine g_getR hC ev25 fk_X12_111 rfl dX12_copy_60 ?_
              refine g_iload_n hC 1 dX12_copy_63 rfl ?_
              replace h := ob h; obtain ⟨a27, ea27, h⟩ := h
              subst ea27
              replace h := ob h; obtain ⟨v26, ev26, h⟩ := h
              refine g_iald hC ev26 dX12_copy_64 ?_
              refine g_aload_n hC 0 dX12_copy_65 rfl ?_
              replace h := ob h; obtain ⟨v28, ev28, h⟩ := h
              refine g_getR hC ev28 fk_X12_111 rfl dX12_copy_66 ?_
              refine g_iload_n hC 3 dX12_copy_69 rfl ?_
              replace h := ob h; obtain ⟨a30, ea30, h⟩ := h
              subst ea30
              replace h := ob h; obtain ⟨v29, ev29, h⟩ := h
              refine g_iald hC ev29 dX12_copy_70 ?_
              refine g_icmp_eq hC 77 dX12_copy_71 (by decide) (fun c31 => ?_) (fun c31 => ?_)
              · replace h := it_t c31 h
                refine g_iload hC 5 dX12_copy_77 rfl ?_
                refine g_if_lt hC 118 dX12_copy_79 (by decide) (fun c32 => ?_) (fun c32 => ?_)
                · replace h := it_t c32 h
                  refine g_bipush hC (-13) dX12_copy_118 (by decide) ?_
                  exact g_iret hC h ⟨(Nat.le_of_ble_eq_true rfl), (Nat.le_of_ble_eq_true rfl)⟩ dX12_copy_120
                · replace h := it_f c32 h
                  refine g_iload_n hC 2 dX12_copy_82 rfl ?_
                  refine g_if_lt hC 118 dX12_copy_83 (by decide) (fun c33 => ?_) (fun c33 => ?_)
                  · replace h := it_t c33 h
                    refine g_bipush hC (-13) dX12_copy_118 (by decide) ?_
                    exact g_iret hC h ⟨(Nat.le_of_ble_eq_true rfl), (Nat.le_of_ble_eq_true rfl)⟩ dX12_copy_120
                  · replace h := it_f c33 h
                    refine g_iload hC 4 dX12_copy_86 rfl ?_
                    refine g_if_lt hC 118 dX12_copy_88 (by decide) (fun c34 => ?_) (fun c34 => ?_)
                    · replace h := it_t c34 h
                      refine g_bipush hC (-13) dX12_copy_118 (by decide) ?_
                      exact g_iret hC h ⟨(Nat.le_of_ble_eq_true rfl), (Nat.le_of_ble_eq_true rfl)⟩ dX12_copy_120
                    · replace h := it_f c34 h
                      refine g_iload_n hC 2 dX12_copy_91 rfl ?_
                      refine g_aload_n hC 0 dX12_copy_92 rfl ?_
                      replace h := ob h; obtain ⟨v35, ev35, h⟩ := h
                      refine g_getR hC ev35 fk_X12_114 rfl dX12_copy_93 ?_
                      refine g_iload_n hC 1 dX12_copy_96 rfl ?_
                      replace h := ob h; obtain ⟨a37, ea37, h⟩ := h
                      subst ea37
                      replace h := ob h; obtain ⟨v36, ev36, h⟩ := h
                      refine g_iald hC ev36 dX12_copy_97 ?_
                      refine g_iload hC 5 dX12_copy_98 rfl ?_
                      refine g_isub hC dX12_copy_100 ?_
                      refine g_icmp_gt hC 118 dX12_copy_101 (by decide) (fun c38 => ?_) (fun c38 => ?_)
                      · replace h := it_t c38 h
                        refine g_bipush hC (-13) dX12_copy_118 (by decide) ?_
                        exact g_iret hC h ⟨(Nat.le_of_ble_eq_true rfl), (Nat.le_of_ble_eq_true rfl)⟩ dX12_copy_120
                      · replace h := it_f c38 h
                        refine g_iload hC 4 dX12_copy_104 rfl ?_
                        refine g_aload_n hC 0 dX12_copy_106 rfl ?_
                        replace h := ob h; obtain ⟨v39, ev39, h⟩ := h
                        refine g_getR hC ev39 fk_X12_114 rfl dX12_copy_107 ?_
                        refine g_iload_n hC 3 dX12_copy_110 rfl ?_
                        replace h := ob h; obtain ⟨a41, ea41, h⟩ := h
                        subst ea41
                        replace h := ob h; obtain ⟨v40, ev40, h⟩ := h
                        refine g_iald hC ev40 dX12_copy_111 ?_
                        refine g_iload hC 5 dX12_copy_112 rfl ?_
                        refine g_isub hC dX12_copy_114 ?_
                        refine g_icmp_le hC 121 dX12_copy_115 (by decide) (fun c42 => ?_) (fun c42 => ?_)
                        · replace h := it_t c42 h
                          refine g_iconst hC 0 dX12_copy_121 (by decide) ?_
                          refine g_istore hC ([(6, .int 0), (0, .ref this), (1, .int p1), (2, .int p2), (3, .int p3), (4, .int p4), (5, .int p5)]) dX12_copy_122 (by decide) rfl ?_
                          refine g_sub [1, 2, 3, 4, 5, 6, 0] rfl ?_
                          refine l_X12_copy_L124 hC hR r M' _ _ _ _ _ _ _ ?_ _ _ _ h
                          intro  M51 h
                          refine g_iconst hC 0 dX12_copy_158 (by decide) ?_
                          refine g_istore hC ([(6, .int 0), (0, .ref this), (3, .int p3), (4, .int p4), (5, .int p5)]) dX12_copy_159 (by decide) rfl ?_
                          refine g_sub [1, 2, 3, 4, 0] rfl ?_
                          refine l_X12_copy_L161 hC hR r M'  _ _ _ _  _ _ _ h
                        · replace h := it_f c42 h
                          refine g_bipush hC (-13) dX12_copy_118 (by decide) ?_
                          exact g_iret hC h ⟨(Nat.le_of_ble_eq_true rfl), (Nat.le_of_ble_eq_true rfl)⟩ dX12_copy_120
              · replace h := it_f c31 h
                refine g_bipush hC (-12) dX12_copy_74 (by decide) ?_
                exact g_iret hC h ⟨(Nat.le_of_ble_eq_true rfl), (Nat.le_of_ble_eq_true rfl)⟩ dX12_copy_76
        · replace h := it_t c16 h
          refine g_bipush hC (-11) dX12_copy_36 (by decide) ?_
          exact g_iret hC h ⟨(Nat.le_of_ble_eq_true rfl), (Nat.le_of_ble_eq_true rfl)⟩ dX12_copy_38
    · replace h := it_t c8 h
      refine g_iconst hC (-1) dX12_copy_16 (by decide) ?_
      exact g_iret hC h ⟨(Nat.le_of_ble_eq_true rfl), (Nat.le_of_ble_eq_true rfl)⟩ dX12_copy_17

set_option maxHeartbeats 4000000 in
set_option maxRecDepth 100000 in
theorem c_X12_lacksGlider (l : Launch) (Γ : Gm) (this : Nat) (p1 : Int32) (M M' : Mm) (r : Int32) (h : F_X12_lacksGlider this p1 M = some (r, M')) : Met l yX12_lacksGlider (wz yX12_lacksGlider cX12_lacksGlider 2 (some .int)) ({ frames := 2, cells := 0, slots := 0, locals := 44 } : Room) (Pq Γ M [.ref this, .int p1]) (Qi Γ r M') 0 0 (fr Γ) := by
  refine met_of (own := RX12) (by decide +kernel) rfl (Nat.le_of_ble_eq_true rfl) ?_
  intro X hC hR hnm hXl
  unfold F_X12_lacksGlider at h
  show G Γ X 2 M 0 0 _ 0 ([(0, .ref this), (1, .int p1)]) []
  refine g_aload_n hC 0 dX12_lacksGlider_0 rfl ?_
  refine g_iload_n hC 1 dX12_lacksGlider_1 rfl ?_
  replace h := ob h; obtain ⟨_, eu2, h⟩ := h
  replace h := ob h; obtain ⟨⟨v3, M1⟩, eM1, h⟩ := h
  refine g_calli hC (r_V hC (As := [.int p1]) (c_X12_isShelf _ Γ this p1 M M1 v3 eM1) yk_X12_isShelf lk_X12_280 eu2 ⟨_, rfl, rfl⟩ rfl rfl (Nat.le_of_ble_eq_true rfl) hR ⟨(Nat.le_of_ble_eq_true rfl), (Nat.le_of_ble_eq_true rfl)⟩ ⟨(Nat.le_of_ble_eq_true rfl), (Nat.le_of_ble_eq_true rfl)⟩ dX12_lacksGlider_2) ?_
  refine g_if_ne hC 12 dX12_lacksGlider_5 (by decide) (fun c4 => ?_) (fun c4 => ?_)
  · replace h := it_f c4 h
    refine g_aload_n hC 0 dX12_lacksGlider_12 rfl ?_
    replace h := ob h; obtain ⟨v5, ev5, h⟩ := h
    refine g_getR hC ev5 fk_X12_96 rfl dX12_lacksGlider_13 ?_
    refine g_iload_n hC 1 dX12_lacksGlider_16 rfl ?_
    replace h := ob h; obtain ⟨a7, ea7, h⟩ := h
    subst ea7
    replace h := ob h; obtain ⟨v6, ev6, h⟩ := h
    refine g_iald hC ev6 dX12_lacksGlider_17 ?_
    refine g_if_ne hC 26 dX12_lacksGlider_18 (by decide) (fun c8 => ?_) (fun c8 => ?_)
    · replace h := it_f c8 h
      refine g_aload_n hC 0 dX12_lacksGlider_26 rfl ?_
      replace h := ob h; obtain ⟨v9, ev9, h⟩ := h
      refine g_getR hC ev9 fk_X12_96 rfl dX12_lacksGlider_27 ?_
      refine g_iload_n hC 1 dX12_lacksGlider_30 rfl ?_
      replace h := ob h; obtain ⟨a11, ea11, h⟩ := h
      subst ea11
      replace h := ob h; obtain ⟨v10, ev10, h⟩ := h
      refine g_iald hC ev10 dX12_lacksGlider_31 ?_
      refine g_iconst hC 2 dX12_lacksGlider_32 (by decide) ?_
      refine g_icmp_ne hC 41 dX12_lacksGlider_33 (by decide) (fun c12 => ?_) (fun c12 => ?_)
      · replace h := it_f c12 h
        refine g_iconst hC 0 dX12_lacksGlider_41 (by decide) ?_
        exact g_iret hC h ⟨(Nat.le_of_ble_eq_true rfl), (Nat.le_of_ble_eq_true rfl)⟩ dX12_lacksGlider_42
      · replace h := it_t c12 h
        refine g_bipush hC (-12) dX12_lacksGlider_36 (by decide) ?_
        refine g_goto hC 42 dX12_lacksGlider_38 (by decide) ?_
        exact g_iret hC h ⟨(Nat.le_of_ble_eq_true rfl), (Nat.le_of_ble_eq_true rfl)⟩ dX12_lacksGlider_42
    · replace h := it_t c8 h
      refine g_bipush hC (-11) dX12_lacksGlider_21 (by decide) ?_
      refine g_goto hC 42 dX12_lacksGlider_23 (by decide) ?_
      exact g_iret hC h ⟨(Nat.le_of_ble_eq_true rfl), (Nat.le_of_ble_eq_true rfl)⟩ dX12_lacksGlider_42
  · replace h := it_t c4 h
    refine g_iconst hC (-1) dX12_lacksGlider_8 (by decide) ?_
    refine g_goto hC 42 dX12_lacksGlider_9 (by decide) ?_
    exact g_iret hC h ⟨(Nat.le_of_ble_eq_true rfl), (Nat.le_of_ble_eq_true rfl)⟩ dX12_lacksGlider_42

set_option maxHeartbeats 4000000 in
set_option maxRecDepth 100000 in
theorem c_X12_sum (l : Launch) (Γ : Gm) (this : Nat) (p1 : Int32) (M M' : Mm) (r : Int32) (h : F_X12_sum this p1 M = some (r, M')) : Met l yX12_sum (wz yX12_sum cX12_sum 4 (some .int)) ({ frames := 3, cells := 0, slots := 0, locals := 65 } : Room) (Pq Γ M [.ref this, .int p1]) (Qi Γ r M') 0 0 (fr Γ) := by
  refine met_of (own := RX12) (by decide +kernel) rfl (Nat.le_of_ble_eq_true rfl) ?_
  intro X hC hR hnm hXl
  unfold F_X12_sum at h
  show G Γ X 4 M 0 0 _ 0 ([(0, .ref this), (1, .int p1)]) []
  refine g_aload_n hC 0 dX12_sum_0 rfl ?_
  refine g_iload_n hC 1 dX12_sum_1 rfl ?_
  replace h := ob h; obtain ⟨_, eu2, h⟩ := h
  replace h := ob h; obtain ⟨⟨v3, M1⟩, eM1, h⟩ := h
  refine g_calli hC (r_V hC (As := [.int p1]) (c_X12_lacksGlider _ Γ this p1 M M1 v3 eM1) yk_X12_lacksGlider lk_X12_286 eu2 ⟨_, rfl, rfl⟩ rfl rfl (Nat.le_of_ble_eq_true rfl) hR ⟨(Nat.le_of_ble_eq_true rfl), (Nat.le_of_ble_eq_true rfl)⟩ ⟨(Nat.le_of_ble_eq_true rfl), (Nat.le_of_ble_eq_true rfl)⟩ dX12_sum_2) ?_
  refine g_if_eq hC 14 dX12_sum_5 (by decide) (fun c4 => ?_) (fun c4 => ?_)
  · replace h := it_t c4 h
    refine g_aload_n hC 0 dX12_sum_14 rfl ?_
    replace h := ob h; obtain ⟨v5, ev5, h⟩ := h
    refine g_getR hC ev5 fk_X12_99 rfl dX12_sum_15 ?_
    refine g_iload_n hC 1 dX12_sum_18 rfl ?_
    replace h := ob h; obtain ⟨a7, ea7, h⟩ := h
    subst ea7
    replace h := ob h; obtain ⟨v6, ev6, h⟩ := h
    refine g_iald hC ev6 dX12_sum_19 ?_
    refine g_istore_n hC ([(2, .int v6), (0, .ref this), (1, .int p1)]) dX12_sum_20 (by decide) rfl ?_
    refine g_bipush hC 100 dX12_sum_21 (by decide) ?_
    refine g_bipush hC 10 dX12_sum_23 (by decide) ?_
    refine g_iload_n hC 0 dX12_sum_25 rfl ?_
    replace h := nv_e h; obtain ⟨v8, ev8, h⟩ := h
    have J9 : G Γ X 4 M1 0 0 (Fin Γ X (Qi Γ r M') 0 0) 43 ([(2, .int v6), (0, .ref this), (1, .int p1)]) ([.int v8, .int 10, .int 100]) := by
      refine g_imul hC dX12_sum_43 ?_
      refine g_iadd hC dX12_sum_44 ?_
      refine g_iload_n hC 0 dX12_sum_45 rfl ?_
      replace h := nv_e h; obtain ⟨v10, ev10, h⟩ := h
      have J11 : G Γ X 4 M1 0 0 (Fin Γ X (Qi Γ r M') 0 0) 72 ([(2, .int v6), (0, .ref this), (1, .int p1)]) ([.int v10, .int (100 + (10 * v8))]) := by
        refine g_iadd hC dX12_sum_72 ?_
        refine g_istore_n hC ([(3, .int ((100 + (10 * v8)) + v10)), (2, .int v6), (0, .ref this), (1, .int p1)]) dX12_sum_73 (by decide) rfl ?_
        refine g_iload_n hC 0 dX12_sum_74 rfl ?_
        refine g_iload_n hC 1 dX12_sum_75 rfl ?_
        refine g_iconst hC 1 dX12_sum_76 (by decide) ?_
        replace h := jp_e h; obtain ⟨k12, ek12, h⟩ := h
        have J16 : ∀ (s13 : Int32) (M14 : Mm), k12 s13 M14 = some (r, M') → G Γ X 4 M14 0 0 (Fin Γ X (Qi Γ r M') 0 0) 109 ([(2, .int v6)]) ([.int s13, .int ((100 + (10 * v8)) + v10)]) := by
          intro s13 M14 h
          rw [ek12] at h
          refine g_iadd hC dX12_sum_109 ?_
          refine g_istore_n hC ([(3, .int (((100 + (10 * v8)) + v10) + s13)), (2, .int v6)]) dX12_sum_110 (by decide) rfl ?_
          refine g_iload_n hC 1 dX12_sum_111 rfl ?_
          refine g_iconst hC 3 dX12_sum_112 (by decide) ?_
          refine g_icmp_ne hC 122 dX12_sum_113 (by decide) (fun c15 => ?_) (fun c15 => ?_)
          · replace h := it_f c15 h
            refine g_iload_n hC 0 dX12_sum_122 rfl ?_
            exact g_iret hC h ⟨(Nat.le_of_ble_eq_true rfl), (Nat.le_of_ble_eq_true rfl)⟩ dX12_sum_123
          · replace h := it_t c15 h
            refine g_iconst hC 2 dX12_sum_116 (by decide) ?_
            refine g_iload_n hC 0 dX12_sum_117 rfl ?_
            refine g_imul hC dX12_sum_118 ?_
            refine g_goto hC 123 dX12_sum_119 (by decide) ?_
            exact g_iret hC h ⟨(Nat.le_of_ble_eq_true rfl), (Nat.le_of_ble_eq_true rfl)⟩ dX12_sum_123
        refine g_icmp_eq hC 85 dX12_sum_77 (by decide) (fun c17 => ?_) (fun c17 => ?_)
        · replace h := it_t c17 h
          refine g_aload_n hC 2 dX12_sum_85 rfl ?_
          refine g_iload_n hC 1 dX12_sum_86 rfl ?_
          refine g_iconst hC 0 dX12_sum_87 (by decide) ?_
          replace h := ob h; obtain ⟨_, eu19, h⟩ := h
          replace h := ob h; obtain ⟨⟨v20, M18⟩, eM18, h⟩ := h
          refine g_calli hC (r_V hC (As := [.int v6, .int 0]) (c_X12_dry _ Γ this v6 0 M1 M18 v20 eM18) yk_X12_dry lk_X12_131 eu19 ⟨_, rfl, rfl⟩ rfl rfl (Nat.le_of_ble_eq_true rfl) hR ⟨(Nat.le_of_ble_eq_true rfl), (Nat.le_of_ble_eq_true rfl)⟩ ⟨(Nat.le_of_ble_eq_true rfl), (Nat.le_of_ble_eq_true rfl)⟩ dX12_sum_88) ?_
          refine g_goto hC 109 dX12_sum_91 (by decide) ?_
          refine g_sub [1] rfl ?_
          exact J16 v20 M18 h
        · replace h := it_f c17 h
          refine g_iload_n hC 1 dX12_sum_80 rfl ?_
          refine g_iconst hC 3 dX12_sum_81 (by decide) ?_
          refine g_icmp_ne hC 94 dX12_sum_82 (by decide) (fun c21 => ?_) (fun c21 => ?_)
          · replace h := it_f c21 h
            refine g_iload_n hC 1 dX12_sum_94 rfl ?_
            refine g_iconst hC 2 dX12_sum_95 (by decide) ?_
            refine g_icmp_ne hC 108 dX12_sum_96 (by decide) (fun c22 => ?_) (fun c22 => ?_)
            · replace h := it_f c22 h
              refine g_iconst hC 0 dX12_sum_108 (by decide) ?_
              refine g_sub [1] rfl ?_
              exact J16 0 M1 h
            · replace h := it_t c22 h
              refine g_aload_n hC 2 dX12_sum_99 rfl ?_
              replace h := ob h; obtain ⟨v23, ev23, h⟩ := h
              refine g_getR hC ev23 fk_X12_105 rfl dX12_sum_100 ?_
              refine g_iload_n hC 3 dX12_sum_103 rfl ?_
              replace h := ob h; obtain ⟨a25, ea25, h⟩ := h
              subst ea25
              replace h := ob h; obtain ⟨v24, ev24, h⟩ := h
              refine g_iald hC ev24 dX12_sum_104 ?_
              refine g_goto hC 109 dX12_sum_105 (by decide) ?_
              refine g_sub [1] rfl ?_
              exact J16 v24 M1 h
          · replace h := it_t c21 h
            refine g_aload_n hC 2 dX12_sum_85 rfl ?_
            refine g_iload_n hC 1 dX12_sum_86 rfl ?_
            refine g_iconst hC 0 dX12_sum_87 (by decide) ?_
            replace h := ob h; obtain ⟨_, eu27, h⟩ := h
            replace h := ob h; obtain ⟨⟨v28, M26⟩, eM26, h⟩ := h
            refine g_calli hC (r_V hC (As := [.int v6, .int 0]) (c_X12_dry _ Γ this v6 0 M1 M26 v28 eM26) yk_X12_dry lk_X12_131 eu27 ⟨_, rfl, rfl⟩ rfl rfl (Nat.le_of_ble_eq_true rfl) hR ⟨(Nat.le_of_ble_eq_true rfl), (Nat.le_of_ble_eq_true rfl)⟩ ⟨(Nat.le_of_ble_eq_true rfl), (Nat.le_of_ble_eq_true rfl)⟩ dX12_sum_88) ?_
            refine g_goto hC 109 dX12_sum_91 (by decide) ?_
            refine g_sub [1] rfl ?_
            exact J16 v28 M26 h
      refine g_if_ne hC 53 dX12_sum_46 (by decide) (fun c29 => ?_) (fun c29 => ?_)
      · refine g_iload_n hC 0 dX12_sum_53 rfl ?_
        refine g_iconst hC 1 dX12_sum_54 (by decide) ?_
        refine g_icmp_ne hC 62 dX12_sum_55 (by decide) (fun c30 => ?_) (fun c30 => ?_)
        · refine g_iload_n hC 0 dX12_sum_62 rfl ?_
          refine g_iconst hC 2 dX12_sum_63 (by decide) ?_
          refine g_icmp_ne hC 71 dX12_sum_64 (by decide) (fun c31 => ?_) (fun c31 => ?_)
          · refine g_iconst hC 4 dX12_sum_71 (by decide) ?_
            rw [show v10 = _ from ev10.trans ((if_neg c29).trans ((if_neg c30).trans (if_neg c31)))] at J11
            exact J11
          · refine g_iconst hC 1 dX12_sum_67 (by decide) ?_
            refine g_goto hC 72 dX12_sum_68 (by decide) ?_
            rw [show v10 = _ from ev10.trans ((if_neg c29).trans ((if_neg c30).trans (if_pos c31)))] at J11
            exact J11
        · refine g_iconst hC 3 dX12_sum_58 (by decide) ?_
          refine g_goto hC 72 dX12_sum_59 (by decide) ?_
          rw [show v10 = _ from ev10.trans ((if_neg c29).trans (if_pos c30))] at J11
          exact J11
      · refine g_iconst hC 2 dX12_sum_49 (by decide) ?_
        refine g_goto hC 72 dX12_sum_50 (by decide) ?_
        rw [show v10 = _ from ev10.trans (if_pos c29)] at J11
        exact J11
    refine g_if_ne hC 33 dX12_sum_26 (by decide) (fun c32 => ?_) (fun c32 => ?_)
    · refine g_iload_n hC 0 dX12_sum_33 rfl ?_
      refine g_iconst hC 2 dX12_sum_34 (by decide) ?_
      refine g_icmp_ne hC 42 dX12_sum_35 (by decide) (fun c33 => ?_) (fun c33 => ?_)
      · refine g_iconst hC 1 dX12_sum_42 (by decide) ?_
        rw [show v8 = _ from ev8.trans ((if_neg c32).trans (if_neg c33))] at J9
        exact J9
      · refine g_iconst hC 3 dX12_sum_38 (by decide) ?_
        refine g_goto hC 43 dX12_sum_39 (by decide) ?_
        rw [show v8 = _ from ev8.trans ((if_neg c32).trans (if_pos c33))] at J9
        exact J9
    · refine g_iconst hC 2 dX12_sum_29 (by decide) ?_
      refine g_goto hC 43 dX12_sum_30 (by decide) ?_
      rw [show v8 = _ from ev8.trans (if_pos c32)] at J9
      exact J9
  · replace h := it_f c4 h
    refine g_aload_n hC 0 dX12_sum_8 rfl ?_
    refine g_iload_n hC 1 dX12_sum_9 rfl ?_
    replace h := ob h; obtain ⟨_, eu35, h⟩ := h
    replace h := ob h; obtain ⟨⟨v36, M34⟩, eM34, h⟩ := h
    refine g_calli hC (r_V hC (As := [.int p1]) (c_X12_lacksGlider _ Γ this p1 M1 M34 v36 eM34) yk_X12_lacksGlider lk_X12_286 eu35 ⟨_, rfl, rfl⟩ rfl rfl (Nat.le_of_ble_eq_true rfl) hR ⟨(Nat.le_of_ble_eq_true rfl), (Nat.le_of_ble_eq_true rfl)⟩ ⟨(Nat.le_of_ble_eq_true rfl), (Nat.le_of_ble_eq_true rfl)⟩ dX12_sum_10) ?_
    exact g_iret hC h ⟨(Nat.le_of_ble_eq_true rfl), (Nat.le_of_ble_eq_true rfl)⟩ dX12_sum_13

set_option maxHeartbeats 4000000 in
set_option maxRecDepth 100000 in
theorem c_X12_toss (l : Launch) (Γ : Gm) (this : Nat) (p1 : Int32) (M M' : Mm) (r : Int32) (h : F_X12_toss this p1 M = some (r, M')) : Met l yX12_toss (wz yX12_toss cX12_toss 2 (some .int)) ({ frames := 3, cells := 0, slots := 0, locals := 65 } : Room) (Pq Γ M [.ref this, .int p1]) (Qi Γ r M') 0 0 (fr Γ) := by
  refine met_of (own := RX12) (by decide +kernel) rfl (Nat.le_of_ble_eq_true rfl) ?_
  intro X hC hR hnm hXl
  unfold F_X12_toss at h
  show G Γ X 2 M 0 0 _ 0 ([(0, .ref this), (1, .int p1)]) []
  refine g_aload_n hC 0 dX12_toss_0 rfl ?_
  refine g_iload_n hC 1 dX12_toss_1 rfl ?_
  replace h := ob h; obtain ⟨_, eu2, h⟩ := h
  replace h := ob h; obtain ⟨⟨v3, M1⟩, eM1, h⟩ := h
  refine g_calli hC (r_V hC (As := [.int p1]) (c_X12_lacksGlider _ Γ this p1 M M1 v3 eM1) yk_X12_lacksGlider lk_X12_286 eu2 ⟨_, rfl, rfl⟩ rfl rfl (Nat.le_of_ble_eq_true rfl) hR ⟨(Nat.le_of_ble_eq_true rfl), (Nat.le_of_ble_eq_true rfl)⟩ ⟨(Nat.le_of_ble_eq_true rfl), (Nat.le_of_ble_eq_true rfl)⟩ dX12_toss_2) ?_
  refine g_if_eq hC 14 dX12_toss_5 (by decide) (fun c4 => ?_) (fun c4 => ?_)
  · replace h := it_t c4 h
    refine g_aload_n hC 0 dX12_toss_14 rfl ?_
    replace h := ob h; obtain ⟨v5, ev5, h⟩ := h
    refine g_getR hC ev5 fk_X12_99 rfl dX12_toss_15 ?_
    refine g_iload_n hC 1 dX12_toss_18 rfl ?_
    replace h := ob h; obtain ⟨a7, ea7, h⟩ := h
    subst ea7
    replace h := ob h; obtain ⟨v6, ev6, h⟩ := h
    refine g_iald hC ev6 dX12_toss_19 ?_
    refine g_if_eq hC 32 dX12_toss_20 (by decide) (fun c8 => ?_) (fun c8 => ?_)
    · replace h := it_t c8 h
      refine g_bipush hC (-15) dX12_toss_32 (by decide) ?_
      exact g_iret hC h ⟨(Nat.le_of_ble_eq_true rfl), (Nat.le_of_ble_eq_true rfl)⟩ dX12_toss_34
    · replace h := it_f c8 h
      refine g_aload_n hC 0 dX12_toss_23 rfl ?_
      replace h := ob h; obtain ⟨v9, ev9, h⟩ := h
      refine g_getR hC ev9 fk_X12_108 rfl dX12_toss_24 ?_
      refine g_iload_n hC 1 dX12_toss_27 rfl ?_
      replace h := ob h; obtain ⟨a11, ea11, h⟩ := h
      subst ea11
      replace h := ob h; obtain ⟨v10, ev10, h⟩ := h
      refine g_iald hC ev10 dX12_toss_28 ?_
      refine g_if_eq hC 35 dX12_toss_29 (by decide) (fun c12 => ?_) (fun c12 => ?_)
      · replace h := it_t c12 h
        refine g_aload_n hC 0 dX12_toss_35 rfl ?_
        replace h := ob h; obtain ⟨v13, ev13, h⟩ := h
        refine g_getR hC ev13 fk_X12_102 rfl dX12_toss_36 ?_
        refine g_iload_n hC 1 dX12_toss_39 rfl ?_
        replace h := ob h; obtain ⟨a15, ea15, h⟩ := h
        subst ea15
        replace h := ob h; obtain ⟨v14, ev14, h⟩ := h
        refine g_iald hC ev14 dX12_toss_40 ?_
        refine g_aload_n hC 0 dX12_toss_41 rfl ?_
        replace h := ob h; obtain ⟨v16, ev16, h⟩ := h
        refine g_getR hC ev16 fk_X12_99 rfl dX12_toss_42 ?_
        refine g_iload_n hC 1 dX12_toss_45 rfl ?_
        replace h := ob h; obtain ⟨a18, ea18, h⟩ := h
        subst ea18
        replace h := ob h; obtain ⟨v17, ev17, h⟩ := h
        refine g_iald hC ev17 dX12_toss_46 ?_
        refine g_iconst hC 3 dX12_toss_47 (by decide) ?_
        replace h := nv_e h; obtain ⟨v19, ev19, h⟩ := h
        have J20 : G Γ X 2 M1 0 0 (Fin Γ X (Qi Γ r M') 0 0) 57 ([(0, .ref this), (1, .int p1)]) ([.int v19, .int v14]) := by
          refine g_iadd hC dX12_toss_57 ?_
          exact g_iret hC h ⟨(Nat.le_of_ble_eq_true rfl), (Nat.le_of_ble_eq_true rfl)⟩ dX12_toss_58
        refine g_icmp_ne hC 56 dX12_toss_48 (by decide) (fun c21 => ?_) (fun c21 => ?_)
        · refine g_iconst hC 0 dX12_toss_56 (by decide) ?_
          rw [show v19 = _ from ev19.trans (if_neg c21)] at J20
          exact J20
        · refine g_bipush hC 100 dX12_toss_51 (by decide) ?_
          refine g_goto hC 57 dX12_toss_53 (by decide) ?_
          rw [show v19 = _ from ev19.trans (if_pos c21)] at J20
          exact J20
      · replace h := it_f c12 h
        refine g_bipush hC (-15) dX12_toss_32 (by decide) ?_
        exact g_iret hC h ⟨(Nat.le_of_ble_eq_true rfl), (Nat.le_of_ble_eq_true rfl)⟩ dX12_toss_34
  · replace h := it_f c4 h
    refine g_aload_n hC 0 dX12_toss_8 rfl ?_
    refine g_iload_n hC 1 dX12_toss_9 rfl ?_
    replace h := ob h; obtain ⟨_, eu23, h⟩ := h
    replace h := ob h; obtain ⟨⟨v24, M22⟩, eM22, h⟩ := h
    refine g_calli hC (r_V hC (As := [.int p1]) (c_X12_lacksGlider _ Γ this p1 M1 M22 v24 eM22) yk_X12_lacksGlider lk_X12_286 eu23 ⟨_, rfl, rfl⟩ rfl rfl (Nat.le_of_ble_eq_true rfl) hR ⟨(Nat.le_of_ble_eq_true rfl), (Nat.le_of_ble_eq_true rfl)⟩ ⟨(Nat.le_of_ble_eq_true rfl), (Nat.le_of_ble_eq_true rfl)⟩ dX12_toss_10) ?_
    exact g_iret hC h ⟨(Nat.le_of_ble_eq_true rfl), (Nat.le_of_ble_eq_true rfl)⟩ dX12_toss_13
