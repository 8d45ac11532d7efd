set_option maxHeartbeats 4000000 in
set_option maxRecDepth 100000 in
theorem c_X12_rule (l : Launch) (Γ : Gm) (this : Nat) (p1 : Int32) (M M' : Mm) (r : Int32) (h : F_X12_rule this p1 M = some (r, M')) : Met l yX12_rule (wz yX12_rule cX12_rule 2 (some .int)) ({ frames := 5, cells := 0, slots := 0, locals := 116 } : Room) (Pq Γ M [.ref this, .int p1]) (Qi Γ r M') 0 0 (fr Γ) := by
  refine met_of (own := RX12) (by decide +kernel) rfl (Nat.le_of_ble_eq_true rfl) ?_
  intro X hC hR hnm hXl
  unfold F_X12_rule at h
  show G Γ X 2 M 0 0 _ 0 ([(0, .ref this), (1, .int p1)]) []
  refine g_aload_n hC 0 dX12_rule_0 rfl ?_
  refine g_iload_n hC 1 dX12_rule_1 rfl ?_
  replace h := ob h; obtain ⟨_, eu2, h⟩ := h
  replace h := ob h; obtain ⟨⟨v3, M1⟩, eM1, h⟩ := h
  refine g_calli hC (r_V hC (As := [.int p1]) (c_X12_isGlider _ Γ this p1 M M1 v3 eM1) yk_X12_isGlider lk_X12_142 eu2 ⟨_, rfl, rfl⟩ rfl rfl (Nat.le_of_ble_eq_true rfl) hR ⟨(Nat.le_of_ble_eq_true rfl), (Nat.le_of_ble_eq_true rfl)⟩ ⟨(Nat.le_of_ble_eq_true rfl), (Nat.le_of_ble_eq_true rfl)⟩ dX12_rule_2) ?_
  refine g_if_ne hC 10 dX12_rule_5 (by decide) (fun c4 => ?_) (fun c4 => ?_)
  · replace h := it_f c4 h
    refine g_aload_n hC 0 dX12_rule_10 rfl ?_
    refine g_iload_n hC 1 dX12_rule_11 rfl ?_
    replace h := ob h; obtain ⟨_, eu6, h⟩ := h
    replace h := ob h; obtain ⟨⟨v7, M5⟩, eM5, h⟩ := h
    refine g_calli hC (r_V hC (As := [.int p1]) (c_X12_isUp _ Γ this p1 M1 M5 v7 eM5) yk_X12_isUp lk_X12_187 eu6 ⟨_, rfl, rfl⟩ rfl rfl (Nat.le_of_ble_eq_true rfl) hR ⟨(Nat.le_of_ble_eq_true rfl), (Nat.le_of_ble_eq_true rfl)⟩ ⟨(Nat.le_of_ble_eq_true rfl), (Nat.le_of_ble_eq_true rfl)⟩ dX12_rule_12) ?_
    refine g_if_eq hC 31 dX12_rule_15 (by decide) (fun c8 => ?_) (fun c8 => ?_)
    · replace h := it_t c8 h
      refine g_bipush hC (-3) dX12_rule_31 (by decide) ?_
      exact g_iret hC h ⟨(Nat.le_of_ble_eq_true rfl), (Nat.le_of_ble_eq_true rfl)⟩ dX12_rule_33
    · replace h := it_f c8 h
      refine g_aload_n hC 0 dX12_rule_18 rfl ?_
      replace h := ob h; obtain ⟨v9, ev9, h⟩ := h
      refine g_getR hC ev9 fk_X12_13 rfl dX12_rule_19 ?_
      refine g_sipush hC 2226 dX12_rule_22 (by decide) ?_
      refine g_iload_n hC 1 dX12_rule_25 rfl ?_
      refine g_iadd hC dX12_rule_26 ?_
      replace h := ob h; obtain ⟨a11, ea11, h⟩ := h
      subst ea11
      replace h := ob h; obtain ⟨v10, ev10, h⟩ := h
      refine g_iald hC ev10 dX12_rule_27 ?_
      refine g_if_ge hC 34 dX12_rule_28 (by decide) (fun c12 => ?_) (fun c12 => ?_)
      · replace h := it_t c12 h
        refine g_aload_n hC 0 dX12_rule_34 rfl ?_
        refine g_aload_n hC 0 dX12_rule_35 rfl ?_
        replace h := ob h; obtain ⟨v13, ev13, h⟩ := h
        refine g_getR hC ev13 fk_X12_13 rfl dX12_rule_36 ?_
        refine g_sipush hC 2226 dX12_rule_39 (by decide) ?_
        refine g_iload_n hC 1 dX12_rule_42 rfl ?_
        refine g_iadd hC dX12_rule_43 ?_
        replace h := ob h; obtain ⟨a15, ea15, h⟩ := h
        subst ea15
        replace h := ob h; obtain ⟨v14, ev14, h⟩ := h
        refine g_iald hC ev14 dX12_rule_44 ?_
        refine g_iload_n hC 1 dX12_rule_45 rfl ?_
        replace h := ob h; obtain ⟨_, eu17, h⟩ := h
        replace h := ob h; obtain ⟨⟨v18, M16⟩, eM16, h⟩ := h
        refine g_calli hC (r_V hC (As := [.int v14, .int p1]) (c_X12_goesOrder _ Γ this v14 p1 M5 M16 v18 eM16) yk_X12_goesOrder lk_X12_222 eu17 ⟨_, rfl, rfl⟩ rfl rfl (Nat.le_of_ble_eq_true rfl) hR ⟨(Nat.le_of_ble_eq_true rfl), (Nat.le_of_ble_eq_true rfl)⟩ ⟨(Nat.le_of_ble_eq_true rfl), (Nat.le_of_ble_eq_true rfl)⟩ dX12_rule_46) ?_
        refine g_if_eq hC 59 dX12_rule_49 (by decide) (fun c19 => ?_) (fun c19 => ?_)
        · replace h := it_t c19 h
          refine g_bipush hC (-4) dX12_rule_59 (by decide) ?_
          exact g_iret hC h ⟨(Nat.le_of_ble_eq_true rfl), (Nat.le_of_ble_eq_true rfl)⟩ dX12_rule_61
        · replace h := it_f c19 h
          refine g_aload_n hC 0 dX12_rule_52 rfl ?_
          replace h := ob h; obtain ⟨v20, ev20, h⟩ := h
          refine g_getI hC ev20 fk_X12_60 rfl dX12_rule_53 ?_
          refine g_goto hC 61 dX12_rule_56 (by decide) ?_
          exact g_iret hC h ⟨(Nat.le_of_ble_eq_true rfl), (Nat.le_of_ble_eq_true rfl)⟩ dX12_rule_61
      · replace h := it_f c12 h
        refine g_bipush hC (-3) dX12_rule_31 (by decide) ?_
        exact g_iret hC h ⟨(Nat.le_of_ble_eq_true rfl), (Nat.le_of_ble_eq_true rfl)⟩ dX12_rule_33
  · replace h := it_t c4 h
    refine g_iconst hC (-1) dX12_rule_8 (by decide) ?_
    exact g_iret hC h ⟨(Nat.le_of_ble_eq_true rfl), (Nat.le_of_ble_eq_true rfl)⟩ dX12_rule_9

set_option maxHeartbeats 4000000 in
set_option maxRecDepth 100000 in
theorem l_X12_hears_L63 {Γ : Gm} {X : Ct} (hC : Cx Γ X cX12_hears RX12 none 3) (hR : X.2.2.2.1 = ({ frames := 0, cells := 0, slots := 0, locals := 0 } : Room)) (M' : Mm)  (x0 : Nat) (x1 : Int32) : ∀ (fu : Nat) (x2 : Int32) (M0 : Mm), F_X12_hears_L63 x0 x1 fu x2 M0 = some M' → G Γ X 3 M0 0 0 (Fin Γ X (Qv Γ M') 0 0) 63 ([(0, .ref x0), (1, .int x1), (2, .int x2)]) [] := by
  intro fu
  induction fu with
  | zero =>
    intro x2 M0 h
    rw [F_X12_hears_L63] at h
    cases h
  | succ n19 ih =>
    intro x2 M0 h
    rw [F_X12_hears_L63] at h
    refine g_iload_n hC 2 dX12_hears_63 rfl ?_
    refine g_aload_n hC 0 dX12_hears_64 rfl ?_
    replace h := ob h; obtain ⟨v20, ev20, h⟩ := h
    refine g_getR hC ev20 fk_X12_13 rfl dX12_hears_65 ?_
    refine g_iconst hC 3 dX12_hears_68 (by decide) ?_
    replace h := ob h; obtain ⟨a22, ea22, h⟩ := h
    subst ea22
    replace h := ob h; obtain ⟨v21, ev21, h⟩ := h
    refine g_iald hC ev21 dX12_hears_69 ?_
    refine g_icmp_ge hC 160 dX12_hears_70 (by decide) (fun c23 => ?_) (fun c23 => ?_)
    · replace h := it_t c23 h
      exact g_vret hC h ⟨(Nat.le_of_ble_eq_true rfl), (Nat.le_of_ble_eq_true rfl)⟩ dX12_hears_160
    · replace h := it_f c23 h
      refine g_aload_n hC 0 dX12_hears_73 rfl ?_
      replace h := ob h; obtain ⟨v24, ev24, h⟩ := h
      refine g_getR hC ev24 fk_X12_13 rfl dX12_hears_74 ?_
      refine g_sipush hC 3710 dX12_hears_77 (by decide) ?_
      refine g_iload_n hC 2 dX12_hears_80 rfl ?_
      refine g_iadd hC dX12_hears_81 ?_
      replace h := ob h; obtain ⟨a26, ea26, h⟩ := h
      subst ea26
      replace h := ob h; obtain ⟨v25, ev25, h⟩ := h
      refine g_iald hC ev25 dX12_hears_82 ?_
      refine g_iload_n hC 1 dX12_hears_83 rfl ?_
      refine g_icmp_ne hC 154 dX12_hears_84 (by decide) (fun c27 => ?_) (fun c27 => ?_)
      · replace h := it_f c27 h
        refine g_iinc hC 2 (x2 + 1) ([(2, .int (x2 + 1)), (0, .ref x0), (1, .int x1)]) dX12_hears_154 rfl rfl (by decide) rfl ?_
        refine g_goto hC 63 dX12_hears_157 (by decide) ?_
        refine g_sub [1, 2, 0] rfl ?_
        exact ih (x2 + 1) M0 h
      · replace h := it_t c27 h
        refine g_aload_n hC 0 dX12_hears_87 rfl ?_
        replace h := ob h; obtain ⟨v28, ev28, h⟩ := h
        refine g_getR hC ev28 fk_X12_13 rfl dX12_hears_88 ?_
        refine g_sipush hC 3890 dX12_hears_91 (by decide) ?_
        refine g_iload_n hC 2 dX12_hears_94 rfl ?_
        refine g_iadd hC dX12_hears_95 ?_
        replace h := ob h; obtain ⟨a30, ea30, h⟩ := h
        subst ea30
        replace h := ob h; obtain ⟨v29, ev29, h⟩ := h
        refine g_iald hC ev29 dX12_hears_96 ?_
        refine g_iconst hC 1 dX12_hears_97 (by decide) ?_
        refine g_icmp_eq hC 154 dX12_hears_98 (by decide) (fun c31 => ?_) (fun c31 => ?_)
        · replace h := it_t c31 h
          refine g_iinc hC 2 (x2 + 1) ([(2, .int (x2 + 1)), (0, .ref x0), (1, .int x1)]) dX12_hears_154 rfl rfl (by decide) rfl ?_
          refine g_goto hC 63 dX12_hears_157 (by decide) ?_
          refine g_sub [1, 2, 0] rfl ?_
          exact ih (x2 + 1) M0 h
        · replace h := it_f c31 h
          refine g_aload_n hC 0 dX12_hears_101 rfl ?_
          replace h := ob h; obtain ⟨v32, ev32, h⟩ := h
          refine g_getR hC ev32 fk_X12_13 rfl dX12_hears_102 ?_
          refine g_sipush hC 3830 dX12_hears_105 (by decide) ?_
          refine g_iload_n hC 2 dX12_hears_108 rfl ?_
          refine g_iadd hC dX12_hears_109 ?_
          replace h := ob h; obtain ⟨a34, ea34, h⟩ := h
          subst ea34
          replace h := ob h; obtain ⟨v33, ev33, h⟩ := h
          refine g_iald hC ev33 dX12_hears_110 ?_
          refine g_aload_n hC 0 dX12_hears_111 rfl ?_
          replace h := ob h; obtain ⟨v35, ev35, h⟩ := h
          refine g_getR hC ev35 fk_X12_13 rfl dX12_hears_112 ?_
          refine g_iconst hC 1 dX12_hears_115 (by decide) ?_
          replace h := ob h; obtain ⟨a37, ea37, h⟩ := h
          subst ea37
          replace h := ob h; obtain ⟨v36, ev36, h⟩ := h
          refine g_iald hC ev36 dX12_hears_116 ?_
          refine g_icmp_lt hC 123 dX12_hears_117 (by decide) (fun c38 => ?_) (fun c38 => ?_)
          · replace h := it_t c38 h
            refine g_aload_n hC 0 dX12_hears_123 rfl ?_
            replace h := ob h; obtain ⟨v39, ev39, h⟩ := h
            refine g_getR hC ev39 fk_X12_13 rfl dX12_hears_124 ?_
            refine g_sipush hC 3890 dX12_hears_127 (by decide) ?_
            refine g_iload_n hC 2 dX12_hears_130 rfl ?_
            refine g_iadd hC dX12_hears_131 ?_
            refine g_iconst hC 1 dX12_hears_132 (by decide) ?_
            replace h := ob h; obtain ⟨a41, ea41, h⟩ := h
            subst ea41
            replace h := ob h; obtain ⟨M40, eM40, h⟩ := h
            refine g_iast hC eM40 dX12_hears_133 ?_
            refine g_aload_n hC 0 dX12_hears_134 rfl ?_
            replace h := ob h; obtain ⟨v42, ev42, h⟩ := h
            refine g_getR hC ev42 fk_X12_13 rfl dX12_hears_135 ?_
            refine g_sipush hC 2226 dX12_hears_138 (by decide) ?_
            refine g_iload_n hC 1 dX12_hears_141 rfl ?_
            refine g_iadd hC dX12_hears_142 ?_
            refine g_aload_n hC 0 dX12_hears_143 rfl ?_
            replace h := ob h; obtain ⟨v43, ev43, h⟩ := h
            refine g_getR hC ev43 fk_X12_13 rfl dX12_hears_144 ?_
            refine g_sipush hC 3770 dX12_hears_147 (by decide) ?_
            refine g_iload_n hC 2 dX12_hears_150 rfl ?_
            refine g_iadd hC dX12_hears_151 ?_
            replace h := ob h; obtain ⟨a45, ea45, h⟩ := h
            subst ea45
            replace h := ob h; obtain ⟨v44, ev44, h⟩ := h
            refine g_iald hC ev44 dX12_hears_152 ?_
            replace h := ob h; obtain ⟨a47, ea47, h⟩ := h
            subst ea47
            replace h := ob h; obtain ⟨M46, eM46, h⟩ := h
            refine g_iast hC eM46 dX12_hears_153 ?_
            refine g_iinc hC 2 (x2 + 1) ([(2, .int (x2 + 1)), (0, .ref x0), (1, .int x1)]) dX12_hears_154 rfl rfl (by decide) rfl ?_
            refine g_goto hC 63 dX12_hears_157 (by decide) ?_
            refine g_sub [1, 2, 0] rfl ?_
            exact ih (x2 + 1) M46 h
          · replace h := it_f c38 h
            refine g_goto hC 154 dX12_hears_120 (by decide) ?_
            refine g_iinc hC 2 (x2 + 1) ([(2, .int (x2 + 1)), (0, .ref x0), (1, .int x1)]) dX12_hears_154 rfl rfl (by decide) rfl ?_
            refine g_goto hC 63 dX12_hears_157 (by decide) ?_
            refine g_sub [1, 2, 0] rfl ?_
            exact ih (x2 + 1) M0 h
set_option maxHeartbeats 4000000 in
set_option maxRecDepth 100000 in
theorem c_X12_hears (l : Launch) (Γ : Gm) (this : Nat) (p1 : Int32) (M M' : Mm) (h : F_X12_hears this p1 M = some M') : Met l yX12_hears (wz yX12_hears cX12_hears 3 none) ({ frames := 0, cells := 0, slots := 0, locals := 0 } : Room) (Pq Γ M [.ref this, .int p1]) (Qv Γ M') 0 0 (fr Γ) := by
  refine met_of (own := RX12) (by decide +kernel) rfl (Nat.le_of_ble_eq_true rfl) ?_
  intro X hC hR hnm hXl
  unfold F_X12_hears at h
  show G Γ X 3 M 0 0 _ 0 ([(0, .ref this), (1, .int p1)]) []
  refine g_aload_n hC 0 dX12_hears_0 rfl ?_
  replace h := ob h; obtain ⟨v1, ev1, h⟩ := h
  refine g_getR hC ev1 fk_X12_13 rfl dX12_hears_1 ?_
  refine g_sipush hC 2234 dX12_hears_4 (by decide) ?_
  refine g_iload_n hC 1 dX12_hears_7 rfl ?_
  refine g_iadd hC dX12_hears_8 ?_
  refine g_aload_n hC 0 dX12_hears_9 rfl ?_
  replace h := ob h; obtain ⟨v2, ev2, h⟩ := h
  refine g_getR hC ev2 fk_X12_13 rfl dX12_hears_10 ?_
  refine g_iconst hC 1 dX12_hears_13 (by decide) ?_
  replace h := ob h; obtain ⟨a4, ea4, h⟩ := h
  subst ea4
  replace h := ob h; obtain ⟨v3, ev3, h⟩ := h
  refine g_iald hC ev3 dX12_hears_14 ?_
  replace h := ob h; obtain ⟨a6, ea6, h⟩ := h
  subst ea6
  replace h := ob h; obtain ⟨M5, eM5, h⟩ := h
  refine g_iast hC eM5 dX12_hears_15 ?_
  refine g_aload_n hC 0 dX12_hears_16 rfl ?_
  replace h := ob h; obtain ⟨v7, ev7, h⟩ := h
  refine g_getR hC ev7 fk_X12_13 rfl dX12_hears_17 ?_
  refine g_sipush hC 4351 dX12_hears_20 (by decide) ?_
  refine g_sipush hC 401 dX12_hears_23 (by decide) ?_
  refine g_iload_n hC 1 dX12_hears_26 rfl ?_
  refine g_imul hC dX12_hears_27 ?_
  refine g_iadd hC dX12_hears_28 ?_
  refine g_aload_n hC 0 dX12_hears_29 rfl ?_
  replace h := ob h; obtain ⟨v8, ev8, h⟩ := h
  refine g_getR hC ev8 fk_X12_13 rfl dX12_hears_30 ?_
  refine g_iconst hC 1 dX12_hears_33 (by decide) ?_
  replace h := ob h; obtain ⟨a10, ea10, h⟩ := h
  subst ea10
  replace h := ob h; obtain ⟨v9, ev9, h⟩ := h
  refine g_iald hC ev9 dX12_hears_34 ?_
  refine g_iadd hC dX12_hears_35 ?_
  refine g_bipush hC 8 dX12_hears_36 (by decide) ?_
  refine g_aload_n hC 0 dX12_hears_38 rfl ?_
  replace h := ob h; obtain ⟨v11, ev11, h⟩ := h
  refine g_getR hC ev11 fk_X12_13 rfl dX12_hears_39 ?_
  refine g_sipush hC 2178 dX12_hears_42 (by decide) ?_
  refine g_iload_n hC 1 dX12_hears_45 rfl ?_
  refine g_iadd hC dX12_hears_46 ?_
  replace h := ob h; obtain ⟨a13, ea13, h⟩ := h
  subst ea13
  replace h := ob h; obtain ⟨v12, ev12, h⟩ := h
  refine g_iald hC ev12 dX12_hears_47 ?_
  refine g_imul hC dX12_hears_48 ?_
  refine g_aload_n hC 0 dX12_hears_49 rfl ?_
  replace h := ob h; obtain ⟨v14, ev14, h⟩ := h
  refine g_getR hC ev14 fk_X12_13 rfl dX12_hears_50 ?_
  refine g_sipush hC 2186 dX12_hears_53 (by decide) ?_
  refine g_iload_n hC 1 dX12_hears_56 rfl ?_
  refine g_iadd hC dX12_hears_57 ?_
  replace h := ob h; obtain ⟨a16, ea16, h⟩ := h
  subst ea16
  replace h := ob h; obtain ⟨v15, ev15, h⟩ := h
  refine g_iald hC ev15 dX12_hears_58 ?_
  refine g_iadd hC dX12_hears_59 ?_
  replace h := ob h; obtain ⟨a18, ea18, h⟩ := h
  subst ea18
  replace h := ob h; obtain ⟨M17, eM17, h⟩ := h
  refine g_iast hC eM17 dX12_hears_60 ?_
  refine g_iconst hC 0 dX12_hears_61 (by decide) ?_
  refine g_istore_n hC ([(2, .int 0), (0, .ref this), (1, .int p1)]) dX12_hears_62 (by decide) rfl ?_
  refine g_sub [1, 2, 0] rfl ?_
  refine l_X12_hears_L63 hC hR M'  _ _  _ _ _ h

set_option maxHeartbeats 4000000 in
set_option maxRecDepth 100000 in
theorem c_X12_cut (l : Launch) (Γ : Gm) (this : Nat) (p1 : Int32) (p2 : Int32) (M M' : Mm) (r : Int32) (h : F_X12_cut this p1 p2 M = some (r, M')) : Met l yX12_cut (wz yX12_cut cX12_cut 3 (some .int)) ({ frames := 0, cells := 0, slots := 0, locals := 0 } : Room) (Pq Γ M [.ref this, .int p1, .int p2]) (Qi Γ r M') 0 0 (fr Γ) := by
  refine met_of (own := RX12) (by decide +kernel) rfl (Nat.le_of_ble_eq_true rfl) ?_
  intro X hC hR hnm hXl
  unfold F_X12_cut at h
  show G Γ X 3 M 0 0 _ 0 ([(0, .ref this), (1, .int p1), (2, .int p2)]) []
  refine g_iload_n hC 1 dX12_cut_0 rfl ?_
  refine g_iload_n hC 2 dX12_cut_1 rfl ?_
  refine g_icmp_le hC 9 dX12_cut_2 (by decide) (fun c1 => ?_) (fun c1 => ?_)
  · replace h := it_t c1 h
    refine g_iload_n hC 1 dX12_cut_9 rfl ?_
    refine g_iload_n hC 2 dX12_cut_10 rfl ?_
    refine g_ineg hC dX12_cut_11 ?_
    refine g_icmp_ge hC 20 dX12_cut_12 (by decide) (fun c2 => ?_) (fun c2 => ?_)
    · replace h := it_t c2 h
      refine g_iload_n hC 1 dX12_cut_20 rfl ?_
      exact g_iret hC h ⟨(Nat.le_of_ble_eq_true rfl), (Nat.le_of_ble_eq_true rfl)⟩ dX12_cut_21
    · replace h := it_f c2 h
      refine g_iload_n hC 2 dX12_cut_15 rfl ?_
      refine g_ineg hC dX12_cut_16 ?_
      refine g_goto hC 21 dX12_cut_17 (by decide) ?_
      exact g_iret hC h ⟨(Nat.le_of_ble_eq_true rfl), (Nat.le_of_ble_eq_true rfl)⟩ dX12_cut_21
  · replace h := it_f c1 h
    refine g_iload_n hC 2 dX12_cut_5 rfl ?_
    refine g_goto hC 21 dX12_cut_6 (by decide) ?_
    exact g_iret hC h ⟨(Nat.le_of_ble_eq_true rfl), (Nat.le_of_ble_eq_true rfl)⟩ dX12_cut_21

set_option maxHeartbeats 4000000 in
set_option maxRecDepth 100000 in
theorem c_X12_acts (l : Launch) (Γ : Gm) (this : Nat) (p1 : Int32) (M M' : Mm) (r : Int32) (h : F_X12_acts this p1 M = some (r, M')) : Met l yX12_acts (wz yX12_acts cX12_acts 5 (some .boolean)) ({ frames := 7, cells := 0, slots := 0, locals := 167 } : Room) (Pq Γ M [.ref this, .int p1]) (Qi Γ r M') 0 0 (fr Γ) := by
  refine met_of (own := RX12) (by decide +kernel) rfl (Nat.le_of_ble_eq_true rfl) ?_
  intro X hC hR hnm hXl
  unfold F_X12_acts at h
  show G Γ X 5 M 0 0 _ 0 ([(0, .ref this), (1, .int p1)]) []
  refine g_aload_n hC 0 dX12_acts_0 rfl ?_
  replace h := ob h; obtain ⟨v1, ev1, h⟩ := h
  refine g_getR hC ev1 fk_X12_13 rfl dX12_acts_1 ?_
  refine g_sipush hC 2226 dX12_acts_4 (by decide) ?_
  refine g_iload_n hC 1 dX12_acts_7 rfl ?_
  refine g_iadd hC dX12_acts_8 ?_
  replace h := ob h; obtain ⟨a3, ea3, h⟩ := h
  subst ea3
  replace h := ob h; obtain ⟨v2, ev2, h⟩ := h
  refine g_iald hC ev2 dX12_acts_9 ?_
  refine g_if_lt hC 47 dX12_acts_10 (by decide) (fun c4 => ?_) (fun c4 => ?_)
  · replace h := it_t c4 h
    refine g_iconst hC 0 dX12_acts_47 (by decide) ?_
    exact g_zret hC (by decide) h ⟨(Nat.le_of_ble_eq_true rfl), (Nat.le_of_ble_eq_true rfl)⟩ dX12_acts_48
  · replace h := it_f c4 h
    refine g_aload_n hC 0 dX12_acts_13 rfl ?_
    refine g_aload_n hC 0 dX12_acts_14 rfl ?_
    replace h := ob h; obtain ⟨v5, ev5, h⟩ := h
    refine g_getR hC ev5 fk_X12_13 rfl dX12_acts_15 ?_
    refine g_sipush hC 2226 dX12_acts_18 (by decide) ?_
    refine g_iload_n hC 1 dX12_acts_21 rfl ?_
    refine g_iadd hC dX12_acts_22 ?_
    replace h := ob h; obtain ⟨a7, ea7, h⟩ := h
    subst ea7
    replace h := ob h; obtain ⟨v6, ev6, h⟩ := h
    refine g_iald hC ev6 dX12_acts_23 ?_
    refine g_iload_n hC 1 dX12_acts_24 rfl ?_
    replace h := ob h; obtain ⟨_, eu9, h⟩ := h
    replace h := ob h; obtain ⟨⟨v10, M8⟩, eM8, h⟩ := h
    refine g_calli hC (r_V hC (As := [.int v6, .int p1]) (c_X12_goesOrder _ Γ this v6 p1 M M8 v10 eM8) yk_X12_goesOrder lk_X12_222 eu9 ⟨_, rfl, rfl⟩ rfl rfl (Nat.le_of_ble_eq_true rfl) hR ⟨(Nat.le_of_ble_eq_true rfl), (Nat.le_of_ble_eq_true rfl)⟩ ⟨(Nat.le_of_ble_eq_true rfl), (Nat.le_of_ble_eq_true rfl)⟩ dX12_acts_25) ?_
    refine g_if_eq hC 47 dX12_acts_28 (by decide) (fun c11 => ?_) (fun c11 => ?_)
    · replace h := it_t c11 h
      refine g_iconst hC 0 dX12_acts_47 (by decide) ?_
      exact g_zret hC (by decide) h ⟨(Nat.le_of_ble_eq_true rfl), (Nat.le_of_ble_eq_true rfl)⟩ dX12_acts_48
    · replace h := it_f c11 h
      refine g_aload_n hC 0 dX12_acts_31 rfl ?_
      replace h := ob h; obtain ⟨v12, ev12, h⟩ := h
      refine g_getI hC ev12 fk_X12_60 rfl dX12_acts_32 ?_
      refine g_if_lt hC 47 dX12_acts_35 (by decide) (fun c13 => ?_) (fun c13 => ?_)
      · replace h := it_t c13 h
        refine g_iconst hC 0 dX12_acts_47 (by decide) ?_
        exact g_zret hC (by decide) h ⟨(Nat.le_of_ble_eq_true rfl), (Nat.le_of_ble_eq_true rfl)⟩ dX12_acts_48
      · replace h := it_f c13 h
        refine g_aload_n hC 0 dX12_acts_38 rfl ?_
        replace h := ob h; obtain ⟨v14, ev14, h⟩ := h
        refine g_getI hC ev14 fk_X12_63 rfl dX12_acts_39 ?_
        refine g_bipush hC 117 dX12_acts_42 (by decide) ?_
        refine g_icmp_ne hC 49 dX12_acts_44 (by decide) (fun c15 => ?_) (fun c15 => ?_)
        · replace h := it_f c15 h
          refine g_aload_n hC 0 dX12_acts_49 rfl ?_
          refine g_iload_n hC 1 dX12_acts_50 rfl ?_
          refine g_aload_n hC 0 dX12_acts_51 rfl ?_
          replace h := ob h; obtain ⟨v16, ev16, h⟩ := h
          refine g_getI hC ev16 fk_X12_72 rfl dX12_acts_52 ?_
          replace h := ob h; obtain ⟨_, eu18, h⟩ := h
          replace h := ob h; obtain ⟨⟨v19, M17⟩, eM17, h⟩ := h
          refine g_calli hC (r_V hC (As := [.int p1, .int v16]) (c_X12_layerFor _ Γ this p1 v16 M8 M17 v19 eM17) yk_X12_layerFor lk_X12_225 eu18 ⟨_, rfl, rfl⟩ rfl rfl (Nat.le_of_ble_eq_true rfl) hR ⟨(Nat.le_of_ble_eq_true rfl), (Nat.le_of_ble_eq_true rfl)⟩ ⟨(Nat.le_of_ble_eq_true rfl), (Nat.le_of_ble_eq_true rfl)⟩ dX12_acts_55) ?_
          refine g_istore_n hC ([(2, .int v19), (0, .ref this), (1, .int p1)]) dX12_acts_58 (by decide) rfl ?_
          refine g_aload_n hC 1 dX12_acts_59 rfl ?_
          replace h := ob h; obtain ⟨v20, ev20, h⟩ := h
          refine g_getR hC ev20 fk_X12_13 rfl dX12_acts_60 ?_
          refine g_sipush hC 2194 dX12_acts_63 (by decide) ?_
          refine g_iload_n hC 2 dX12_acts_66 rfl ?_
          refine g_iadd hC dX12_acts_67 ?_
          replace h := ob h; obtain ⟨a22, ea22, h⟩ := h
          subst ea22
          replace h := ob h; obtain ⟨v21, ev21, h⟩ := h
          refine g_iald hC ev21 dX12_acts_68 ?_
          refine g_aload_n hC 1 dX12_acts_69 rfl ?_
          refine g_iload_n hC 2 dX12_acts_70 rfl ?_
          refine g_iload_n hC 0 dX12_acts_71 rfl ?_
          replace h := ob h; obtain ⟨_, eu24, h⟩ := h
          replace h := ob h; obtain ⟨⟨v25, M23⟩, eM23, h⟩ := h
          refine g_calli hC (r_V hC (As := [.int p1, .int v19]) (c_X12_cost _ Γ this p1 v19 M17 M23 v25 eM23) yk_X12_cost lk_X12_149 eu24 ⟨_, rfl, rfl⟩ rfl rfl (Nat.le_of_ble_eq_true rfl) hR ⟨(Nat.le_of_ble_eq_true rfl), (Nat.le_of_ble_eq_true rfl)⟩ ⟨(Nat.le_of_ble_eq_true rfl), (Nat.le_of_ble_eq_true rfl)⟩ dX12_acts_72) ?_
          refine g_icmp_ge hC 80 dX12_acts_75 (by decide) (fun c26 => ?_) (fun c26 => ?_)
          · replace h := it_t c26 h
            refine g_aload_n hC 1 dX12_acts_80 rfl ?_
            replace h := ob h; obtain ⟨v27, ev27, h⟩ := h
            refine g_getI hC ev27 fk_X12_63 rfl dX12_acts_81 ?_
            refine g_bipush hC 115 dX12_acts_84 (by decide) ?_
            replace h := jp_e h; obtain ⟨k28, ek28, h⟩ := h
            have J53 : ∀ (s29 : Int32) (M30 : Mm), k28 s29 M30 = some (r, M') → G Γ X 5 M30 0 0 (Fin Γ X (Qi Γ r M') 0 0) 117 ([(0, .ref this), (1, .int p1), (2, .int v19)]) ([.int s29]) := by
              intro s29 M30 h
              rw [ek28] at h
              refine g_istore_n hC ([(3, .int s29), (0, .ref this), (1, .int p1), (2, .int v19)]) dX12_acts_117 (by decide) rfl ?_
              refine g_aload_n hC 1 dX12_acts_118 rfl ?_
              replace h := ob h; obtain ⟨v31, ev31, h⟩ := h
              refine g_getI hC ev31 fk_X12_63 rfl dX12_acts_119 ?_
              refine g_bipush hC 115 dX12_acts_122 (by decide) ?_
              replace h := jp_e h; obtain ⟨k32, ek32, h⟩ := h
              have J38 : ∀ (s33 : Int32) (M34 : Mm), k32 s33 M34 = some (r, M') → G Γ X 5 M34 0 0 (Fin Γ X (Qi Γ r M') 0 0) 161 ([(0, .ref this), (1, .int p1), (2, .int v19), (3, .int s29)]) ([.int s33]) := by
                intro s33 M34 h
                rw [ek32] at h
                refine g_istore hC ([(4, .int s33), (0, .ref this), (1, .int p1), (2, .int v19), (3, .int s29)]) dX12_acts_161 (by decide) rfl ?_
                refine g_aload_n hC 1 dX12_acts_163 rfl ?_
                refine g_iload_n hC 2 dX12_acts_164 rfl ?_
                refine g_iload_n hC 3 dX12_acts_165 rfl ?_
                refine g_iload_n hC 4 dX12_acts_166 rfl ?_
                refine g_iload hC 0 dX12_acts_167 rfl ?_
                replace h := ob h; obtain ⟨_, eu36, h⟩ := h
                replace h := ob h; obtain ⟨⟨v37, M35⟩, eM35, h⟩ := h
                refine g_calli hC (r_V hC (As := [.int p1, .int v19, .int s29, .int s33]) (c_X12_dives _ Γ this p1 v19 s29 s33 M34 M35 v37 eM35) yk_X12_dives lk_X12_190 eu36 ⟨_, rfl, rfl⟩ rfl rfl (Nat.le_of_ble_eq_true rfl) hR ⟨(Nat.le_of_ble_eq_true rfl), (Nat.le_of_ble_eq_true rfl)⟩ ⟨(Nat.le_of_ble_eq_true rfl), (Nat.le_of_ble_eq_true rfl)⟩ dX12_acts_169) ?_
                refine g_pop hC dX12_acts_172 rfl ?_
                refine g_iconst hC 1 dX12_acts_173 (by decide) ?_
                exact g_zret hC (by decide) h ⟨(Nat.le_of_ble_eq_true rfl), (Nat.le_of_ble_eq_true rfl)⟩ dX12_acts_174
              refine g_icmp_ne hC 131 dX12_acts_124 (by decide) (fun c39 => ?_) (fun c39 => ?_)
              · replace h := it_f c39 h
                refine g_aload_n hC 1 dX12_acts_131 rfl ?_
                refine g_aload_n hC 1 dX12_acts_132 rfl ?_
                replace h := ob h; obtain ⟨v40, ev40, h⟩ := h
                refine g_getI hC ev40 fk_X12_69 rfl dX12_acts_133 ?_
                refine g_aload_n hC 1 dX12_acts_136 rfl ?_
                replace h := ob h; obtain ⟨v41, ev41, h⟩ := h
                refine g_getR hC ev41 fk_X12_13 rfl dX12_acts_137 ?_
                refine g_sipush hC 2186 dX12_acts_140 (by decide) ?_
                refine g_iload_n hC 2 dX12_acts_143 rfl ?_
                refine g_iadd hC dX12_acts_144 ?_
                replace h := ob h; obtain ⟨a43, ea43, h⟩ := h
                subst ea43
                replace h := ob h; obtain ⟨v42, ev42, h⟩ := h
                refine g_iald hC ev42 dX12_acts_145 ?_
                refine g_isub hC dX12_acts_146 ?_
                refine g_aload_n hC 1 dX12_acts_147 rfl ?_
                refine g_iload_n hC 2 dX12_acts_148 rfl ?_
                replace h := ob h; obtain ⟨_, eu45, h⟩ := h
                replace h := ob h; obtain ⟨⟨v46, M44⟩, eM44, h⟩ := h
                refine g_calli hC (r_V hC (As := [.int p1]) (c_X12_goes _ Γ this p1 M30 M44 v46 eM44) yk_X12_goes lk_X12_146 eu45 ⟨_, rfl, rfl⟩ rfl rfl (Nat.le_of_ble_eq_true rfl) hR ⟨(Nat.le_of_ble_eq_true rfl), (Nat.le_of_ble_eq_true rfl)⟩ ⟨(Nat.le_of_ble_eq_true rfl), (Nat.le_of_ble_eq_true rfl)⟩ dX12_acts_149) ?_
                refine g_aload_n hC 1 dX12_acts_152 rfl ?_
                refine g_iload_n hC 0 dX12_acts_153 rfl ?_
                replace h := ob h; obtain ⟨_, eu48, h⟩ := h
                replace h := ob h; obtain ⟨⟨v49, M47⟩, eM47, h⟩ := h
                refine g_calli hC (r_V hC (As := [.int s29]) (c_X12_abs _ Γ this s29 M44 M47 v49 eM47) yk_X12_abs lk_X12_152 eu48 ⟨_, rfl, rfl⟩ rfl rfl (Nat.le_of_ble_eq_true rfl) hR ⟨(Nat.le_of_ble_eq_true rfl), (Nat.le_of_ble_eq_true rfl)⟩ ⟨(Nat.le_of_ble_eq_true rfl), (Nat.le_of_ble_eq_true rfl)⟩ dX12_acts_154) ?_
                refine g_isub hC dX12_acts_157 ?_
                replace h := ob h; obtain ⟨_, eu51, h⟩ := h
                replace h := ob h; obtain ⟨⟨v52, M50⟩, eM50, h⟩ := h
                refine g_calli hC (r_V hC (As := [.int (v40 - v42), .int (v46 - v49)]) (c_X12_cut _ Γ this (v40 - v42) (v46 - v49) M47 M50 v52 eM50) yk_X12_cut lk_X12_228 eu51 ⟨_, rfl, rfl⟩ rfl rfl (Nat.le_of_ble_eq_true rfl) hR ⟨(Nat.le_of_ble_eq_true rfl), (Nat.le_of_ble_eq_true rfl)⟩ ⟨(Nat.le_of_ble_eq_true rfl), (Nat.le_of_ble_eq_true rfl)⟩ dX12_acts_158) ?_
                refine g_sub [1, 2, 3, 0] rfl ?_
                exact J38 v52 M50 h
              · replace h := it_t c39 h
                refine g_iconst hC 0 dX12_acts_127 (by decide) ?_
                refine g_goto hC 161 dX12_acts_128 (by decide) ?_
                refine g_sub [1, 2, 3, 0] rfl ?_
                exact J38 0 M30 h
            refine g_icmp_ne hC 93 dX12_acts_86 (by decide) (fun c54 => ?_) (fun c54 => ?_)
            · replace h := it_f c54 h
              refine g_aload_n hC 1 dX12_acts_93 rfl ?_
              refine g_aload_n hC 1 dX12_acts_94 rfl ?_
              replace h := ob h; obtain ⟨v55, ev55, h⟩ := h
              refine g_getI hC ev55 fk_X12_66 rfl dX12_acts_95 ?_
              refine g_aload_n hC 1 dX12_acts_98 rfl ?_
              replace h := ob h; obtain ⟨v56, ev56, h⟩ := h
              refine g_getR hC ev56 fk_X12_13 rfl dX12_acts_99 ?_
              refine g_sipush hC 2178 dX12_acts_102 (by decide) ?_
              refine g_iload_n hC 2 dX12_acts_105 rfl ?_
              refine g_iadd hC dX12_acts_106 ?_
              replace h := ob h; obtain ⟨a58, ea58, h⟩ := h
              subst ea58
              replace h := ob h; obtain ⟨v57, ev57, h⟩ := h
              refine g_iald hC ev57 dX12_acts_107 ?_
              refine g_isub hC dX12_acts_108 ?_
              refine g_aload_n hC 1 dX12_acts_109 rfl ?_
              refine g_iload_n hC 2 dX12_acts_110 rfl ?_
              replace h := ob h; obtain ⟨_, eu60, h⟩ := h
              replace h := ob h; obtain ⟨⟨v61, M59⟩, eM59, h⟩ := h
              refine g_calli hC (r_V hC (As := [.int p1]) (c_X12_goes _ Γ this p1 M23 M59 v61 eM59) yk_X12_goes lk_X12_146 eu60 ⟨_, rfl, rfl⟩ rfl rfl (Nat.le_of_ble_eq_true rfl) hR ⟨(Nat.le_of_ble_eq_true rfl), (Nat.le_of_ble_eq_true rfl)⟩ ⟨(Nat.le_of_ble_eq_true rfl), (Nat.le_of_ble_eq_true rfl)⟩ dX12_acts_111) ?_
              replace h := ob h; obtain ⟨_, eu63, h⟩ := h
              replace h := ob h; obtain ⟨⟨v64, M62⟩, eM62, h⟩ := h
              refine g_calli hC (r_V hC (As := [.int (v55 - v57), .int v61]) (c_X12_cut _ Γ this (v55 - v57) v61 M59 M62 v64 eM62) yk_X12_cut lk_X12_228 eu63 ⟨_, rfl, rfl⟩ rfl rfl (Nat.le_of_ble_eq_true rfl) hR ⟨(Nat.le_of_ble_eq_true rfl), (Nat.le_of_ble_eq_true rfl)⟩ ⟨(Nat.le_of_ble_eq_true rfl), (Nat.le_of_ble_eq_true rfl)⟩ dX12_acts_114) ?_
              refine g_sub [1, 2, 0] rfl ?_
              exact J53 v64 M62 h
            · replace h := it_t c54 h
              refine g_iconst hC 0 dX12_acts_89 (by decide) ?_
              refine g_goto hC 117 dX12_acts_90 (by decide) ?_
              refine g_sub [1, 2, 0] rfl ?_
              exact J53 0 M23 h
          · replace h := it_f c26 h
            refine g_iconst hC 0 dX12_acts_78 (by decide) ?_
            exact g_zret hC (by decide) h ⟨(Nat.le_of_ble_eq_true rfl), (Nat.le_of_ble_eq_true rfl)⟩ dX12_acts_79
        · replace h := it_t c15 h
          refine g_iconst hC 0 dX12_acts_47 (by decide) ?_
          exact g_zret hC (by decide) h ⟨(Nat.le_of_ble_eq_true rfl), (Nat.le_of_ble_eq_true rfl)⟩ dX12_acts_48

set_option maxHeartbeats 4000000 in
set_option maxRecDepth 100000 in
theorem l_X12_goTime_L4 {Γ : Gm} {X : Ct} (hC : Cx Γ X cX12_goTime RX12 (some .int) 3) (hR : X.2.2.2.1 = ({ frames := 8, cells := 0, slots := 0, locals := 191 } : Room)) (r : Int32) (M' : Mm) (k51 : Mm → Option (Int32 × Mm)) (x0 : Nat) (x1 : Int32) (hk51 : ∀  (M1 : Mm), k51  M1 = some (r, M') → G Γ X 3 M1 0 0 (Fin Γ X (Qi Γ r M') 0 0) 51 ([(0, .ref x0), (1, .int x1)]) []) : ∀ (fu : Nat) (x2 : Int32) (M0 : Mm), F_X12_goTime_L4 k51 x0 x1 fu x2 M0 = some (r, M') → G Γ X 3 M0 0 0 (Fin Γ X (Qi Γ r M') 0 0) 4 ([(0, .ref x0), (1, .int x1), (2, .int x2)]) [] := by
  intro fu
  induction fu with
  | zero =>
    intro x2 M0 h
    rw [F_X12_goTime_L4] at h
    cases h
  | succ n1 ih =>
    intro x2 M0 h
    rw [F_X12_goTime_L4] at h
    refine g_iload_n hC 2 dX12_goTime_4 rfl ?_
    refine g_aload_n hC 0 dX12_goTime_5 rfl ?_
    replace h := ob h; obtain ⟨v2, ev2, h⟩ := h
    refine g_getR hC ev2 fk_X12_13 rfl dX12_goTime_6 ?_
    refine g_iconst hC 0 dX12_goTime_9 (by decide) ?_
    replace h := ob h; obtain ⟨a4, ea4, h⟩ := h
    subst ea4
    replace h := ob h; obtain ⟨v3, ev3, h⟩ := h
    refine g_iald hC ev3 dX12_goTime_10 ?_
    refine g_icmp_ge hC 51 dX12_goTime_11 (by decide) (fun c5 => ?_) (fun c5 => ?_)
    · replace h := it_t c5 h
      refine g_sub [0, 1] rfl ?_
      exact hk51  M0 h
    · replace h := it_f c5 h
      refine g_aload_n hC 0 dX12_goTime_14 rfl ?_
      refine g_iload_n hC 2 dX12_goTime_15 rfl ?_
      replace h := ob h; obtain ⟨_, eu7, h⟩ := h
      replace h := ob h; obtain ⟨⟨v8, M6⟩, eM6, h⟩ := h
      refine g_calli hC (r_V hC (As := [.int x2]) (c_X12_isUp _ Γ x0 x2 M0 M6 v8 eM6) yk_X12_isUp lk_X12_187 eu7 ⟨_, rfl, rfl⟩ rfl rfl (Nat.le_of_ble_eq_true rfl) hR ⟨(Nat.le_of_ble_eq_true rfl), (Nat.le_of_ble_eq_true rfl)⟩ ⟨(Nat.le_of_ble_eq_true rfl), (Nat.le_of_ble_eq_true rfl)⟩ dX12_goTime_16) ?_
      refine g_if_eq hC 45 dX12_goTime_19 (by decide) (fun c9 => ?_) (fun c9 => ?_)
      · replace h := it_t c9 h
        refine g_iinc hC 2 (x2 + 1) ([(2, .int (x2 + 1)), (0, .ref x0), (1, .int x1)]) dX12_goTime_45 rfl rfl (by decide) rfl ?_
        refine g_goto hC 4 dX12_goTime_48 (by decide) ?_
        refine g_sub [1, 2, 0] rfl ?_
        exact ih (x2 + 1) M6 h
      · replace h := it_f c9 h
        refine g_aload_n hC 0 dX12_goTime_22 rfl ?_
        replace h := ob h; obtain ⟨v10, ev10, h⟩ := h
        refine g_getR hC ev10 fk_X12_13 rfl dX12_goTime_23 ?_
        refine g_sipush hC 3950 dX12_goTime_26 (by decide) ?_
        refine g_aload_n hC 0 dX12_goTime_29 rfl ?_
        replace h := ob h; obtain ⟨v11, ev11, h⟩ := h
        refine g_getR hC ev11 fk_X12_13 rfl dX12_goTime_30 ?_
        refine g_iconst hC 1 dX12_goTime_33 (by decide) ?_
        replace h := ob h; obtain ⟨a13, ea13, h⟩ := h
        subst ea13
        replace h := ob h; obtain ⟨v12, ev12, h⟩ := h
        refine g_iald hC ev12 dX12_goTime_34 ?_
        refine g_iadd hC dX12_goTime_35 ?_
        replace h := ob h; obtain ⟨a15, ea15, h⟩ := h
        subst ea15
        replace h := ob h; obtain ⟨v14, ev14, h⟩ := h
        refine g_iald hC ev14 dX12_goTime_36 ?_
        refine g_if_ne hC 45 dX12_goTime_37 (by decide) (fun c16 => ?_) (fun c16 => ?_)
        · replace h := it_f c16 h
          refine g_iinc hC 2 (x2 + 1) ([(2, .int (x2 + 1)), (0, .ref x0), (1, .int x1)]) dX12_goTime_45 rfl rfl (by decide) rfl ?_
          refine g_goto hC 4 dX12_goTime_48 (by decide) ?_
          refine g_sub [1, 2, 0] rfl ?_
          exact ih (x2 + 1) M6 h
        · replace h := it_t c16 h
          refine g_aload_n hC 0 dX12_goTime_40 rfl ?_
          refine g_iload_n hC 2 dX12_goTime_41 rfl ?_
          replace h := ob h; obtain ⟨_, eu18, h⟩ := h
          replace h := ob h; obtain ⟨M17, eM17, h⟩ := h
          refine g_callv hC (r_V hC (As := [.int x2]) (c_X12_hears _ Γ x0 x2 M6 M17 eM17) yk_X12_hears lk_X12_231 eu18 ⟨_, rfl, rfl⟩ rfl rfl (Nat.le_of_ble_eq_true rfl) hR ⟨(Nat.le_of_ble_eq_true rfl), (Nat.le_of_ble_eq_true rfl)⟩ ⟨(Nat.le_of_ble_eq_true rfl), (Nat.le_of_ble_eq_true rfl)⟩ dX12_goTime_42) ?_
          refine g_iinc hC 2 (x2 + 1) ([(2, .int (x2 + 1)), (0, .ref x0), (1, .int x1)]) dX12_goTime_45 rfl rfl (by decide) rfl ?_
          refine g_goto hC 4 dX12_goTime_48 (by decide) ?_
          refine g_sub [1, 2, 0] rfl ?_
          exact ih (x2 + 1) M17 h
set_option maxHeartbeats 4000000 in
set_option maxRecDepth 100000 in
theorem l_X12_goTime_L53 {Γ : Gm} {X : Ct} (hC : Cx Γ X cX12_goTime RX12 (some .int) 3) (hR : X.2.2.2.1 = ({ frames := 8, cells := 0, slots := 0, locals := 191 } : Room)) (r : Int32) (M' : Mm) (k93 : Int32 → Mm → Option (Int32 × Mm)) (x0 : Nat) (hk93 : ∀ (y1 : Int32) (M1 : Mm), k93 y1 M1 = some (r, M') → G Γ X 3 M1 0 0 (Fin Γ X (Qi Γ r M') 0 0) 93 ([(0, .ref x0), (1, .int y1)]) []) : ∀ (fu : Nat) (x1 : Int32) (x2 : Int32) (M0 : Mm), F_X12_goTime_L53 k93 x0 fu x1 x2 M0 = some (r, M') → G Γ X 3 M0 0 0 (Fin Γ X (Qi Γ r M') 0 0) 53 ([(0, .ref x0), (1, .int x1), (2, .int x2)]) [] := by
  intro fu
  induction fu with
  | zero =>
    intro x1 x2 M0 h
    rw [F_X12_goTime_L53] at h
    cases h
  | succ n20 ih =>
    intro x1 x2 M0 h
    rw [F_X12_goTime_L53] at h
    refine g_iload_n hC 2 dX12_goTime_53 rfl ?_
    refine g_aload_n hC 0 dX12_goTime_54 rfl ?_
    replace h := ob h; obtain ⟨v21, ev21, h⟩ := h
    refine g_getR hC ev21 fk_X12_13 rfl dX12_goTime_55 ?_
    refine g_iconst hC 0 dX12_goTime_58 (by decide) ?_
    replace h := ob h; obtain ⟨a23, ea23, h⟩ := h
    subst ea23
    replace h := ob h; obtain ⟨v22, ev22, h⟩ := h
    refine g_iald hC ev22 dX12_goTime_59 ?_
    refine g_icmp_ge hC 93 dX12_goTime_60 (by decide) (fun c24 => ?_) (fun c24 => ?_)
    · replace h := it_t c24 h
      refine g_sub [0, 1] rfl ?_
      exact hk93 x1 M0 h
    · replace h := it_f c24 h
      refine g_iload_n hC 1 dX12_goTime_63 rfl ?_
      refine g_aload_n hC 0 dX12_goTime_64 rfl ?_
      refine g_iload_n hC 2 dX12_goTime_65 rfl ?_
      replace h := ob h; obtain ⟨_, eu26, h⟩ := h
      replace h := ob h; obtain ⟨⟨v27, M25⟩, eM25, h⟩ := h
      refine g_calli hC (r_V hC (As := [.int x2]) (c_X12_isUp _ Γ x0 x2 M0 M25 v27 eM25) yk_X12_isUp lk_X12_187 eu26 ⟨_, rfl, rfl⟩ rfl rfl (Nat.le_of_ble_eq_true rfl) hR ⟨(Nat.le_of_ble_eq_true rfl), (Nat.le_of_ble_eq_true rfl)⟩ ⟨(Nat.le_of_ble_eq_true rfl), (Nat.le_of_ble_eq_true rfl)⟩ dX12_goTime_66) ?_
      refine g_if_eq hC 84 dX12_goTime_69 (by decide) (fun c28 => ?_) (fun c28 => ?_)
      · replace h := it_t c28 h
        refine g_iconst hC 0 dX12_goTime_84 (by decide) ?_
        refine g_iadd hC dX12_goTime_85 ?_
        refine g_istore_n hC ([(1, .int (x1 + 0)), (0, .ref x0), (2, .int x2)]) dX12_goTime_86 (by decide) rfl ?_
        refine g_iinc hC 2 (x2 + 1) ([(2, .int (x2 + 1)), (1, .int (x1 + 0)), (0, .ref x0)]) dX12_goTime_87 rfl rfl (by decide) rfl ?_
        refine g_goto hC 53 dX12_goTime_90 (by decide) ?_
        refine g_sub [2, 1, 0] rfl ?_
        exact ih (x1 + 0) (x2 + 1) M25 h
      · replace h := it_f c28 h
        refine g_aload_n hC 0 dX12_goTime_72 rfl ?_
        refine g_iload_n hC 2 dX12_goTime_73 rfl ?_
        replace h := ob h; obtain ⟨_, eu30, h⟩ := h
        replace h := ob h; obtain ⟨⟨v31, M29⟩, eM29, h⟩ := h
        refine g_calli hC (r_V hC (As := [.int x2]) (c_X12_acts _ Γ x0 x2 M25 M29 v31 eM29) yk_X12_acts lk_X12_234 eu30 ⟨_, rfl, rfl⟩ rfl rfl (Nat.le_of_ble_eq_true rfl) hR ⟨(Nat.le_of_ble_eq_true rfl), (Nat.le_of_ble_eq_true rfl)⟩ ⟨(Nat.le_of_ble_eq_true rfl), (Nat.le_of_ble_eq_true rfl)⟩ dX12_goTime_74) ?_
        replace h := nv_e h; obtain ⟨v32, ev32, h⟩ := h
        have J33 : G Γ X 3 M29 0 0 (Fin Γ X (Qi Γ r M') 0 0) 85 ([(0, .ref x0), (1, .int x1), (2, .int x2)]) ([.int v32, .int x1]) := by
          refine g_iadd hC dX12_goTime_85 ?_
          refine g_istore_n hC ([(1, .int (x1 + v32)), (0, .ref x0), (2, .int x2)]) dX12_goTime_86 (by decide) rfl ?_
          refine g_iinc hC 2 (x2 + 1) ([(2, .int (x2 + 1)), (1, .int (x1 + v32)), (0, .ref x0)]) dX12_goTime_87 rfl rfl (by decide) rfl ?_
          refine g_goto hC 53 dX12_goTime_90 (by decide) ?_
          refine g_sub [2, 1, 0] rfl ?_
          exact ih (x1 + v32) (x2 + 1) M29 h
        refine g_if_eq hC 84 dX12_goTime_77 (by decide) (fun c34 => ?_) (fun c34 => ?_)
        · refine g_iconst hC 0 dX12_goTime_84 (by decide) ?_
          rw [show v32 = _ from ev32.trans (if_pos c34)] at J33
          exact J33
        · refine g_iconst hC 1 dX12_goTime_80 (by decide) ?_
          refine g_goto hC 85 dX12_goTime_81 (by decide) ?_
          rw [show v32 = _ from ev32.trans (if_neg c34)] at J33
          exact J33
set_option maxHeartbeats 4000000 in
set_option maxRecDepth 100000 in
theorem l_X12_goTime_L95 {Γ : Gm} {X : Ct} (hC : Cx Γ X cX12_goTime RX12 (some .int) 3) (hR : X.2.2.2.1 = ({ frames := 8, cells := 0, slots := 0, locals := 191 } : Room)) (r : Int32) (M' : Mm)  (x0 : Nat) (x1 : Int32) : ∀ (fu : Nat) (x2 : Int32) (M0 : Mm), F_X12_goTime_L95 x0 x1 fu x2 M0 = some (r, M') → G Γ X 3 M0 0 0 (Fin Γ X (Qi Γ r M') 0 0) 95 ([(0, .ref x0), (1, .int x1), (2, .int x2)]) [] := by
  intro fu
  induction fu with
  | zero =>
    intro x2 M0 h
    rw [F_X12_goTime_L95] at h
    cases h
  | succ n37 ih =>
    intro x2 M0 h
    rw [F_X12_goTime_L95] at h
    refine g_iload_n hC 2 dX12_goTime_95 rfl ?_
    refine g_bipush hC 80 dX12_goTime_96 (by decide) ?_
    refine g_icmp_ge hC 148 dX12_goTime_98 (by decide) (fun c38 => ?_) (fun c38 => ?_)
    · replace h := it_t c38 h
      refine g_aload_n hC 0 dX12_goTime_148 rfl ?_
      replace h := ob h; obtain ⟨v39, ev39, h⟩ := h
      refine g_getR hC ev39 fk_X12_13 rfl dX12_goTime_149 ?_
      refine g_iconst hC 1 dX12_goTime_152 (by decide) ?_
      refine g_dup2 hC dX12_goTime_153 rfl (cat_rf _) ?_
      replace h := ob h; obtain ⟨a41, ea41, h⟩ := h
      subst ea41
      replace h := ob h; obtain ⟨v40, ev40, h⟩ := h
      refine g_iald hC ev40 dX12_goTime_154 ?_
      refine g_iconst hC 1 dX12_goTime_155 (by decide) ?_
      refine g_iadd hC dX12_goTime_156 ?_
      replace h := ob h; obtain ⟨M42, eM42, h⟩ := h
      refine g_iast hC eM42 dX12_goTime_157 ?_
      refine g_iload_n hC 1 dX12_goTime_158 rfl ?_
      exact g_iret hC h ⟨(Nat.le_of_ble_eq_true rfl), (Nat.le_of_ble_eq_true rfl)⟩ dX12_goTime_159
    · replace h := it_f c38 h
      refine g_aload_n hC 0 dX12_goTime_101 rfl ?_
      replace h := ob h; obtain ⟨v43, ev43, h⟩ := h
      refine g_getR hC ev43 fk_X12_13 rfl dX12_goTime_102 ?_
      refine g_bipush hC 10 dX12_goTime_105 (by decide) ?_
      refine g_iload_n hC 2 dX12_goTime_107 rfl ?_
      refine g_iadd hC dX12_goTime_108 ?_
      replace h := ob h; obtain ⟨a45, ea45, h⟩ := h
      subst ea45
      replace h := ob h; obtain ⟨v44, ev44, h⟩ := h
      refine g_iald hC ev44 dX12_goTime_109 ?_
      refine g_if_le hC 142 dX12_goTime_110 (by decide) (fun c46 => ?_) (fun c46 => ?_)
      · replace h := it_t c46 h
        refine g_iinc hC 2 (x2 + 1) ([(2, .int (x2 + 1)), (0, .ref x0), (1, .int x1)]) dX12_goTime_142 rfl rfl (by decide) rfl ?_
        refine g_goto hC 95 dX12_goTime_145 (by decide) ?_
        refine g_sub [1, 2, 0] rfl ?_
        exact ih (x2 + 1) M0 h
      · replace h := it_f c46 h
        refine g_aload_n hC 0 dX12_goTime_113 rfl ?_
        replace h := ob h; obtain ⟨v47, ev47, h⟩ := h
        refine g_getR hC ev47 fk_X12_13 rfl dX12_goTime_114 ?_
        refine g_sipush hC 170 dX12_goTime_117 (by decide) ?_
        refine g_iload_n hC 2 dX12_goTime_120 rfl ?_
        refine g_iadd hC dX12_goTime_121 ?_
        replace h := ob h; obtain ⟨a49, ea49, h⟩ := h
        subst ea49
        replace h := ob h; obtain ⟨v48, ev48, h⟩ := h
        refine g_iald hC ev48 dX12_goTime_122 ?_
        refine g_bipush hC 99 dX12_goTime_123 (by decide) ?_
        refine g_icmp_ge hC 142 dX12_goTime_125 (by decide) (fun c50 => ?_) (fun c50 => ?_)
        · replace h := it_t c50 h
          refine g_iinc hC 2 (x2 + 1) ([(2, .int (x2 + 1)), (0, .ref x0), (1, .int x1)]) dX12_goTime_142 rfl rfl (by decide) rfl ?_
          refine g_goto hC 95 dX12_goTime_145 (by decide) ?_
          refine g_sub [1, 2, 0] rfl ?_
          exact ih (x2 + 1) M0 h
        · replace h := it_f c50 h
          refine g_aload_n hC 0 dX12_goTime_128 rfl ?_
          replace h := ob h; obtain ⟨v51, ev51, h⟩ := h
          refine g_getR hC ev51 fk_X12_13 rfl dX12_goTime_129 ?_
          refine g_sipush hC 170 dX12_goTime_132 (by decide) ?_
          refine g_iload_n hC 2 dX12_goTime_135 rfl ?_
          refine g_iadd hC dX12_goTime_136 ?_
          refine g_dup2 hC dX12_goTime_137 rfl (cat_rf _) ?_
          replace h := ob h; obtain ⟨a53, ea53, h⟩ := h
          subst ea53
          replace h := ob h; obtain ⟨v52, ev52, h⟩ := h
          refine g_iald hC ev52 dX12_goTime_138 ?_
          refine g_iconst hC 1 dX12_goTime_139 (by decide) ?_
          refine g_iadd hC dX12_goTime_140 ?_
          replace h := ob h; obtain ⟨M54, eM54, h⟩ := h
          refine g_iast hC eM54 dX12_goTime_141 ?_
          refine g_iinc hC 2 (x2 + 1) ([(2, .int (x2 + 1)), (0, .ref x0), (1, .int x1)]) dX12_goTime_142 rfl rfl (by decide) rfl ?_
          refine g_goto hC 95 dX12_goTime_145 (by decide) ?_
          refine g_sub [1, 2, 0] rfl ?_
          exact ih (x2 + 1) M54 h
set_option maxHeartbeats 4000000 in
set_option maxRecDepth 100000 in
theorem c_X12_goTime (l : Launch) (Γ : Gm) (this : Nat) (M M' : Mm) (r : Int32) (h : F_X12_goTime this M = some (r, M')) : Met l yX12_goTime (wz yX12_goTime cX12_goTime 3 (some .int)) ({ frames := 8, cells := 0, slots := 0, locals := 191 } : Room) (Pq Γ M [.ref this]) (Qi Γ r M') 0 0 (fr Γ) := by
  refine met_of (own := RX12) (by decide +kernel) rfl (Nat.le_of_ble_eq_true rfl) ?_
  intro X hC hR hnm hXl
  unfold F_X12_goTime at h
  show G Γ X 3 M 0 0 _ 0 ([(0, .ref this)]) []
  refine g_iconst hC 0 dX12_goTime_0 (by decide) ?_
  refine g_istore_n hC ([(1, .int 0), (0, .ref this)]) dX12_goTime_1 (by decide) rfl ?_
  refine g_iconst hC 0 dX12_goTime_2 (by decide) ?_
  refine g_istore_n hC ([(2, .int 0), (1, .int 0), (0, .ref this)]) dX12_goTime_3 (by decide) rfl ?_
  refine g_sub [2, 1, 0] rfl ?_
  refine l_X12_goTime_L4 hC hR r M' _ _ _ ?_ _ _ _ h
  intro  M19 h
  refine g_iconst hC 0 dX12_goTime_51 (by decide) ?_
  refine g_istore_n hC ([(2, .int 0), (0, .ref this), (1, .int 0)]) dX12_goTime_52 (by decide) rfl ?_
  refine g_sub [1, 2, 0] rfl ?_
  refine l_X12_goTime_L53 hC hR r M' _ _ ?_ _ _ _ _ h
  intro y35 M36 h
  refine g_iconst hC 0 dX12_goTime_93 (by decide) ?_
  refine g_istore_n hC ([(2, .int 0), (0, .ref this), (1, .int y35)]) dX12_goTime_94 (by decide) rfl ?_
  refine g_sub [1, 2, 0] rfl ?_
  refine l_X12_goTime_L95 hC hR r M'  _ _  _ _ _ h

set_option maxHeartbeats 4000000 in
set_option maxRecDepth 100000 in
theorem l_X12_times_L34 {Γ : Gm} {X : Ct} (hC : Cx Γ X cX12_times RX12 (some .int) 4) (hR : X.2.2.2.1 = ({ frames := 9, cells := 0, slots := 0, locals := 213 } : Room)) (r : Int32) (M' : Mm)  (x0 : Nat) (x1 : Int32) : ∀ (fu : Nat) (x2 : Int32) (x3 : Int32) (M0 : Mm), F_X12_times_L34 x0 x1 fu x2 x3 M0 = some (r, M') → G Γ X 4 M0 0 0 (Fin Γ X (Qi Γ r M') 0 0) 34 ([(0, .ref x0), (1, .int x1), (2, .int x2), (3, .int x3)]) [] := by
  intro fu
  induction fu with
  | zero =>
    intro x2 x3 M0 h
    rw [F_X12_times_L34] at h
    cases h
  | succ n9 ih =>
    intro x2 x3 M0 h
    rw [F_X12_times_L34] at h
    refine g_iload_n hC 3 dX12_times_34 rfl ?_
    refine g_iload_n hC 1 dX12_times_35 rfl ?_
    refine g_icmp_ge hC 52 dX12_times_36 (by decide) (fun c10 => ?_) (fun c10 => ?_)
    · replace h := it_t c10 h
      refine g_iload_n hC 2 dX12_times_52 rfl ?_
      exact g_iret hC h ⟨(Nat.le_of_ble_eq_true rfl), (Nat.le_of_ble_eq_true rfl)⟩ dX12_times_53
    · replace h := it_f c10 h
      refine g_iload_n hC 2 dX12_times_39 rfl ?_
      refine g_aload_n hC 0 dX12_times_40 rfl ?_
      replace h := ob h; obtain ⟨_, eu12, h⟩ := h
      replace h := ob h; obtain ⟨⟨v13, M11⟩, eM11, h⟩ := h
      refine g_calli hC (r_V hC (As := []) (c_X12_goTime _ Γ x0 M0 M11 v13 eM11) yk_X12_goTime lk_X12_237 eu12 ⟨_, rfl, rfl⟩ rfl rfl (Nat.le_of_ble_eq_true rfl) hR ⟨(Nat.le_of_ble_eq_true rfl), (Nat.le_of_ble_eq_true rfl)⟩ ⟨(Nat.le_of_ble_eq_true rfl), (Nat.le_of_ble_eq_true rfl)⟩ dX12_times_41) ?_
      refine g_iadd hC dX12_times_44 ?_
      refine g_istore_n hC ([(2, .int (x2 + v13)), (0, .ref x0), (1, .int x1), (3, .int x3)]) dX12_times_45 (by decide) rfl ?_
      refine g_iinc hC 3 (x3 + 1) ([(3, .int (x3 + 1)), (2, .int (x2 + v13)), (0, .ref x0), (1, .int x1)]) dX12_times_46 rfl rfl (by decide) rfl ?_
      refine g_goto hC 34 dX12_times_49 (by decide) ?_
      refine g_sub [2, 3, 1, 0] rfl ?_
      exact ih (x2 + v13) (x3 + 1) M11 h
set_option maxHeartbeats 4000000 in
set_option maxRecDepth 100000 in
theorem c_X12_times (l : Launch) (Γ : Gm) (this : Nat) (p1 : Int32) (M M' : Mm) (r : Int32) (h : F_X12_times this p1 M = some (r, M')) : Met l yX12_times (wz yX12_times cX12_times 4 (some .int)) ({ frames := 9, cells := 0, slots := 0, locals := 213 } : Room) (Pq Γ M [.ref this, .int p1]) (Qi Γ r M') 0 0 (fr Γ) := by
  refine met_of (own := RX12) (by decide +kernel) rfl (Nat.le_of_ble_eq_true rfl) ?_
  intro X hC hR hnm hXl
  unfold F_X12_times at h
  show G Γ X 4 M 0 0 _ 0 ([(0, .ref this), (1, .int p1)]) []
  refine g_aload_n hC 0 dX12_times_0 rfl ?_
  refine g_iload_n hC 1 dX12_times_1 rfl ?_
  refine g_iconst hC 1 dX12_times_2 (by decide) ?_
  refine g_bipush hC 40 dX12_times_3 (by decide) ?_
  replace h := ob h; obtain ⟨_, eu2, h⟩ := h
  replace h := ob h; obtain ⟨⟨v3, M1⟩, eM1, h⟩ := h
  refine g_calli hC (r_V hC (As := [.int p1, .int 1, .int 40]) (c_X12_is _ Γ this p1 1 40 M M1 v3 eM1) yk_X12_is lk_X12_123 eu2 ⟨_, rfl, rfl⟩ rfl rfl (Nat.le_of_ble_eq_true rfl) hR ⟨(Nat.le_of_ble_eq_true rfl), (Nat.le_of_ble_eq_true rfl)⟩ ⟨(Nat.le_of_ble_eq_true rfl), (Nat.le_of_ble_eq_true rfl)⟩ dX12_times_5) ?_
  refine g_if_ne hC 13 dX12_times_8 (by decide) (fun c4 => ?_) (fun c4 => ?_)
  · replace h := it_f c4 h
    refine g_aload_n hC 0 dX12_times_13 rfl ?_
    replace h := ob h; obtain ⟨v5, ev5, h⟩ := h
    refine g_getR hC ev5 fk_X12_13 rfl dX12_times_14 ?_
    refine g_iconst hC 1 dX12_times_17 (by decide) ?_
    replace h := ob h; obtain ⟨a7, ea7, h⟩ := h
    subst ea7
    replace h := ob h; obtain ⟨v6, ev6, h⟩ := h
    refine g_iald hC ev6 dX12_times_18 ?_
    refine g_iload_n hC 1 dX12_times_19 rfl ?_
    refine g_iadd hC dX12_times_20 ?_
    refine g_sipush hC 400 dX12_times_21 (by decide) ?_
    refine g_icmp_le hC 30 dX12_times_24 (by decide) (fun c8 => ?_) (fun c8 => ?_)
    · replace h := it_t c8 h
      refine g_iconst hC 0 dX12_times_30 (by decide) ?_
      refine g_istore_n hC ([(2, .int 0), (0, .ref this), (1, .int p1)]) dX12_times_31 (by decide) rfl ?_
      refine g_iconst hC 0 dX12_times_32 (by decide) ?_
      refine g_istore_n hC ([(3, .int 0), (2, .int 0), (0, .ref this), (1, .int p1)]) dX12_times_33 (by decide) rfl ?_
      refine g_sub [2, 3, 1, 0] rfl ?_
      refine l_X12_times_L34 hC hR r M'  _ _  _ _ _ _ h
    · replace h := it_f c8 h
      refine g_bipush hC (-2) dX12_times_27 (by decide) ?_
      exact g_iret hC h ⟨(Nat.le_of_ble_eq_true rfl), (Nat.le_of_ble_eq_true rfl)⟩ dX12_times_29
  · replace h := it_t c4 h
    refine g_iconst hC (-1) dX12_times_11 (by decide) ?_
    exact g_iret hC h ⟨(Nat.le_of_ble_eq_true rfl), (Nat.le_of_ble_eq_true rfl)⟩ dX12_times_12

set_option maxHeartbeats 4000000 in
set_option maxRecDepth 100000 in
theorem l_X12_known_L24 {Γ : Gm} {X : Ct} (hC : Cx Γ X cX12_known RX12 (some .int) 4) (hR : X.2.2.2.1 = ({ frames := 2, cells := 0, slots := 0, locals := 44 } : Room)) (r : Int32) (M' : Mm)  (x0 : Nat) (x1 : Int32) : ∀ (fu : Nat) (x3 : Int32) (M0 : Mm), F_X12_known_L24 x0 x1 fu x3 M0 = some (r, M') → G Γ X 4 M0 0 0 (Fin Γ X (Qi Γ r M') 0 0) 24 ([(0, .ref x0), (1, .int x1), (3, .int x3)]) [] := by
  intro fu
  induction fu with
  | zero =>
    intro x3 M0 h
    rw [F_X12_known_L24] at h
    cases h
  | succ n9 ih =>
    intro x3 M0 h
    rw [F_X12_known_L24] at h
    refine g_iload_n hC 2 dX12_known_24 rfl ?_
    refine g_if_lt hC 70 dX12_known_25 (by decide) (fun c10 => ?_) (fun c10 => ?_)
    · replace h := it_t c10 h
      refine g_bipush hC (-4) dX12_known_70 (by decide) ?_
      exact g_iret hC h ⟨(Nat.le_of_ble_eq_true rfl), (Nat.le_of_ble_eq_true rfl)⟩ dX12_known_72
    · replace h := it_f c10 h
      refine g_aload_n hC 0 dX12_known_28 rfl ?_
      replace h := ob h; obtain ⟨v11, ev11, h⟩ := h
      refine g_getR hC ev11 fk_X12_13 rfl dX12_known_29 ?_
      refine g_sipush hC 4351 dX12_known_32 (by decide) ?_
      refine g_sipush hC 401 dX12_known_35 (by decide) ?_
      refine g_iload_n hC 1 dX12_known_38 rfl ?_
      refine g_imul hC dX12_known_39 ?_
      refine g_iadd hC dX12_known_40 ?_
      refine g_iload_n hC 2 dX12_known_41 rfl ?_
      refine g_iadd hC dX12_known_42 ?_
      replace h := ob h; obtain ⟨a13, ea13, h⟩ := h
      subst ea13
      replace h := ob h; obtain ⟨v12, ev12, h⟩ := h
      refine g_iald hC ev12 dX12_known_43 ?_
      refine g_if_lt hC 64 dX12_known_44 (by decide) (fun c14 => ?_) (fun c14 => ?_)
      · replace h := it_t c14 h
        refine g_iinc hC 2 (x3 + (-1)) ([(3, .int (x3 + (-1))), (0, .ref x0), (1, .int x1)]) dX12_known_64 rfl rfl (by decide) rfl ?_
        refine g_goto hC 24 dX12_known_67 (by decide) ?_
        refine g_sub [1, 2, 0] rfl ?_
        exact ih (x3 + (-1)) M0 h
      · replace h := it_f c14 h
        refine g_aload_n hC 0 dX12_known_47 rfl ?_
        replace h := ob h; obtain ⟨v15, ev15, h⟩ := h
        refine g_getR hC ev15 fk_X12_13 rfl dX12_known_48 ?_
        refine g_sipush hC 4351 dX12_known_51 (by decide) ?_
        refine g_sipush hC 401 dX12_known_54 (by decide) ?_
        refine g_iload_n hC 1 dX12_known_57 rfl ?_
        refine g_imul hC dX12_known_58 ?_
        refine g_iadd hC dX12_known_59 ?_
        refine g_iload_n hC 2 dX12_known_60 rfl ?_
        refine g_iadd hC dX12_known_61 ?_
        replace h := ob h; obtain ⟨a17, ea17, h⟩ := h
        subst ea17
        replace h := ob h; obtain ⟨v16, ev16, h⟩ := h
        refine g_iald hC ev16 dX12_known_62 ?_
        exact g_iret hC h ⟨(Nat.le_of_ble_eq_true rfl), (Nat.le_of_ble_eq_true rfl)⟩ dX12_known_63
set_option maxHeartbeats 4000000 in
set_option maxRecDepth 100000 in
theorem c_X12_known (l : Launch) (Γ : Gm) (this : Nat) (p1 : Int32) (p2 : Int32) (M M' : Mm) (r : Int32) (h : F_X12_known this p1 p2 M = some (r, M')) : Met l yX12_known (wz yX12_known cX12_known 4 (some .int)) ({ frames := 2, cells := 0, slots := 0, locals := 44 } : Room) (Pq Γ M [.ref this, .int p1, .int p2]) (Qi Γ r M') 0 0 (fr Γ) := by
  refine met_of (own := RX12) (by decide +kernel) rfl (Nat.le_of_ble_eq_true rfl) ?_
  intro X hC hR hnm hXl
  unfold F_X12_known at h
  show G Γ X 4 M 0 0 _ 0 ([(0, .ref this), (1, .int p1), (2, .int p2)]) []
  refine g_aload_n hC 0 dX12_known_0 rfl ?_
  refine g_iload_n hC 1 dX12_known_1 rfl ?_
  replace h := ob h; obtain ⟨_, eu2, h⟩ := h
  replace h := ob h; obtain ⟨⟨v3, M1⟩, eM1, h⟩ := h
  refine g_calli hC (r_V hC (As := [.int p1]) (c_X12_isGlider _ Γ this p1 M M1 v3 eM1) yk_X12_isGlider lk_X12_142 eu2 ⟨_, rfl, rfl⟩ rfl rfl (Nat.le_of_ble_eq_true rfl) hR ⟨(Nat.le_of_ble_eq_true rfl), (Nat.le_of_ble_eq_true rfl)⟩ ⟨(Nat.le_of_ble_eq_true rfl), (Nat.le_of_ble_eq_true rfl)⟩ dX12_known_2) ?_
  refine g_if_eq hC 20 dX12_known_5 (by decide) (fun c4 => ?_) (fun c4 => ?_)
  · replace h := it_t c4 h
    refine g_iconst hC (-1) dX12_known_20 (by decide) ?_
    exact g_iret hC h ⟨(Nat.le_of_ble_eq_true rfl), (Nat.le_of_ble_eq_true rfl)⟩ dX12_known_21
  · replace h := it_f c4 h
    refine g_aload_n hC 0 dX12_known_8 rfl ?_
    refine g_iload_n hC 2 dX12_known_9 rfl ?_
    refine g_iconst hC 0 dX12_known_10 (by decide) ?_
    refine g_sipush hC 400 dX12_known_11 (by decide) ?_
    replace h := ob h; obtain ⟨_, eu6, h⟩ := h
    replace h := ob h; obtain ⟨⟨v7, M5⟩, eM5, h⟩ := h
    refine g_calli hC (r_V hC (As := [.int p2, .int 0, .int 400]) (c_X12_is _ Γ this p2 0 400 M1 M5 v7 eM5) yk_X12_is lk_X12_123 eu6 ⟨_, rfl, rfl⟩ rfl rfl (Nat.le_of_ble_eq_true rfl) hR ⟨(Nat.le_of_ble_eq_true rfl), (Nat.le_of_ble_eq_true rfl)⟩ ⟨(Nat.le_of_ble_eq_true rfl), (Nat.le_of_ble_eq_true rfl)⟩ dX12_known_14) ?_
    refine g_if_ne hC 22 dX12_known_17 (by decide) (fun c8 => ?_) (fun c8 => ?_)
    · replace h := it_f c8 h
      refine g_iload_n hC 2 dX12_known_22 rfl ?_
      refine g_istore_n hC ([(3, .int p2), (0, .ref this), (1, .int p1), (2, .int p2)]) dX12_known_23 (by decide) rfl ?_
      refine g_sub [1, 2, 0] rfl ?_
      refine l_X12_known_L24 hC hR r M'  _ _  _ _ _ h
    · replace h := it_t c8 h
      refine g_iconst hC (-1) dX12_known_20 (by decide) ?_
      exact g_iret hC h ⟨(Nat.le_of_ble_eq_true rfl), (Nat.le_of_ble_eq_true rfl)⟩ dX12_known_21

set_option maxHeartbeats 4000000 in
set_option maxRecDepth 100000 in
theorem c_X12_clean (l : Launch) (Γ : Gm) (this : Nat) (p1 : Int32) (p2 : Int32) (M M' : Mm) (r : Int32) (h : F_X12_clean this p1 p2 M = some (r, M')) : Met l yX12_clean (wz yX12_clean cX12_clean 4 (some .int)) ({ frames := 2, cells := 0, slots := 0, locals := 44 } : Room) (Pq Γ M [.ref this, .int p1, .int p2]) (Qi Γ r M') 0 0 (fr Γ) := by
  refine met_of (own := RX12) (by decide +kernel) rfl (Nat.le_of_ble_eq_true rfl) ?_
  intro X hC hR hnm hXl
  unfold F_X12_clean at h
  show G Γ X 4 M 0 0 _ 0 ([(0, .ref this), (1, .int p1), (2, .int p2)]) []
  refine g_aload_n hC 0 dX12_clean_0 rfl ?_
  refine g_iload_n hC 1 dX12_clean_1 rfl ?_
  replace h := ob h; obtain ⟨_, eu2, h⟩ := h
  replace h := ob h; obtain ⟨⟨v3, M1⟩, eM1, h⟩ := h
  refine g_calli hC (r_V hC (As := [.int p1]) (c_X12_isGlider _ Γ this p1 M M1 v3 eM1) yk_X12_isGlider lk_X12_142 eu2 ⟨_, rfl, rfl⟩ rfl rfl (Nat.le_of_ble_eq_true rfl) hR ⟨(Nat.le_of_ble_eq_true rfl), (Nat.le_of_ble_eq_true rfl)⟩ ⟨(Nat.le_of_ble_eq_true rfl), (Nat.le_of_ble_eq_true rfl)⟩ dX12_clean_2) ?_
  refine g_if_eq hC 22 dX12_clean_5 (by decide) (fun c4 => ?_) (fun c4 => ?_)
  · replace h := it_t c4 h
    refine g_iconst hC (-1) dX12_clean_22 (by decide) ?_
    exact g_iret hC h ⟨(Nat.le_of_ble_eq_true rfl), (Nat.le_of_ble_eq_true rfl)⟩ dX12_clean_23
  · replace h := it_f c4 h
    refine g_aload_n hC 0 dX12_clean_8 rfl ?_
    refine g_iload_n hC 2 dX12_clean_9 rfl ?_
    refine g_sipush hC (-2000) dX12_clean_10 (by decide) ?_
    refine g_sipush hC 2000 dX12_clean_13 (by decide) ?_
    replace h := ob h; obtain ⟨_, eu6, h⟩ := h
    replace h := ob h; obtain ⟨⟨v7, M5⟩, eM5, h⟩ := h
    refine g_calli hC (r_V hC (As := [.int p2, .int (-2000), .int 2000]) (c_X12_is _ Γ this p2 (-2000) 2000 M1 M5 v7 eM5) yk_X12_is lk_X12_123 eu6 ⟨_, rfl, rfl⟩ rfl rfl (Nat.le_of_ble_eq_true rfl) hR ⟨(Nat.le_of_ble_eq_true rfl), (Nat.le_of_ble_eq_true rfl)⟩ ⟨(Nat.le_of_ble_eq_true rfl), (Nat.le_of_ble_eq_true rfl)⟩ dX12_clean_16) ?_
    refine g_if_ne hC 24 dX12_clean_19 (by decide) (fun c8 => ?_) (fun c8 => ?_)
    · replace h := it_f c8 h
      refine g_aload_n hC 0 dX12_clean_24 rfl ?_
      replace h := ob h; obtain ⟨v9, ev9, h⟩ := h
      refine g_getR hC ev9 fk_X12_13 rfl dX12_clean_25 ?_
      refine g_iconst hC 5 dX12_clean_28 (by decide) ?_
      replace h := ob h; obtain ⟨a11, ea11, h⟩ := h
      subst ea11
      replace h := ob h; obtain ⟨v10, ev10, h⟩ := h
      refine g_iald hC ev10 dX12_clean_29 ?_
      refine g_istore_n hC ([(3, .int v10), (0, .ref this), (1, .int p1), (2, .int p2)]) dX12_clean_30 (by decide) rfl ?_
      refine g_iload_n hC 0 dX12_clean_31 rfl ?_
      refine g_bipush hC 60 dX12_clean_32 (by decide) ?_
      refine g_icmp_ne hC 40 dX12_clean_34 (by decide) (fun c12 => ?_) (fun c12 => ?_)
      · replace h := it_f c12 h
        refine g_aload_n hC 1 dX12_clean_40 rfl ?_
        replace h := ob h; obtain ⟨v13, ev13, h⟩ := h
        refine g_getR hC ev13 fk_X12_13 rfl dX12_clean_41 ?_
        refine g_sipush hC 3470 dX12_clean_44 (by decide) ?_
        refine g_iload_n hC 0 dX12_clean_47 rfl ?_
        refine g_iadd hC dX12_clean_48 ?_
        refine g_iload_n hC 2 dX12_clean_49 rfl ?_
        replace h := ob h; obtain ⟨a15, ea15, h⟩ := h
        subst ea15
        replace h := ob h; obtain ⟨M14, eM14, h⟩ := h
        refine g_iast hC eM14 dX12_clean_50 ?_
        refine g_aload_n hC 1 dX12_clean_51 rfl ?_
        replace h := ob h; obtain ⟨v16, ev16, h⟩ := h
        refine g_getR hC ev16 fk_X12_13 rfl dX12_clean_52 ?_
        refine g_sipush hC 3530 dX12_clean_55 (by decide) ?_
        refine g_iload_n hC 0 dX12_clean_58 rfl ?_
        refine g_iadd hC dX12_clean_59 ?_
        refine g_iload_n hC 3 dX12_clean_60 rfl ?_
        replace h := ob h; obtain ⟨a18, ea18, h⟩ := h
        subst ea18
        replace h := ob h; obtain ⟨M17, eM17, h⟩ := h
        refine g_iast hC eM17 dX12_clean_61 ?_
        refine g_aload_n hC 1 dX12_clean_62 rfl ?_
        replace h := ob h; obtain ⟨v19, ev19, h⟩ := h
        refine g_getR hC ev19 fk_X12_13 rfl dX12_clean_63 ?_
        refine g_sipush hC 3590 dX12_clean_66 (by decide) ?_
        refine g_iload_n hC 0 dX12_clean_69 rfl ?_
        refine g_iadd hC dX12_clean_70 ?_
        refine g_aload_n hC 1 dX12_clean_71 rfl ?_
        replace h := ob h; obtain ⟨v20, ev20, h⟩ := h
        refine g_getR hC ev20 fk_X12_13 rfl dX12_clean_72 ?_
        refine g_sipush hC 2218 dX12_clean_75 (by decide) ?_
        refine g_iload_n hC 2 dX12_clean_78 rfl ?_
        refine g_iadd hC dX12_clean_79 ?_
        replace h := ob h; obtain ⟨a22, ea22, h⟩ := h
        subst ea22
        replace h := ob h; obtain ⟨v21, ev21, h⟩ := h
        refine g_iald hC ev21 dX12_clean_80 ?_
        replace h := ob h; obtain ⟨a24, ea24, h⟩ := h
        subst ea24
        replace h := ob h; obtain ⟨M23, eM23, h⟩ := h
        refine g_iast hC eM23 dX12_clean_81 ?_
        refine g_aload_n hC 1 dX12_clean_82 rfl ?_
        replace h := ob h; obtain ⟨v25, ev25, h⟩ := h
        refine g_getR hC ev25 fk_X12_13 rfl dX12_clean_83 ?_
        refine g_sipush hC 3650 dX12_clean_86 (by decide) ?_
        refine g_iload_n hC 0 dX12_clean_89 rfl ?_
        refine g_iadd hC dX12_clean_90 ?_
        refine g_aload_n hC 1 dX12_clean_91 rfl ?_
        replace h := ob h; obtain ⟨v26, ev26, h⟩ := h
        refine g_getR hC ev26 fk_X12_13 rfl dX12_clean_92 ?_
        refine g_iconst hC 2 dX12_clean_95 (by decide) ?_
        replace h := ob h; obtain ⟨a28, ea28, h⟩ := h
        subst ea28
        replace h := ob h; obtain ⟨v27, ev27, h⟩ := h
        refine g_iald hC ev27 dX12_clean_96 ?_
        replace h := ob h; obtain ⟨a30, ea30, h⟩ := h
        subst ea30
        replace h := ob h; obtain ⟨M29, eM29, h⟩ := h
        refine g_iast hC eM29 dX12_clean_97 ?_
        refine g_aload_n hC 1 dX12_clean_98 rfl ?_
        replace h := ob h; obtain ⟨v31, ev31, h⟩ := h
        refine g_getR hC ev31 fk_X12_13 rfl dX12_clean_99 ?_
        refine g_sipush hC 2218 dX12_clean_102 (by decide) ?_
        refine g_iload_n hC 2 dX12_clean_105 rfl ?_
        refine g_iadd hC dX12_clean_106 ?_
        refine g_iconst hC 0 dX12_clean_107 (by decide) ?_
        replace h := ob h; obtain ⟨a33, ea33, h⟩ := h
        subst ea33
        replace h := ob h; obtain ⟨M32, eM32, h⟩ := h
        refine g_iast hC eM32 dX12_clean_108 ?_
        refine g_aload_n hC 1 dX12_clean_109 rfl ?_
        replace h := ob h; obtain ⟨v34, ev34, h⟩ := h
        refine g_getR hC ev34 fk_X12_13 rfl dX12_clean_110 ?_
        refine g_iconst hC 5 dX12_clean_113 (by decide) ?_
        refine g_dup2 hC dX12_clean_114 rfl (cat_rf _) ?_
        replace h := ob h; obtain ⟨a36, ea36, h⟩ := h
        subst ea36
        replace h := ob h; obtain ⟨v35, ev35, h⟩ := h
        refine g_iald hC ev35 dX12_clean_115 ?_
        refine g_iconst hC 1 dX12_clean_116 (by decide) ?_
        refine g_iadd hC dX12_clean_117 ?_
        replace h := ob h; obtain ⟨M37, eM37, h⟩ := h
        refine g_iast hC eM37 dX12_clean_118 ?_
        refine g_aload_n hC 1 dX12_clean_119 rfl ?_
        replace h := ob h; obtain ⟨v38, ev38, h⟩ := h
        refine g_getR hC ev38 fk_X12_13 rfl dX12_clean_120 ?_
        refine g_iconst hC 5 dX12_clean_123 (by decide) ?_
        replace h := ob h; obtain ⟨a40, ea40, h⟩ := h
        subst ea40
        replace h := ob h; obtain ⟨v39, ev39, h⟩ := h
        refine g_iald hC ev39 dX12_clean_124 ?_
        exact g_iret hC h ⟨(Nat.le_of_ble_eq_true rfl), (Nat.le_of_ble_eq_true rfl)⟩ dX12_clean_125
      · replace h := it_t c12 h
        refine g_bipush hC (-2) dX12_clean_37 (by decide) ?_
        exact g_iret hC h ⟨(Nat.le_of_ble_eq_true rfl), (Nat.le_of_ble_eq_true rfl)⟩ dX12_clean_39
    · replace h := it_t c8 h
      refine g_iconst hC (-1) dX12_clean_22 (by decide) ?_
      exact g_iret hC h ⟨(Nat.le_of_ble_eq_true rfl), (Nat.le_of_ble_eq_true rfl)⟩ dX12_clean_23

set_option maxHeartbeats 4000000 in
set_option maxRecDepth 100000 in
theorem c_X12_isReading (l : Launch) (Γ : Gm) (this : Nat) (p1 : Int32) (M M' : Mm) (r : Int32) (h : F_X12_isReading this p1 M = some (r, M')) : Met l yX12_isReading (wz yX12_isReading cX12_isReading 2 (some .boolean)) ({ frames := 1, cells := 0, slots := 0, locals := 23 } : Room) (Pq Γ M [.ref this, .int p1]) (Qi Γ r M') 0 0 (fr Γ) := by
  refine met_of (own := RX12) (by decide +kernel) rfl (Nat.le_of_ble_eq_true rfl) ?_
  intro X hC hR hnm hXl
  unfold F_X12_isReading at h
  show G Γ X 2 M 0 0 _ 0 ([(0, .ref this), (1, .int p1)]) []
  refine g_aload_n hC 0 dX12_isReading_0 rfl ?_
  refine g_iload_n hC 1 dX12_isReading_1 rfl ?_
  refine g_iconst hC 0 dX12_isReading_2 (by decide) ?_
  refine g_aload_n hC 0 dX12_isReading_3 rfl ?_
  replace h := ob h; obtain ⟨v1, ev1, h⟩ := h
  refine g_getR hC ev1 fk_X12_13 rfl dX12_isReading_4 ?_
  refine g_iconst hC 2 dX12_isReading_7 (by decide) ?_
  replace h := ob h; obtain ⟨a3, ea3, h⟩ := h
  subst ea3
  replace h := ob h; obtain ⟨v2, ev2, h⟩ := h
  refine g_iald hC ev2 dX12_isReading_8 ?_
  refine g_iconst hC 1 dX12_isReading_9 (by decide) ?_
  refine g_isub hC dX12_isReading_10 ?_
  replace h := ob h; obtain ⟨_, eu5, h⟩ := h
  replace h := ob h; obtain ⟨⟨v6, M4⟩, eM4, h⟩ := h
  refine g_calli hC (r_V hC (As := [.int p1, .int 0, .int (v2 - 1)]) (c_X12_is _ Γ this p1 0 (v2 - 1) M M4 v6 eM4) yk_X12_is lk_X12_123 eu5 ⟨_, rfl, rfl⟩ rfl rfl (Nat.le_of_ble_eq_true rfl) hR ⟨(Nat.le_of_ble_eq_true rfl), (Nat.le_of_ble_eq_true rfl)⟩ ⟨(Nat.le_of_ble_eq_true rfl), (Nat.le_of_ble_eq_true rfl)⟩ dX12_isReading_11) ?_
  replace h := ob h; obtain ⟨_, ez, h⟩ := h
  exact g_zret hC (ckZ_e ez) h ⟨(Nat.le_of_ble_eq_true rfl), (Nat.le_of_ble_eq_true rfl)⟩ dX12_isReading_14

set_option maxHeartbeats 4000000 in
set_option maxRecDepth 100000 in
theorem c_X12_reading (l : Launch) (Γ : Gm) (this : Nat) (p1 : Int32) (p2 : Int32) (M M' : Mm) (r : Int32) (h : F_X12_reading this p1 p2 M = some (r, M')) : Met l yX12_reading (wz yX12_reading cX12_reading 3 (some .int)) ({ frames := 2, cells := 0, slots := 0, locals := 44 } : Room) (Pq Γ M [.ref this, .int p1, .int p2]) (Qi Γ r M') 0 0 (fr Γ) := by
  refine met_of (own := RX12) (by decide +kernel) rfl (Nat.le_of_ble_eq_true rfl) ?_
  intro X hC hR hnm hXl
  unfold F_X12_reading at h
  show G Γ X 3 M 0 0 _ 0 ([(0, .ref this), (1, .int p1), (2, .int p2)]) []
  refine g_aload_n hC 0 dX12_reading_0 rfl ?_
  refine g_iload_n hC 1 dX12_reading_1 rfl ?_
  replace h := ob h; obtain ⟨_, eu2, h⟩ := h
  replace h := ob h; obtain ⟨⟨v3, M1⟩, eM1, h⟩ := h
  refine g_calli hC (r_V hC (As := [.int p1]) (c_X12_isReading _ Γ this p1 M M1 v3 eM1) yk_X12_isReading lk_X12_240 eu2 ⟨_, rfl, rfl⟩ rfl rfl (Nat.le_of_ble_eq_true rfl) hR ⟨(Nat.le_of_ble_eq_true rfl), (Nat.le_of_ble_eq_true rfl)⟩ ⟨(Nat.le_of_ble_eq_true rfl), (Nat.le_of_ble_eq_true rfl)⟩ dX12_reading_2) ?_
  refine g_if_eq hC 18 dX12_reading_5 (by decide) (fun c4 => ?_) (fun c4 => ?_)
  · replace h := it_t c4 h
    refine g_iconst hC (-1) dX12_reading_18 (by decide) ?_
    exact g_iret hC h ⟨(Nat.le_of_ble_eq_true rfl), (Nat.le_of_ble_eq_true rfl)⟩ dX12_reading_19
  · replace h := it_f c4 h
    refine g_aload_n hC 0 dX12_reading_8 rfl ?_
    refine g_iload_n hC 2 dX12_reading_9 rfl ?_
    refine g_iconst hC 0 dX12_reading_10 (by decide) ?_
    refine g_iconst hC 4 dX12_reading_11 (by decide) ?_
    replace h := ob h; obtain ⟨_, eu6, h⟩ := h
    replace h := ob h; obtain ⟨⟨v7, M5⟩, eM5, h⟩ := h
    refine g_calli hC (r_V hC (As := [.int p2, .int 0, .int 4]) (c_X12_is _ Γ this p2 0 4 M1 M5 v7 eM5) yk_X12_is lk_X12_123 eu6 ⟨_, rfl, rfl⟩ rfl rfl (Nat.le_of_ble_eq_true rfl) hR ⟨(Nat.le_of_ble_eq_true rfl), (Nat.le_of_ble_eq_true rfl)⟩ ⟨(Nat.le_of_ble_eq_true rfl), (Nat.le_of_ble_eq_true rfl)⟩ dX12_reading_12) ?_
    refine g_if_ne hC 20 dX12_reading_15 (by decide) (fun c8 => ?_) (fun c8 => ?_)
    · replace h := it_f c8 h
      refine g_iload_n hC 2 dX12_reading_20 rfl ?_
      refine g_if_ne hC 37 dX12_reading_21 (by decide) (fun c9 => ?_) (fun c9 => ?_)
      · replace h := it_f c9 h
        refine g_iload_n hC 2 dX12_reading_37 rfl ?_
        refine g_iconst hC 1 dX12_reading_38 (by decide) ?_
        refine g_icmp_ne hC 55 dX12_reading_39 (by decide) (fun c10 => ?_) (fun c10 => ?_)
        · replace h := it_f c10 h
          refine g_iload_n hC 2 dX12_reading_55 rfl ?_
          refine g_iconst hC 2 dX12_reading_56 (by decide) ?_
          refine g_icmp_ne hC 73 dX12_reading_57 (by decide) (fun c11 => ?_) (fun c11 => ?_)
          · replace h := it_f c11 h
            refine g_iload_n hC 2 dX12_reading_73 rfl ?_
            refine g_iconst hC 3 dX12_reading_74 (by decide) ?_
            refine g_icmp_ne hC 91 dX12_reading_75 (by decide) (fun c12 => ?_) (fun c12 => ?_)
            · replace h := it_f c12 h
              refine g_aload_n hC 0 dX12_reading_91 rfl ?_
              replace h := ob h; obtain ⟨v13, ev13, h⟩ := h
              refine g_getR hC ev13 fk_X12_13 rfl dX12_reading_92 ?_
              refine g_sipush hC 3070 dX12_reading_95 (by decide) ?_
              refine g_iload_n hC 1 dX12_reading_98 rfl ?_
              refine g_iadd hC dX12_reading_99 ?_
              replace h := ob h; obtain ⟨a15, ea15, h⟩ := h
              subst ea15
              replace h := ob h; obtain ⟨v14, ev14, h⟩ := h
              refine g_iald hC ev14 dX12_reading_100 ?_
              exact g_iret hC h ⟨(Nat.le_of_ble_eq_true rfl), (Nat.le_of_ble_eq_true rfl)⟩ dX12_reading_101
            · replace h := it_t c12 h
              refine g_aload_n hC 0 dX12_reading_78 rfl ?_
              replace h := ob h; obtain ⟨v16, ev16, h⟩ := h
              refine g_getR hC ev16 fk_X12_13 rfl dX12_reading_79 ?_
              refine g_sipush hC 2870 dX12_reading_82 (by decide) ?_
              refine g_iload_n hC 1 dX12_reading_85 rfl ?_
              refine g_iadd hC dX12_reading_86 ?_
              replace h := ob h; obtain ⟨a18, ea18, h⟩ := h
              subst ea18
              replace h := ob h; obtain ⟨v17, ev17, h⟩ := h
              refine g_iald hC ev17 dX12_reading_87 ?_
              refine g_goto hC 101 dX12_reading_88 (by decide) ?_
              exact g_iret hC h ⟨(Nat.le_of_ble_eq_true rfl), (Nat.le_of_ble_eq_true rfl)⟩ dX12_reading_101
          · replace h := it_t c11 h
            refine g_aload_n hC 0 dX12_reading_60 rfl ?_
            replace h := ob h; obtain ⟨v19, ev19, h⟩ := h
            refine g_getR hC ev19 fk_X12_13 rfl dX12_reading_61 ?_
            refine g_sipush hC 2670 dX12_reading_64 (by decide) ?_
            refine g_iload_n hC 1 dX12_reading_67 rfl ?_
            refine g_iadd hC dX12_reading_68 ?_
            replace h := ob h; obtain ⟨a21, ea21, h⟩ := h
            subst ea21
            replace h := ob h; obtain ⟨v20, ev20, h⟩ := h
            refine g_iald hC ev20 dX12_reading_69 ?_
            refine g_goto hC 101 dX12_reading_70 (by decide) ?_
            exact g_iret hC h ⟨(Nat.le_of_ble_eq_true rfl), (Nat.le_of_ble_eq_true rfl)⟩ dX12_reading_101
        · replace h := it_t c10 h
          refine g_aload_n hC 0 dX12_reading_42 rfl ?_
          replace h := ob h; obtain ⟨v22, ev22, h⟩ := h
          refine g_getR hC ev22 fk_X12_13 rfl dX12_reading_43 ?_
          refine g_sipush hC 2470 dX12_reading_46 (by decide) ?_
          refine g_iload_n hC 1 dX12_reading_49 rfl ?_
          refine g_iadd hC dX12_reading_50 ?_
          replace h := ob h; obtain ⟨a24, ea24, h⟩ := h
          subst ea24
          replace h := ob h; obtain ⟨v23, ev23, h⟩ := h
          refine g_iald hC ev23 dX12_reading_51 ?_
          refine g_goto hC 101 dX12_reading_52 (by decide) ?_
          exact g_iret hC h ⟨(Nat.le_of_ble_eq_true rfl), (Nat.le_of_ble_eq_true rfl)⟩ dX12_reading_101
      · replace h := it_t c9 h
        refine g_aload_n hC 0 dX12_reading_24 rfl ?_
        replace h := ob h; obtain ⟨v25, ev25, h⟩ := h
        refine g_getR hC ev25 fk_X12_13 rfl dX12_reading_25 ?_
        refine g_sipush hC 2270 dX12_reading_28 (by decide) ?_
        refine g_iload_n hC 1 dX12_reading_31 rfl ?_
        refine g_iadd hC dX12_reading_32 ?_
        replace h := ob h; obtain ⟨a27, ea27, h⟩ := h
        subst ea27
        replace h := ob h; obtain ⟨v26, ev26, h⟩ := h
        refine g_iald hC ev26 dX12_reading_33 ?_
        refine g_goto hC 101 dX12_reading_34 (by decide) ?_
        exact g_iret hC h ⟨(Nat.le_of_ble_eq_true rfl), (Nat.le_of_ble_eq_true rfl)⟩ dX12_reading_101
    · replace h := it_t c8 h
      refine g_iconst hC (-1) dX12_reading_18 (by decide) ?_
      exact g_iret hC h ⟨(Nat.le_of_ble_eq_true rfl), (Nat.le_of_ble_eq_true rfl)⟩ dX12_reading_19

set_option maxHeartbeats 4000000 in
set_option maxRecDepth 100000 in
theorem l_X12_rightOf_L2 {Γ : Gm} {X : Ct} (hC : Cx Γ X cX12_rightOf RX12 (some .int) 3) (hR : X.2.2.2.1 = ({ frames := 0, cells := 0, slots := 0, locals := 0 } : Room)) (r : Int32) (M' : Mm) (k101 : Mm → Option (Int32 × Mm)) (k49 : Int32 → Mm → Option (Int32 × Mm)) (x0 : Nat) (x1 : Int32) (hk101 : ∀  (M1 : Mm), k101  M1 = some (r, M') → G Γ X 3 M1 0 0 (Fin Γ X (Qi Γ r M') 0 0) 101 ([(0, .ref x0), (1, .int x1)]) []) (hk49 : ∀ (y2 : Int32) (M1 : Mm), k49 y2 M1 = some (r, M') → G Γ X 3 M1 0 0 (Fin Γ X (Qi Γ r M') 0 0) 49 ([(0, .ref x0), (1, .int x1), (2, .int y2)]) []) : ∀ (fu : Nat) (x2 : Int32) (M0 : Mm), F_X12_rightOf_L2 k101 k49 x0 x1 fu x2 M0 = some (r, M') → G Γ X 3 M0 0 0 (Fin Γ X (Qi Γ r M') 0 0) 2 ([(0, .ref x0), (1, .int x1), (2, .int x2)]) [] := by
  intro fu
  induction fu with
  | zero =>
    intro x2 M0 h
    rw [F_X12_rightOf_L2] at h
    cases h
  | succ n1 ih =>
    intro x2 M0 h
    rw [F_X12_rightOf_L2] at h
    refine g_iload_n hC 2 dX12_rightOf_2 rfl ?_
    refine g_aload_n hC 0 dX12_rightOf_3 rfl ?_
    replace h := ob h; obtain ⟨v2, ev2, h⟩ := h
    refine g_getR hC ev2 fk_X12_13 rfl dX12_rightOf_4 ?_
    refine g_iconst hC 5 dX12_rightOf_7 (by decide) ?_
    replace h := ob h; obtain ⟨a4, ea4, h⟩ := h
    subst ea4
    replace h := ob h; obtain ⟨v3, ev3, h⟩ := h
    refine g_iald hC ev3 dX12_rightOf_8 ?_
    refine g_icmp_ge hC 101 dX12_rightOf_9 (by decide) (fun c5 => ?_) (fun c5 => ?_)
    · replace h := it_t c5 h
      refine g_sub [0, 1] rfl ?_
      exact hk101  M0 h
    · replace h := it_f c5 h
      refine g_aload_n hC 0 dX12_rightOf_12 rfl ?_
      replace h := ob h; obtain ⟨v6, ev6, h⟩ := h
      refine g_getR hC ev6 fk_X12_13 rfl dX12_rightOf_13 ?_
      refine g_sipush hC 3470 dX12_rightOf_16 (by decide) ?_
      refine g_iload_n hC 2 dX12_rightOf_19 rfl ?_
      refine g_iadd hC dX12_rightOf_20 ?_
      replace h := ob h; obtain ⟨a8, ea8, h⟩ := h
      subst ea8
      replace h := ob h; obtain ⟨v7, ev7, h⟩ := h
      refine g_iald hC ev7 dX12_rightOf_21 ?_
      refine g_aload_n hC 0 dX12_rightOf_22 rfl ?_
      replace h := ob h; obtain ⟨v9, ev9, h⟩ := h
      refine g_getR hC ev9 fk_X12_13 rfl dX12_rightOf_23 ?_
      refine g_sipush hC 2270 dX12_rightOf_26 (by decide) ?_
      refine g_iload_n hC 1 dX12_rightOf_29 rfl ?_
      refine g_iadd hC dX12_rightOf_30 ?_
      replace h := ob h; obtain ⟨a11, ea11, h⟩ := h
      subst ea11
      replace h := ob h; obtain ⟨v10, ev10, h⟩ := h
      refine g_iald hC ev10 dX12_rightOf_31 ?_
      refine g_icmp_ne hC 95 dX12_rightOf_32 (by decide) (fun c12 => ?_) (fun c12 => ?_)
      · replace h := it_f c12 h
        refine g_iinc hC 2 (x2 + 1) ([(2, .int (x2 + 1)), (0, .ref x0), (1, .int x1)]) dX12_rightOf_95 rfl rfl (by decide) rfl ?_
        refine g_goto hC 2 dX12_rightOf_98 (by decide) ?_
        refine g_sub [1, 2, 0] rfl ?_
        exact ih (x2 + 1) M0 h
      · replace h := it_t c12 h
        refine g_aload_n hC 0 dX12_rightOf_35 rfl ?_
        replace h := ob h; obtain ⟨v13, ev13, h⟩ := h
        refine g_getR hC ev13 fk_X12_13 rfl dX12_rightOf_36 ?_
        refine g_sipush hC 3650 dX12_rightOf_39 (by decide) ?_
        refine g_iload_n hC 2 dX12_rightOf_42 rfl ?_
        refine g_iadd hC dX12_rightOf_43 ?_
        replace h := ob h; obtain ⟨a15, ea15, h⟩ := h
        subst ea15
        replace h := ob h; obtain ⟨v14, ev14, h⟩ := h
        refine g_iald hC ev14 dX12_rightOf_44 ?_
        refine g_iload_n hC 1 dX12_rightOf_45 rfl ?_
        refine g_icmp_le hC 95 dX12_rightOf_46 (by decide) (fun c16 => ?_) (fun c16 => ?_)
        · replace h := it_t c16 h
          refine g_iinc hC 2 (x2 + 1) ([(2, .int (x2 + 1)), (0, .ref x0), (1, .int x1)]) dX12_rightOf_95 rfl rfl (by decide) rfl ?_
          refine g_goto hC 2 dX12_rightOf_98 (by decide) ?_
          refine g_sub [1, 2, 0] rfl ?_
          exact ih (x2 + 1) M0 h
        · replace h := it_f c16 h
          refine g_sub [0, 1, 2] rfl ?_
          exact hk49 x2 M0 h
set_option maxHeartbeats 4000000 in
set_option maxRecDepth 100000 in
theorem c_X12_rightOf (l : Launch) (Γ : Gm) (this : Nat) (p1 : Int32) (M M' : Mm) (r : Int32) (h : F_X12_rightOf this p1 M = some (r, M')) : Met l yX12_rightOf (wz yX12_rightOf cX12_rightOf 3 (some .int)) ({ frames := 0, cells := 0, slots := 0, locals := 0 } : Room) (Pq Γ M [.ref this, .int p1]) (Qi Γ r M') 0 0 (fr Γ) := by
  refine met_of (own := RX12) (by decide +kernel) rfl (Nat.le_of_ble_eq_true rfl) ?_
  intro X hC hR hnm hXl
  unfold F_X12_rightOf at h
  show G Γ X 3 M 0 0 _ 0 ([(0, .ref this), (1, .int p1)]) []
  refine g_iconst hC 0 dX12_rightOf_0 (by decide) ?_
  refine g_istore_n hC ([(2, .int 0), (0, .ref this), (1, .int p1)]) dX12_rightOf_1 (by decide) rfl ?_
  refine g_sub [1, 2, 0] rfl ?_
  refine l_X12_rightOf_L2 hC hR r M' _ _ _ _ ?_ ?_ _ _ _ h
  · intro  M17 h
    refine g_aload_n hC 0 dX12_rightOf_101 rfl ?_
    replace h := ob h; obtain ⟨v18, ev18, h⟩ := h
    refine g_getR hC ev18 fk_X12_13 rfl dX12_rightOf_102 ?_
    refine g_sipush hC 3270 dX12_rightOf_105 (by decide) ?_
    refine g_iload_n hC 1 dX12_rightOf_108 rfl ?_
    refine g_iadd hC dX12_rightOf_109 ?_
    replace h := ob h; obtain ⟨a20, ea20, h⟩ := h
    subst ea20
    replace h := ob h; obtain ⟨v19, ev19, h⟩ := h
    refine g_iald hC ev19 dX12_rightOf_110 ?_
    refine g_iconst hC 3 dX12_rightOf_111 (by decide) ?_
    refine g_aload_n hC 0 dX12_rightOf_112 rfl ?_
    replace h := ob h; obtain ⟨v21, ev21, h⟩ := h
    refine g_getR hC ev21 fk_X12_13 rfl dX12_rightOf_113 ?_
    refine g_sipush hC 3070 dX12_rightOf_116 (by decide) ?_
    refine g_iload_n hC 1 dX12_rightOf_119 rfl ?_
    refine g_iadd hC dX12_rightOf_120 ?_
    replace h := ob h; obtain ⟨a23, ea23, h⟩ := h
    subst ea23
    replace h := ob h; obtain ⟨v22, ev22, h⟩ := h
    refine g_iald hC ev22 dX12_rightOf_121 ?_
    refine g_imul hC dX12_rightOf_122 ?_
    refine g_isub hC dX12_rightOf_123 ?_
    exact g_iret hC h ⟨(Nat.le_of_ble_eq_true rfl), (Nat.le_of_ble_eq_true rfl)⟩ dX12_rightOf_124
  · intro y24 M25 h
    refine g_aload_n hC 0 dX12_rightOf_49 rfl ?_
    replace h := ob h; obtain ⟨v26, ev26, h⟩ := h
    refine g_getR hC ev26 fk_X12_13 rfl dX12_rightOf_50 ?_
    refine g_sipush hC 3270 dX12_rightOf_53 (by decide) ?_
    refine g_iload_n hC 1 dX12_rightOf_56 rfl ?_
    refine g_iadd hC dX12_rightOf_57 ?_
    replace h := ob h; obtain ⟨a28, ea28, h⟩ := h
    subst ea28
    replace h := ob h; obtain ⟨v27, ev27, h⟩ := h
    refine g_iald hC ev27 dX12_rightOf_58 ?_
    refine g_aload_n hC 0 dX12_rightOf_59 rfl ?_
    replace h := ob h; obtain ⟨v29, ev29, h⟩ := h
    refine g_getR hC ev29 fk_X12_13 rfl dX12_rightOf_60 ?_
    refine g_sipush hC 3530 dX12_rightOf_63 (by decide) ?_
    refine g_iload_n hC 2 dX12_rightOf_66 rfl ?_
    refine g_iadd hC dX12_rightOf_67 ?_
    replace h := ob h; obtain ⟨a31, ea31, h⟩ := h
    subst ea31
    replace h := ob h; obtain ⟨v30, ev30, h⟩ := h
    refine g_iald hC ev30 dX12_rightOf_68 ?_
    refine g_aload_n hC 0 dX12_rightOf_69 rfl ?_
    replace h := ob h; obtain ⟨v32, ev32, h⟩ := h
    refine g_getR hC ev32 fk_X12_13 rfl dX12_rightOf_70 ?_
    refine g_sipush hC 3070 dX12_rightOf_73 (by decide) ?_
    refine g_iload_n hC 1 dX12_rightOf_76 rfl ?_
    refine g_iadd hC dX12_rightOf_77 ?_
    replace h := ob h; obtain ⟨a34, ea34, h⟩ := h
    subst ea34
    replace h := ob h; obtain ⟨v33, ev33, h⟩ := h
    refine g_iald hC ev33 dX12_rightOf_78 ?_
    refine g_iconst hC 1 dX12_rightOf_79 (by decide) ?_
    refine g_iadd hC dX12_rightOf_80 ?_
    refine g_imul hC dX12_rightOf_81 ?_
    refine g_aload_n hC 0 dX12_rightOf_82 rfl ?_
    replace h := ob h; obtain ⟨v35, ev35, h⟩ := h
    refine g_getR hC ev35 fk_X12_13 rfl dX12_rightOf_83 ?_
    refine g_sipush hC 3590 dX12_rightOf_86 (by decide) ?_
    refine g_iload_n hC 2 dX12_rightOf_89 rfl ?_
    refine g_iadd hC dX12_rightOf_90 ?_
    replace h := ob h; obtain ⟨a37, ea37, h⟩ := h
    subst ea37
    replace h := ob h; obtain ⟨v36, ev36, h⟩ := h
    refine g_iald hC ev36 dX12_rightOf_91 ?_
    replace h := ob h; obtain ⟨v38, ev38, h⟩ := h
    refine g_idiv hC ev38 dX12_rightOf_92 ?_
    refine g_isub hC dX12_rightOf_93 ?_
    exact g_iret hC h ⟨(Nat.le_of_ble_eq_true rfl), (Nat.le_of_ble_eq_true rfl)⟩ dX12_rightOf_94

set_option maxHeartbeats 4000000 in
set_option maxRecDepth 100000 in
theorem c_X12_read (l : Launch) (Γ : Gm) (this : Nat) (p1 : Int32) (p2 : Int32) (M M' : Mm) (r : Int64) (h : F_X12_read this p1 p2 M = some (r, M')) : Met l yX12_read (wz yX12_read cX12_read 3 (some .long)) ({ frames := 2, cells := 0, slots := 0, locals := 44 } : Room) (Pq Γ M [.ref this, .int p1, .int p2]) (Ql Γ r M') 0 0 (fr Γ) := by
  refine met_of (own := RX12) (by decide +kernel) rfl (Nat.le_of_ble_eq_true rfl) ?_
  intro X hC hR hnm hXl
  unfold F_X12_read at h
  show G Γ X 3 M 0 0 _ 0 ([(0, .ref this), (1, .int p1), (2, .int p2)]) []
  refine g_aload_n hC 0 dX12_read_0 rfl ?_
  refine g_aload_n hC 0 dX12_read_1 rfl ?_
  refine g_iload_n hC 1 dX12_read_2 rfl ?_
  replace h := ob h; obtain ⟨_, eu2, h⟩ := h
  replace h := ob h; obtain ⟨⟨v3, M1⟩, eM1, h⟩ := h
  refine g_calli hC (r_V hC (As := [.int p1]) (c_X12_isReading _ Γ this p1 M M1 v3 eM1) yk_X12_isReading lk_X12_240 eu2 ⟨_, rfl, rfl⟩ rfl rfl (Nat.le_of_ble_eq_true rfl) hR ⟨(Nat.le_of_ble_eq_true rfl), (Nat.le_of_ble_eq_true rfl)⟩ ⟨(Nat.le_of_ble_eq_true rfl), (Nat.le_of_ble_eq_true rfl)⟩ dX12_read_3) ?_
  replace h := nv_e h; obtain ⟨v4, ev4, h⟩ := h
  have J5 : G Γ X 3 M1 0 0 (Fin Γ X (Ql Γ r M') 0 0) 14 ([(0, .ref this), (1, .int p1), (2, .int p2)]) ([.int v4, .ref this]) := by
    replace h := ob h; obtain ⟨M6, eM6, h⟩ := h
    refine g_putI hC eM6 fk_X12_1 rfl dX12_read_14 ?_
    refine g_aload_n hC 0 dX12_read_17 rfl ?_
    replace h := ob h; obtain ⟨v7, ev7, h⟩ := h
    refine g_getI hC ev7 fk_X12_1 rfl dX12_read_18 ?_
    refine g_if_le hC 28 dX12_read_21 (by decide) (fun c8 => ?_) (fun c8 => ?_)
    · replace h := it_t c8 h
      refine g_iload_n hC 2 dX12_read_28 rfl ?_
      refine g_if_eq hC 41 dX12_read_29 (by decide) (fun c9 => ?_) (fun c9 => ?_)
      · replace h := it_t c9 h
        refine g_aload_n hC 0 dX12_read_41 rfl ?_
        replace h := ob h; obtain ⟨v10, ev10, h⟩ := h
        refine g_getR hC ev10 fk_X12_13 rfl dX12_read_42 ?_
        refine g_sipush hC 3270 dX12_read_45 (by decide) ?_
        refine g_iload_n hC 1 dX12_read_48 rfl ?_
        refine g_iadd hC dX12_read_49 ?_
        replace h := ob h; obtain ⟨a12, ea12, h⟩ := h
        subst ea12
        replace h := ob h; obtain ⟨v11, ev11, h⟩ := h
        refine g_iald hC ev11 dX12_read_50 ?_
        refine g_i2l hC dX12_read_51 ?_
        exact g_lret hC h ⟨(Nat.le_of_ble_eq_true rfl), (Nat.le_of_ble_eq_true rfl)⟩ dX12_read_52
      · replace h := it_f c9 h
        refine g_aload_n hC 0 dX12_read_32 rfl ?_
        refine g_iload_n hC 1 dX12_read_33 rfl ?_
        replace h := ob h; obtain ⟨_, eu14, h⟩ := h
        replace h := ob h; obtain ⟨⟨v15, M13⟩, eM13, h⟩ := h
        refine g_calli hC (r_V hC (As := [.int p1]) (c_X12_rightOf _ Γ this p1 M6 M13 v15 eM13) yk_X12_rightOf lk_X12_243 eu14 ⟨_, rfl, rfl⟩ rfl rfl (Nat.le_of_ble_eq_true rfl) hR ⟨(Nat.le_of_ble_eq_true rfl), (Nat.le_of_ble_eq_true rfl)⟩ ⟨(Nat.le_of_ble_eq_true rfl), (Nat.le_of_ble_eq_true rfl)⟩ dX12_read_34) ?_
        refine g_i2l hC dX12_read_37 ?_
        refine g_goto hC 52 dX12_read_38 (by decide) ?_
        exact g_lret hC h ⟨(Nat.le_of_ble_eq_true rfl), (Nat.le_of_ble_eq_true rfl)⟩ dX12_read_52
    · replace h := it_f c8 h
      refine g_lconst hC 0 dX12_read_24 (by decide) ?_
      refine g_goto hC 52 dX12_read_25 (by decide) ?_
      exact g_lret hC h ⟨(Nat.le_of_ble_eq_true rfl), (Nat.le_of_ble_eq_true rfl)⟩ dX12_read_52
  refine g_if_eq hC 13 dX12_read_6 (by decide) (fun c16 => ?_) (fun c16 => ?_)
  · refine g_iconst hC 1 dX12_read_13 (by decide) ?_
    rw [show v4 = _ from ev4.trans (if_pos c16)] at J5
    exact J5
  · refine g_iconst hC 0 dX12_read_9 (by decide) ?_
    refine g_goto hC 14 dX12_read_10 (by decide) ?_
    rw [show v4 = _ from ev4.trans (if_neg c16)] at J5
    exact J5

set_option maxHeartbeats 4000000 in
set_option maxRecDepth 100000 in
theorem c_X12_endBy (l : Launch) (Γ : Gm) (this : Nat) (p1 : Int32) (p2 : Int32) (p3 : Int32) (p4 : Int32) (M M' : Mm) (h : F_X12_endBy this p1 p2 p3 p4 M = some M') : Met l yX12_endBy (wz yX12_endBy cX12_endBy 5 none) ({ frames := 6, cells := 0, slots := 0, locals := 136 } : Room) (Pq Γ M [.ref this, .int p1, .int p2, .int p3, .int p4]) (Qv Γ M') 0 0 (fr Γ) := by
  refine met_of (own := RX12) (by decide +kernel) rfl (Nat.le_of_ble_eq_true rfl) ?_
  intro X hC hR hnm hXl
  unfold F_X12_endBy at h
  show G Γ X 5 M 0 0 _ 0 ([(0, .ref this), (1, .int p1), (2, .int p2), (3, .int p3), (4, .int p4)]) []
  refine g_aload_n hC 0 dX12_endBy_0 rfl ?_
  refine g_aload_n hC 0 dX12_endBy_1 rfl ?_
  replace h := ob h; obtain ⟨v1, ev1, h⟩ := h
  refine g_getR hC ev1 fk_X12_13 rfl dX12_endBy_2 ?_
  refine g_sipush hC 2178 dX12_endBy_5 (by decide) ?_
  refine g_iload_n hC 1 dX12_endBy_8 rfl ?_
  refine g_iadd hC dX12_endBy_9 ?_
  replace h := ob h; obtain ⟨a3, ea3, h⟩ := h
  subst ea3
  replace h := ob h; obtain ⟨v2, ev2, h⟩ := h
  refine g_iald hC ev2 dX12_endBy_10 ?_
  replace h := ob h; obtain ⟨M4, eM4, h⟩ := h
  refine g_putI hC eM4 fk_X12_24 rfl dX12_endBy_11 ?_
  refine g_aload_n hC 0 dX12_endBy_14 rfl ?_
  refine g_aload_n hC 0 dX12_endBy_15 rfl ?_
  replace h := ob h; obtain ⟨v5, ev5, h⟩ := h
  refine g_getR hC ev5 fk_X12_13 rfl dX12_endBy_16 ?_
  refine g_sipush hC 2186 dX12_endBy_19 (by decide) ?_
  refine g_iload_n hC 1 dX12_endBy_22 rfl ?_
  refine g_iadd hC dX12_endBy_23 ?_
  replace h := ob h; obtain ⟨a7, ea7, h⟩ := h
  subst ea7
  replace h := ob h; obtain ⟨v6, ev6, h⟩ := h
  refine g_iald hC ev6 dX12_endBy_24 ?_
  replace h := ob h; obtain ⟨M8, eM8, h⟩ := h
  refine g_putI hC eM8 fk_X12_27 rfl dX12_endBy_25 ?_
  refine g_aload_n hC 0 dX12_endBy_28 rfl ?_
  refine g_iload_n hC 2 dX12_endBy_29 rfl ?_
  refine g_iconst hC 1 dX12_endBy_30 (by decide) ?_
  replace h := ob h; obtain ⟨_, eu10, h⟩ := h
  replace h := ob h; obtain ⟨M9, eM9, h⟩ := h
  refine g_callv hC (r_V hC (As := [.int p2, .int 1]) (c_X12_sink _ Γ this p2 1 M8 M9 eM9) yk_X12_sink lk_X12_172 eu10 ⟨_, rfl, rfl⟩ rfl rfl (Nat.le_of_ble_eq_true rfl) hR ⟨(Nat.le_of_ble_eq_true rfl), (Nat.le_of_ble_eq_true rfl)⟩ ⟨(Nat.le_of_ble_eq_true rfl), (Nat.le_of_ble_eq_true rfl)⟩ dX12_endBy_31) ?_
  refine g_aload_n hC 0 dX12_endBy_34 rfl ?_
  refine g_iload_n hC 3 dX12_endBy_35 rfl ?_
  refine g_iload hC 4 dX12_endBy_36 rfl ?_
  replace h := ob h; obtain ⟨_, eu12, h⟩ := h
  replace h := ob h; obtain ⟨M11, eM11, h⟩ := h
  refine g_callv hC (r_V hC (As := [.int p3, .int p4]) (c_X12_steps _ Γ this p3 p4 M9 M11 eM11) yk_X12_steps lk_X12_159 eu12 ⟨_, rfl, rfl⟩ rfl rfl (Nat.le_of_ble_eq_true rfl) hR ⟨(Nat.le_of_ble_eq_true rfl), (Nat.le_of_ble_eq_true rfl)⟩ ⟨(Nat.le_of_ble_eq_true rfl), (Nat.le_of_ble_eq_true rfl)⟩ dX12_endBy_38) ?_
  exact g_vret hC h ⟨(Nat.le_of_ble_eq_true rfl), (Nat.le_of_ble_eq_true rfl)⟩ dX12_endBy_41

set_option maxHeartbeats 4000000 in
set_option maxRecDepth 100000 in
theorem l_X12_findEnds_L72 {Γ : Gm} {X : Ct} (hC : Cx Γ X cX12_findEnds RX12 none 4) (hR : X.2.2.2.1 = ({ frames := 7, cells := 0, slots := 0, locals := 160 } : Room)) (M' : Mm) (k171 : Mm → Option Mm) (x0 : Nat) (x1 : Int32) (x2 : Int32) (hk171 : ∀  (M1 : Mm), k171  M1 = some M' → G Γ X 4 M1 0 0 (Fin Γ X (Qv Γ M') 0 0) 171 ([(0, .ref x0), (1, .int x1), (2, .int x2)]) []) : ∀ (fu : Nat) (x3 : Int32) (M0 : Mm), F_X12_findEnds_L72 k171 x0 x1 x2 fu x3 M0 = some M' → G Γ X 4 M0 0 0 (Fin Γ X (Qv Γ M') 0 0) 72 ([(0, .ref x0), (1, .int x1), (2, .int x2), (3, .int x3)]) [] := by
  intro fu
  induction fu with
  | zero =>
    intro x3 M0 h
    rw [F_X12_findEnds_L72] at h
    cases h
  | succ n27 ih =>
    intro x3 M0 h
    rw [F_X12_findEnds_L72] at h
    refine g_iload_n hC 3 dX12_findEnds_72 rfl ?_
    refine g_bipush hC 81 dX12_findEnds_73 (by decide) ?_
    refine g_icmp_ge hC 171 dX12_findEnds_75 (by decide) (fun c28 => ?_) (fun c28 => ?_)
    · replace h := it_t c28 h
      refine g_sub [0, 1, 2] rfl ?_
      exact hk171  M0 h
    · replace h := it_f c28 h
      refine g_aload_n hC 0 dX12_findEnds_78 rfl ?_
      replace h := ob h; obtain ⟨v29, ev29, h⟩ := h
      refine g_getR hC ev29 fk_X12_78 rfl dX12_findEnds_79 ?_
      refine g_bipush hC 81 dX12_findEnds_82 (by decide) ?_
      refine g_aload_n hC 0 dX12_findEnds_84 rfl ?_
      replace h := ob h; obtain ⟨v30, ev30, h⟩ := h
      refine g_getI hC ev30 fk_X12_90 rfl dX12_findEnds_85 ?_
      refine g_imul hC dX12_findEnds_88 ?_
      refine g_iload_n hC 3 dX12_findEnds_89 rfl ?_
      refine g_iadd hC dX12_findEnds_90 ?_
      refine g_iconst hC (-1) dX12_findEnds_91 (by decide) ?_
      replace h := ob h; obtain ⟨a32, ea32, h⟩ := h
      subst ea32
      replace h := ob h; obtain ⟨M31, eM31, h⟩ := h
      refine g_iast hC eM31 dX12_findEnds_92 ?_
      refine g_aload_n hC 0 dX12_findEnds_93 rfl ?_
      refine g_iload_n hC 2 dX12_findEnds_94 rfl ?_
      refine g_iload_n hC 3 dX12_findEnds_95 rfl ?_
      refine g_bipush hC 9 dX12_findEnds_96 (by decide) ?_
      replace h := ob h; obtain ⟨v33, ev33, h⟩ := h
      refine g_idiv hC ev33 dX12_findEnds_98 ?_
      refine g_iconst hC 4 dX12_findEnds_99 (by decide) ?_
      refine g_isub hC dX12_findEnds_100 ?_
      refine g_iload_n hC 3 dX12_findEnds_101 rfl ?_
      refine g_bipush hC 9 dX12_findEnds_102 (by decide) ?_
      replace h := ob h; obtain ⟨v34, ev34, h⟩ := h
      refine g_irem hC ev34 dX12_findEnds_104 ?_
      refine g_iconst hC 4 dX12_findEnds_105 (by decide) ?_
      refine g_isub hC dX12_findEnds_106 ?_
      replace h := ob h; obtain ⟨_, eu36, h⟩ := h
      replace h := ob h; obtain ⟨⟨v37, M35⟩, eM35, h⟩ := h
      refine g_calli hC (r_V hC (As := [.int x2, .int (v33 - 4), .int (v34 - 4)]) (c_X12_isHeading _ Γ x0 x2 (v33 - 4) (v34 - 4) M31 M35 v37 eM35) yk_X12_isHeading lk_X12_184 eu36 ⟨_, rfl, rfl⟩ rfl rfl (Nat.le_of_ble_eq_true rfl) hR ⟨(Nat.le_of_ble_eq_true rfl), (Nat.le_of_ble_eq_true rfl)⟩ ⟨(Nat.le_of_ble_eq_true rfl), (Nat.le_of_ble_eq_true rfl)⟩ dX12_findEnds_107) ?_
      refine g_if_ne hC 116 dX12_findEnds_110 (by decide) (fun c38 => ?_) (fun c38 => ?_)
      · replace h := it_f c38 h
        refine g_aload_n hC 0 dX12_findEnds_116 rfl ?_
        refine g_iload_n hC 2 dX12_findEnds_117 rfl ?_
        refine g_aload_n hC 0 dX12_findEnds_118 rfl ?_
        refine g_iload_n hC 2 dX12_findEnds_119 rfl ?_
        refine g_iload_n hC 1 dX12_findEnds_120 rfl ?_
        replace h := ob h; obtain ⟨_, eu40, h⟩ := h
        replace h := ob h; obtain ⟨⟨v41, M39⟩, eM39, h⟩ := h
        refine g_calli hC (r_V hC (As := [.int x2, .int x1]) (c_X12_layerFor _ Γ x0 x2 x1 M35 M39 v41 eM39) yk_X12_layerFor lk_X12_225 eu40 ⟨_, rfl, rfl⟩ rfl rfl (Nat.le_of_ble_eq_true rfl) hR ⟨(Nat.le_of_ble_eq_true rfl), (Nat.le_of_ble_eq_true rfl)⟩ ⟨(Nat.le_of_ble_eq_true rfl), (Nat.le_of_ble_eq_true rfl)⟩ dX12_findEnds_121) ?_
        refine g_iload_n hC 3 dX12_findEnds_124 rfl ?_
        refine g_bipush hC 9 dX12_findEnds_125 (by decide) ?_
        replace h := ob h; obtain ⟨v42, ev42, h⟩ := h
        refine g_idiv hC ev42 dX12_findEnds_127 ?_
        refine g_iconst hC 4 dX12_findEnds_128 (by decide) ?_
        refine g_isub hC dX12_findEnds_129 ?_
        refine g_iload_n hC 3 dX12_findEnds_130 rfl ?_
        refine g_bipush hC 9 dX12_findEnds_131 (by decide) ?_
        replace h := ob h; obtain ⟨v43, ev43, h⟩ := h
        refine g_irem hC ev43 dX12_findEnds_133 ?_
        refine g_iconst hC 4 dX12_findEnds_134 (by decide) ?_
        refine g_isub hC dX12_findEnds_135 ?_
        replace h := ob h; obtain ⟨_, eu45, h⟩ := h
        replace h := ob h; obtain ⟨M44, eM44, h⟩ := h
        refine g_callv hC (r_V hC (As := [.int x2, .int v41, .int (v42 - 4), .int (v43 - 4)]) (c_X12_endBy _ Γ x0 x2 v41 (v42 - 4) (v43 - 4) M39 M44 eM44) yk_X12_endBy lk_X12_246 eu45 ⟨_, rfl, rfl⟩ rfl rfl (Nat.le_of_ble_eq_true rfl) hR ⟨(Nat.le_of_ble_eq_true rfl), (Nat.le_of_ble_eq_true rfl)⟩ ⟨(Nat.le_of_ble_eq_true rfl), (Nat.le_of_ble_eq_true rfl)⟩ dX12_findEnds_136) ?_
        refine g_aload_n hC 0 dX12_findEnds_139 rfl ?_
        replace h := ob h; obtain ⟨v46, ev46, h⟩ := h
        refine g_getR hC ev46 fk_X12_78 rfl dX12_findEnds_140 ?_
        refine g_bipush hC 81 dX12_findEnds_143 (by decide) ?_
        refine g_aload_n hC 0 dX12_findEnds_145 rfl ?_
        replace h := ob h; obtain ⟨v47, ev47, h⟩ := h
        refine g_getI hC ev47 fk_X12_90 rfl dX12_findEnds_146 ?_
        refine g_imul hC dX12_findEnds_149 ?_
        refine g_iload_n hC 3 dX12_findEnds_150 rfl ?_
        refine g_iadd hC dX12_findEnds_151 ?_
        refine g_bipush hC 8 dX12_findEnds_152 (by decide) ?_
        refine g_aload_n hC 0 dX12_findEnds_154 rfl ?_
        replace h := ob h; obtain ⟨v48, ev48, h⟩ := h
        refine g_getI hC ev48 fk_X12_24 rfl dX12_findEnds_155 ?_
        refine g_imul hC dX12_findEnds_158 ?_
        refine g_aload_n hC 0 dX12_findEnds_159 rfl ?_
        replace h := ob h; obtain ⟨v49, ev49, h⟩ := h
        refine g_getI hC ev49 fk_X12_27 rfl dX12_findEnds_160 ?_
        refine g_iadd hC dX12_findEnds_163 ?_
        replace h := ob h; obtain ⟨a51, ea51, h⟩ := h
        subst ea51
        replace h := ob h; obtain ⟨M50, eM50, h⟩ := h
        refine g_iast hC eM50 dX12_findEnds_164 ?_
        refine g_iinc hC 3 (x3 + 1) ([(3, .int (x3 + 1)), (0, .ref x0), (1, .int x1), (2, .int x2)]) dX12_findEnds_165 rfl rfl (by decide) rfl ?_
        refine g_goto hC 72 dX12_findEnds_168 (by decide) ?_
        refine g_sub [1, 2, 3, 0] rfl ?_
        exact ih (x3 + 1) M50 h
      · replace h := it_t c38 h
        refine g_goto hC 165 dX12_findEnds_113 (by decide) ?_
        refine g_iinc hC 3 (x3 + 1) ([(3, .int (x3 + 1)), (0, .ref x0), (1, .int x1), (2, .int x2)]) dX12_findEnds_165 rfl rfl (by decide) rfl ?_
        refine g_goto hC 72 dX12_findEnds_168 (by decide) ?_
        refine g_sub [1, 2, 3, 0] rfl ?_
        exact ih (x3 + 1) M35 h
set_option maxHeartbeats 4000000 in
set_option maxRecDepth 100000 in
theorem l_X12_findEnds_L7 {Γ : Gm} {X : Ct} (hC : Cx Γ X cX12_findEnds RX12 none 4) (hR : X.2.2.2.1 = ({ frames := 7, cells := 0, slots := 0, locals := 160 } : Room)) (M' : Mm)  (x0 : Nat) (x1 : Int32) : ∀ (fu : Nat) (x2 : Int32) (M0 : Mm), F_X12_findEnds_L7 x0 x1 fu x2 M0 = some M' → G Γ X 4 M0 0 0 (Fin Γ X (Qv Γ M') 0 0) 7 ([(0, .ref x0), (1, .int x1), (2, .int x2)]) [] := by
  intro fu
  induction fu with
  | zero =>
    intro x2 M0 h
    rw [F_X12_findEnds_L7] at h
    cases h
  | succ n2 ih =>
    intro x2 M0 h
    rw [F_X12_findEnds_L7] at h
    refine g_iload_n hC 2 dX12_findEnds_7 rfl ?_
    refine g_aload_n hC 0 dX12_findEnds_8 rfl ?_
    replace h := ob h; obtain ⟨v3, ev3, h⟩ := h
    refine g_getR hC ev3 fk_X12_13 rfl dX12_findEnds_9 ?_
    refine g_iconst hC 0 dX12_findEnds_12 (by decide) ?_
    replace h := ob h; obtain ⟨a5, ea5, h⟩ := h
    subst ea5
    replace h := ob h; obtain ⟨v4, ev4, h⟩ := h
    refine g_iald hC ev4 dX12_findEnds_13 ?_
    refine g_icmp_ge hC 187 dX12_findEnds_14 (by decide) (fun c6 => ?_) (fun c6 => ?_)
    · replace h := it_t c6 h
      exact g_vret hC h ⟨(Nat.le_of_ble_eq_true rfl), (Nat.le_of_ble_eq_true rfl)⟩ dX12_findEnds_187
    · replace h := it_f c6 h
      refine g_aload_n hC 0 dX12_findEnds_17 rfl ?_
      replace h := ob h; obtain ⟨v7, ev7, h⟩ := h
      refine g_getI hC ev7 fk_X12_90 rfl dX12_findEnds_18 ?_
      refine g_iconst hC 3 dX12_findEnds_21 (by decide) ?_
      refine g_icmp_ge hC 187 dX12_findEnds_22 (by decide) (fun c8 => ?_) (fun c8 => ?_)
      · replace h := it_t c8 h
        exact g_vret hC h ⟨(Nat.le_of_ble_eq_true rfl), (Nat.le_of_ble_eq_true rfl)⟩ dX12_findEnds_187
      · replace h := it_f c8 h
        refine g_aload_n hC 0 dX12_findEnds_25 rfl ?_
        refine g_iload_n hC 2 dX12_findEnds_26 rfl ?_
        replace h := ob h; obtain ⟨_, eu10, h⟩ := h
        replace h := ob h; obtain ⟨⟨v11, M9⟩, eM9, h⟩ := h
        refine g_calli hC (r_V hC (As := [.int x2]) (c_X12_isUp _ Γ x0 x2 M0 M9 v11 eM9) yk_X12_isUp lk_X12_187 eu10 ⟨_, rfl, rfl⟩ rfl rfl (Nat.le_of_ble_eq_true rfl) hR ⟨(Nat.le_of_ble_eq_true rfl), (Nat.le_of_ble_eq_true rfl)⟩ ⟨(Nat.le_of_ble_eq_true rfl), (Nat.le_of_ble_eq_true rfl)⟩ dX12_findEnds_27) ?_
        refine g_if_eq hC 181 dX12_findEnds_30 (by decide) (fun c12 => ?_) (fun c12 => ?_)
        · replace h := it_t c12 h
          refine g_iinc hC 2 (x2 + 1) ([(2, .int (x2 + 1)), (0, .ref x0), (1, .int x1)]) dX12_findEnds_181 rfl rfl (by decide) rfl ?_
          refine g_goto hC 7 dX12_findEnds_184 (by decide) ?_
          refine g_sub [1, 2, 0] rfl ?_
          exact ih (x2 + 1) M9 h
        · replace h := it_f c12 h
          refine g_aload_n hC 0 dX12_findEnds_33 rfl ?_
          replace h := ob h; obtain ⟨v13, ev13, h⟩ := h
          refine g_getR hC ev13 fk_X12_13 rfl dX12_findEnds_34 ?_
          refine g_sipush hC 2194 dX12_findEnds_37 (by decide) ?_
          refine g_iload_n hC 2 dX12_findEnds_40 rfl ?_
          refine g_iadd hC dX12_findEnds_41 ?_
          replace h := ob h; obtain ⟨a15, ea15, h⟩ := h
          subst ea15
          replace h := ob h; obtain ⟨v14, ev14, h⟩ := h
          refine g_iald hC ev14 dX12_findEnds_42 ?_
          refine g_aload_n hC 0 dX12_findEnds_43 rfl ?_
          refine g_iload_n hC 2 dX12_findEnds_44 rfl ?_
          refine g_aload_n hC 0 dX12_findEnds_45 rfl ?_
          refine g_iload_n hC 2 dX12_findEnds_46 rfl ?_
          refine g_iload_n hC 1 dX12_findEnds_47 rfl ?_
          replace h := ob h; obtain ⟨_, eu17, h⟩ := h
          replace h := ob h; obtain ⟨⟨v18, M16⟩, eM16, h⟩ := h
          refine g_calli hC (r_V hC (As := [.int x2, .int x1]) (c_X12_layerFor _ Γ x0 x2 x1 M9 M16 v18 eM16) yk_X12_layerFor lk_X12_225 eu17 ⟨_, rfl, rfl⟩ rfl rfl (Nat.le_of_ble_eq_true rfl) hR ⟨(Nat.le_of_ble_eq_true rfl), (Nat.le_of_ble_eq_true rfl)⟩ ⟨(Nat.le_of_ble_eq_true rfl), (Nat.le_of_ble_eq_true rfl)⟩ dX12_findEnds_48) ?_
          replace h := ob h; obtain ⟨_, eu20, h⟩ := h
          replace h := ob h; obtain ⟨⟨v21, M19⟩, eM19, h⟩ := h
          refine g_calli hC (r_V hC (As := [.int x2, .int v18]) (c_X12_cost _ Γ x0 x2 v18 M16 M19 v21 eM19) yk_X12_cost lk_X12_149 eu20 ⟨_, rfl, rfl⟩ rfl rfl (Nat.le_of_ble_eq_true rfl) hR ⟨(Nat.le_of_ble_eq_true rfl), (Nat.le_of_ble_eq_true rfl)⟩ ⟨(Nat.le_of_ble_eq_true rfl), (Nat.le_of_ble_eq_true rfl)⟩ dX12_findEnds_51) ?_
          refine g_icmp_ge hC 60 dX12_findEnds_54 (by decide) (fun c22 => ?_) (fun c22 => ?_)
          · replace h := it_t c22 h
            refine g_aload_n hC 0 dX12_findEnds_60 rfl ?_
            replace h := ob h; obtain ⟨v23, ev23, h⟩ := h
            refine g_getR hC ev23 fk_X12_75 rfl dX12_findEnds_61 ?_
            refine g_aload_n hC 0 dX12_findEnds_64 rfl ?_
            replace h := ob h; obtain ⟨v24, ev24, h⟩ := h
            refine g_getI hC ev24 fk_X12_90 rfl dX12_findEnds_65 ?_
            refine g_iload_n hC 2 dX12_findEnds_68 rfl ?_
            replace h := ob h; obtain ⟨a26, ea26, h⟩ := h
            subst ea26
            replace h := ob h; obtain ⟨M25, eM25, h⟩ := h
            refine g_iast hC eM25 dX12_findEnds_69 ?_
            refine g_iconst hC 0 dX12_findEnds_70 (by decide) ?_
            refine g_istore_n hC ([(3, .int 0), (0, .ref x0), (1, .int x1), (2, .int x2)]) dX12_findEnds_71 (by decide) rfl ?_
            refine g_sub [1, 2, 3, 0] rfl ?_
            refine l_X12_findEnds_L72 hC hR M' _ _ _ _ ?_ _ _ _ h
            intro  M52 h
            refine g_aload_n hC 0 dX12_findEnds_171 rfl ?_
            refine g_dup hC dX12_findEnds_172 rfl ?_
            replace h := ob h; obtain ⟨v53, ev53, h⟩ := h
            refine g_getI hC ev53 fk_X12_90 rfl dX12_findEnds_173 ?_
            refine g_iconst hC 1 dX12_findEnds_176 (by decide) ?_
            refine g_iadd hC dX12_findEnds_177 ?_
            replace h := ob h; obtain ⟨M54, eM54, h⟩ := h
            refine g_putI hC eM54 fk_X12_90 rfl dX12_findEnds_178 ?_
            refine g_iinc hC 2 (x2 + 1) ([(2, .int (x2 + 1)), (0, .ref x0), (1, .int x1)]) dX12_findEnds_181 rfl rfl (by decide) rfl ?_
            refine g_goto hC 7 dX12_findEnds_184 (by decide) ?_
            refine g_sub [1, 2, 0] rfl ?_
            exact ih (x2 + 1) M54 h
          · replace h := it_f c22 h
            refine g_goto hC 181 dX12_findEnds_57 (by decide) ?_
            refine g_iinc hC 2 (x2 + 1) ([(2, .int (x2 + 1)), (0, .ref x0), (1, .int x1)]) dX12_findEnds_181 rfl rfl (by decide) rfl ?_
            refine g_goto hC 7 dX12_findEnds_184 (by decide) ?_
            refine g_sub [1, 2, 0] rfl ?_
            exact ih (x2 + 1) M19 h
set_option maxHeartbeats 4000000 in
set_option maxRecDepth 100000 in
theorem c_X12_findEnds (l : Launch) (Γ : Gm) (this : Nat) (p1 : Int32) (M M' : Mm) (h : F_X12_findEnds this p1 M = some M') : Met l yX12_findEnds (wz yX12_findEnds cX12_findEnds 4 none) ({ frames := 7, cells := 0, slots := 0, locals := 160 } : Room) (Pq Γ M [.ref this, .int p1]) (Qv Γ M') 0 0 (fr Γ) := by
  refine met_of (own := RX12) (by decide +kernel) rfl (Nat.le_of_ble_eq_true rfl) ?_
  intro X hC hR hnm hXl
  unfold F_X12_findEnds at h
  show G Γ X 4 M 0 0 _ 0 ([(0, .ref this), (1, .int p1)]) []
  refine g_aload_n hC 0 dX12_findEnds_0 rfl ?_
  refine g_iconst hC 0 dX12_findEnds_1 (by decide) ?_
  replace h := ob h; obtain ⟨M1, eM1, h⟩ := h
  refine g_putI hC eM1 fk_X12_90 rfl dX12_findEnds_2 ?_
  refine g_iconst hC 0 dX12_findEnds_5 (by decide) ?_
  refine g_istore_n hC ([(2, .int 0), (0, .ref this), (1, .int p1)]) dX12_findEnds_6 (by decide) rfl ?_
  refine g_sub [1, 2, 0] rfl ?_
  refine l_X12_findEnds_L7 hC hR M'  _ _  _ _ _ h

set_option maxHeartbeats 4000000 in
set_option maxRecDepth 100000 in
theorem c_X12_raise (l : Launch) (Γ : Gm) (this : Nat) (p1 : Int32) (p2 : Int32) (M M' : Mm) (r : Int32) (h : F_X12_raise this p1 p2 M = some (r, M')) : Met l yX12_raise (wz yX12_raise cX12_raise 4 (some .int)) ({ frames := 0, cells := 0, slots := 0, locals := 0 } : Room) (Pq Γ M [.ref this, .int p1, .int p2]) (Qi Γ r M') 0 0 (fr Γ) := by
  refine met_of (own := RX12) (by decide +kernel) rfl (Nat.le_of_ble_eq_true rfl) ?_
  intro X hC hR hnm hXl
  unfold F_X12_raise at h
  show G Γ X 4 M 0 0 _ 0 ([(0, .ref this), (1, .int p1), (2, .int p2)]) []
  refine g_iload_n hC 2 dX12_raise_0 rfl ?_
  refine g_aload_n hC 0 dX12_raise_1 rfl ?_
  replace h := ob h; obtain ⟨v1, ev1, h⟩ := h
  refine g_getR hC ev1 fk_X12_87 rfl dX12_raise_2 ?_
  refine g_iload_n hC 1 dX12_raise_5 rfl ?_
  replace h := ob h; obtain ⟨a3, ea3, h⟩ := h
  subst ea3
  replace h := ob h; obtain ⟨v2, ev2, h⟩ := h
  refine g_iald hC ev2 dX12_raise_6 ?_
  refine g_icmp_gt hC 12 dX12_raise_7 (by decide) (fun c4 => ?_) (fun c4 => ?_)
  · replace h := it_t c4 h
    refine g_iload_n hC 2 dX12_raise_12 rfl ?_
    refine g_aload_n hC 0 dX12_raise_13 rfl ?_
    replace h := ob h; obtain ⟨v5, ev5, h⟩ := h
    refine g_getR hC ev5 fk_X12_87 rfl dX12_raise_14 ?_
    refine g_iload_n hC 1 dX12_raise_17 rfl ?_
    replace h := ob h; obtain ⟨a7, ea7, h⟩ := h
    subst ea7
    replace h := ob h; obtain ⟨v6, ev6, h⟩ := h
    refine g_iald hC ev6 dX12_raise_18 ?_
    refine g_isub hC dX12_raise_19 ?_
    refine g_istore_n hC ([(3, .int (p2 - v6)), (0, .ref this), (1, .int p1), (2, .int p2)]) dX12_raise_20 (by decide) rfl ?_
    refine g_aload_n hC 1 dX12_raise_21 rfl ?_
    replace h := ob h; obtain ⟨v8, ev8, h⟩ := h
    refine g_getR hC ev8 fk_X12_87 rfl dX12_raise_22 ?_
    refine g_iload_n hC 2 dX12_raise_25 rfl ?_
    refine g_iload_n hC 3 dX12_raise_26 rfl ?_
    replace h := ob h; obtain ⟨a10, ea10, h⟩ := h
    subst ea10
    replace h := ob h; obtain ⟨M9, eM9, h⟩ := h
    refine g_iast hC eM9 dX12_raise_27 ?_
    refine g_iload_n hC 0 dX12_raise_28 rfl ?_
    exact g_iret hC h ⟨(Nat.le_of_ble_eq_true rfl), (Nat.le_of_ble_eq_true rfl)⟩ dX12_raise_29
  · replace h := it_f c4 h
    refine g_iconst hC 0 dX12_raise_10 (by decide) ?_
    exact g_iret hC h ⟨(Nat.le_of_ble_eq_true rfl), (Nat.le_of_ble_eq_true rfl)⟩ dX12_raise_11

set_option maxHeartbeats 4000000 in
set_option maxRecDepth 100000 in
theorem l_X12_gainAt_L18 {Γ : Gm} {X : Ct} (hC : Cx Γ X cX12_gainAt RX12 (some .int) 4) (hR : X.2.2.2.1 = ({ frames := 3, cells := 0, slots := 0, locals := 69 } : Room)) (r : Int32) (M' : Mm)  (x0 : Nat) (x1 : Int32) : ∀ (fu : Nat) (x2 : Int32) (x3 : Int32) (M0 : Mm), F_X12_gainAt_L18 x0 x1 fu x2 x3 M0 = some (r, M') → G Γ X 4 M0 0 0 (Fin Γ X (Qi Γ r M') 0 0) 18 ([(0, .ref x0), (1, .int x1), (2, .int x2), (3, .int x3)]) [] := by
  intro fu
  induction fu with
  | zero =>
    intro x2 x3 M0 h
    rw [F_X12_gainAt_L18] at h
    cases h
  | succ n7 ih =>
    intro x2 x3 M0 h
    rw [F_X12_gainAt_L18] at h
    refine g_iload_n hC 3 dX12_gainAt_18 rfl ?_
    refine g_iconst hC 4 dX12_gainAt_19 (by decide) ?_
    refine g_icmp_ge hC 70 dX12_gainAt_20 (by decide) (fun c8 => ?_) (fun c8 => ?_)
    · replace h := it_t c8 h
      refine g_iload_n hC 2 dX12_gainAt_70 rfl ?_
      exact g_iret hC h ⟨(Nat.le_of_ble_eq_true rfl), (Nat.le_of_ble_eq_true rfl)⟩ dX12_gainAt_71
    · replace h := it_f c8 h
      refine g_aload_n hC 0 dX12_gainAt_23 rfl ?_
      refine g_iload_n hC 1 dX12_gainAt_24 rfl ?_
      refine g_iload_n hC 3 dX12_gainAt_25 rfl ?_
      replace h := ob h; obtain ⟨_, eu10, h⟩ := h
      replace h := ob h; obtain ⟨⟨v11, M9⟩, eM9, h⟩ := h
      refine g_calli hC (r_V hC (As := [.int x1, .int x3]) (c_X12_besideOf _ Γ x0 x1 x3 M0 M9 v11 eM9) yk_X12_besideOf lk_X12_165 eu10 ⟨_, rfl, rfl⟩ rfl rfl (Nat.le_of_ble_eq_true rfl) hR ⟨(Nat.le_of_ble_eq_true rfl), (Nat.le_of_ble_eq_true rfl)⟩ ⟨(Nat.le_of_ble_eq_true rfl), (Nat.le_of_ble_eq_true rfl)⟩ dX12_gainAt_26) ?_
      refine g_if_lt hC 64 dX12_gainAt_29 (by decide) (fun c12 => ?_) (fun c12 => ?_)
      · replace h := it_t c12 h
        refine g_iinc hC 3 (x3 + 1) ([(3, .int (x3 + 1)), (0, .ref x0), (1, .int x1), (2, .int x2)]) dX12_gainAt_64 rfl rfl (by decide) rfl ?_
        refine g_goto hC 18 dX12_gainAt_67 (by decide) ?_
        refine g_sub [1, 2, 3, 0] rfl ?_
        exact ih x2 (x3 + 1) M9 h
      · replace h := it_f c12 h
        refine g_iload_n hC 2 dX12_gainAt_32 rfl ?_
        refine g_aload_n hC 0 dX12_gainAt_33 rfl ?_
        refine g_aload_n hC 0 dX12_gainAt_34 rfl ?_
        refine g_iload_n hC 1 dX12_gainAt_35 rfl ?_
        refine g_iload_n hC 3 dX12_gainAt_36 rfl ?_
        replace h := ob h; obtain ⟨_, eu14, h⟩ := h
        replace h := ob h; obtain ⟨⟨v15, M13⟩, eM13, h⟩ := h
        refine g_calli hC (r_V hC (As := [.int x1, .int x3]) (c_X12_besideOf _ Γ x0 x1 x3 M9 M13 v15 eM13) yk_X12_besideOf lk_X12_165 eu14 ⟨_, rfl, rfl⟩ rfl rfl (Nat.le_of_ble_eq_true rfl) hR ⟨(Nat.le_of_ble_eq_true rfl), (Nat.le_of_ble_eq_true rfl)⟩ ⟨(Nat.le_of_ble_eq_true rfl), (Nat.le_of_ble_eq_true rfl)⟩ dX12_gainAt_37) ?_
        refine g_aload_n hC 0 dX12_gainAt_40 rfl ?_
        replace h := ob h; obtain ⟨v16, ev16, h⟩ := h
        refine g_getR hC ev16 fk_X12_13 rfl dX12_gainAt_41 ?_
        refine g_sipush hC 170 dX12_gainAt_44 (by decide) ?_
        refine g_aload_n hC 0 dX12_gainAt_47 rfl ?_
        refine g_iload_n hC 1 dX12_gainAt_48 rfl ?_
        refine g_iload_n hC 3 dX12_gainAt_49 rfl ?_
        replace h := ob h; obtain ⟨_, eu18, h⟩ := h
        replace h := ob h; obtain ⟨⟨v19, M17⟩, eM17, h⟩ := h
        refine g_calli hC (r_V hC (As := [.int x1, .int x3]) (c_X12_besideOf _ Γ x0 x1 x3 M13 M17 v19 eM17) yk_X12_besideOf lk_X12_165 eu18 ⟨_, rfl, rfl⟩ rfl rfl (by simp only [List.map, cat_rf]; exact Nat.le_of_ble_eq_true rfl) hR ⟨(Nat.le_of_ble_eq_true rfl), (Nat.le_of_ble_eq_true rfl)⟩ ⟨(Nat.le_of_ble_eq_true rfl), (Nat.le_of_ble_eq_true rfl)⟩ dX12_gainAt_50) ?_
        refine g_iadd hC dX12_gainAt_53 ?_
        replace h := ob h; obtain ⟨a21, ea21, h⟩ := h
        subst ea21
        replace h := ob h; obtain ⟨v20, ev20, h⟩ := h
        refine g_iald hC ev20 dX12_gainAt_54 ?_
        refine g_iconst hC 1 dX12_gainAt_55 (by decide) ?_
        refine g_iadd hC dX12_gainAt_56 ?_
        refine g_iconst hC 2 dX12_gainAt_57 (by decide) ?_
        replace h := ob h; obtain ⟨v22, ev22, h⟩ := h
        refine g_idiv hC ev22 dX12_gainAt_58 ?_
        replace h := ob h; obtain ⟨_, eu24, h⟩ := h
        replace h := ob h; obtain ⟨⟨v25, M23⟩, eM23, h⟩ := h
        refine g_calli hC (r_V hC (As := [.int v15, .int v22]) (c_X12_raise _ Γ x0 v15 v22 M17 M23 v25 eM23) yk_X12_raise lk_X12_256 eu24 ⟨_, rfl, rfl⟩ rfl rfl (Nat.le_of_ble_eq_true rfl) hR ⟨(Nat.le_of_ble_eq_true rfl), (Nat.le_of_ble_eq_true rfl)⟩ ⟨(Nat.le_of_ble_eq_true rfl), (Nat.le_of_ble_eq_true rfl)⟩ dX12_gainAt_59) ?_
        refine g_iadd hC dX12_gainAt_62 ?_
        refine g_istore_n hC ([(2, .int (x2 + v25)), (0, .ref x0), (1, .int x1), (3, .int x3)]) dX12_gainAt_63 (by decide) rfl ?_
        refine g_iinc hC 3 (x3 + 1) ([(3, .int (x3 + 1)), (2, .int (x2 + v25)), (0, .ref x0), (1, .int x1)]) dX12_gainAt_64 rfl rfl (by decide) rfl ?_
        refine g_goto hC 18 dX12_gainAt_67 (by decide) ?_
        refine g_sub [2, 3, 1, 0] rfl ?_
        exact ih (x2 + v25) (x3 + 1) M23 h
set_option maxHeartbeats 4000000 in
set_option maxRecDepth 100000 in
theorem c_X12_gainAt (l : Launch) (Γ : Gm) (this : Nat) (p1 : Int32) (M M' : Mm) (r : Int32) (h : F_X12_gainAt this p1 M = some (r, M')) : Met l yX12_gainAt (wz yX12_gainAt cX12_gainAt 4 (some .int)) ({ frames := 3, cells := 0, slots := 0, locals := 69 } : Room) (Pq Γ M [.ref this, .int p1]) (Qi Γ r M') 0 0 (fr Γ) := by
  refine met_of (own := RX12) (by decide +kernel) rfl (Nat.le_of_ble_eq_true rfl) ?_
  intro X hC hR hnm hXl
  unfold F_X12_gainAt at h
  show G Γ X 4 M 0 0 _ 0 ([(0, .ref this), (1, .int p1)]) []
  refine g_aload_n hC 0 dX12_gainAt_0 rfl ?_
  refine g_iload_n hC 1 dX12_gainAt_1 rfl ?_
  refine g_aload_n hC 0 dX12_gainAt_2 rfl ?_
  replace h := ob h; obtain ⟨v1, ev1, h⟩ := h
  refine g_getR hC ev1 fk_X12_13 rfl dX12_gainAt_3 ?_
  refine g_sipush hC 170 dX12_gainAt_6 (by decide) ?_
  refine g_iload_n hC 1 dX12_gainAt_9 rfl ?_
  refine g_iadd hC dX12_gainAt_10 ?_
  replace h := ob h; obtain ⟨a3, ea3, h⟩ := h
  subst ea3
  replace h := ob h; obtain ⟨v2, ev2, h⟩ := h
  refine g_iald hC ev2 dX12_gainAt_11 ?_
  replace h := ob h; obtain ⟨_, eu5, h⟩ := h
  replace h := ob h; obtain ⟨⟨v6, M4⟩, eM4, h⟩ := h
  refine g_calli hC (r_V hC (As := [.int p1, .int v2]) (c_X12_raise _ Γ this p1 v2 M M4 v6 eM4) yk_X12_raise lk_X12_256 eu5 ⟨_, rfl, rfl⟩ rfl rfl (Nat.le_of_ble_eq_true rfl) hR ⟨(Nat.le_of_ble_eq_true rfl), (Nat.le_of_ble_eq_true rfl)⟩ ⟨(Nat.le_of_ble_eq_true rfl), (Nat.le_of_ble_eq_true rfl)⟩ dX12_gainAt_12) ?_
  refine g_istore_n hC ([(2, .int v6), (0, .ref this), (1, .int p1)]) dX12_gainAt_15 (by decide) rfl ?_
  refine g_iconst hC 0 dX12_gainAt_16 (by decide) ?_
  refine g_istore_n hC ([(3, .int 0), (2, .int v6), (0, .ref this), (1, .int p1)]) dX12_gainAt_17 (by decide) rfl ?_
  refine g_sub [2, 3, 1, 0] rfl ?_
  refine l_X12_gainAt_L18 hC hR r M'  _ _  _ _ _ _ h

set_option maxHeartbeats 4000000 in
set_option maxRecDepth 100000 in
theorem l_X12_clearAt_L9 {Γ : Gm} {X : Ct} (hC : Cx Γ X cX12_clearAt RX12 none 3) (hR : X.2.2.2.1 = ({ frames := 3, cells := 0, slots := 0, locals := 69 } : Room)) (M' : Mm)  (x0 : Nat) (x1 : Int32) : ∀ (fu : Nat) (x2 : Int32) (M0 : Mm), F_X12_clearAt_L9 x0 x1 fu x2 M0 = some M' → G Γ X 3 M0 0 0 (Fin Γ X (Qv Γ M') 0 0) 9 ([(0, .ref x0), (1, .int x1), (2, .int x2)]) [] := by
  intro fu
  induction fu with
  | zero =>
    intro x2 M0 h
    rw [F_X12_clearAt_L9] at h
    cases h
  | succ n4 ih =>
    intro x2 M0 h
    rw [F_X12_clearAt_L9] at h
    refine g_iload_n hC 2 dX12_clearAt_9 rfl ?_
    refine g_iconst hC 4 dX12_clearAt_10 (by decide) ?_
    refine g_icmp_ge hC 41 dX12_clearAt_11 (by decide) (fun c5 => ?_) (fun c5 => ?_)
    · replace h := it_t c5 h
      exact g_vret hC h ⟨(Nat.le_of_ble_eq_true rfl), (Nat.le_of_ble_eq_true rfl)⟩ dX12_clearAt_41
    · replace h := it_f c5 h
      refine g_aload_n hC 0 dX12_clearAt_14 rfl ?_
      refine g_iload_n hC 1 dX12_clearAt_15 rfl ?_
      refine g_iload_n hC 2 dX12_clearAt_16 rfl ?_
      replace h := ob h; obtain ⟨_, eu7, h⟩ := h
      replace h := ob h; obtain ⟨⟨v8, M6⟩, eM6, h⟩ := h
      refine g_calli hC (r_V hC (As := [.int x1, .int x2]) (c_X12_besideOf _ Γ x0 x1 x2 M0 M6 v8 eM6) yk_X12_besideOf lk_X12_165 eu7 ⟨_, rfl, rfl⟩ rfl rfl (Nat.le_of_ble_eq_true rfl) hR ⟨(Nat.le_of_ble_eq_true rfl), (Nat.le_of_ble_eq_true rfl)⟩ ⟨(Nat.le_of_ble_eq_true rfl), (Nat.le_of_ble_eq_true rfl)⟩ dX12_clearAt_17) ?_
      refine g_if_lt hC 35 dX12_clearAt_20 (by decide) (fun c9 => ?_) (fun c9 => ?_)
      · replace h := it_t c9 h
        refine g_iinc hC 2 (x2 + 1) ([(2, .int (x2 + 1)), (0, .ref x0), (1, .int x1)]) dX12_clearAt_35 rfl rfl (by decide) rfl ?_
        refine g_goto hC 9 dX12_clearAt_38 (by decide) ?_
        refine g_sub [1, 2, 0] rfl ?_
        exact ih (x2 + 1) M6 h
      · replace h := it_f c9 h
        refine g_aload_n hC 0 dX12_clearAt_23 rfl ?_
        replace h := ob h; obtain ⟨v10, ev10, h⟩ := h
        refine g_getR hC ev10 fk_X12_87 rfl dX12_clearAt_24 ?_
        refine g_aload_n hC 0 dX12_clearAt_27 rfl ?_
        refine g_iload_n hC 1 dX12_clearAt_28 rfl ?_
        refine g_iload_n hC 2 dX12_clearAt_29 rfl ?_
        replace h := ob h; obtain ⟨_, eu12, h⟩ := h
        replace h := ob h; obtain ⟨⟨v13, M11⟩, eM11, h⟩ := h
        refine g_calli hC (r_V hC (As := [.int x1, .int x2]) (c_X12_besideOf _ Γ x0 x1 x2 M6 M11 v13 eM11) yk_X12_besideOf lk_X12_165 eu12 ⟨_, rfl, rfl⟩ rfl rfl (by simp only [List.map, cat_rf]; exact Nat.le_of_ble_eq_true rfl) hR ⟨(Nat.le_of_ble_eq_true rfl), (Nat.le_of_ble_eq_true rfl)⟩ ⟨(Nat.le_of_ble_eq_true rfl), (Nat.le_of_ble_eq_true rfl)⟩ dX12_clearAt_30) ?_
        refine g_iconst hC 0 dX12_clearAt_33 (by decide) ?_
        replace h := ob h; obtain ⟨a15, ea15, h⟩ := h
        subst ea15
        replace h := ob h; obtain ⟨M14, eM14, h⟩ := h
        refine g_iast hC eM14 dX12_clearAt_34 ?_
        refine g_iinc hC 2 (x2 + 1) ([(2, .int (x2 + 1)), (0, .ref x0), (1, .int x1)]) dX12_clearAt_35 rfl rfl (by decide) rfl ?_
        refine g_goto hC 9 dX12_clearAt_38 (by decide) ?_
        refine g_sub [1, 2, 0] rfl ?_
        exact ih (x2 + 1) M14 h
set_option maxHeartbeats 4000000 in
set_option maxRecDepth 100000 in
theorem c_X12_clearAt (l : Launch) (Γ : Gm) (this : Nat) (p1 : Int32) (M M' : Mm) (h : F_X12_clearAt this p1 M = some M') : Met l yX12_clearAt (wz yX12_clearAt cX12_clearAt 3 none) ({ frames := 3, cells := 0, slots := 0, locals := 69 } : Room) (Pq Γ M [.ref this, .int p1]) (Qv Γ M') 0 0 (fr Γ) := by
  refine met_of (own := RX12) (by decide +kernel) rfl (Nat.le_of_ble_eq_true rfl) ?_
  intro X hC hR hnm hXl
  unfold F_X12_clearAt at h
  show G Γ X 3 M 0 0 _ 0 ([(0, .ref this), (1, .int p1)]) []
  refine g_aload_n hC 0 dX12_clearAt_0 rfl ?_
  replace h := ob h; obtain ⟨v1, ev1, h⟩ := h
  refine g_getR hC ev1 fk_X12_87 rfl dX12_clearAt_1 ?_
  refine g_iload_n hC 1 dX12_clearAt_4 rfl ?_
  refine g_iconst hC 0 dX12_clearAt_5 (by decide) ?_
  replace h := ob h; obtain ⟨a3, ea3, h⟩ := h
  subst ea3
  replace h := ob h; obtain ⟨M2, eM2, h⟩ := h
  refine g_iast hC eM2 dX12_clearAt_6 ?_
  refine g_iconst hC 0 dX12_clearAt_7 (by decide) ?_
  refine g_istore_n hC ([(2, .int 0), (0, .ref this), (1, .int p1)]) dX12_clearAt_8 (by decide) rfl ?_
  refine g_sub [1, 2, 0] rfl ?_
  refine l_X12_clearAt_L9 hC hR M'  _ _  _ _ _ h

set_option maxHeartbeats 4000000 in
set_option maxRecDepth 100000 in
theorem l_X12_gainOf_L4 {Γ : Gm} {X : Ct} (hC : Cx Γ X cX12_gainOf RX12 (some .int) 3) (hR : X.2.2.2.1 = ({ frames := 4, cells := 0, slots := 0, locals := 92 } : Room)) (r : Int32) (M' : Mm) (k41 : Int32 → Mm → Option (Int32 × Mm)) (x0 : Nat) (hk41 : ∀ (y1 : Int32) (M1 : Mm), k41 y1 M1 = some (r, M') → G Γ X 3 M1 0 0 (Fin Γ X (Qi Γ r M') 0 0) 41 ([(0, .ref x0), (1, .int y1)]) []) : ∀ (fu : Nat) (x1 : Int32) (x2 : Int32) (M0 : Mm), F_X12_gainOf_L4 k41 x0 fu x1 x2 M0 = some (r, M') → G Γ X 3 M0 0 0 (Fin Γ X (Qi Γ r M') 0 0) 4 ([(0, .ref x0), (1, .int x1), (2, .int x2)]) [] := by
  intro fu
  induction fu with
  | zero =>
    intro x1 x2 M0 h
    rw [F_X12_gainOf_L4] at h
    cases h
  | succ n1 ih =>
    intro x1 x2 M0 h
    rw [F_X12_gainOf_L4] at h
    refine g_iload_n hC 2 dX12_gainOf_4 rfl ?_
    refine g_aload_n hC 0 dX12_gainOf_5 rfl ?_
    replace h := ob h; obtain ⟨v2, ev2, h⟩ := h
    refine g_getI hC ev2 fk_X12_90 rfl dX12_gainOf_6 ?_
    refine g_icmp_ge hC 41 dX12_gainOf_9 (by decide) (fun c3 => ?_) (fun c3 => ?_)
    · replace h := it_t c3 h
      refine g_sub [0, 1] rfl ?_
      exact hk41 x1 M0 h
    · replace h := it_f c3 h
      refine g_iload_n hC 1 dX12_gainOf_12 rfl ?_
      refine g_aload_n hC 0 dX12_gainOf_13 rfl ?_
      refine g_aload_n hC 0 dX12_gainOf_14 rfl ?_
      replace h := ob h; obtain ⟨v4, ev4, h⟩ := h
      refine g_getR hC ev4 fk_X12_78 rfl dX12_gainOf_15 ?_
      refine g_bipush hC 81 dX12_gainOf_18 (by decide) ?_
      refine g_iload_n hC 2 dX12_gainOf_20 rfl ?_
      refine g_imul hC dX12_gainOf_21 ?_
      refine g_aload_n hC 0 dX12_gainOf_22 rfl ?_
      replace h := ob h; obtain ⟨v5, ev5, h⟩ := h
      refine g_getR hC ev5 fk_X12_81 rfl dX12_gainOf_23 ?_
      refine g_iload_n hC 2 dX12_gainOf_26 rfl ?_
      replace h := ob h; obtain ⟨a7, ea7, h⟩ := h
      subst ea7
      replace h := ob h; obtain ⟨v6, ev6, h⟩ := h
      refine g_iald hC ev6 dX12_gainOf_27 ?_
      refine g_iadd hC dX12_gainOf_28 ?_
      replace h := ob h; obtain ⟨a9, ea9, h⟩ := h
      subst ea9
      replace h := ob h; obtain ⟨v8, ev8, h⟩ := h
      refine g_iald hC ev8 dX12_gainOf_29 ?_
      replace h := ob h; obtain ⟨_, eu11, h⟩ := h
      replace h := ob h; obtain ⟨⟨v12, M10⟩, eM10, h⟩ := h
      refine g_calli hC (r_V hC (As := [.int v8]) (c_X12_gainAt _ Γ x0 v8 M0 M10 v12 eM10) yk_X12_gainAt lk_X12_250 eu11 ⟨_, rfl, rfl⟩ rfl rfl (Nat.le_of_ble_eq_true rfl) hR ⟨(Nat.le_of_ble_eq_true rfl), (Nat.le_of_ble_eq_true rfl)⟩ ⟨(Nat.le_of_ble_eq_true rfl), (Nat.le_of_ble_eq_true rfl)⟩ dX12_gainOf_30) ?_
      refine g_iadd hC dX12_gainOf_33 ?_
      refine g_istore_n hC ([(1, .int (x1 + v12)), (0, .ref x0), (2, .int x2)]) dX12_gainOf_34 (by decide) rfl ?_
      refine g_iinc hC 2 (x2 + 1) ([(2, .int (x2 + 1)), (1, .int (x1 + v12)), (0, .ref x0)]) dX12_gainOf_35 rfl rfl (by decide) rfl ?_
      refine g_goto hC 4 dX12_gainOf_38 (by decide) ?_
      refine g_sub [2, 1, 0] rfl ?_
      exact ih (x1 + v12) (x2 + 1) M10 h
set_option maxHeartbeats 4000000 in
set_option maxRecDepth 100000 in
theorem l_X12_gainOf_L43 {Γ : Gm} {X : Ct} (hC : Cx Γ X cX12_gainOf RX12 (some .int) 3) (hR : X.2.2.2.1 = ({ frames := 4, cells := 0, slots := 0, locals := 92 } : Room)) (r : Int32) (M' : Mm)  (x0 : Nat) (x1 : Int32) : ∀ (fu : Nat) (x2 : Int32) (M0 : Mm), F_X12_gainOf_L43 x0 x1 fu x2 M0 = some (r, M') → G Γ X 3 M0 0 0 (Fin Γ X (Qi Γ r M') 0 0) 43 ([(0, .ref x0), (1, .int x1), (2, .int x2)]) [] := by
  intro fu
  induction fu with
  | zero =>
    intro x2 M0 h
    rw [F_X12_gainOf_L43] at h
    cases h
  | succ n15 ih =>
    intro x2 M0 h
    rw [F_X12_gainOf_L43] at h
    refine g_iload_n hC 2 dX12_gainOf_43 rfl ?_
    refine g_aload_n hC 0 dX12_gainOf_44 rfl ?_
    replace h := ob h; obtain ⟨v16, ev16, h⟩ := h
    refine g_getI hC ev16 fk_X12_90 rfl dX12_gainOf_45 ?_
    refine g_icmp_ge hC 77 dX12_gainOf_48 (by decide) (fun c17 => ?_) (fun c17 => ?_)
    · replace h := it_t c17 h
      refine g_iload_n hC 1 dX12_gainOf_77 rfl ?_
      exact g_iret hC h ⟨(Nat.le_of_ble_eq_true rfl), (Nat.le_of_ble_eq_true rfl)⟩ dX12_gainOf_78
    · replace h := it_f c17 h
      refine g_aload_n hC 0 dX12_gainOf_51 rfl ?_
      refine g_aload_n hC 0 dX12_gainOf_52 rfl ?_
      replace h := ob h; obtain ⟨v18, ev18, h⟩ := h
      refine g_getR hC ev18 fk_X12_78 rfl dX12_gainOf_53 ?_
      refine g_bipush hC 81 dX12_gainOf_56 (by decide) ?_
      refine g_iload_n hC 2 dX12_gainOf_58 rfl ?_
      refine g_imul hC dX12_gainOf_59 ?_
      refine g_aload_n hC 0 dX12_gainOf_60 rfl ?_
      replace h := ob h; obtain ⟨v19, ev19, h⟩ := h
      refine g_getR hC ev19 fk_X12_81 rfl dX12_gainOf_61 ?_
      refine g_iload_n hC 2 dX12_gainOf_64 rfl ?_
      replace h := ob h; obtain ⟨a21, ea21, h⟩ := h
      subst ea21
      replace h := ob h; obtain ⟨v20, ev20, h⟩ := h
      refine g_iald hC ev20 dX12_gainOf_65 ?_
      refine g_iadd hC dX12_gainOf_66 ?_
      replace h := ob h; obtain ⟨a23, ea23, h⟩ := h
      subst ea23
      replace h := ob h; obtain ⟨v22, ev22, h⟩ := h
      refine g_iald hC ev22 dX12_gainOf_67 ?_
      replace h := ob h; obtain ⟨_, eu25, h⟩ := h
      replace h := ob h; obtain ⟨M24, eM24, h⟩ := h
      refine g_callv hC (r_V hC (As := [.int v22]) (c_X12_clearAt _ Γ x0 v22 M0 M24 eM24) yk_X12_clearAt lk_X12_253 eu25 ⟨_, rfl, rfl⟩ rfl rfl (Nat.le_of_ble_eq_true rfl) hR ⟨(Nat.le_of_ble_eq_true rfl), (Nat.le_of_ble_eq_true rfl)⟩ ⟨(Nat.le_of_ble_eq_true rfl), (Nat.le_of_ble_eq_true rfl)⟩ dX12_gainOf_68) ?_
      refine g_iinc hC 2 (x2 + 1) ([(2, .int (x2 + 1)), (0, .ref x0), (1, .int x1)]) dX12_gainOf_71 rfl rfl (by decide) rfl ?_
      refine g_goto hC 43 dX12_gainOf_74 (by decide) ?_
      refine g_sub [1, 2, 0] rfl ?_
      exact ih (x2 + 1) M24 h
set_option maxHeartbeats 4000000 in
set_option maxRecDepth 100000 in
theorem c_X12_gainOf (l : Launch) (Γ : Gm) (this : Nat) (M M' : Mm) (r : Int32) (h : F_X12_gainOf this M = some (r, M')) : Met l yX12_gainOf (wz yX12_gainOf cX12_gainOf 3 (some .int)) ({ frames := 4, cells := 0, slots := 0, locals := 92 } : Room) (Pq Γ M [.ref this]) (Qi Γ r M') 0 0 (fr Γ) := by
  refine met_of (own := RX12) (by decide +kernel) rfl (Nat.le_of_ble_eq_true rfl) ?_
  intro X hC hR hnm hXl
  unfold F_X12_gainOf at h
  show G Γ X 3 M 0 0 _ 0 ([(0, .ref this)]) []
  refine g_iconst hC 0 dX12_gainOf_0 (by decide) ?_
  refine g_istore_n hC ([(1, .int 0), (0, .ref this)]) dX12_gainOf_1 (by decide) rfl ?_
  refine g_iconst hC 0 dX12_gainOf_2 (by decide) ?_
  refine g_istore_n hC ([(2, .int 0), (1, .int 0), (0, .ref this)]) dX12_gainOf_3 (by decide) rfl ?_
  refine g_sub [2, 1, 0] rfl ?_
  refine l_X12_gainOf_L4 hC hR r M' _ _ ?_ _ _ _ _ h
  intro y13 M14 h
  refine g_iconst hC 0 dX12_gainOf_41 (by decide) ?_
  refine g_istore_n hC ([(2, .int 0), (0, .ref this), (1, .int y13)]) dX12_gainOf_42 (by decide) rfl ?_
  refine g_sub [1, 2, 0] rfl ?_
  refine l_X12_gainOf_L43 hC hR r M'  _ _  _ _ _ h

set_option maxHeartbeats 4000000 in
set_option maxRecDepth 100000 in
theorem l_X12_isApart_L27 {Γ : Gm} {X : Ct} (hC : Cx Γ X cX12_isApart RX12 (some .boolean) 4) (hR : X.2.2.2.1 = ({ frames := 0, cells := 0, slots := 0, locals := 0 } : Room)) (r : Int32) (M' : Mm)  (x0 : Nat) (x1 : Int32) : ∀ (fu : Nat) (x2 : Int32) (x3 : Int32) (M0 : Mm), F_X12_isApart_L27 x0 x1 fu x2 x3 M0 = some (r, M') → G Γ X 4 M0 0 0 (Fin Γ X (Qi Γ r M') 0 0) 27 ([(0, .ref x0), (1, .int x1), (2, .int x2), (3, .int x3)]) [] := by
  intro fu
  induction fu with
  | zero =>
    intro x2 x3 M0 h
    rw [F_X12_isApart_L27] at h
    cases h
  | succ n9 ih =>
    intro x2 x3 M0 h
    rw [F_X12_isApart_L27] at h
    refine g_iload_n hC 3 dX12_isApart_27 rfl ?_
    refine g_iload_n hC 1 dX12_isApart_28 rfl ?_
    refine g_icmp_ge hC 83 dX12_isApart_29 (by decide) (fun c10 => ?_) (fun c10 => ?_)
    · replace h := it_t c10 h
      refine g_iload_n hC 2 dX12_isApart_83 rfl ?_
      replace h := ob h; obtain ⟨_, ez, h⟩ := h
      exact g_zret hC (ckZ_e ez) h ⟨(Nat.le_of_ble_eq_true rfl), (Nat.le_of_ble_eq_true rfl)⟩ dX12_isApart_84
    · replace h := it_f c10 h
      refine g_iload_n hC 2 dX12_isApart_32 rfl ?_
      refine g_if_eq hC 75 dX12_isApart_33 (by decide) (fun c11 => ?_) (fun c11 => ?_)
      · replace h := it_t c11 h
        refine g_iconst hC 0 dX12_isApart_75 (by decide) ?_
        refine g_istore_n hC ([(2, .int 0), (0, .ref x0), (1, .int x1), (3, .int x3)]) dX12_isApart_76 (by decide) rfl ?_
        refine g_iinc hC 3 (x3 + 1) ([(3, .int (x3 + 1)), (2, .int 0), (0, .ref x0), (1, .int x1)]) dX12_isApart_77 rfl rfl (by decide) rfl ?_
        refine g_goto hC 27 dX12_isApart_80 (by decide) ?_
        refine g_sub [2, 3, 1, 0] rfl ?_
        exact ih 0 (x3 + 1) M0 h
      · replace h := it_f c11 h
        refine g_aload_n hC 0 dX12_isApart_36 rfl ?_
        replace h := ob h; obtain ⟨v12, ev12, h⟩ := h
        refine g_getR hC ev12 fk_X12_78 rfl dX12_isApart_37 ?_
        refine g_bipush hC 81 dX12_isApart_40 (by decide) ?_
        refine g_iload_n hC 3 dX12_isApart_42 rfl ?_
        refine g_imul hC dX12_isApart_43 ?_
        refine g_aload_n hC 0 dX12_isApart_44 rfl ?_
        replace h := ob h; obtain ⟨v13, ev13, h⟩ := h
        refine g_getR hC ev13 fk_X12_81 rfl dX12_isApart_45 ?_
        refine g_iload_n hC 3 dX12_isApart_48 rfl ?_
        replace h := ob h; obtain ⟨a15, ea15, h⟩ := h
        subst ea15
        replace h := ob h; obtain ⟨v14, ev14, h⟩ := h
        refine g_iald hC ev14 dX12_isApart_49 ?_
        refine g_iadd hC dX12_isApart_50 ?_
        replace h := ob h; obtain ⟨a17, ea17, h⟩ := h
        subst ea17
        replace h := ob h; obtain ⟨v16, ev16, h⟩ := h
        refine g_iald hC ev16 dX12_isApart_51 ?_
        refine g_aload_n hC 0 dX12_isApart_52 rfl ?_
        replace h := ob h; obtain ⟨v18, ev18, h⟩ := h
        refine g_getR hC ev18 fk_X12_78 rfl dX12_isApart_53 ?_
        refine g_bipush hC 81 dX12_isApart_56 (by decide) ?_
        refine g_iload_n hC 1 dX12_isApart_58 rfl ?_
        refine g_imul hC dX12_isApart_59 ?_
        refine g_aload_n hC 0 dX12_isApart_60 rfl ?_
        replace h := ob h; obtain ⟨v19, ev19, h⟩ := h
        refine g_getR hC ev19 fk_X12_81 rfl dX12_isApart_61 ?_
        refine g_iload_n hC 1 dX12_isApart_64 rfl ?_
        replace h := ob h; obtain ⟨a21, ea21, h⟩ := h
        subst ea21
        replace h := ob h; obtain ⟨v20, ev20, h⟩ := h
        refine g_iald hC ev20 dX12_isApart_65 ?_
        refine g_iadd hC dX12_isApart_66 ?_
        replace h := ob h; obtain ⟨a23, ea23, h⟩ := h
        subst ea23
        replace h := ob h; obtain ⟨v22, ev22, h⟩ := h
        refine g_iald hC ev22 dX12_isApart_67 ?_
        replace h := nv_e h; obtain ⟨v24, ev24, h⟩ := h
        have J25 : G Γ X 4 M0 0 0 (Fin Γ X (Qi Γ r M') 0 0) 76 ([(0, .ref x0), (1, .int x1), (2, .int x2), (3, .int x3)]) ([.int v24]) := by
          refine g_istore_n hC ([(2, .int v24), (0, .ref x0), (1, .int x1), (3, .int x3)]) dX12_isApart_76 (by decide) rfl ?_
          refine g_iinc hC 3 (x3 + 1) ([(3, .int (x3 + 1)), (2, .int v24), (0, .ref x0), (1, .int x1)]) dX12_isApart_77 rfl rfl (by decide) rfl ?_
          refine g_goto hC 27 dX12_isApart_80 (by decide) ?_
          refine g_sub [2, 3, 1, 0] rfl ?_
          exact ih v24 (x3 + 1) M0 h
        refine g_icmp_eq hC 75 dX12_isApart_68 (by decide) (fun c26 => ?_) (fun c26 => ?_)
        · refine g_iconst hC 0 dX12_isApart_75 (by decide) ?_
          rw [show v24 = _ from ev24.trans (if_pos c26)] at J25
          exact J25
        · refine g_iconst hC 1 dX12_isApart_71 (by decide) ?_
          refine g_goto hC 76 dX12_isApart_72 (by decide) ?_
          rw [show v24 = _ from ev24.trans (if_neg c26)] at J25
          exact J25
set_option maxHeartbeats 4000000 in
set_option maxRecDepth 100000 in
theorem c_X12_isApart (l : Launch) (Γ : Gm) (this : Nat) (p1 : Int32) (M M' : Mm) (r : Int32) (h : F_X12_isApart this p1 M = some (r, M')) : Met l yX12_isApart (wz yX12_isApart cX12_isApart 4 (some .boolean)) ({ frames := 0, cells := 0, slots := 0, locals := 0 } : Room) (Pq Γ M [.ref this, .int p1]) (Qi Γ r M') 0 0 (fr Γ) := by
  refine met_of (own := RX12) (by decide +kernel) rfl (Nat.le_of_ble_eq_true rfl) ?_
  intro X hC hR hnm hXl
  unfold F_X12_isApart at h
  show G Γ X 4 M 0 0 _ 0 ([(0, .ref this), (1, .int p1)]) []
  refine g_aload_n hC 0 dX12_isApart_0 rfl ?_
  replace h := ob h; obtain ⟨v1, ev1, h⟩ := h
  refine g_getR hC ev1 fk_X12_78 rfl dX12_isApart_1 ?_
  refine g_bipush hC 81 dX12_isApart_4 (by decide) ?_
  refine g_iload_n hC 1 dX12_isApart_6 rfl ?_
  refine g_imul hC dX12_isApart_7 ?_
  refine g_aload_n hC 0 dX12_isApart_8 rfl ?_
  replace h := ob h; obtain ⟨v2, ev2, h⟩ := h
  refine g_getR hC ev2 fk_X12_81 rfl dX12_isApart_9 ?_
  refine g_iload_n hC 1 dX12_isApart_12 rfl ?_
  replace h := ob h; obtain ⟨a4, ea4, h⟩ := h
  subst ea4
  replace h := ob h; obtain ⟨v3, ev3, h⟩ := h
  refine g_iald hC ev3 dX12_isApart_13 ?_
  refine g_iadd hC dX12_isApart_14 ?_
  replace h := ob h; obtain ⟨a6, ea6, h⟩ := h
  subst ea6
  replace h := ob h; obtain ⟨v5, ev5, h⟩ := h
  refine g_iald hC ev5 dX12_isApart_15 ?_
  replace h := nv_e h; obtain ⟨v7, ev7, h⟩ := h
  have J8 : G Γ X 4 M 0 0 (Fin Γ X (Qi Γ r M') 0 0) 24 ([(0, .ref this), (1, .int p1)]) ([.int v7]) := by
    refine g_istore_n hC ([(2, .int v7), (0, .ref this), (1, .int p1)]) dX12_isApart_24 (by decide) rfl ?_
    refine g_iconst hC 0 dX12_isApart_25 (by decide) ?_
    refine g_istore_n hC ([(3, .int 0), (2, .int v7), (0, .ref this), (1, .int p1)]) dX12_isApart_26 (by decide) rfl ?_
    refine g_sub [2, 3, 1, 0] rfl ?_
    refine l_X12_isApart_L27 hC hR r M'  _ _  _ _ _ _ h
  refine g_if_lt hC 23 dX12_isApart_16 (by decide) (fun c27 => ?_) (fun c27 => ?_)
  · refine g_iconst hC 0 dX12_isApart_23 (by decide) ?_
    rw [show v7 = _ from ev7.trans (if_pos c27)] at J8
    exact J8
  · refine g_iconst hC 1 dX12_isApart_19 (by decide) ?_
    refine g_goto hC 24 dX12_isApart_20 (by decide) ?_
    rw [show v7 = _ from ev7.trans (if_neg c27)] at J8
    exact J8

set_option maxHeartbeats 4000000 in
set_option maxRecDepth 100000 in
theorem l_X12_findPlan_L122 {Γ : Gm} {X : Ct} (hC : Cx Γ X cX12_findPlan RX12 (some .boolean) 5) (hR : X.2.2.2.1 = ({ frames := 8, cells := 0, slots := 0, locals := 183 } : Room)) (r : Int32) (M' : Mm) (k151 : Mm → Option (Int32 × Mm)) (x0 : Nat) (x2 : Int32) (hk151 : ∀  (M1 : Mm), k151  M1 = some (r, M') → G Γ X 5 M1 0 0 (Fin Γ X (Qi Γ r M') 0 0) 151 ([(0, .ref x0), (2, .int x2)]) []) : ∀ (fu : Nat) (x4 : Int32) (M0 : Mm), F_X12_findPlan_L122 k151 x0 x2 fu x4 M0 = some (r, M') → G Γ X 5 M0 0 0 (Fin Γ X (Qi Γ r M') 0 0) 122 ([(0, .ref x0), (2, .int x2), (4, .int x4)]) [] := by
  intro fu
  induction fu with
  | zero =>
    intro x4 M0 h
    rw [F_X12_findPlan_L122] at h
    cases h
  | succ n31 ih =>
    intro x4 M0 h
    rw [F_X12_findPlan_L122] at h
    refine g_iload hC 2 dX12_findPlan_122 rfl ?_
    refine g_aload_n hC 0 dX12_findPlan_124 rfl ?_
    replace h := ob h; obtain ⟨v32, ev32, h⟩ := h
    refine g_getI hC ev32 fk_X12_90 rfl dX12_findPlan_125 ?_
    refine g_icmp_ge hC 151 dX12_findPlan_128 (by decide) (fun c33 => ?_) (fun c33 => ?_)
    · replace h := it_t c33 h
      refine g_sub [0, 1] rfl ?_
      exact hk151  M0 h
    · replace h := it_f c33 h
      refine g_aload_n hC 0 dX12_findPlan_131 rfl ?_
      replace h := ob h; obtain ⟨v34, ev34, h⟩ := h
      refine g_getR hC ev34 fk_X12_84 rfl dX12_findPlan_132 ?_
      refine g_iload hC 2 dX12_findPlan_135 rfl ?_
      refine g_aload_n hC 0 dX12_findPlan_137 rfl ?_
      replace h := ob h; obtain ⟨v35, ev35, h⟩ := h
      refine g_getR hC ev35 fk_X12_81 rfl dX12_findPlan_138 ?_
      refine g_iload hC 2 dX12_findPlan_141 rfl ?_
      replace h := ob h; obtain ⟨a37, ea37, h⟩ := h
      subst ea37
      replace h := ob h; obtain ⟨v36, ev36, h⟩ := h
      refine g_iald hC ev36 dX12_findPlan_143 ?_
      replace h := ob h; obtain ⟨a39, ea39, h⟩ := h
      subst ea39
      replace h := ob h; obtain ⟨M38, eM38, h⟩ := h
      refine g_iast hC eM38 dX12_findPlan_144 ?_
      refine g_iinc hC 2 (x4 + 1) ([(4, .int (x4 + 1)), (0, .ref x0), (2, .int x2)]) dX12_findPlan_145 rfl rfl (by decide) rfl ?_
      refine g_goto hC 122 dX12_findPlan_148 (by decide) ?_
      refine g_sub [1, 2, 0] rfl ?_
      exact ih (x4 + 1) M38 h
set_option maxHeartbeats 4000000 in
set_option maxRecDepth 100000 in
theorem l_X12_findPlan_L33 {Γ : Gm} {X : Ct} (hC : Cx Γ X cX12_findPlan RX12 (some .boolean) 5) (hR : X.2.2.2.1 = ({ frames := 8, cells := 0, slots := 0, locals := 183 } : Room)) (r : Int32) (M' : Mm) (k154 : Mm → Option (Int32 × Mm)) (x0 : Nat) (hk154 : ∀  (M1 : Mm), k154  M1 = some (r, M') → G Γ X 5 M1 0 0 (Fin Γ X (Qi Γ r M') 0 0) 154 ([(0, .ref x0)]) []) : ∀ (fu : Nat) (x2 : Int32) (M0 : Mm), F_X12_findPlan_L33 k154 x0 fu x2 M0 = some (r, M') → G Γ X 5 M0 0 0 (Fin Γ X (Qi Γ r M') 0 0) 33 ([(0, .ref x0), (2, .int x2)]) [] := by
  intro fu
  induction fu with
  | zero =>
    intro x2 M0 h
    rw [F_X12_findPlan_L33] at h
    cases h
  | succ n9 ih =>
    intro x2 M0 h
    rw [F_X12_findPlan_L33] at h
    refine g_iload_n hC 1 dX12_findPlan_33 rfl ?_
    refine g_if_lt hC 154 dX12_findPlan_34 (by decide) (fun c10 => ?_) (fun c10 => ?_)
    · replace h := it_t c10 h
      refine g_sub [0] rfl ?_
      exact hk154  M0 h
    · replace h := it_f c10 h
      refine g_aload_n hC 0 dX12_findPlan_37 rfl ?_
      replace h := ob h; obtain ⟨v11, ev11, h⟩ := h
      refine g_getR hC ev11 fk_X12_81 rfl dX12_findPlan_38 ?_
      refine g_iload_n hC 1 dX12_findPlan_41 rfl ?_
      refine g_dup2 hC dX12_findPlan_42 rfl (cat_rf _) ?_
      replace h := ob h; obtain ⟨a13, ea13, h⟩ := h
      subst ea13
      replace h := ob h; obtain ⟨v12, ev12, h⟩ := h
      refine g_iald hC ev12 dX12_findPlan_43 ?_
      refine g_iconst hC 1 dX12_findPlan_44 (by decide) ?_
      refine g_iadd hC dX12_findPlan_45 ?_
      replace h := ob h; obtain ⟨M14, eM14, h⟩ := h
      refine g_iast hC eM14 dX12_findPlan_46 ?_
      refine g_aload_n hC 0 dX12_findPlan_47 rfl ?_
      replace h := ob h; obtain ⟨v15, ev15, h⟩ := h
      refine g_getR hC ev15 fk_X12_81 rfl dX12_findPlan_48 ?_
      refine g_iload_n hC 1 dX12_findPlan_51 rfl ?_
      replace h := ob h; obtain ⟨a17, ea17, h⟩ := h
      subst ea17
      replace h := ob h; obtain ⟨v16, ev16, h⟩ := h
      refine g_iald hC ev16 dX12_findPlan_52 ?_
      refine g_bipush hC 80 dX12_findPlan_53 (by decide) ?_
      refine g_icmp_le hC 64 dX12_findPlan_55 (by decide) (fun c18 => ?_) (fun c18 => ?_)
      · replace h := it_t c18 h
        refine g_aload_n hC 0 dX12_findPlan_64 rfl ?_
        refine g_iload_n hC 1 dX12_findPlan_65 rfl ?_
        replace h := ob h; obtain ⟨_, eu20, h⟩ := h
        replace h := ob h; obtain ⟨⟨v21, M19⟩, eM19, h⟩ := h
        refine g_calli hC (r_V hC (As := [.int x2]) (c_X12_isApart _ Γ x0 x2 M14 M19 v21 eM19) yk_X12_isApart lk_X12_262 eu20 ⟨_, rfl, rfl⟩ rfl rfl (Nat.le_of_ble_eq_true rfl) hR ⟨(Nat.le_of_ble_eq_true rfl), (Nat.le_of_ble_eq_true rfl)⟩ ⟨(Nat.le_of_ble_eq_true rfl), (Nat.le_of_ble_eq_true rfl)⟩ dX12_findPlan_66) ?_
        refine g_if_ne hC 75 dX12_findPlan_69 (by decide) (fun c22 => ?_) (fun c22 => ?_)
        · replace h := it_f c22 h
          refine g_iload_n hC 1 dX12_findPlan_75 rfl ?_
          refine g_aload_n hC 0 dX12_findPlan_76 rfl ?_
          replace h := ob h; obtain ⟨v23, ev23, h⟩ := h
          refine g_getI hC ev23 fk_X12_90 rfl dX12_findPlan_77 ?_
          refine g_iconst hC 1 dX12_findPlan_80 (by decide) ?_
          refine g_isub hC dX12_findPlan_81 ?_
          refine g_icmp_ge hC 98 dX12_findPlan_82 (by decide) (fun c24 => ?_) (fun c24 => ?_)
          · replace h := it_t c24 h
            refine g_aload_n hC 0 dX12_findPlan_98 rfl ?_
            replace h := ob h; obtain ⟨_, eu26, h⟩ := h
            replace h := ob h; obtain ⟨⟨v27, M25⟩, eM25, h⟩ := h
            refine g_calli hC (r_V hC (As := []) (c_X12_gainOf _ Γ x0 M19 M25 v27 eM25) yk_X12_gainOf lk_X12_265 eu26 ⟨_, rfl, rfl⟩ rfl rfl (Nat.le_of_ble_eq_true rfl) hR ⟨(Nat.le_of_ble_eq_true rfl), (Nat.le_of_ble_eq_true rfl)⟩ ⟨(Nat.le_of_ble_eq_true rfl), (Nat.le_of_ble_eq_true rfl)⟩ dX12_findPlan_99) ?_
            refine g_istore_n hC ([(3, .int v27), (0, .ref x0), (2, .int x2)]) dX12_findPlan_102 (by decide) rfl ?_
            refine g_iload_n hC 0 dX12_findPlan_103 rfl ?_
            refine g_aload_n hC 1 dX12_findPlan_104 rfl ?_
            replace h := ob h; obtain ⟨v28, ev28, h⟩ := h
            refine g_getI hC ev28 fk_X12_93 rfl dX12_findPlan_105 ?_
            refine g_icmp_gt hC 114 dX12_findPlan_108 (by decide) (fun c29 => ?_) (fun c29 => ?_)
            · replace h := it_t c29 h
              refine g_aload_n hC 1 dX12_findPlan_114 rfl ?_
              refine g_iload_n hC 0 dX12_findPlan_115 rfl ?_
              replace h := ob h; obtain ⟨M30, eM30, h⟩ := h
              refine g_putI hC eM30 fk_X12_93 rfl dX12_findPlan_116 ?_
              refine g_iconst hC 0 dX12_findPlan_119 (by decide) ?_
              refine g_istore hC ([(4, .int 0), (3, .int v27), (0, .ref x0), (2, .int x2)]) dX12_findPlan_120 (by decide) rfl ?_
              refine g_sub [2, 3, 0] rfl ?_
              refine l_X12_findPlan_L122 hC hR r M' _ _ _ ?_ _ _ _ h
              intro  M40 h
              refine g_goto hC 33 dX12_findPlan_151 (by decide) ?_
              refine g_sub [0, 1] rfl ?_
              exact ih x2 M40 h
            · replace h := it_f c29 h
              refine g_goto hC 33 dX12_findPlan_111 (by decide) ?_
              refine g_sub [1, 2] rfl ?_
              exact ih x2 M25 h
          · replace h := it_f c24 h
            refine g_iinc hC 1 (x2 + 1) ([(2, .int (x2 + 1)), (0, .ref x0)]) dX12_findPlan_85 rfl rfl (by decide) rfl ?_
            refine g_aload_n hC 1 dX12_findPlan_88 rfl ?_
            replace h := ob h; obtain ⟨v41, ev41, h⟩ := h
            refine g_getR hC ev41 fk_X12_81 rfl dX12_findPlan_89 ?_
            refine g_iload_n hC 0 dX12_findPlan_92 rfl ?_
            refine g_iconst hC (-1) dX12_findPlan_93 (by decide) ?_
            replace h := ob h; obtain ⟨a43, ea43, h⟩ := h
            subst ea43
            replace h := ob h; obtain ⟨M42, eM42, h⟩ := h
            refine g_iast hC eM42 dX12_findPlan_94 ?_
            refine g_goto hC 33 dX12_findPlan_95 (by decide) ?_
            refine g_sub [1, 0] rfl ?_
            exact ih (x2 + 1) M42 h
        · replace h := it_t c22 h
          refine g_goto hC 33 dX12_findPlan_72 (by decide) ?_
          refine g_sub [0, 1] rfl ?_
          exact ih x2 M19 h
      · replace h := it_f c18 h
        refine g_iinc hC 1 (x2 + (-1)) ([(2, .int (x2 + (-1))), (0, .ref x0)]) dX12_findPlan_58 rfl rfl (by decide) rfl ?_
        refine g_goto hC 33 dX12_findPlan_61 (by decide) ?_
        refine g_sub [1, 0] rfl ?_
        exact ih (x2 + (-1)) M14 h
set_option maxHeartbeats 4000000 in
set_option maxRecDepth 100000 in
theorem c_X12_findPlan (l : Launch) (Γ : Gm) (this : Nat) (p1 : Int32) (M M' : Mm) (r : Int32) (h : F_X12_findPlan this p1 M = some (r, M')) : Met l yX12_findPlan (wz yX12_findPlan cX12_findPlan 5 (some .boolean)) ({ frames := 8, cells := 0, slots := 0, locals := 183 } : Room) (Pq Γ M [.ref this, .int p1]) (Qi Γ r M') 0 0 (fr Γ) := by
  refine met_of (own := RX12) (by decide +kernel) rfl (Nat.le_of_ble_eq_true rfl) ?_
  intro X hC hR hnm hXl
  unfold F_X12_findPlan at h
  show G Γ X 5 M 0 0 _ 0 ([(0, .ref this), (1, .int p1)]) []
  refine g_aload_n hC 0 dX12_findPlan_0 rfl ?_
  refine g_iload_n hC 1 dX12_findPlan_1 rfl ?_
  replace h := ob h; obtain ⟨_, eu2, h⟩ := h
  replace h := ob h; obtain ⟨M1, eM1, h⟩ := h
  refine g_callv hC (r_V hC (As := [.int p1]) (c_X12_findEnds _ Γ this p1 M M1 eM1) yk_X12_findEnds lk_X12_259 eu2 ⟨_, rfl, rfl⟩ rfl rfl (Nat.le_of_ble_eq_true rfl) hR ⟨(Nat.le_of_ble_eq_true rfl), (Nat.le_of_ble_eq_true rfl)⟩ ⟨(Nat.le_of_ble_eq_true rfl), (Nat.le_of_ble_eq_true rfl)⟩ dX12_findPlan_2) ?_
  refine g_aload_n hC 0 dX12_findPlan_5 rfl ?_
  refine g_iconst hC (-1) dX12_findPlan_6 (by decide) ?_
  replace h := ob h; obtain ⟨M3, eM3, h⟩ := h
  refine g_putI hC eM3 fk_X12_93 rfl dX12_findPlan_7 ?_
  refine g_aload_n hC 0 dX12_findPlan_10 rfl ?_
  replace h := ob h; obtain ⟨v4, ev4, h⟩ := h
  refine g_getI hC ev4 fk_X12_90 rfl dX12_findPlan_11 ?_
  refine g_if_ne hC 24 dX12_findPlan_14 (by decide) (fun c5 => ?_) (fun c5 => ?_)
  · replace h := it_f c5 h
    refine g_iconst hC 0 dX12_findPlan_24 (by decide) ?_
    refine g_istore_n hC ([(2, .int 0), (0, .ref this), (1, .int p1)]) dX12_findPlan_25 (by decide) rfl ?_
    refine g_aload_n hC 1 dX12_findPlan_26 rfl ?_
    replace h := ob h; obtain ⟨v6, ev6, h⟩ := h
    refine g_getR hC ev6 fk_X12_81 rfl dX12_findPlan_27 ?_
    refine g_iconst hC 0 dX12_findPlan_30 (by decide) ?_
    refine g_iconst hC (-1) dX12_findPlan_31 (by decide) ?_
    replace h := ob h; obtain ⟨a8, ea8, h⟩ := h
    subst ea8
    replace h := ob h; obtain ⟨M7, eM7, h⟩ := h
    refine g_iast hC eM7 dX12_findPlan_32 ?_
    refine g_sub [1, 0] rfl ?_
    refine l_X12_findPlan_L33 hC hR r M' _ _ ?_ _ _ _ h
    intro  M44 h
    refine g_aload_n hC 0 dX12_findPlan_154 rfl ?_
    replace h := ob h; obtain ⟨v45, ev45, h⟩ := h
    refine g_getI hC ev45 fk_X12_93 rfl dX12_findPlan_155 ?_
    refine g_if_lt hC 165 dX12_findPlan_158 (by decide) (fun c46 => ?_) (fun c46 => ?_)
    · replace h := it_t c46 h
      refine g_iconst hC 0 dX12_findPlan_165 (by decide) ?_
      exact g_zret hC (by decide) h ⟨(Nat.le_of_ble_eq_true rfl), (Nat.le_of_ble_eq_true rfl)⟩ dX12_findPlan_166
    · replace h := it_f c46 h
      refine g_iconst hC 1 dX12_findPlan_161 (by decide) ?_
      refine g_goto hC 166 dX12_findPlan_162 (by decide) ?_
      exact g_zret hC (by decide) h ⟨(Nat.le_of_ble_eq_true rfl), (Nat.le_of_ble_eq_true rfl)⟩ dX12_findPlan_166
  · replace h := it_t c5 h
    refine g_aload_n hC 0 dX12_findPlan_17 rfl ?_
    refine g_iconst hC 0 dX12_findPlan_18 (by decide) ?_
    replace h := ob h; obtain ⟨M47, eM47, h⟩ := h
    refine g_putI hC eM47 fk_X12_93 rfl dX12_findPlan_19 ?_
    refine g_iconst hC 1 dX12_findPlan_22 (by decide) ?_
    exact g_zret hC (by decide) h ⟨(Nat.le_of_ble_eq_true rfl), (Nat.le_of_ble_eq_true rfl)⟩ dX12_findPlan_23

set_option maxHeartbeats 4000000 in
set_option maxRecDepth 100000 in
theorem c_X12_plan (l : Launch) (Γ : Gm) (this : Nat) (p1 : Int32) (M M' : Mm) (r : Int32) (h : F_X12_plan this p1 M = some (r, M')) : Met l yX12_plan (wz yX12_plan cX12_plan 2 (some .int)) ({ frames := 9, cells := 0, slots := 0, locals := 207 } : Room) (Pq Γ M [.ref this, .int p1]) (Qi Γ r M') 0 0 (fr Γ) := by
  refine met_of (own := RX12) (by decide +kernel) rfl (Nat.le_of_ble_eq_true rfl) ?_
  intro X hC hR hnm hXl
  unfold F_X12_plan at h
  show G Γ X 2 M 0 0 _ 0 ([(0, .ref this), (1, .int p1)]) []
  refine g_aload_n hC 0 dX12_plan_0 rfl ?_
  refine g_iload_n hC 1 dX12_plan_1 rfl ?_
  refine g_iconst hC 0 dX12_plan_2 (by decide) ?_
  refine g_iconst hC 3 dX12_plan_3 (by decide) ?_
  replace h := ob h; obtain ⟨_, eu2, h⟩ := h
  replace h := ob h; obtain ⟨⟨v3, M1⟩, eM1, h⟩ := h
  refine g_calli hC (r_V hC (As := [.int p1, .int 0, .int 3]) (c_X12_is _ Γ this p1 0 3 M M1 v3 eM1) yk_X12_is lk_X12_123 eu2 ⟨_, rfl, rfl⟩ rfl rfl (Nat.le_of_ble_eq_true rfl) hR ⟨(Nat.le_of_ble_eq_true rfl), (Nat.le_of_ble_eq_true rfl)⟩ ⟨(Nat.le_of_ble_eq_true rfl), (Nat.le_of_ble_eq_true rfl)⟩ dX12_plan_4) ?_
  refine g_if_ne hC 14 dX12_plan_7 (by decide) (fun c4 => ?_) (fun c4 => ?_)
  · replace h := it_f c4 h
    refine g_aload_n hC 0 dX12_plan_14 rfl ?_
    refine g_iload_n hC 1 dX12_plan_15 rfl ?_
    replace h := ob h; obtain ⟨_, eu6, h⟩ := h
    replace h := ob h; obtain ⟨⟨v7, M5⟩, eM5, h⟩ := h
    refine g_calli hC (r_V hC (As := [.int p1]) (c_X12_findPlan _ Γ this p1 M1 M5 v7 eM5) yk_X12_findPlan lk_X12_268 eu6 ⟨_, rfl, rfl⟩ rfl rfl (Nat.le_of_ble_eq_true rfl) hR ⟨(Nat.le_of_ble_eq_true rfl), (Nat.le_of_ble_eq_true rfl)⟩ ⟨(Nat.le_of_ble_eq_true rfl), (Nat.le_of_ble_eq_true rfl)⟩ dX12_plan_16) ?_
    refine g_if_eq hC 29 dX12_plan_19 (by decide) (fun c8 => ?_) (fun c8 => ?_)
    · replace h := it_t c8 h
      refine g_bipush hC (-4) dX12_plan_29 (by decide) ?_
      exact g_iret hC h ⟨(Nat.le_of_ble_eq_true rfl), (Nat.le_of_ble_eq_true rfl)⟩ dX12_plan_31
    · replace h := it_f c8 h
      refine g_aload_n hC 0 dX12_plan_22 rfl ?_
      replace h := ob h; obtain ⟨v9, ev9, h⟩ := h
      refine g_getI hC ev9 fk_X12_93 rfl dX12_plan_23 ?_
      refine g_goto hC 31 dX12_plan_26 (by decide) ?_
      exact g_iret hC h ⟨(Nat.le_of_ble_eq_true rfl), (Nat.le_of_ble_eq_true rfl)⟩ dX12_plan_31
  · replace h := it_t c4 h
    refine g_iconst hC (-1) dX12_plan_10 (by decide) ?_
    refine g_goto hC 31 dX12_plan_11 (by decide) ?_
    exact g_iret hC h ⟨(Nat.le_of_ble_eq_true rfl), (Nat.le_of_ble_eq_true rfl)⟩ dX12_plan_31

set_option maxHeartbeats 4000000 in
set_option maxRecDepth 100000 in
theorem l_X12_planned_L33 {Γ : Gm} {X : Ct} (hC : Cx Γ X cX12_planned RX12 (some .int) 4) (hR : X.2.2.2.1 = ({ frames := 9, cells := 0, slots := 0, locals := 207 } : Room)) (r : Int32) (M' : Mm) (k51 : Int32 → Mm → Option (Int32 × Mm)) (x0 : Nat) (x2 : Int32) (hk51 : ∀ (y3 : Int32) (M1 : Mm), k51 y3 M1 = some (r, M') → G Γ X 4 M1 0 0 (Fin Γ X (Qi Γ r M') 0 0) 51 ([(0, .ref x0), (3, .int y3)]) []) : ∀ (fu : Nat) (x3 : Int32) (M0 : Mm), F_X12_planned_L33 k51 x0 x2 fu x3 M0 = some (r, M') → G Γ X 4 M0 0 0 (Fin Γ X (Qi Γ r M') 0 0) 33 ([(0, .ref x0), (2, .int x2), (3, .int x3)]) [] := by
  intro fu
  induction fu with
  | zero =>
    intro x3 M0 h
    rw [F_X12_planned_L33] at h
    cases h
  | succ n13 ih =>
    intro x3 M0 h
    rw [F_X12_planned_L33] at h
    refine g_iload_n hC 2 dX12_planned_33 rfl ?_
    refine g_aload_n hC 0 dX12_planned_34 rfl ?_
    replace h := ob h; obtain ⟨v14, ev14, h⟩ := h
    refine g_getI hC ev14 fk_X12_90 rfl dX12_planned_35 ?_
    refine g_icmp_ge hC 86 dX12_planned_38 (by decide) (fun c15 => ?_) (fun c15 => ?_)
    · replace h := it_t c15 h
      refine g_bipush hC (-4) dX12_planned_86 (by decide) ?_
      exact g_iret hC h ⟨(Nat.le_of_ble_eq_true rfl), (Nat.le_of_ble_eq_true rfl)⟩ dX12_planned_88
    · replace h := it_f c15 h
      refine g_aload_n hC 0 dX12_planned_41 rfl ?_
      replace h := ob h; obtain ⟨v16, ev16, h⟩ := h
      refine g_getR hC ev16 fk_X12_75 rfl dX12_planned_42 ?_
      refine g_iload_n hC 2 dX12_planned_45 rfl ?_
      replace h := ob h; obtain ⟨a18, ea18, h⟩ := h
      subst ea18
      replace h := ob h; obtain ⟨v17, ev17, h⟩ := h
      refine g_iald hC ev17 dX12_planned_46 ?_
      refine g_iload_n hC 1 dX12_planned_47 rfl ?_
      refine g_icmp_ne hC 80 dX12_planned_48 (by decide) (fun c19 => ?_) (fun c19 => ?_)
      · replace h := it_f c19 h
        refine g_iinc hC 2 (x3 + 1) ([(3, .int (x3 + 1)), (0, .ref x0), (2, .int x2)]) dX12_planned_80 rfl rfl (by decide) rfl ?_
        refine g_goto hC 33 dX12_planned_83 (by decide) ?_
        refine g_sub [1, 2, 0] rfl ?_
        exact ih (x3 + 1) M0 h
      · replace h := it_t c19 h
        refine g_sub [0, 2] rfl ?_
        exact hk51 x3 M0 h
set_option maxHeartbeats 4000000 in
set_option maxRecDepth 100000 in
theorem c_X12_planned (l : Launch) (Γ : Gm) (this : Nat) (p1 : Int32) (p2 : Int32) (M M' : Mm) (r : Int32) (h : F_X12_planned this p1 p2 M = some (r, M')) : Met l yX12_planned (wz yX12_planned cX12_planned 4 (some .int)) ({ frames := 9, cells := 0, slots := 0, locals := 207 } : Room) (Pq Γ M [.ref this, .int p1, .int p2]) (Qi Γ r M') 0 0 (fr Γ) := by
  refine met_of (own := RX12) (by decide +kernel) rfl (Nat.le_of_ble_eq_true rfl) ?_
  intro X hC hR hnm hXl
  unfold F_X12_planned at h
  show G Γ X 4 M 0 0 _ 0 ([(0, .ref this), (1, .int p1), (2, .int p2)]) []
  refine g_aload_n hC 0 dX12_planned_0 rfl ?_
  refine g_iload_n hC 1 dX12_planned_1 rfl ?_
  refine g_iconst hC 0 dX12_planned_2 (by decide) ?_
  refine g_iconst hC 3 dX12_planned_3 (by decide) ?_
  replace h := ob h; obtain ⟨_, eu2, h⟩ := h
  replace h := ob h; obtain ⟨⟨v3, M1⟩, eM1, h⟩ := h
  refine g_calli hC (r_V hC (As := [.int p1, .int 0, .int 3]) (c_X12_is _ Γ this p1 0 3 M M1 v3 eM1) yk_X12_is lk_X12_123 eu2 ⟨_, rfl, rfl⟩ rfl rfl (Nat.le_of_ble_eq_true rfl) hR ⟨(Nat.le_of_ble_eq_true rfl), (Nat.le_of_ble_eq_true rfl)⟩ ⟨(Nat.le_of_ble_eq_true rfl), (Nat.le_of_ble_eq_true rfl)⟩ dX12_planned_4) ?_
  refine g_if_eq hC 18 dX12_planned_7 (by decide) (fun c4 => ?_) (fun c4 => ?_)
  · replace h := it_t c4 h
    refine g_iconst hC (-1) dX12_planned_18 (by decide) ?_
    exact g_iret hC h ⟨(Nat.le_of_ble_eq_true rfl), (Nat.le_of_ble_eq_true rfl)⟩ dX12_planned_19
  · replace h := it_f c4 h
    refine g_aload_n hC 0 dX12_planned_10 rfl ?_
    refine g_iload_n hC 2 dX12_planned_11 rfl ?_
    replace h := ob h; obtain ⟨_, eu6, h⟩ := h
    replace h := ob h; obtain ⟨⟨v7, M5⟩, eM5, h⟩ := h
    refine g_calli hC (r_V hC (As := [.int p2]) (c_X12_isGlider _ Γ this p2 M1 M5 v7 eM5) yk_X12_isGlider lk_X12_142 eu6 ⟨_, rfl, rfl⟩ rfl rfl (Nat.le_of_ble_eq_true rfl) hR ⟨(Nat.le_of_ble_eq_true rfl), (Nat.le_of_ble_eq_true rfl)⟩ ⟨(Nat.le_of_ble_eq_true rfl), (Nat.le_of_ble_eq_true rfl)⟩ dX12_planned_12) ?_
    refine g_if_ne hC 20 dX12_planned_15 (by decide) (fun c8 => ?_) (fun c8 => ?_)
    · replace h := it_f c8 h
      refine g_aload_n hC 0 dX12_planned_20 rfl ?_
      refine g_iload_n hC 1 dX12_planned_21 rfl ?_
      replace h := ob h; obtain ⟨_, eu10, h⟩ := h
      replace h := ob h; obtain ⟨⟨v11, M9⟩, eM9, h⟩ := h
      refine g_calli hC (r_V hC (As := [.int p1]) (c_X12_findPlan _ Γ this p1 M5 M9 v11 eM9) yk_X12_findPlan lk_X12_268 eu10 ⟨_, rfl, rfl⟩ rfl rfl (Nat.le_of_ble_eq_true rfl) hR ⟨(Nat.le_of_ble_eq_true rfl), (Nat.le_of_ble_eq_true rfl)⟩ ⟨(Nat.le_of_ble_eq_true rfl), (Nat.le_of_ble_eq_true rfl)⟩ dX12_planned_22) ?_
      refine g_if_ne hC 31 dX12_planned_25 (by decide) (fun c12 => ?_) (fun c12 => ?_)
      · replace h := it_f c12 h
        refine g_iconst hC 0 dX12_planned_31 (by decide) ?_
        refine g_istore_n hC ([(3, .int 0), (0, .ref this), (1, .int p1), (2, .int p2)]) dX12_planned_32 (by decide) rfl ?_
        refine g_sub [1, 3, 0] rfl ?_
        refine l_X12_planned_L33 hC hR r M' _ _ _ ?_ _ _ _ h
        intro y20 M21 h
        refine g_bipush hC 20 dX12_planned_51 (by decide) ?_
        refine g_aload_n hC 0 dX12_planned_53 rfl ?_
        replace h := ob h; obtain ⟨v22, ev22, h⟩ := h
        refine g_getR hC ev22 fk_X12_84 rfl dX12_planned_54 ?_
        refine g_iload_n hC 1 dX12_planned_57 rfl ?_
        replace h := ob h; obtain ⟨a24, ea24, h⟩ := h
        subst ea24
        replace h := ob h; obtain ⟨v23, ev23, h⟩ := h
        refine g_iald hC ev23 dX12_planned_58 ?_
        refine g_bipush hC 9 dX12_planned_59 (by decide) ?_
        replace h := ob h; obtain ⟨v25, ev25, h⟩ := h
        refine g_idiv hC ev25 dX12_planned_61 ?_
        refine g_bipush hC 6 dX12_planned_62 (by decide) ?_
        refine g_iadd hC dX12_planned_64 ?_
        refine g_imul hC dX12_planned_65 ?_
        refine g_aload_n hC 0 dX12_planned_66 rfl ?_
        replace h := ob h; obtain ⟨v26, ev26, h⟩ := h
        refine g_getR hC ev26 fk_X12_84 rfl dX12_planned_67 ?_
        refine g_iload_n hC 1 dX12_planned_70 rfl ?_
        replace h := ob h; obtain ⟨a28, ea28, h⟩ := h
        subst ea28
        replace h := ob h; obtain ⟨v27, ev27, h⟩ := h
        refine g_iald hC ev27 dX12_planned_71 ?_
        refine g_bipush hC 9 dX12_planned_72 (by decide) ?_
        replace h := ob h; obtain ⟨v29, ev29, h⟩ := h
        refine g_irem hC ev29 dX12_planned_74 ?_
        refine g_iadd hC dX12_planned_75 ?_
        refine g_bipush hC 6 dX12_planned_76 (by decide) ?_
        refine g_iadd hC dX12_planned_78 ?_
        exact g_iret hC h ⟨(Nat.le_of_ble_eq_true rfl), (Nat.le_of_ble_eq_true rfl)⟩ dX12_planned_79
      · replace h := it_t c12 h
        refine g_bipush hC (-4) dX12_planned_28 (by decide) ?_
        exact g_iret hC h ⟨(Nat.le_of_ble_eq_true rfl), (Nat.le_of_ble_eq_true rfl)⟩ dX12_planned_30
    · replace h := it_t c8 h
      refine g_iconst hC (-1) dX12_planned_18 (by decide) ?_
      exact g_iret hC h ⟨(Nat.le_of_ble_eq_true rfl), (Nat.le_of_ble_eq_true rfl)⟩ dX12_planned_19

set_option maxHeartbeats 4000000 in
set_option maxRecDepth 100000 in
theorem c_X12_ends (l : Launch) (Γ : Gm) (this : Nat) (p1 : Int32) (p2 : Int32) (p3 : Int32) (p4 : Int32) (M M' : Mm) (r : Int32) (h : F_X12_ends this p1 p2 p3 p4 M = some (r, M')) : Met l yX12_ends (wz yX12_ends cX12_ends 5 (some .int)) ({ frames := 7, cells := 0, slots := 0, locals := 160 } : Room) (Pq Γ M [.ref this, .int p1, .int p2, .int p3, .int p4]) (Qi Γ r M') 0 0 (fr Γ) := by
  refine met_of (own := RX12) (by decide +kernel) rfl (Nat.le_of_ble_eq_true rfl) ?_
  intro X hC hR hnm hXl
  unfold F_X12_ends at h
  show G Γ X 5 M 0 0 _ 0 ([(0, .ref this), (1, .int p1), (2, .int p2), (3, .int p3), (4, .int p4)]) []
  refine g_aload_n hC 0 dX12_ends_0 rfl ?_
  refine g_iload_n hC 1 dX12_ends_1 rfl ?_
  replace h := ob h; obtain ⟨_, eu2, h⟩ := h
  replace h := ob h; obtain ⟨⟨v3, M1⟩, eM1, h⟩ := h
  refine g_calli hC (r_V hC (As := [.int p1]) (c_X12_isGlider _ Γ this p1 M M1 v3 eM1) yk_X12_isGlider lk_X12_142 eu2 ⟨_, rfl, rfl⟩ rfl rfl (Nat.le_of_ble_eq_true rfl) hR ⟨(Nat.le_of_ble_eq_true rfl), (Nat.le_of_ble_eq_true rfl)⟩ ⟨(Nat.le_of_ble_eq_true rfl), (Nat.le_of_ble_eq_true rfl)⟩ dX12_ends_2) ?_
  refine g_if_eq hC 33 dX12_ends_5 (by decide) (fun c4 => ?_) (fun c4 => ?_)
  · replace h := it_t c4 h
    refine g_iconst hC (-1) dX12_ends_33 (by decide) ?_
    exact g_iret hC h ⟨(Nat.le_of_ble_eq_true rfl), (Nat.le_of_ble_eq_true rfl)⟩ dX12_ends_34
  · replace h := it_f c4 h
    refine g_aload_n hC 0 dX12_ends_8 rfl ?_
    refine g_iload_n hC 2 dX12_ends_9 rfl ?_
    refine g_iconst hC 0 dX12_ends_10 (by decide) ?_
    refine g_aload_n hC 0 dX12_ends_11 rfl ?_
    refine g_iload_n hC 1 dX12_ends_12 rfl ?_
    replace h := ob h; obtain ⟨_, eu6, h⟩ := h
    replace h := ob h; obtain ⟨⟨v7, M5⟩, eM5, h⟩ := h
    refine g_calli hC (r_V hC (As := [.int p1]) (c_X12_sinks _ Γ this p1 M1 M5 v7 eM5) yk_X12_sinks lk_X12_135 eu6 ⟨_, rfl, rfl⟩ rfl rfl (Nat.le_of_ble_eq_true rfl) hR ⟨(Nat.le_of_ble_eq_true rfl), (Nat.le_of_ble_eq_true rfl)⟩ ⟨(Nat.le_of_ble_eq_true rfl), (Nat.le_of_ble_eq_true rfl)⟩ dX12_ends_13) ?_
    replace h := ob h; obtain ⟨_, eu9, h⟩ := h
    replace h := ob h; obtain ⟨⟨v10, M8⟩, eM8, h⟩ := h
    refine g_calli hC (r_V hC (As := [.int p2, .int 0, .int v7]) (c_X12_is _ Γ this p2 0 v7 M5 M8 v10 eM8) yk_X12_is lk_X12_123 eu9 ⟨_, rfl, rfl⟩ rfl rfl (Nat.le_of_ble_eq_true rfl) hR ⟨(Nat.le_of_ble_eq_true rfl), (Nat.le_of_ble_eq_true rfl)⟩ ⟨(Nat.le_of_ble_eq_true rfl), (Nat.le_of_ble_eq_true rfl)⟩ dX12_ends_16) ?_
    refine g_if_eq hC 33 dX12_ends_19 (by decide) (fun c11 => ?_) (fun c11 => ?_)
    · replace h := it_t c11 h
      refine g_iconst hC (-1) dX12_ends_33 (by decide) ?_
      exact g_iret hC h ⟨(Nat.le_of_ble_eq_true rfl), (Nat.le_of_ble_eq_true rfl)⟩ dX12_ends_34
    · replace h := it_f c11 h
      refine g_aload_n hC 0 dX12_ends_22 rfl ?_
      refine g_iload_n hC 1 dX12_ends_23 rfl ?_
      refine g_iload_n hC 3 dX12_ends_24 rfl ?_
      refine g_iload hC 4 dX12_ends_25 rfl ?_
      replace h := ob h; obtain ⟨_, eu13, h⟩ := h
      replace h := ob h; obtain ⟨⟨v14, M12⟩, eM12, h⟩ := h
      refine g_calli hC (r_V hC (As := [.int p1, .int p3, .int p4]) (c_X12_isHeading _ Γ this p1 p3 p4 M8 M12 v14 eM12) yk_X12_isHeading lk_X12_184 eu13 ⟨_, rfl, rfl⟩ rfl rfl (Nat.le_of_ble_eq_true rfl) hR ⟨(Nat.le_of_ble_eq_true rfl), (Nat.le_of_ble_eq_true rfl)⟩ ⟨(Nat.le_of_ble_eq_true rfl), (Nat.le_of_ble_eq_true rfl)⟩ dX12_ends_27) ?_
      refine g_if_ne hC 35 dX12_ends_30 (by decide) (fun c15 => ?_) (fun c15 => ?_)
      · replace h := it_f c15 h
        refine g_aload_n hC 0 dX12_ends_35 rfl ?_
        refine g_iload_n hC 1 dX12_ends_36 rfl ?_
        replace h := ob h; obtain ⟨_, eu17, h⟩ := h
        replace h := ob h; obtain ⟨⟨v18, M16⟩, eM16, h⟩ := h
        refine g_calli hC (r_V hC (As := [.int p1]) (c_X12_isUp _ Γ this p1 M12 M16 v18 eM16) yk_X12_isUp lk_X12_187 eu17 ⟨_, rfl, rfl⟩ rfl rfl (Nat.le_of_ble_eq_true rfl) hR ⟨(Nat.le_of_ble_eq_true rfl), (Nat.le_of_ble_eq_true rfl)⟩ ⟨(Nat.le_of_ble_eq_true rfl), (Nat.le_of_ble_eq_true rfl)⟩ dX12_ends_37) ?_
        refine g_if_ne hC 46 dX12_ends_40 (by decide) (fun c19 => ?_) (fun c19 => ?_)
        · replace h := it_f c19 h
          refine g_aload_n hC 0 dX12_ends_46 rfl ?_
          refine g_iload_n hC 1 dX12_ends_47 rfl ?_
          refine g_iload_n hC 2 dX12_ends_48 rfl ?_
          refine g_iload_n hC 3 dX12_ends_49 rfl ?_
          refine g_iload hC 4 dX12_ends_50 rfl ?_
          replace h := ob h; obtain ⟨_, eu21, h⟩ := h
          replace h := ob h; obtain ⟨M20, eM20, h⟩ := h
          refine g_callv hC (r_V hC (As := [.int p1, .int p2, .int p3, .int p4]) (c_X12_endBy _ Γ this p1 p2 p3 p4 M16 M20 eM20) yk_X12_endBy lk_X12_246 eu21 ⟨_, rfl, rfl⟩ rfl rfl (Nat.le_of_ble_eq_true rfl) hR ⟨(Nat.le_of_ble_eq_true rfl), (Nat.le_of_ble_eq_true rfl)⟩ ⟨(Nat.le_of_ble_eq_true rfl), (Nat.le_of_ble_eq_true rfl)⟩ dX12_ends_52) ?_
          refine g_bipush hC 8 dX12_ends_55 (by decide) ?_
          refine g_aload_n hC 0 dX12_ends_57 rfl ?_
          replace h := ob h; obtain ⟨v22, ev22, h⟩ := h
          refine g_getI hC ev22 fk_X12_24 rfl dX12_ends_58 ?_
          refine g_imul hC dX12_ends_61 ?_
          refine g_aload_n hC 0 dX12_ends_62 rfl ?_
          replace h := ob h; obtain ⟨v23, ev23, h⟩ := h
          refine g_getI hC ev23 fk_X12_27 rfl dX12_ends_63 ?_
          refine g_iadd hC dX12_ends_66 ?_
          exact g_iret hC h ⟨(Nat.le_of_ble_eq_true rfl), (Nat.le_of_ble_eq_true rfl)⟩ dX12_ends_67
        · replace h := it_t c19 h
          refine g_bipush hC (-3) dX12_ends_43 (by decide) ?_
          exact g_iret hC h ⟨(Nat.le_of_ble_eq_true rfl), (Nat.le_of_ble_eq_true rfl)⟩ dX12_ends_45
      · replace h := it_t c15 h
        refine g_iconst hC (-1) dX12_ends_33 (by decide) ?_
        exact g_iret hC h ⟨(Nat.le_of_ble_eq_true rfl), (Nat.le_of_ble_eq_true rfl)⟩ dX12_ends_34
