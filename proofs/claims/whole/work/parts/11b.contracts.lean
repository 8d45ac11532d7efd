set_option maxHeartbeats 4000000 in
set_option maxRecDepth 100000 in
theorem l_X5_addEnd_L21 {Γ : Gm} {X : Ct} (hC : Cx Γ X cX5_addEnd RX5 none 7) (hR : X.2.2.2.1 = ({ frames := 3, cells := 0, slots := 0, locals := 69 } : Room)) (M' : Mm) (k46 : Mm → Option Mm) (x0 : Nat) (x1 : Int32) (x2 : Int32) (x3 : Int32) (x5 : Int32) (hk46 : ∀  (M1 : Mm), k46  M1 = some M' → G Γ X 7 M1 0 0 (Fin Γ X (Qv Γ M') 0 0) 46 ([(0, .ref x0), (1, .int x1), (2, .int x2), (3, .int x3), (5, .int x5)]) []) : ∀ (fu : Nat) (x6 : Int32) (M0 : Mm), F_X5_addEnd_L21 k46 x0 x1 x2 x3 x5 fu x6 M0 = some M' → G Γ X 7 M0 0 0 (Fin Γ X (Qv Γ M') 0 0) 21 ([(0, .ref x0), (1, .int x1), (2, .int x2), (3, .int x3), (5, .int x5), (6, .int x6)]) [] := by
  intro fu
  induction fu with
  | zero =>
    intro x6 M0 h
    rw [F_X5_addEnd_L21] at h
    cases h
  | succ n4 ih =>
    intro x6 M0 h
    rw [F_X5_addEnd_L21] at h
    refine g_iload hC 5 dX5_addEnd_21 rfl ?_
    refine g_iload hC 4 dX5_addEnd_23 rfl ?_
    refine g_icmp_ge hC 46 dX5_addEnd_25 (by decide) (fun c5 => ?_) (fun c5 => ?_)
    · replace h := it_t c5 h
      refine g_sub [0, 1, 2, 3, 4] rfl ?_
      exact hk46  M0 h
    · replace h := it_f c5 h
      refine g_aload_n hC 0 dX5_addEnd_28 rfl ?_
      replace h := ob h; obtain ⟨v6, ev6, h⟩ := h
      refine g_getR hC ev6 fk_X5_22 rfl dX5_addEnd_29 ?_
      refine g_iload hC 5 dX5_addEnd_32 rfl ?_
      replace h := ob h; obtain ⟨a8, ea8, h⟩ := h
      subst ea8
      replace h := ob h; obtain ⟨v7, ev7, h⟩ := h
      refine g_iald hC ev7 dX5_addEnd_34 ?_
      refine g_iload_n hC 2 dX5_addEnd_35 rfl ?_
      refine g_icmp_ne hC 40 dX5_addEnd_36 (by decide) (fun c9 => ?_) (fun c9 => ?_)
      · replace h := it_f c9 h
        refine g_iinc hC 5 (x6 + 1) ([(6, .int (x6 + 1)), (0, .ref x0), (1, .int x1), (2, .int x2), (3, .int x3), (5, .int x5)]) dX5_addEnd_40 rfl rfl (by decide) rfl ?_
        refine g_goto hC 21 dX5_addEnd_43 (by decide) ?_
        refine g_sub [1, 2, 3, 4, 5, 0] rfl ?_
        exact ih (x6 + 1) M0 h
      · replace h := it_t c9 h
        exact g_vret hC h ⟨(Nat.le_of_ble_eq_true rfl), (Nat.le_of_ble_eq_true rfl)⟩ dX5_addEnd_39
set_option maxHeartbeats 4000000 in
set_option maxRecDepth 100000 in
theorem c_X5_addEnd (l : Launch) (Γ : Gm) (this : Nat) (p1 : Int32) (p2 : Int32) (p3 : Int32) (M M' : Mm) (h : F_X5_addEnd this p1 p2 p3 M = some M') : Met l yX5_addEnd (wz yX5_addEnd cX5_addEnd 7 none) ({ frames := 3, cells := 0, slots := 0, locals := 69 } : Room) (Pq Γ M [.ref this, .int p1, .int p2, .int p3]) (Qv Γ M') 0 0 (fr Γ) := by
  refine met_of (own := RX5) (by decide +kernel) rfl (Nat.le_of_ble_eq_true rfl) ?_
  intro X hC hR hnm hXl
  unfold F_X5_addEnd at h
  show G Γ X 7 M 0 0 _ 0 ([(0, .ref this), (1, .int p1), (2, .int p2), (3, .int p3)]) []
  refine g_iload_n hC 1 dX5_addEnd_0 rfl ?_
  refine g_bipush hC 41 dX5_addEnd_1 (by decide) ?_
  refine g_imul hC dX5_addEnd_3 ?_
  refine g_istore hC ([(4, .int (p1 * 41)), (0, .ref this), (1, .int p1), (2, .int p2), (3, .int p3)]) dX5_addEnd_4 (by decide) rfl ?_
  refine g_iload hC 0 dX5_addEnd_6 rfl ?_
  refine g_aload_n hC 1 dX5_addEnd_8 rfl ?_
  replace h := ob h; obtain ⟨v1, ev1, h⟩ := h
  refine g_getR hC ev1 fk_X5_19 rfl dX5_addEnd_9 ?_
  refine g_iload_n hC 2 dX5_addEnd_12 rfl ?_
  replace h := ob h; obtain ⟨a3, ea3, h⟩ := h
  subst ea3
  replace h := ob h; obtain ⟨v2, ev2, h⟩ := h
  refine g_iald hC ev2 dX5_addEnd_13 ?_
  refine g_iadd hC dX5_addEnd_14 ?_
  refine g_istore hC ([(5, .int ((p1 * 41) + v2)), (4, .int (p1 * 41)), (0, .ref this), (1, .int p1), (2, .int p2), (3, .int p3)]) dX5_addEnd_15 (by decide) rfl ?_
  refine g_iload hC 1 dX5_addEnd_17 rfl ?_
  refine g_istore hC ([(6, .int (p1 * 41)), (5, .int ((p1 * 41) + v2)), (4, .int (p1 * 41)), (0, .ref this), (1, .int p1), (2, .int p2), (3, .int p3)]) dX5_addEnd_19 (by decide) rfl ?_
  refine g_sub [3, 4, 5, 6, 1, 0] rfl ?_
  refine l_X5_addEnd_L21 hC hR M' _ _ _ _ _ _ ?_ _ _ _ h
  intro  M10 h
  refine g_aload_n hC 0 dX5_addEnd_46 rfl ?_
  replace h := ob h; obtain ⟨v11, ev11, h⟩ := h
  refine g_getR hC ev11 fk_X5_19 rfl dX5_addEnd_47 ?_
  refine g_iload_n hC 1 dX5_addEnd_50 rfl ?_
  replace h := ob h; obtain ⟨a13, ea13, h⟩ := h
  subst ea13
  replace h := ob h; obtain ⟨v12, ev12, h⟩ := h
  refine g_iald hC ev12 dX5_addEnd_51 ?_
  refine g_bipush hC 41 dX5_addEnd_52 (by decide) ?_
  refine g_icmp_ge hC 95 dX5_addEnd_54 (by decide) (fun c14 => ?_) (fun c14 => ?_)
  · replace h := it_t c14 h
    exact g_vret hC h ⟨(Nat.le_of_ble_eq_true rfl), (Nat.le_of_ble_eq_true rfl)⟩ dX5_addEnd_95
  · replace h := it_f c14 h
    refine g_aload_n hC 0 dX5_addEnd_57 rfl ?_
    replace h := ob h; obtain ⟨v15, ev15, h⟩ := h
    refine g_getR hC ev15 fk_X5_22 rfl dX5_addEnd_58 ?_
    refine g_iload hC 4 dX5_addEnd_61 rfl ?_
    refine g_iload_n hC 2 dX5_addEnd_63 rfl ?_
    replace h := ob h; obtain ⟨a17, ea17, h⟩ := h
    subst ea17
    replace h := ob h; obtain ⟨M16, eM16, h⟩ := h
    refine g_iast hC eM16 dX5_addEnd_64 ?_
    refine g_aload_n hC 0 dX5_addEnd_65 rfl ?_
    replace h := ob h; obtain ⟨v18, ev18, h⟩ := h
    refine g_getR hC ev18 fk_X5_25 rfl dX5_addEnd_66 ?_
    refine g_iload hC 4 dX5_addEnd_69 rfl ?_
    refine g_iload_n hC 3 dX5_addEnd_71 rfl ?_
    replace h := ob h; obtain ⟨a20, ea20, h⟩ := h
    subst ea20
    replace h := ob h; obtain ⟨M19, eM19, h⟩ := h
    refine g_iast hC eM19 dX5_addEnd_72 ?_
    refine g_aload_n hC 0 dX5_addEnd_73 rfl ?_
    replace h := ob h; obtain ⟨v21, ev21, h⟩ := h
    refine g_getR hC ev21 fk_X5_28 rfl dX5_addEnd_74 ?_
    refine g_iload hC 4 dX5_addEnd_77 rfl ?_
    refine g_aload_n hC 0 dX5_addEnd_79 rfl ?_
    refine g_iload_n hC 2 dX5_addEnd_80 rfl ?_
    replace h := ob h; obtain ⟨_, eu23, h⟩ := h
    replace h := ob h; obtain ⟨⟨v24, M22⟩, eM22, h⟩ := h
    refine g_calli hC (r_V hC (As := [.int p2]) (c_X5_gainBy _ Γ this p2 M19 M22 v24 eM22) yk_X5_gainBy lk_X5_139 eu23 ⟨_, rfl, rfl⟩ rfl rfl (by simp only [List.map, cat_rf]; exact Nat.le_of_ble_eq_true rfl) hR ⟨(Nat.le_of_ble_eq_true rfl), (Nat.le_of_ble_eq_true rfl)⟩ ⟨(Nat.le_of_ble_eq_true rfl), (Nat.le_of_ble_eq_true rfl)⟩ dX5_addEnd_81) ?_
    replace h := ob h; obtain ⟨a26, ea26, h⟩ := h
    subst ea26
    replace h := ob h; obtain ⟨M25, eM25, h⟩ := h
    refine g_iast hC eM25 dX5_addEnd_84 ?_
    refine g_aload_n hC 0 dX5_addEnd_85 rfl ?_
    replace h := ob h; obtain ⟨v27, ev27, h⟩ := h
    refine g_getR hC ev27 fk_X5_19 rfl dX5_addEnd_86 ?_
    refine g_iload_n hC 1 dX5_addEnd_89 rfl ?_
    refine g_dup2 hC dX5_addEnd_90 rfl (cat_rf _) ?_
    replace h := ob h; obtain ⟨a29, ea29, h⟩ := h
    subst ea29
    replace h := ob h; obtain ⟨v28, ev28, h⟩ := h
    refine g_iald hC ev28 dX5_addEnd_91 ?_
    refine g_iconst hC 1 dX5_addEnd_92 (by decide) ?_
    refine g_iadd hC dX5_addEnd_93 ?_
    replace h := ob h; obtain ⟨M30, eM30, h⟩ := h
    refine g_iast hC eM30 dX5_addEnd_94 ?_
    exact g_vret hC h ⟨(Nat.le_of_ble_eq_true rfl), (Nat.le_of_ble_eq_true rfl)⟩ dX5_addEnd_95

set_option maxHeartbeats 4000000 in
set_option maxRecDepth 100000 in
theorem l_X5_listEnds_L31 {Γ : Gm} {X : Ct} (hC : Cx Γ X cX5_listEnds RX5 none 7) (hR : X.2.2.2.1 = ({ frames := 4, cells := 0, slots := 0, locals := 95 } : Room)) (M' : Mm) (k75 : Mm → Option Mm) (x0 : Nat) (x1 : Int32) (x2 : Int32) (x3 : Int32) (x4 : Int32) (x5 : Int32) (hk75 : ∀  (M1 : Mm), k75  M1 = some M' → G Γ X 7 M1 0 0 (Fin Γ X (Qv Γ M') 0 0) 75 ([(0, .ref x0), (1, .int x1), (2, .int x2), (3, .int x3), (4, .int x4)]) []) : ∀ (fu : Nat) (x6 : Int32) (M0 : Mm), F_X5_listEnds_L31 k75 x0 x1 x2 x3 x4 x5 fu x6 M0 = some M' → G Γ X 7 M0 0 0 (Fin Γ X (Qv Γ M') 0 0) 31 ([(0, .ref x0), (1, .int x1), (2, .int x2), (3, .int x3), (4, .int x4), (5, .int x5), (6, .int x6)]) [] := by
  intro fu
  induction fu with
  | zero =>
    intro x6 M0 h
    rw [F_X5_listEnds_L31] at h
    cases h
  | succ n6 ih =>
    intro x6 M0 h
    rw [F_X5_listEnds_L31] at h
    refine g_iload hC 6 dX5_listEnds_31 rfl ?_
    refine g_iload hC 5 dX5_listEnds_33 rfl ?_
    refine g_icmp_gt hC 75 dX5_listEnds_35 (by decide) (fun c7 => ?_) (fun c7 => ?_)
    · replace h := it_t c7 h
      refine g_sub [0, 1, 2, 3, 4] rfl ?_
      exact hk75  M0 h
    · replace h := it_f c7 h
      refine g_aload_n hC 0 dX5_listEnds_38 rfl ?_
      refine g_iload_n hC 1 dX5_listEnds_39 rfl ?_
      refine g_aload_n hC 0 dX5_listEnds_40 rfl ?_
      replace h := ob h; obtain ⟨v8, ev8, h⟩ := h
      refine g_getR hC ev8 fk_X5_59 rfl dX5_listEnds_41 ?_
      refine g_iload_n hC 2 dX5_listEnds_44 rfl ?_
      refine g_iload hC 4 dX5_listEnds_45 rfl ?_
      refine g_iload hC 6 dX5_listEnds_47 rfl ?_
      replace h := ob h; obtain ⟨a9, ea9, h⟩ := h
      subst ea9
      replace h := ob h; obtain ⟨_, eu11, h⟩ := h
      replace h := ob h; obtain ⟨⟨v12, M10⟩, eM10, h⟩ := h
      refine g_calli hC (r_V hC (As := [.int x2, .int x4, .int x6]) (c_X7_walked _ Γ a9 x2 x4 x6 M0 M10 v12 eM10) yk_X7_walked lk_X5_132 eu11 ⟨_, rfl, rfl⟩ rfl rfl (Nat.le_of_ble_eq_true rfl) hR ⟨(Nat.le_of_ble_eq_true rfl), (Nat.le_of_ble_eq_true rfl)⟩ ⟨(Nat.le_of_ble_eq_true rfl), (Nat.le_of_ble_eq_true rfl)⟩ dX5_listEnds_49) ?_
      refine g_bipush hC 20 dX5_listEnds_52 (by decide) ?_
      refine g_iload hC 4 dX5_listEnds_54 rfl ?_
      refine g_bipush hC 10 dX5_listEnds_56 (by decide) ?_
      refine g_iadd hC dX5_listEnds_58 ?_
      refine g_imul hC dX5_listEnds_59 ?_
      refine g_iload hC 6 dX5_listEnds_60 rfl ?_
      refine g_iadd hC dX5_listEnds_62 ?_
      refine g_bipush hC 10 dX5_listEnds_63 (by decide) ?_
      refine g_iadd hC dX5_listEnds_65 ?_
      replace h := ob h; obtain ⟨_, eu14, h⟩ := h
      replace h := ob h; obtain ⟨M13, eM13, h⟩ := h
      refine g_callv hC (r_V hC (As := [.int x1, .int v12, .int (((20 * (x4 + 10)) + x6) + 10)]) (c_X5_addEnd _ Γ x0 x1 v12 (((20 * (x4 + 10)) + x6) + 10) M10 M13 eM13) yk_X5_addEnd lk_X5_136 eu14 ⟨_, rfl, rfl⟩ rfl rfl (Nat.le_of_ble_eq_true rfl) hR ⟨(Nat.le_of_ble_eq_true rfl), (Nat.le_of_ble_eq_true rfl)⟩ ⟨(Nat.le_of_ble_eq_true rfl), (Nat.le_of_ble_eq_true rfl)⟩ dX5_listEnds_66) ?_
      refine g_iinc hC 6 (x6 + 1) ([(6, .int (x6 + 1)), (0, .ref x0), (1, .int x1), (2, .int x2), (3, .int x3), (4, .int x4), (5, .int x5)]) dX5_listEnds_69 rfl rfl (by decide) rfl ?_
      refine g_goto hC 31 dX5_listEnds_72 (by decide) ?_
      refine g_sub [1, 2, 3, 4, 5, 6, 0] rfl ?_
      exact ih (x6 + 1) M13 h
set_option maxHeartbeats 4000000 in
set_option maxRecDepth 100000 in
theorem l_X5_listEnds_L11 {Γ : Gm} {X : Ct} (hC : Cx Γ X cX5_listEnds RX5 none 7) (hR : X.2.2.2.1 = ({ frames := 4, cells := 0, slots := 0, locals := 95 } : Room)) (M' : Mm)  (x0 : Nat) (x1 : Int32) (x2 : Int32) (x3 : Int32) : ∀ (fu : Nat) (x4 : Int32) (M0 : Mm), F_X5_listEnds_L11 x0 x1 x2 x3 fu x4 M0 = some M' → G Γ X 7 M0 0 0 (Fin Γ X (Qv Γ M') 0 0) 11 ([(0, .ref x0), (1, .int x1), (2, .int x2), (3, .int x3), (4, .int x4)]) [] := by
  intro fu
  induction fu with
  | zero =>
    intro x4 M0 h
    rw [F_X5_listEnds_L11] at h
    cases h
  | succ n4 ih =>
    intro x4 M0 h
    rw [F_X5_listEnds_L11] at h
    refine g_iload hC 4 dX5_listEnds_11 rfl ?_
    refine g_iload_n hC 3 dX5_listEnds_13 rfl ?_
    refine g_icmp_gt hC 81 dX5_listEnds_14 (by decide) (fun c5 => ?_) (fun c5 => ?_)
    · replace h := it_t c5 h
      exact g_vret hC h ⟨(Nat.le_of_ble_eq_true rfl), (Nat.le_of_ble_eq_true rfl)⟩ dX5_listEnds_81
    · replace h := it_f c5 h
      refine g_iload_n hC 3 dX5_listEnds_17 rfl ?_
      refine g_iload hC 4 dX5_listEnds_18 rfl ?_
      refine g_abs hC lk_X5_129 hR (Nat.le_of_ble_eq_true rfl) ⟨(Nat.le_of_ble_eq_true rfl), (Nat.le_of_ble_eq_true rfl), (Nat.le_of_ble_eq_true rfl), (Nat.le_of_ble_eq_true rfl)⟩ dX5_listEnds_20 ?_
      refine g_isub hC dX5_listEnds_23 ?_
      refine g_istore hC ([(5, .int (x3 - (abI x4))), (0, .ref x0), (1, .int x1), (2, .int x2), (3, .int x3), (4, .int x4)]) dX5_listEnds_24 (by decide) rfl ?_
      refine g_iload hC 0 dX5_listEnds_26 rfl ?_
      refine g_ineg hC dX5_listEnds_28 ?_
      refine g_istore hC ([(6, .int (-(x3 - (abI x4)))), (5, .int (x3 - (abI x4))), (0, .ref x0), (1, .int x1), (2, .int x2), (3, .int x3), (4, .int x4)]) dX5_listEnds_29 (by decide) rfl ?_
      refine g_sub [2, 3, 4, 5, 6, 1, 0] rfl ?_
      refine l_X5_listEnds_L31 hC hR M' _ _ _ _ _ _ _ ?_ _ _ _ h
      intro  M15 h
      refine g_iinc hC 4 (x4 + 1) ([(4, .int (x4 + 1)), (0, .ref x0), (1, .int x1), (2, .int x2), (3, .int x3)]) dX5_listEnds_75 rfl rfl (by decide) rfl ?_
      refine g_goto hC 11 dX5_listEnds_78 (by decide) ?_
      refine g_sub [1, 2, 3, 4, 0] rfl ?_
      exact ih (x4 + 1) M15 h
set_option maxHeartbeats 4000000 in
set_option maxRecDepth 100000 in
theorem c_X5_listEnds (l : Launch) (Γ : Gm) (this : Nat) (p1 : Int32) (p2 : Int32) (p3 : Int32) (M M' : Mm) (h : F_X5_listEnds this p1 p2 p3 M = some M') : Met l yX5_listEnds (wz yX5_listEnds cX5_listEnds 7 none) ({ frames := 4, cells := 0, slots := 0, locals := 95 } : Room) (Pq Γ M [.ref this, .int p1, .int p2, .int p3]) (Qv Γ M') 0 0 (fr Γ) := by
  refine met_of (own := RX5) (by decide +kernel) rfl (Nat.le_of_ble_eq_true rfl) ?_
  intro X hC hR hnm hXl
  unfold F_X5_listEnds at h
  show G Γ X 7 M 0 0 _ 0 ([(0, .ref this), (1, .int p1), (2, .int p2), (3, .int p3)]) []
  refine g_aload_n hC 0 dX5_listEnds_0 rfl ?_
  replace h := ob h; obtain ⟨v1, ev1, h⟩ := h
  refine g_getR hC ev1 fk_X5_19 rfl dX5_listEnds_1 ?_
  refine g_iload_n hC 1 dX5_listEnds_4 rfl ?_
  refine g_iconst hC 0 dX5_listEnds_5 (by decide) ?_
  replace h := ob h; obtain ⟨a3, ea3, h⟩ := h
  subst ea3
  replace h := ob h; obtain ⟨M2, eM2, h⟩ := h
  refine g_iast hC eM2 dX5_listEnds_6 ?_
  refine g_iload_n hC 3 dX5_listEnds_7 rfl ?_
  refine g_ineg hC dX5_listEnds_8 ?_
  refine g_istore hC ([(4, .int (-p3)), (0, .ref this), (1, .int p1), (2, .int p2), (3, .int p3)]) dX5_listEnds_9 (by decide) rfl ?_
  refine g_sub [1, 2, 3, 4, 0] rfl ?_
  refine l_X5_listEnds_L11 hC hR M'  _ _ _ _  _ _ _ h

set_option maxHeartbeats 4000000 in
set_option maxRecDepth 100000 in
theorem l_X5_sumMostFrom_L25 {Γ : Gm} {X : Ct} (hC : Cx Γ X cX5_sumMostFrom RX5 none 4) (hR : X.2.2.2.1 = ({ frames := 1, cells := 0, slots := 0, locals := 21 } : Room)) (M' : Mm) (k57 : Int32 → Mm → Option Mm) (x0 : Nat) (x1 : Int32) (hk57 : ∀ (y2 : Int32) (M1 : Mm), k57 y2 M1 = some M' → G Γ X 4 M1 0 0 (Fin Γ X (Qv Γ M') 0 0) 57 ([(0, .ref x0), (1, .int x1), (2, .int y2)]) []) : ∀ (fu : Nat) (x2 : Int32) (x3 : Int32) (M0 : Mm), F_X5_sumMostFrom_L25 k57 x0 x1 fu x2 x3 M0 = some M' → G Γ X 4 M0 0 0 (Fin Γ X (Qv Γ M') 0 0) 25 ([(0, .ref x0), (1, .int x1), (2, .int x2), (3, .int x3)]) [] := by
  intro fu
  induction fu with
  | zero =>
    intro x2 x3 M0 h
    rw [F_X5_sumMostFrom_L25] at h
    cases h
  | succ n8 ih =>
    intro x2 x3 M0 h
    rw [F_X5_sumMostFrom_L25] at h
    refine g_iload_n hC 3 dX5_sumMostFrom_25 rfl ?_
    refine g_aload_n hC 0 dX5_sumMostFrom_26 rfl ?_
    replace h := ob h; obtain ⟨v9, ev9, h⟩ := h
    refine g_getR hC ev9 fk_X5_19 rfl dX5_sumMostFrom_27 ?_
    refine g_iload_n hC 1 dX5_sumMostFrom_30 rfl ?_
    replace h := ob h; obtain ⟨a11, ea11, h⟩ := h
    subst ea11
    replace h := ob h; obtain ⟨v10, ev10, h⟩ := h
    refine g_iald hC ev10 dX5_sumMostFrom_31 ?_
    refine g_icmp_ge hC 57 dX5_sumMostFrom_32 (by decide) (fun c12 => ?_) (fun c12 => ?_)
    · replace h := it_t c12 h
      refine g_sub [0, 1, 2] rfl ?_
      exact hk57 x2 M0 h
    · replace h := it_f c12 h
      refine g_iload_n hC 2 dX5_sumMostFrom_35 rfl ?_
      refine g_aload_n hC 0 dX5_sumMostFrom_36 rfl ?_
      replace h := ob h; obtain ⟨v13, ev13, h⟩ := h
      refine g_getR hC ev13 fk_X5_28 rfl dX5_sumMostFrom_37 ?_
      refine g_iload_n hC 1 dX5_sumMostFrom_40 rfl ?_
      refine g_bipush hC 41 dX5_sumMostFrom_41 (by decide) ?_
      refine g_imul hC dX5_sumMostFrom_43 ?_
      refine g_iload_n hC 3 dX5_sumMostFrom_44 rfl ?_
      refine g_iadd hC dX5_sumMostFrom_45 ?_
      replace h := ob h; obtain ⟨a15, ea15, h⟩ := h
      subst ea15
      replace h := ob h; obtain ⟨v14, ev14, h⟩ := h
      refine g_iald hC ev14 dX5_sumMostFrom_46 ?_
      refine g_max hC lk_X5_142 hR (Nat.le_of_ble_eq_true rfl) ⟨(Nat.le_of_ble_eq_true rfl), (Nat.le_of_ble_eq_true rfl), (Nat.le_of_ble_eq_true rfl), (Nat.le_of_ble_eq_true rfl)⟩ dX5_sumMostFrom_47 ?_
      refine g_istore_n hC ([(2, .int (mxI x2 v14)), (0, .ref x0), (1, .int x1), (3, .int x3)]) dX5_sumMostFrom_50 (by decide) rfl ?_
      refine g_iinc hC 3 (x3 + 1) ([(3, .int (x3 + 1)), (2, .int (mxI x2 v14)), (0, .ref x0), (1, .int x1)]) dX5_sumMostFrom_51 rfl rfl (by decide) rfl ?_
      refine g_goto hC 25 dX5_sumMostFrom_54 (by decide) ?_
      refine g_sub [2, 3, 1, 0] rfl ?_
      exact ih (mxI x2 v14) (x3 + 1) M0 h
set_option maxHeartbeats 4000000 in
set_option maxRecDepth 100000 in
theorem l_X5_sumMostFrom_L17 {Γ : Gm} {X : Ct} (hC : Cx Γ X cX5_sumMostFrom RX5 none 4) (hR : X.2.2.2.1 = ({ frames := 1, cells := 0, slots := 0, locals := 21 } : Room)) (M' : Mm)  (x0 : Nat) : ∀ (fu : Nat) (x1 : Int32) (M0 : Mm), F_X5_sumMostFrom_L17 x0 fu x1 M0 = some M' → G Γ X 4 M0 0 0 (Fin Γ X (Qv Γ M') 0 0) 17 ([(0, .ref x0), (1, .int x1)]) [] := by
  intro fu
  induction fu with
  | zero =>
    intro x1 M0 h
    rw [F_X5_sumMostFrom_L17] at h
    cases h
  | succ n6 ih =>
    intro x1 M0 h
    rw [F_X5_sumMostFrom_L17] at h
    refine g_iload_n hC 1 dX5_sumMostFrom_17 rfl ?_
    refine g_if_lt hC 79 dX5_sumMostFrom_18 (by decide) (fun c7 => ?_) (fun c7 => ?_)
    · replace h := it_t c7 h
      exact g_vret hC h ⟨(Nat.le_of_ble_eq_true rfl), (Nat.le_of_ble_eq_true rfl)⟩ dX5_sumMostFrom_79
    · replace h := it_f c7 h
      refine g_iconst hC 0 dX5_sumMostFrom_21 (by decide) ?_
      refine g_istore_n hC ([(2, .int 0), (0, .ref x0), (1, .int x1)]) dX5_sumMostFrom_22 (by decide) rfl ?_
      refine g_iconst hC 0 dX5_sumMostFrom_23 (by decide) ?_
      refine g_istore_n hC ([(3, .int 0), (2, .int 0), (0, .ref x0), (1, .int x1)]) dX5_sumMostFrom_24 (by decide) rfl ?_
      refine g_sub [2, 3, 1, 0] rfl ?_
      refine l_X5_sumMostFrom_L25 hC hR M' _ _ _ ?_ _ _ _ _ h
      intro y16 M17 h
      refine g_aload_n hC 0 dX5_sumMostFrom_57 rfl ?_
      replace h := ob h; obtain ⟨v18, ev18, h⟩ := h
      refine g_getR hC ev18 fk_X5_31 rfl dX5_sumMostFrom_58 ?_
      refine g_iload_n hC 1 dX5_sumMostFrom_61 rfl ?_
      refine g_aload_n hC 0 dX5_sumMostFrom_62 rfl ?_
      replace h := ob h; obtain ⟨v19, ev19, h⟩ := h
      refine g_getR hC ev19 fk_X5_31 rfl dX5_sumMostFrom_63 ?_
      refine g_iload_n hC 1 dX5_sumMostFrom_66 rfl ?_
      refine g_iconst hC 1 dX5_sumMostFrom_67 (by decide) ?_
      refine g_iadd hC dX5_sumMostFrom_68 ?_
      replace h := ob h; obtain ⟨a21, ea21, h⟩ := h
      subst ea21
      replace h := ob h; obtain ⟨v20, ev20, h⟩ := h
      refine g_iald hC ev20 dX5_sumMostFrom_69 ?_
      refine g_iload_n hC 2 dX5_sumMostFrom_70 rfl ?_
      refine g_iadd hC dX5_sumMostFrom_71 ?_
      replace h := ob h; obtain ⟨a23, ea23, h⟩ := h
      subst ea23
      replace h := ob h; obtain ⟨M22, eM22, h⟩ := h
      refine g_iast hC eM22 dX5_sumMostFrom_72 ?_
      refine g_iinc hC 1 (x1 + (-1)) ([(1, .int (x1 + (-1))), (0, .ref x0), (2, .int y16)]) dX5_sumMostFrom_73 rfl rfl (by decide) rfl ?_
      refine g_goto hC 17 dX5_sumMostFrom_76 (by decide) ?_
      refine g_sub [1, 0] rfl ?_
      exact ih (x1 + (-1)) M22 h
set_option maxHeartbeats 4000000 in
set_option maxRecDepth 100000 in
theorem c_X5_sumMostFrom (l : Launch) (Γ : Gm) (this : Nat) (M M' : Mm) (h : F_X5_sumMostFrom this M = some M') : Met l yX5_sumMostFrom (wz yX5_sumMostFrom cX5_sumMostFrom 4 none) ({ frames := 1, cells := 0, slots := 0, locals := 21 } : Room) (Pq Γ M [.ref this]) (Qv Γ M') 0 0 (fr Γ) := by
  refine met_of (own := RX5) (by decide +kernel) rfl (Nat.le_of_ble_eq_true rfl) ?_
  intro X hC hR hnm hXl
  unfold F_X5_sumMostFrom at h
  show G Γ X 4 M 0 0 _ 0 ([(0, .ref this)]) []
  refine g_aload_n hC 0 dX5_sumMostFrom_0 rfl ?_
  replace h := ob h; obtain ⟨v1, ev1, h⟩ := h
  refine g_getR hC ev1 fk_X5_31 rfl dX5_sumMostFrom_1 ?_
  refine g_aload_n hC 0 dX5_sumMostFrom_4 rfl ?_
  replace h := ob h; obtain ⟨v2, ev2, h⟩ := h
  refine g_getI hC ev2 fk_X5_15 rfl dX5_sumMostFrom_5 ?_
  refine g_iconst hC 0 dX5_sumMostFrom_8 (by decide) ?_
  replace h := ob h; obtain ⟨a4, ea4, h⟩ := h
  subst ea4
  replace h := ob h; obtain ⟨M3, eM3, h⟩ := h
  refine g_iast hC eM3 dX5_sumMostFrom_9 ?_
  refine g_aload_n hC 0 dX5_sumMostFrom_10 rfl ?_
  replace h := ob h; obtain ⟨v5, ev5, h⟩ := h
  refine g_getI hC ev5 fk_X5_15 rfl dX5_sumMostFrom_11 ?_
  refine g_iconst hC 1 dX5_sumMostFrom_14 (by decide) ?_
  refine g_isub hC dX5_sumMostFrom_15 ?_
  refine g_istore_n hC ([(1, .int (v5 - 1)), (0, .ref this)]) dX5_sumMostFrom_16 (by decide) rfl ?_
  refine g_sub [1, 0] rfl ?_
  refine l_X5_sumMostFrom_L17 hC hR M'  _  _ _ _ h

set_option maxHeartbeats 4000000 in
set_option maxRecDepth 100000 in
theorem l_X5_isTaken_L2 {Γ : Gm} {X : Ct} (hC : Cx Γ X cX5_isTaken RX5 (some .boolean) 4) (hR : X.2.2.2.1 = ({ frames := 0, cells := 0, slots := 0, locals := 0 } : Room)) (r : Int32) (M' : Mm)  (x0 : Nat) (x1 : Int32) (x2 : Int32) : ∀ (fu : Nat) (x3 : Int32) (M0 : Mm), F_X5_isTaken_L2 x0 x1 x2 fu x3 M0 = some (r, M') → G Γ X 4 M0 0 0 (Fin Γ X (Qi Γ r M') 0 0) 2 ([(0, .ref x0), (1, .int x1), (2, .int x2), (3, .int x3)]) [] := by
  intro fu
  induction fu with
  | zero =>
    intro x3 M0 h
    rw [F_X5_isTaken_L2] at h
    cases h
  | succ n1 ih =>
    intro x3 M0 h
    rw [F_X5_isTaken_L2] at h
    refine g_iload_n hC 3 dX5_isTaken_2 rfl ?_
    refine g_iload_n hC 1 dX5_isTaken_3 rfl ?_
    refine g_icmp_ge hC 30 dX5_isTaken_4 (by decide) (fun c2 => ?_) (fun c2 => ?_)
    · replace h := it_t c2 h
      refine g_iconst hC 0 dX5_isTaken_30 (by decide) ?_
      exact g_zret hC (by decide) h ⟨(Nat.le_of_ble_eq_true rfl), (Nat.le_of_ble_eq_true rfl)⟩ dX5_isTaken_31
    · replace h := it_f c2 h
      refine g_aload_n hC 0 dX5_isTaken_7 rfl ?_
      replace h := ob h; obtain ⟨v3, ev3, h⟩ := h
      refine g_getR hC ev3 fk_X5_22 rfl dX5_isTaken_8 ?_
      refine g_aload_n hC 0 dX5_isTaken_11 rfl ?_
      replace h := ob h; obtain ⟨v4, ev4, h⟩ := h
      refine g_getR hC ev4 fk_X5_40 rfl dX5_isTaken_12 ?_
      refine g_iload_n hC 3 dX5_isTaken_15 rfl ?_
      replace h := ob h; obtain ⟨a6, ea6, h⟩ := h
      subst ea6
      replace h := ob h; obtain ⟨v5, ev5, h⟩ := h
      refine g_iald hC ev5 dX5_isTaken_16 ?_
      replace h := ob h; obtain ⟨a8, ea8, h⟩ := h
      subst ea8
      replace h := ob h; obtain ⟨v7, ev7, h⟩ := h
      refine g_iald hC ev7 dX5_isTaken_17 ?_
      refine g_iload_n hC 2 dX5_isTaken_18 rfl ?_
      refine g_icmp_ne hC 24 dX5_isTaken_19 (by decide) (fun c9 => ?_) (fun c9 => ?_)
      · replace h := it_f c9 h
        refine g_iinc hC 3 (x3 + 1) ([(3, .int (x3 + 1)), (0, .ref x0), (1, .int x1), (2, .int x2)]) dX5_isTaken_24 rfl rfl (by decide) rfl ?_
        refine g_goto hC 2 dX5_isTaken_27 (by decide) ?_
        refine g_sub [1, 2, 3, 0] rfl ?_
        exact ih (x3 + 1) M0 h
      · replace h := it_t c9 h
        refine g_iconst hC 1 dX5_isTaken_22 (by decide) ?_
        exact g_zret hC (by decide) h ⟨(Nat.le_of_ble_eq_true rfl), (Nat.le_of_ble_eq_true rfl)⟩ dX5_isTaken_23
set_option maxHeartbeats 4000000 in
set_option maxRecDepth 100000 in
theorem c_X5_isTaken (l : Launch) (Γ : Gm) (this : Nat) (p1 : Int32) (p2 : Int32) (M M' : Mm) (r : Int32) (h : F_X5_isTaken this p1 p2 M = some (r, M')) : Met l yX5_isTaken (wz yX5_isTaken cX5_isTaken 4 (some .boolean)) ({ frames := 0, cells := 0, slots := 0, locals := 0 } : Room) (Pq Γ M [.ref this, .int p1, .int p2]) (Qi Γ r M') 0 0 (fr Γ) := by
  refine met_of (own := RX5) (by decide +kernel) rfl (Nat.le_of_ble_eq_true rfl) ?_
  intro X hC hR hnm hXl
  unfold F_X5_isTaken at h
  show G Γ X 4 M 0 0 _ 0 ([(0, .ref this), (1, .int p1), (2, .int p2)]) []
  refine g_iconst hC 0 dX5_isTaken_0 (by decide) ?_
  refine g_istore_n hC ([(3, .int 0), (0, .ref this), (1, .int p1), (2, .int p2)]) dX5_isTaken_1 (by decide) rfl ?_
  refine g_sub [1, 2, 3, 0] rfl ?_
  refine l_X5_isTaken_L2 hC hR r M'  _ _ _  _ _ _ h

set_option maxHeartbeats 4000000 in
set_option maxRecDepth 100000 in
theorem l_X5_cover_L2 {Γ : Gm} {X : Ct} (hC : Cx Γ X cX5_cover RX5 none 5) (hR : X.2.2.2.1 = ({ frames := 2, cells := 0, slots := 0, locals := 45 } : Room)) (M' : Mm)  (x0 : Nat) (x1 : Int32) (x2 : Int32) : ∀ (fu : Nat) (x3 : Int32) (M0 : Mm), F_X5_cover_L2 x0 x1 x2 fu x3 M0 = some M' → G Γ X 5 M0 0 0 (Fin Γ X (Qv Γ M') 0 0) 2 ([(0, .ref x0), (1, .int x1), (2, .int x2), (3, .int x3)]) [] := by
  intro fu
  induction fu with
  | zero =>
    intro x3 M0 h
    rw [F_X5_cover_L2] at h
    cases h
  | succ n1 ih =>
    intro x3 M0 h
    rw [F_X5_cover_L2] at h
    refine g_iload_n hC 3 dX5_cover_2 rfl ?_
    refine g_iconst hC 5 dX5_cover_3 (by decide) ?_
    refine g_icmp_ge hC 70 dX5_cover_4 (by decide) (fun c2 => ?_) (fun c2 => ?_)
    · replace h := it_t c2 h
      exact g_vret hC h ⟨(Nat.le_of_ble_eq_true rfl), (Nat.le_of_ble_eq_true rfl)⟩ dX5_cover_70
    · replace h := it_f c2 h
      refine g_aload_n hC 0 dX5_cover_7 rfl ?_
      replace h := ob h; obtain ⟨v3, ev3, h⟩ := h
      refine g_getR hC ev3 fk_X5_59 rfl dX5_cover_8 ?_
      refine g_iload_n hC 2 dX5_cover_11 rfl ?_
      refine g_iload_n hC 3 dX5_cover_12 rfl ?_
      replace h := ob h; obtain ⟨a4, ea4, h⟩ := h
      subst ea4
      replace h := ob h; obtain ⟨_, eu6, h⟩ := h
      replace h := ob h; obtain ⟨⟨v7, M5⟩, eM5, h⟩ := h
      refine g_calli hC (r_V hC (As := [.int x2, .int x3]) (c_X7_beside _ Γ a4 x2 x3 M0 M5 v7 eM5) yk_X7_beside lk_X5_162 eu6 ⟨_, rfl, rfl⟩ rfl rfl (Nat.le_of_ble_eq_true rfl) hR ⟨(Nat.le_of_ble_eq_true rfl), (Nat.le_of_ble_eq_true rfl)⟩ ⟨(Nat.le_of_ble_eq_true rfl), (Nat.le_of_ble_eq_true rfl)⟩ dX5_cover_13) ?_
      refine g_istore hC ([(4, .int v7), (0, .ref x0), (1, .int x1), (2, .int x2), (3, .int x3)]) dX5_cover_16 (by decide) rfl ?_
      refine g_iload hC 0 dX5_cover_18 rfl ?_
      refine g_if_lt hC 64 dX5_cover_20 (by decide) (fun c8 => ?_) (fun c8 => ?_)
      · replace h := it_t c8 h
        refine g_iinc hC 4 (x3 + 1) ([(3, .int (x3 + 1)), (4, .int v7), (0, .ref x0), (1, .int x1), (2, .int x2)]) dX5_cover_64 rfl rfl (by decide) rfl ?_
        refine g_goto hC 2 dX5_cover_67 (by decide) ?_
        refine g_sub [2, 3, 4, 0] rfl ?_
        exact ih (x3 + 1) M5 h
      · replace h := it_f c8 h
        refine g_aload_n hC 1 dX5_cover_23 rfl ?_
        replace h := ob h; obtain ⟨v9, ev9, h⟩ := h
        refine g_getR hC ev9 fk_X5_37 rfl dX5_cover_24 ?_
        refine g_iload_n hC 2 dX5_cover_27 rfl ?_
        refine g_iconst hC 5 dX5_cover_28 (by decide) ?_
        refine g_imul hC dX5_cover_29 ?_
        refine g_iload_n hC 4 dX5_cover_30 rfl ?_
        refine g_iadd hC dX5_cover_31 ?_
        refine g_aload_n hC 1 dX5_cover_32 rfl ?_
        replace h := ob h; obtain ⟨v10, ev10, h⟩ := h
        refine g_getR hC ev10 fk_X5_34 rfl dX5_cover_33 ?_
        refine g_iload hC 0 dX5_cover_36 rfl ?_
        replace h := ob h; obtain ⟨a12, ea12, h⟩ := h
        subst ea12
        replace h := ob h; obtain ⟨v11, ev11, h⟩ := h
        refine g_iald hC ev11 dX5_cover_38 ?_
        replace h := ob h; obtain ⟨a14, ea14, h⟩ := h
        subst ea14
        replace h := ob h; obtain ⟨M13, eM13, h⟩ := h
        refine g_iast hC eM13 dX5_cover_39 ?_
        refine g_aload_n hC 1 dX5_cover_40 rfl ?_
        replace h := ob h; obtain ⟨v15, ev15, h⟩ := h
        refine g_getR hC ev15 fk_X5_34 rfl dX5_cover_41 ?_
        refine g_iload hC 0 dX5_cover_44 rfl ?_
        refine g_aload_n hC 1 dX5_cover_46 rfl ?_
        replace h := ob h; obtain ⟨v16, ev16, h⟩ := h
        refine g_getR hC ev16 fk_X5_34 rfl dX5_cover_47 ?_
        refine g_iload hC 0 dX5_cover_50 rfl ?_
        replace h := ob h; obtain ⟨a18, ea18, h⟩ := h
        subst ea18
        replace h := ob h; obtain ⟨v17, ev17, h⟩ := h
        refine g_iald hC ev17 dX5_cover_52 ?_
        refine g_aload_n hC 1 dX5_cover_53 rfl ?_
        refine g_iload hC 0 dX5_cover_54 rfl ?_
        refine g_iload_n hC 4 dX5_cover_56 rfl ?_
        replace h := ob h; obtain ⟨_, eu20, h⟩ := h
        replace h := ob h; obtain ⟨⟨v21, M19⟩, eM19, h⟩ := h
        refine g_calli hC (r_V hC (As := [.int v7, .int x3]) (c_X5_worth _ Γ x0 v7 x3 M13 M19 v21 eM19) yk_X5_worth lk_X5_165 eu20 ⟨_, rfl, rfl⟩ rfl rfl (by simp only [List.map, cat_rf]; exact Nat.le_of_ble_eq_true rfl) hR ⟨(Nat.le_of_ble_eq_true rfl), (Nat.le_of_ble_eq_true rfl)⟩ ⟨(Nat.le_of_ble_eq_true rfl), (Nat.le_of_ble_eq_true rfl)⟩ dX5_cover_57) ?_
        refine g_max hC lk_X5_142 hR (by simp only [List.map, cat_rf]; exact Nat.le_of_ble_eq_true rfl) ⟨(Nat.le_of_ble_eq_true rfl), (Nat.le_of_ble_eq_true rfl), (Nat.le_of_ble_eq_true rfl), (Nat.le_of_ble_eq_true rfl)⟩ dX5_cover_60 ?_
        replace h := ob h; obtain ⟨a23, ea23, h⟩ := h
        subst ea23
        replace h := ob h; obtain ⟨M22, eM22, h⟩ := h
        refine g_iast hC eM22 dX5_cover_63 ?_
        refine g_iinc hC 4 (x3 + 1) ([(3, .int (x3 + 1)), (4, .int v7), (0, .ref x0), (1, .int x1), (2, .int x2)]) dX5_cover_64 rfl rfl (by decide) rfl ?_
        refine g_goto hC 2 dX5_cover_67 (by decide) ?_
        refine g_sub [2, 3, 4, 0] rfl ?_
        exact ih (x3 + 1) M22 h
set_option maxHeartbeats 4000000 in
set_option maxRecDepth 100000 in
theorem c_X5_cover (l : Launch) (Γ : Gm) (this : Nat) (p1 : Int32) (p2 : Int32) (M M' : Mm) (h : F_X5_cover this p1 p2 M = some M') : Met l yX5_cover (wz yX5_cover cX5_cover 5 none) ({ frames := 2, cells := 0, slots := 0, locals := 45 } : Room) (Pq Γ M [.ref this, .int p1, .int p2]) (Qv Γ M') 0 0 (fr Γ) := by
  refine met_of (own := RX5) (by decide +kernel) rfl (Nat.le_of_ble_eq_true rfl) ?_
  intro X hC hR hnm hXl
  unfold F_X5_cover at h
  show G Γ X 5 M 0 0 _ 0 ([(0, .ref this), (1, .int p1), (2, .int p2)]) []
  refine g_iconst hC 0 dX5_cover_0 (by decide) ?_
  refine g_istore_n hC ([(3, .int 0), (0, .ref this), (1, .int p1), (2, .int p2)]) dX5_cover_1 (by decide) rfl ?_
  refine g_sub [1, 2, 3, 0] rfl ?_
  refine l_X5_cover_L2 hC hR M'  _ _ _  _ _ _ h

set_option maxHeartbeats 4000000 in
set_option maxRecDepth 100000 in
theorem l_X5_uncover_L2 {Γ : Gm} {X : Ct} (hC : Cx Γ X cX5_uncover RX5 none 5) (hR : X.2.2.2.1 = ({ frames := 2, cells := 0, slots := 0, locals := 45 } : Room)) (M' : Mm)  (x0 : Nat) (x1 : Int32) (x2 : Int32) : ∀ (fu : Nat) (x3 : Int32) (M0 : Mm), F_X5_uncover_L2 x0 x1 x2 fu x3 M0 = some M' → G Γ X 5 M0 0 0 (Fin Γ X (Qv Γ M') 0 0) 2 ([(0, .ref x0), (1, .int x1), (2, .int x2), (3, .int x3)]) [] := by
  intro fu
  induction fu with
  | zero =>
    intro x3 M0 h
    rw [F_X5_uncover_L2] at h
    cases h
  | succ n1 ih =>
    intro x3 M0 h
    rw [F_X5_uncover_L2] at h
    refine g_iload_n hC 3 dX5_uncover_2 rfl ?_
    refine g_iconst hC 5 dX5_uncover_3 (by decide) ?_
    refine g_icmp_ge hC 46 dX5_uncover_4 (by decide) (fun c2 => ?_) (fun c2 => ?_)
    · replace h := it_t c2 h
      exact g_vret hC h ⟨(Nat.le_of_ble_eq_true rfl), (Nat.le_of_ble_eq_true rfl)⟩ dX5_uncover_46
    · replace h := it_f c2 h
      refine g_aload_n hC 0 dX5_uncover_7 rfl ?_
      replace h := ob h; obtain ⟨v3, ev3, h⟩ := h
      refine g_getR hC ev3 fk_X5_59 rfl dX5_uncover_8 ?_
      refine g_iload_n hC 2 dX5_uncover_11 rfl ?_
      refine g_iload_n hC 3 dX5_uncover_12 rfl ?_
      replace h := ob h; obtain ⟨a4, ea4, h⟩ := h
      subst ea4
      replace h := ob h; obtain ⟨_, eu6, h⟩ := h
      replace h := ob h; obtain ⟨⟨v7, M5⟩, eM5, h⟩ := h
      refine g_calli hC (r_V hC (As := [.int x2, .int x3]) (c_X7_beside _ Γ a4 x2 x3 M0 M5 v7 eM5) yk_X7_beside lk_X5_162 eu6 ⟨_, rfl, rfl⟩ rfl rfl (Nat.le_of_ble_eq_true rfl) hR ⟨(Nat.le_of_ble_eq_true rfl), (Nat.le_of_ble_eq_true rfl)⟩ ⟨(Nat.le_of_ble_eq_true rfl), (Nat.le_of_ble_eq_true rfl)⟩ dX5_uncover_13) ?_
      refine g_istore hC ([(4, .int v7), (0, .ref x0), (1, .int x1), (2, .int x2), (3, .int x3)]) dX5_uncover_16 (by decide) rfl ?_
      refine g_iload hC 0 dX5_uncover_18 rfl ?_
      refine g_if_lt hC 40 dX5_uncover_20 (by decide) (fun c8 => ?_) (fun c8 => ?_)
      · replace h := it_t c8 h
        refine g_iinc hC 4 (x3 + 1) ([(3, .int (x3 + 1)), (4, .int v7), (0, .ref x0), (1, .int x1), (2, .int x2)]) dX5_uncover_40 rfl rfl (by decide) rfl ?_
        refine g_goto hC 2 dX5_uncover_43 (by decide) ?_
        refine g_sub [2, 3, 4, 0] rfl ?_
        exact ih (x3 + 1) M5 h
      · replace h := it_f c8 h
        refine g_aload_n hC 1 dX5_uncover_23 rfl ?_
        replace h := ob h; obtain ⟨v9, ev9, h⟩ := h
        refine g_getR hC ev9 fk_X5_34 rfl dX5_uncover_24 ?_
        refine g_iload hC 0 dX5_uncover_27 rfl ?_
        refine g_aload_n hC 1 dX5_uncover_29 rfl ?_
        replace h := ob h; obtain ⟨v10, ev10, h⟩ := h
        refine g_getR hC ev10 fk_X5_37 rfl dX5_uncover_30 ?_
        refine g_iload_n hC 2 dX5_uncover_33 rfl ?_
        refine g_iconst hC 5 dX5_uncover_34 (by decide) ?_
        refine g_imul hC dX5_uncover_35 ?_
        refine g_iload_n hC 4 dX5_uncover_36 rfl ?_
        refine g_iadd hC dX5_uncover_37 ?_
        replace h := ob h; obtain ⟨a12, ea12, h⟩ := h
        subst ea12
        replace h := ob h; obtain ⟨v11, ev11, h⟩ := h
        refine g_iald hC ev11 dX5_uncover_38 ?_
        replace h := ob h; obtain ⟨a14, ea14, h⟩ := h
        subst ea14
        replace h := ob h; obtain ⟨M13, eM13, h⟩ := h
        refine g_iast hC eM13 dX5_uncover_39 ?_
        refine g_iinc hC 4 (x3 + 1) ([(3, .int (x3 + 1)), (4, .int v7), (0, .ref x0), (1, .int x1), (2, .int x2)]) dX5_uncover_40 rfl rfl (by decide) rfl ?_
        refine g_goto hC 2 dX5_uncover_43 (by decide) ?_
        refine g_sub [2, 3, 4, 0] rfl ?_
        exact ih (x3 + 1) M13 h
set_option maxHeartbeats 4000000 in
set_option maxRecDepth 100000 in
theorem c_X5_uncover (l : Launch) (Γ : Gm) (this : Nat) (p1 : Int32) (p2 : Int32) (M M' : Mm) (h : F_X5_uncover this p1 p2 M = some M') : Met l yX5_uncover (wz yX5_uncover cX5_uncover 5 none) ({ frames := 2, cells := 0, slots := 0, locals := 45 } : Room) (Pq Γ M [.ref this, .int p1, .int p2]) (Qv Γ M') 0 0 (fr Γ) := by
  refine met_of (own := RX5) (by decide +kernel) rfl (Nat.le_of_ble_eq_true rfl) ?_
  intro X hC hR hnm hXl
  unfold F_X5_uncover at h
  show G Γ X 5 M 0 0 _ 0 ([(0, .ref this), (1, .int p1), (2, .int p2)]) []
  refine g_iconst hC 0 dX5_uncover_0 (by decide) ?_
  refine g_istore_n hC ([(3, .int 0), (0, .ref this), (1, .int p1), (2, .int p2)]) dX5_uncover_1 (by decide) rfl ?_
  refine g_sub [1, 2, 3, 0] rfl ?_
  refine l_X5_uncover_L2 hC hR M'  _ _ _  _ _ _ h

set_option maxHeartbeats 4000000 in
set_option maxRecDepth 100000 in
theorem l_X5_search_L33 {Γ : Gm} {X : Ct} (hC : Cx Γ X cX5_search RX5 none 7) {nr : Nat} {rec : Nat → Int32 → Int32 → Mm → Option Mm} (hrec : ∀ (this : Nat) (p1 p2 : Int32) (M M' : Mm), rec this p1 p2 M = some M' → Met X.2.1 yX5_search (wz yX5_search cX5_search 7 none) ({ frames := 3 + nr, cells := 0, slots := 0, locals := 69 + nr * 26 } : Room) (Pq Γ M [.ref this, .int p1, .int p2]) (Qv Γ M') 0 0 (fr Γ)) (hR : X.2.2.2.1 = ({ frames := 3 + (nr + 1), cells := 0, slots := 0, locals := 69 + (nr + 1) * 26 } : Room)) (M' : Mm)  (x0 : Nat) (x1 : Int32) (x2 : Int32) (x3 : Int32) : ∀ (fu : Nat) (x4 : Int32) (M0 : Mm), F_X5_search_L33 rec  x0 x1 x2 x3 fu x4 M0 = some M' → G Γ X 7 M0 0 0 (Fin Γ X (Qv Γ M') 0 0) 33 ([(0, .ref x0), (1, .int x1), (2, .int x2), (3, .int x3), (4, .int x4)]) [] := by
  intro fu
  induction fu with
  | zero =>
    intro x4 M0 h
    rw [F_X5_search_L33] at h
    cases h
  | succ n3 ih =>
    intro x4 M0 h
    rw [F_X5_search_L33] at h
    refine g_iload hC 4 dX5_search_33 rfl ?_
    refine g_iload_n hC 3 dX5_search_35 rfl ?_
    refine g_aload_n hC 0 dX5_search_36 rfl ?_
    replace h := ob h; obtain ⟨v4, ev4, h⟩ := h
    refine g_getR hC ev4 fk_X5_19 rfl dX5_search_37 ?_
    refine g_iload_n hC 1 dX5_search_40 rfl ?_
    replace h := ob h; obtain ⟨a6, ea6, h⟩ := h
    subst ea6
    replace h := ob h; obtain ⟨v5, ev5, h⟩ := h
    refine g_iald hC ev5 dX5_search_41 ?_
    refine g_iadd hC dX5_search_42 ?_
    refine g_icmp_ge hC 183 dX5_search_43 (by decide) (fun c7 => ?_) (fun c7 => ?_)
    · replace h := it_t c7 h
      exact g_vret hC h ⟨(Nat.le_of_ble_eq_true rfl), (Nat.le_of_ble_eq_true rfl)⟩ dX5_search_183
    · replace h := it_f c7 h
      refine g_iload_n hC 2 dX5_search_46 rfl ?_
      refine g_aload_n hC 0 dX5_search_47 rfl ?_
      replace h := ob h; obtain ⟨v8, ev8, h⟩ := h
      refine g_getR hC ev8 fk_X5_28 rfl dX5_search_48 ?_
      refine g_iload hC 4 dX5_search_51 rfl ?_
      replace h := ob h; obtain ⟨a10, ea10, h⟩ := h
      subst ea10
      replace h := ob h; obtain ⟨v9, ev9, h⟩ := h
      refine g_iald hC ev9 dX5_search_53 ?_
      refine g_iadd hC dX5_search_54 ?_
      refine g_aload_n hC 0 dX5_search_55 rfl ?_
      replace h := ob h; obtain ⟨v11, ev11, h⟩ := h
      refine g_getR hC ev11 fk_X5_31 rfl dX5_search_56 ?_
      refine g_iload_n hC 1 dX5_search_59 rfl ?_
      refine g_iconst hC 1 dX5_search_60 (by decide) ?_
      refine g_iadd hC dX5_search_61 ?_
      replace h := ob h; obtain ⟨a13, ea13, h⟩ := h
      subst ea13
      replace h := ob h; obtain ⟨v12, ev12, h⟩ := h
      refine g_iald hC ev12 dX5_search_62 ?_
      refine g_iadd hC dX5_search_63 ?_
      refine g_aload_n hC 0 dX5_search_64 rfl ?_
      replace h := ob h; obtain ⟨v14, ev14, h⟩ := h
      refine g_getI hC ev14 fk_X5_46 rfl dX5_search_65 ?_
      replace h := nv_e h; obtain ⟨v15, ev15, h⟩ := h
      have J16 : G Γ X 7 M0 0 0 (Fin Γ X (Qv Γ M') 0 0) 76 ([(0, .ref x0), (1, .int x1), (2, .int x2), (3, .int x3), (4, .int x4)]) ([.int v15]) := by
        refine g_istore hC ([(5, .int v15), (0, .ref x0), (1, .int x1), (2, .int x2), (3, .int x3), (4, .int x4)]) dX5_search_76 (by decide) rfl ?_
        refine g_iload hC 0 dX5_search_78 rfl ?_
        refine g_if_eq hC 177 dX5_search_80 (by decide) (fun c17 => ?_) (fun c17 => ?_)
        · replace h := it_t c17 h
          refine g_iinc hC 5 (x4 + 1) ([(4, .int (x4 + 1)), (5, .int v15), (0, .ref x0), (1, .int x1), (2, .int x2), (3, .int x3)]) dX5_search_177 rfl rfl (by decide) rfl ?_
          refine g_goto hC 33 dX5_search_180 (by decide) ?_
          refine g_sub [2, 3, 4, 5, 0] rfl ?_
          exact ih (x4 + 1) M0 h
        · replace h := it_f c17 h
          refine g_aload_n hC 1 dX5_search_83 rfl ?_
          refine g_iload_n hC 2 dX5_search_84 rfl ?_
          refine g_aload_n hC 1 dX5_search_85 rfl ?_
          replace h := ob h; obtain ⟨v18, ev18, h⟩ := h
          refine g_getR hC ev18 fk_X5_22 rfl dX5_search_86 ?_
          refine g_iload hC 5 dX5_search_89 rfl ?_
          replace h := ob h; obtain ⟨a20, ea20, h⟩ := h
          subst ea20
          replace h := ob h; obtain ⟨v19, ev19, h⟩ := h
          refine g_iald hC ev19 dX5_search_91 ?_
          replace h := ob h; obtain ⟨_, eu22, h⟩ := h
          replace h := ob h; obtain ⟨⟨v23, M21⟩, eM21, h⟩ := h
          refine g_calli hC (r_V hC (As := [.int x1, .int v19]) (c_X5_isTaken _ Γ x0 x1 v19 M0 M21 v23 eM21) yk_X5_isTaken lk_X5_149 eu22 ⟨_, rfl, rfl⟩ rfl rfl (Nat.le_of_ble_eq_true rfl) hR ⟨(by omega), (by omega)⟩ ⟨(Nat.le_of_ble_eq_true rfl), (Nat.le_of_ble_eq_true rfl)⟩ dX5_search_92) ?_
          refine g_if_eq hC 101 dX5_search_95 (by decide) (fun c24 => ?_) (fun c24 => ?_)
          · replace h := it_t c24 h
            refine g_aload_n hC 1 dX5_search_101 rfl ?_
            refine g_aload_n hC 1 dX5_search_102 rfl ?_
            replace h := ob h; obtain ⟨v25, ev25, h⟩ := h
            refine g_getR hC ev25 fk_X5_22 rfl dX5_search_103 ?_
            refine g_iload hC 5 dX5_search_106 rfl ?_
            replace h := ob h; obtain ⟨a27, ea27, h⟩ := h
            subst ea27
            replace h := ob h; obtain ⟨v26, ev26, h⟩ := h
            refine g_iald hC ev26 dX5_search_108 ?_
            replace h := ob h; obtain ⟨_, eu29, h⟩ := h
            replace h := ob h; obtain ⟨⟨v30, M28⟩, eM28, h⟩ := h
            refine g_calli hC (r_V hC (As := [.int v26]) (c_X5_gainBy _ Γ x0 v26 M21 M28 v30 eM28) yk_X5_gainBy lk_X5_139 eu29 ⟨_, rfl, rfl⟩ rfl rfl (Nat.le_of_ble_eq_true rfl) hR ⟨(by omega), (by omega)⟩ ⟨(Nat.le_of_ble_eq_true rfl), (Nat.le_of_ble_eq_true rfl)⟩ dX5_search_109) ?_
            refine g_istore hC ([(6, .int v30), (5, .int v15), (0, .ref x0), (1, .int x1), (2, .int x2), (3, .int x3), (4, .int x4)]) dX5_search_112 (by decide) rfl ?_
            refine g_iload_n hC 4 dX5_search_114 rfl ?_
            refine g_iload hC 0 dX5_search_115 rfl ?_
            refine g_iadd hC dX5_search_117 ?_
            refine g_aload_n hC 2 dX5_search_118 rfl ?_
            replace h := ob h; obtain ⟨v31, ev31, h⟩ := h
            refine g_getR hC ev31 fk_X5_31 rfl dX5_search_119 ?_
            refine g_iload_n hC 3 dX5_search_122 rfl ?_
            refine g_iconst hC 1 dX5_search_123 (by decide) ?_
            refine g_iadd hC dX5_search_124 ?_
            replace h := ob h; obtain ⟨a33, ea33, h⟩ := h
            subst ea33
            replace h := ob h; obtain ⟨v32, ev32, h⟩ := h
            refine g_iald hC ev32 dX5_search_125 ?_
            refine g_iadd hC dX5_search_126 ?_
            refine g_aload_n hC 2 dX5_search_127 rfl ?_
            replace h := ob h; obtain ⟨v34, ev34, h⟩ := h
            refine g_getI hC ev34 fk_X5_46 rfl dX5_search_128 ?_
            refine g_icmp_le hC 177 dX5_search_131 (by decide) (fun c35 => ?_) (fun c35 => ?_)
            · replace h := it_t c35 h
              refine g_iinc hC 6 (x4 + 1) ([(4, .int (x4 + 1)), (6, .int v30), (5, .int v15), (0, .ref x0), (1, .int x1), (2, .int x2), (3, .int x3)]) dX5_search_177 rfl rfl (by decide) rfl ?_
              refine g_goto hC 33 dX5_search_180 (by decide) ?_
              refine g_sub [3, 4, 5, 6, 0] rfl ?_
              exact ih (x4 + 1) M28 h
            · replace h := it_f c35 h
              refine g_aload_n hC 2 dX5_search_134 rfl ?_
              replace h := ob h; obtain ⟨v36, ev36, h⟩ := h
              refine g_getR hC ev36 fk_X5_40 rfl dX5_search_135 ?_
              refine g_iload_n hC 3 dX5_search_138 rfl ?_
              refine g_iload hC 6 dX5_search_139 rfl ?_
              replace h := ob h; obtain ⟨a38, ea38, h⟩ := h
              subst ea38
              replace h := ob h; obtain ⟨M37, eM37, h⟩ := h
              refine g_iast hC eM37 dX5_search_141 ?_
              refine g_aload_n hC 2 dX5_search_142 rfl ?_
              refine g_iload_n hC 3 dX5_search_143 rfl ?_
              refine g_aload_n hC 2 dX5_search_144 rfl ?_
              replace h := ob h; obtain ⟨v39, ev39, h⟩ := h
              refine g_getR hC ev39 fk_X5_22 rfl dX5_search_145 ?_
              refine g_iload hC 6 dX5_search_148 rfl ?_
              replace h := ob h; obtain ⟨a41, ea41, h⟩ := h
              subst ea41
              replace h := ob h; obtain ⟨v40, ev40, h⟩ := h
              refine g_iald hC ev40 dX5_search_150 ?_
              replace h := ob h; obtain ⟨_, eu43, h⟩ := h
              replace h := ob h; obtain ⟨M42, eM42, h⟩ := h
              refine g_callv hC (r_V hC (As := [.int x1, .int v40]) (c_X5_cover _ Γ x0 x1 v40 M37 M42 eM42) yk_X5_cover lk_X5_153 eu43 ⟨_, rfl, rfl⟩ rfl rfl (Nat.le_of_ble_eq_true rfl) hR ⟨(by omega), (by omega)⟩ ⟨(Nat.le_of_ble_eq_true rfl), (Nat.le_of_ble_eq_true rfl)⟩ dX5_search_151) ?_
              refine g_aload_n hC 2 dX5_search_154 rfl ?_
              refine g_iload_n hC 3 dX5_search_155 rfl ?_
              refine g_iconst hC 1 dX5_search_156 (by decide) ?_
              refine g_iadd hC dX5_search_157 ?_
              refine g_iload_n hC 4 dX5_search_158 rfl ?_
              refine g_iload hC 0 dX5_search_159 rfl ?_
              refine g_iadd hC dX5_search_161 ?_
              replace h := ob h; obtain ⟨_, eu45, h⟩ := h
              replace h := ob h; obtain ⟨M44, eM44, h⟩ := h
              refine g_callv hC (r_V hC (As := [.int (x1 + 1), .int (x2 + v30)]) (hrec x0 (x1 + 1) (x2 + v30) M42 M44 eM44) yk_X5_search lk_X5_125 eu45 ⟨_, rfl, rfl⟩ rfl rfl (Nat.le_of_ble_eq_true rfl) hR ⟨(by omega), (by omega)⟩ ⟨(Nat.le_of_ble_eq_true rfl), (Nat.le_of_ble_eq_true rfl)⟩ dX5_search_162) ?_
              refine g_aload_n hC 2 dX5_search_165 rfl ?_
              refine g_iload_n hC 3 dX5_search_166 rfl ?_
              refine g_aload_n hC 2 dX5_search_167 rfl ?_
              replace h := ob h; obtain ⟨v46, ev46, h⟩ := h
              refine g_getR hC ev46 fk_X5_22 rfl dX5_search_168 ?_
              refine g_iload hC 6 dX5_search_171 rfl ?_
              replace h := ob h; obtain ⟨a48, ea48, h⟩ := h
              subst ea48
              replace h := ob h; obtain ⟨v47, ev47, h⟩ := h
              refine g_iald hC ev47 dX5_search_173 ?_
              replace h := ob h; obtain ⟨_, eu50, h⟩ := h
              replace h := ob h; obtain ⟨M49, eM49, h⟩ := h
              refine g_callv hC (r_V hC (As := [.int x1, .int v47]) (c_X5_uncover _ Γ x0 x1 v47 M44 M49 eM49) yk_X5_uncover lk_X5_156 eu50 ⟨_, rfl, rfl⟩ rfl rfl (Nat.le_of_ble_eq_true rfl) hR ⟨(by omega), (by omega)⟩ ⟨(Nat.le_of_ble_eq_true rfl), (Nat.le_of_ble_eq_true rfl)⟩ dX5_search_174) ?_
              refine g_iinc hC 6 (x4 + 1) ([(4, .int (x4 + 1)), (6, .int v30), (5, .int v15), (0, .ref x0), (1, .int x1), (2, .int x2), (3, .int x3)]) dX5_search_177 rfl rfl (by decide) rfl ?_
              refine g_goto hC 33 dX5_search_180 (by decide) ?_
              refine g_sub [3, 4, 5, 6, 0] rfl ?_
              exact ih (x4 + 1) M49 h
          · replace h := it_f c24 h
            refine g_goto hC 177 dX5_search_98 (by decide) ?_
            refine g_iinc hC 5 (x4 + 1) ([(4, .int (x4 + 1)), (5, .int v15), (0, .ref x0), (1, .int x1), (2, .int x2), (3, .int x3)]) dX5_search_177 rfl rfl (by decide) rfl ?_
            refine g_goto hC 33 dX5_search_180 (by decide) ?_
            refine g_sub [2, 3, 4, 5, 0] rfl ?_
            exact ih (x4 + 1) M21 h
      refine g_icmp_le hC 75 dX5_search_68 (by decide) (fun c51 => ?_) (fun c51 => ?_)
      · refine g_iconst hC 0 dX5_search_75 (by decide) ?_
        rw [show v15 = _ from ev15.trans (if_pos c51)] at J16
        exact J16
      · refine g_iconst hC 1 dX5_search_71 (by decide) ?_
        refine g_goto hC 76 dX5_search_72 (by decide) ?_
        rw [show v15 = _ from ev15.trans (if_neg c51)] at J16
        exact J16
set_option maxHeartbeats 4000000 in
set_option maxRecDepth 100000 in
theorem c_X5_search (l : Launch) (Γ : Gm) : ∀ (fu this : Nat) (p1 p2 : Int32) (M M' : Mm), F_X5_search fu this p1 p2 M = some M' → Met l yX5_search (wz yX5_search cX5_search 7 none) ({ frames := 3 + fu, cells := 0, slots := 0, locals := 69 + fu * 26 } : Room) (Pq Γ M [.ref this, .int p1, .int p2]) (Qv Γ M') 0 0 (fr Γ) := by
  intro fu
  induction fu with
  | zero =>
    intro this p1 p2 M M' h
    rw [F_X5_search] at h
    cases h
  | succ nr hrec =>
    intro this p1 p2 M M' h
    rw [F_X5_search] at h
    refine met_of (own := RX5) (by decide +kernel) rfl (Nat.le_of_ble_eq_true rfl) ?_
    intro X hC hR hnm hXl
    subst hXl
    show G Γ X 7 M 0 0 _ 0 ([(0, .ref this), (1, .int p1), (2, .int p2)]) []
    refine g_iload_n hC 1 dX5_search_0 rfl ?_
    refine g_aload_n hC 0 dX5_search_1 rfl ?_
    replace h := ob h; obtain ⟨v1, ev1, h⟩ := h
    refine g_getI hC ev1 fk_X5_15 rfl dX5_search_2 ?_
    refine g_icmp_lt hC 25 dX5_search_5 (by decide) (fun c2 => ?_) (fun c2 => ?_)
    · replace h := it_t c2 h
      refine g_iload_n hC 1 dX5_search_25 rfl ?_
      refine g_bipush hC 41 dX5_search_26 (by decide) ?_
      refine g_imul hC dX5_search_28 ?_
      refine g_istore_n hC ([(3, .int (p1 * 41)), (0, .ref this), (1, .int p1), (2, .int p2)]) dX5_search_29 (by decide) rfl ?_
      refine g_iload_n hC 0 dX5_search_30 rfl ?_
      refine g_istore hC ([(4, .int (p1 * 41)), (3, .int (p1 * 41)), (0, .ref this), (1, .int p1), (2, .int p2)]) dX5_search_31 (by decide) rfl ?_
      refine g_sub [2, 3, 4, 1, 0] rfl ?_
      refine l_X5_search_L33 hC hrec hR M'  _ _ _ _  _ _ _ h
    · replace h := it_f c2 h
      refine g_aload_n hC 0 dX5_search_8 rfl ?_
      refine g_iload_n hC 2 dX5_search_9 rfl ?_
      replace h := ob h; obtain ⟨M52, eM52, h⟩ := h
      refine g_putI hC eM52 fk_X5_46 rfl dX5_search_10 ?_
      refine g_aload_n hC 0 dX5_search_13 rfl ?_
      replace h := ob h; obtain ⟨v53, ev53, h⟩ := h
      refine g_getR hC ev53 fk_X5_40 rfl dX5_search_14 ?_
      refine g_aload_n hC 0 dX5_search_17 rfl ?_
      replace h := ob h; obtain ⟨v54, ev54, h⟩ := h
      refine g_getR hC ev54 fk_X5_43 rfl dX5_search_18 ?_
      replace h := ob h; obtain ⟨a55, ea55, h⟩ := h
      subst ea55
      replace h := ob h; obtain ⟨a56, ea56, h⟩ := h
      subst ea56
      replace h := ob h; obtain ⟨M57, eM57, h⟩ := h
      refine g_callv hC (r_SN hC (As := [.ref a56, .ref a55]) (c_X11_copyAll _ Γ a56 a55 M52 M57 eM57) yk_X11_copyAll lk_X5_145 rfl rfl (Nat.le_of_ble_eq_true rfl) hR ⟨(by omega), (by omega)⟩ ⟨(Nat.le_of_ble_eq_true rfl), (Nat.le_of_ble_eq_true rfl)⟩ dX5_search_21) ?_
      exact g_vret hC h ⟨(Nat.le_of_ble_eq_true rfl), (Nat.le_of_ble_eq_true rfl)⟩ dX5_search_24

set_option maxHeartbeats 4000000 in
set_option maxRecDepth 100000 in
theorem l_X5_work_L21 {Γ : Gm} {X : Ct} (hC : Cx Γ X cX5_work RX5 (some .int) 5) (hR : X.2.2.2.1 = ({ frames := 9, cells := 0, slots := 0, locals := 225 } : Room)) (r : Int32) (M' : Mm)  (x0 : Nat) (x1 : Int32) : ∀ (fu : Nat) (x2 : Int32) (M0 : Mm), F_X5_work_L21 x0 x1 fu x2 M0 = some (r, M') → G Γ X 5 M0 0 0 (Fin Γ X (Qi Γ r M') 0 0) 21 ([(0, .ref x0), (1, .int x1), (2, .int x2)]) [] := by
  intro fu
  induction fu with
  | zero =>
    intro x2 M0 h
    rw [F_X5_work_L21] at h
    cases h
  | succ n6 ih =>
    intro x2 M0 h
    rw [F_X5_work_L21] at h
    refine g_iload_n hC 2 dX5_work_21 rfl ?_
    refine g_aload_n hC 0 dX5_work_22 rfl ?_
    replace h := ob h; obtain ⟨v7, ev7, h⟩ := h
    refine g_getR hC ev7 fk_X5_49 rfl dX5_work_23 ?_
    replace h := ob h; obtain ⟨a8, ea8, h⟩ := h
    subst ea8
    replace h := ob h; obtain ⟨v9, ev9, h⟩ := h
    refine g_getI hC ev9 fk_X5_66 rfl dX5_work_26 ?_
    replace h := jp_e h; obtain ⟨k10, ek10, h⟩ := h
    have J17 : ∀  (M11 : Mm), k10  M11 = some (r, M') → G Γ X 5 M11 0 0 (Fin Γ X (Qi Γ r M') 0 0) 156 ([(0, .ref x0)]) ([]) := by
      intro  M11 h
      rw [ek10] at h
      refine g_aload_n hC 0 dX5_work_156 rfl ?_
      replace h := ob h; obtain ⟨_, eu13, h⟩ := h
      replace h := ob h; obtain ⟨M12, eM12, h⟩ := h
      refine g_callv hC (r_V hC (As := []) (c_X5_sumMostFrom _ Γ x0 M11 M12 eM12) yk_X5_sumMostFrom lk_X5_122 eu13 ⟨_, rfl, rfl⟩ rfl rfl (Nat.le_of_ble_eq_true rfl) hR ⟨(Nat.le_of_ble_eq_true rfl), (Nat.le_of_ble_eq_true rfl)⟩ ⟨(Nat.le_of_ble_eq_true rfl), (Nat.le_of_ble_eq_true rfl)⟩ dX5_work_157) ?_
      refine g_aload_n hC 0 dX5_work_160 rfl ?_
      refine g_iconst hC 0 dX5_work_161 (by decide) ?_
      refine g_iconst hC 0 dX5_work_162 (by decide) ?_
      replace h := ob h; obtain ⟨_, eu15, h⟩ := h
      replace h := ob h; obtain ⟨M14, eM14, h⟩ := h
      refine g_callv hC (r_V hC (As := [.int 0, .int 0]) (c_X5_search _ Γ 5 x0 0 0 M12 M14 eM14) yk_X5_search lk_X5_125 eu15 ⟨_, rfl, rfl⟩ rfl rfl (Nat.le_of_ble_eq_true rfl) hR ⟨(Nat.le_of_ble_eq_true rfl), (Nat.le_of_ble_eq_true rfl)⟩ ⟨(Nat.le_of_ble_eq_true rfl), (Nat.le_of_ble_eq_true rfl)⟩ dX5_work_163) ?_
      refine g_aload_n hC 0 dX5_work_166 rfl ?_
      replace h := ob h; obtain ⟨v16, ev16, h⟩ := h
      refine g_getI hC ev16 fk_X5_46 rfl dX5_work_167 ?_
      exact g_iret hC h ⟨(Nat.le_of_ble_eq_true rfl), (Nat.le_of_ble_eq_true rfl)⟩ dX5_work_170
    refine g_icmp_ge hC 156 dX5_work_29 (by decide) (fun c18 => ?_) (fun c18 => ?_)
    · replace h := it_t c18 h
      refine g_sub [0] rfl ?_
      exact J17  M0 h
    · replace h := it_f c18 h
      refine g_aload_n hC 0 dX5_work_32 rfl ?_
      replace h := ob h; obtain ⟨v19, ev19, h⟩ := h
      refine g_getI hC ev19 fk_X5_15 rfl dX5_work_33 ?_
      refine g_iconst hC 3 dX5_work_36 (by decide) ?_
      refine g_icmp_ge hC 156 dX5_work_37 (by decide) (fun c20 => ?_) (fun c20 => ?_)
      · replace h := it_t c20 h
        refine g_sub [0] rfl ?_
        exact J17  M0 h
      · replace h := it_f c20 h
        refine g_aload_n hC 0 dX5_work_40 rfl ?_
        replace h := ob h; obtain ⟨v21, ev21, h⟩ := h
        refine g_getR hC ev21 fk_X5_49 rfl dX5_work_41 ?_
        replace h := ob h; obtain ⟨a22, ea22, h⟩ := h
        subst ea22
        replace h := ob h; obtain ⟨v23, ev23, h⟩ := h
        refine g_getR hC ev23 fk_X5_69 rfl dX5_work_44 ?_
        refine g_iload_n hC 2 dX5_work_47 rfl ?_
        replace h := ob h; obtain ⟨a25, ea25, h⟩ := h
        subst ea25
        replace h := ob h; obtain ⟨v24, ev24, h⟩ := h
        refine g_aald hC ev24 (by decide) dX5_work_48 ?_
        refine g_astore_nq hC (x := v24) ([(3, va_rf v24), (0, .ref x0), (1, .int x1), (2, .int x2)]) dX5_work_49 (by decide) rfl ?_
        refine g_iload_n hC 2 dX5_work_50 rfl ?_
        refine g_aload_nq hC 0 (x := v24) dX5_work_51 rfl ?_
        replace h := ob h; obtain ⟨a26, ea26, h⟩ := h
        subst ea26
        replace h := ob h; obtain ⟨_, eu28, h⟩ := h
        replace h := ob h; obtain ⟨⟨v29, M27⟩, eM27, h⟩ := h
        refine g_calli hC (r_V hC (As := []) (c_X0_deepest _ Γ a26 M0 M27 v29 eM27) yk_X0_deepest lk_X5_73 eu28 ⟨_, rfl, rfl⟩ rfl rfl (Nat.le_of_ble_eq_true rfl) hR ⟨(Nat.le_of_ble_eq_true rfl), (Nat.le_of_ble_eq_true rfl)⟩ ⟨(Nat.le_of_ble_eq_true rfl), (Nat.le_of_ble_eq_true rfl)⟩ dX5_work_52) ?_
        refine g_min hC lk_X5_79 hR (Nat.le_of_ble_eq_true rfl) ⟨(Nat.le_of_ble_eq_true rfl), (Nat.le_of_ble_eq_true rfl), (Nat.le_of_ble_eq_true rfl), (Nat.le_of_ble_eq_true rfl)⟩ dX5_work_55 ?_
        refine g_istore hC ([(4, .int (mnI x1 v29)), (3, .ref a26), (0, .ref x0), (1, .int x1), (2, .int x2)]) dX5_work_58 (by decide) rfl ?_
        refine g_aload_n hC 1 dX5_work_60 rfl ?_
        replace h := ob h; obtain ⟨v30, ev30, h⟩ := h
        refine g_getI hC ev30 fk_X5_85 rfl dX5_work_61 ?_
        refine g_if_ne hC 150 dX5_work_64 (by decide) (fun c31 => ?_) (fun c31 => ?_)
        · replace h := it_f c31 h
          refine g_iinc hC 4 (x2 + 1) ([(2, .int (x2 + 1)), (4, .int (mnI x1 v29)), (3, .ref a26), (0, .ref x0), (1, .int x1)]) dX5_work_150 rfl rfl (by decide) rfl ?_
          refine g_goto hC 21 dX5_work_153 (by decide) ?_
          refine g_sub [3, 4, 0] rfl ?_
          exact ih (x2 + 1) M27 h
        · replace h := it_t c31 h
          refine g_aload_n hC 1 dX5_work_67 rfl ?_
          replace h := ob h; obtain ⟨v32, ev32, h⟩ := h
          refine g_getI hC ev32 fk_X5_88 rfl dX5_work_68 ?_
          refine g_aload_n hC 1 dX5_work_71 rfl ?_
          refine g_iload hC 0 dX5_work_72 rfl ?_
          replace h := ob h; obtain ⟨_, eu34, h⟩ := h
          replace h := ob h; obtain ⟨⟨v35, M33⟩, eM33, h⟩ := h
          refine g_calli hC (r_V hC (As := [.int (mnI x1 v29)]) (c_X0_costTo _ Γ a26 (mnI x1 v29) M27 M33 v35 eM33) yk_X0_costTo lk_X5_91 eu34 ⟨_, rfl, rfl⟩ rfl rfl (Nat.le_of_ble_eq_true rfl) hR ⟨(Nat.le_of_ble_eq_true rfl), (Nat.le_of_ble_eq_true rfl)⟩ ⟨(Nat.le_of_ble_eq_true rfl), (Nat.le_of_ble_eq_true rfl)⟩ dX5_work_74) ?_
          refine g_icmp_lt hC 150 dX5_work_77 (by decide) (fun c36 => ?_) (fun c36 => ?_)
          · replace h := it_t c36 h
            refine g_iinc hC 4 (x2 + 1) ([(2, .int (x2 + 1)), (4, .int (mnI x1 v29)), (3, .ref a26), (0, .ref x0), (1, .int x1)]) dX5_work_150 rfl rfl (by decide) rfl ?_
            refine g_goto hC 21 dX5_work_153 (by decide) ?_
            refine g_sub [3, 4, 0] rfl ?_
            exact ih (x2 + 1) M33 h
          · replace h := it_f c36 h
            refine g_aload_n hC 2 dX5_work_80 rfl ?_
            replace h := ob h; obtain ⟨v37, ev37, h⟩ := h
            refine g_getR hC ev37 fk_X5_9 rfl dX5_work_81 ?_
            refine g_aload_n hC 2 dX5_work_84 rfl ?_
            replace h := ob h; obtain ⟨v38, ev38, h⟩ := h
            refine g_getI hC ev38 fk_X5_15 rfl dX5_work_85 ?_
            refine g_iload_n hC 4 dX5_work_88 rfl ?_
            replace h := ob h; obtain ⟨a40, ea40, h⟩ := h
            subst ea40
            replace h := ob h; obtain ⟨M39, eM39, h⟩ := h
            refine g_iast hC eM39 dX5_work_89 ?_
            refine g_aload_n hC 2 dX5_work_90 rfl ?_
            replace h := ob h; obtain ⟨v41, ev41, h⟩ := h
            refine g_getR hC ev41 fk_X5_49 rfl dX5_work_91 ?_
            replace h := ob h; obtain ⟨a42, ea42, h⟩ := h
            subst ea42
            replace h := ob h; obtain ⟨v43, ev43, h⟩ := h
            refine g_getR hC ev43 fk_X5_95 rfl dX5_work_94 ?_
            refine g_aload_n hC 2 dX5_work_97 rfl ?_
            replace h := ob h; obtain ⟨v44, ev44, h⟩ := h
            refine g_getR hC ev44 fk_X5_59 rfl dX5_work_98 ?_
            refine g_aload_n hC 2 dX5_work_101 rfl ?_
            replace h := ob h; obtain ⟨v45, ev45, h⟩ := h
            refine g_getR hC ev45 fk_X5_59 rfl dX5_work_102 ?_
            replace h := ob h; obtain ⟨a46, ea46, h⟩ := h
            subst ea46
            replace h := ob h; obtain ⟨v47, ev47, h⟩ := h
            refine g_getR hC ev47 fk_X5_99 rfl dX5_work_105 ?_
            refine g_aload_n hC 1 dX5_work_108 rfl ?_
            replace h := ob h; obtain ⟨v48, ev48, h⟩ := h
            refine g_getI hC ev48 fk_X5_105 rfl dX5_work_109 ?_
            refine g_iload hC 0 dX5_work_112 rfl ?_
            refine g_iconst hC 0 dX5_work_114 (by decide) ?_
            replace h := ob h; obtain ⟨a49, ea49, h⟩ := h
            subst ea49
            replace h := ob h; obtain ⟨a50, ea50, h⟩ := h
            subst ea50
            replace h := ob h; obtain ⟨a51, ea51, h⟩ := h
            subst ea51
            replace h := ob h; obtain ⟨_, eu53, h⟩ := h
            replace h := ob h; obtain ⟨M52, eM52, h⟩ := h
            refine g_callv hC (r_V hC (As := [.ref a50, .ref a49, .int v48, .int (mnI x1 v29), .int 0]) (c_X4_sink _ Γ a51 a50 a49 v48 (mnI x1 v29) 0 M39 M52 eM52) yk_X4_sink lk_X5_108 eu53 ⟨_, rfl, rfl⟩ rfl rfl (Nat.le_of_ble_eq_true rfl) hR ⟨(Nat.le_of_ble_eq_true rfl), (Nat.le_of_ble_eq_true rfl)⟩ ⟨(Nat.le_of_ble_eq_true rfl), (Nat.le_of_ble_eq_true rfl)⟩ dX5_work_115) ?_
            refine g_aload_n hC 2 dX5_work_118 rfl ?_
            refine g_aload_n hC 2 dX5_work_119 rfl ?_
            replace h := ob h; obtain ⟨v54, ev54, h⟩ := h
            refine g_getI hC ev54 fk_X5_15 rfl dX5_work_120 ?_
            refine g_aload_n hC 2 dX5_work_123 rfl ?_
            replace h := ob h; obtain ⟨v55, ev55, h⟩ := h
            refine g_getR hC ev55 fk_X5_49 rfl dX5_work_124 ?_
            replace h := ob h; obtain ⟨a56, ea56, h⟩ := h
            subst ea56
            replace h := ob h; obtain ⟨v57, ev57, h⟩ := h
            refine g_getR hC ev57 fk_X5_95 rfl dX5_work_127 ?_
            replace h := ob h; obtain ⟨a58, ea58, h⟩ := h
            subst ea58
            replace h := ob h; obtain ⟨v59, ev59, h⟩ := h
            refine g_getI hC ev59 fk_X5_114 rfl dX5_work_130 ?_
            refine g_aload_n hC 1 dX5_work_133 rfl ?_
            replace h := ob h; obtain ⟨_, eu61, h⟩ := h
            replace h := ob h; obtain ⟨⟨v62, M60⟩, eM60, h⟩ := h
            refine g_calli hC (r_V hC (As := []) (c_X0_reach _ Γ a26 M52 M60 v62 eM60) yk_X0_reach lk_X5_115 eu61 ⟨_, rfl, rfl⟩ rfl rfl (Nat.le_of_ble_eq_true rfl) hR ⟨(Nat.le_of_ble_eq_true rfl), (Nat.le_of_ble_eq_true rfl)⟩ ⟨(Nat.le_of_ble_eq_true rfl), (Nat.le_of_ble_eq_true rfl)⟩ dX5_work_134) ?_
            replace h := ob h; obtain ⟨_, eu64, h⟩ := h
            replace h := ob h; obtain ⟨M63, eM63, h⟩ := h
            refine g_callv hC (r_V hC (As := [.int v54, .int v59, .int v62]) (c_X5_listEnds _ Γ x0 v54 v59 v62 M60 M63 eM63) yk_X5_listEnds lk_X5_118 eu64 ⟨_, rfl, rfl⟩ rfl rfl (Nat.le_of_ble_eq_true rfl) hR ⟨(Nat.le_of_ble_eq_true rfl), (Nat.le_of_ble_eq_true rfl)⟩ ⟨(Nat.le_of_ble_eq_true rfl), (Nat.le_of_ble_eq_true rfl)⟩ dX5_work_137) ?_
            refine g_aload_n hC 2 dX5_work_140 rfl ?_
            refine g_dup hC dX5_work_141 rfl ?_
            replace h := ob h; obtain ⟨v65, ev65, h⟩ := h
            refine g_getI hC ev65 fk_X5_15 rfl dX5_work_142 ?_
            refine g_iconst hC 1 dX5_work_145 (by decide) ?_
            refine g_iadd hC dX5_work_146 ?_
            replace h := ob h; obtain ⟨M66, eM66, h⟩ := h
            refine g_putI hC eM66 fk_X5_15 rfl dX5_work_147 ?_
            refine g_iinc hC 4 (x2 + 1) ([(2, .int (x2 + 1)), (4, .int (mnI x1 v29)), (3, .ref a26), (0, .ref x0), (1, .int x1)]) dX5_work_150 rfl rfl (by decide) rfl ?_
            refine g_goto hC 21 dX5_work_153 (by decide) ?_
            refine g_sub [3, 4, 0] rfl ?_
            exact ih (x2 + 1) M66 h
set_option maxHeartbeats 4000000 in
set_option maxRecDepth 100000 in
theorem c_X5_work (l : Launch) (Γ : Gm) (this : Nat) (p1 : Int32) (M M' : Mm) (r : Int32) (h : F_X5_work this p1 M = some (r, M')) : Met l yX5_work (wz yX5_work cX5_work 5 (some .int)) ({ frames := 9, cells := 0, slots := 0, locals := 225 } : Room) (Pq Γ M [.ref this, .int p1]) (Qi Γ r M') 0 0 (fr Γ) := by
  refine met_of (own := RX5) (by decide +kernel) rfl (Nat.le_of_ble_eq_true rfl) ?_
  intro X hC hR hnm hXl
  unfold F_X5_work at h
  show G Γ X 5 M 0 0 _ 0 ([(0, .ref this), (1, .int p1)]) []
  refine g_aload_n hC 0 dX5_work_0 rfl ?_
  refine g_iconst hC 0 dX5_work_1 (by decide) ?_
  replace h := ob h; obtain ⟨M1, eM1, h⟩ := h
  refine g_putI hC eM1 fk_X5_15 rfl dX5_work_2 ?_
  refine g_aload_n hC 0 dX5_work_5 rfl ?_
  refine g_bipush hC (-4) dX5_work_6 (by decide) ?_
  replace h := ob h; obtain ⟨M2, eM2, h⟩ := h
  refine g_putI hC eM2 fk_X5_46 rfl dX5_work_8 ?_
  refine g_aload_n hC 0 dX5_work_11 rfl ?_
  replace h := ob h; obtain ⟨v3, ev3, h⟩ := h
  refine g_getR hC ev3 fk_X5_34 rfl dX5_work_12 ?_
  refine g_iconst hC 0 dX5_work_15 (by decide) ?_
  replace h := ob h; obtain ⟨a4, ea4, h⟩ := h
  subst ea4
  replace h := ob h; obtain ⟨M5, eM5, h⟩ := h
  refine g_callv hC (r_S hC (As := [.ref a4, .int 0]) (c_J7_fill_53178 _ Γ a4 0 M2 M5 eM5) yk_J7_fill_53178 lk_X5_60 rfl rfl (Nat.le_of_ble_eq_true rfl) hR ⟨(Nat.le_of_ble_eq_true rfl), (Nat.le_of_ble_eq_true rfl)⟩ ⟨(Nat.le_of_ble_eq_true rfl), (Nat.le_of_ble_eq_true rfl)⟩ dX5_work_16) ?_
  refine g_iconst hC 0 dX5_work_19 (by decide) ?_
  refine g_istore_n hC ([(2, .int 0), (0, .ref this), (1, .int p1)]) dX5_work_20 (by decide) rfl ?_
  refine g_sub [1, 2, 0] rfl ?_
  refine l_X5_work_L21 hC hR r M'  _ _  _ _ _ h

set_option maxHeartbeats 4000000 in
set_option maxRecDepth 100000 in
theorem l_X5_headingOf_L2 {Γ : Gm} {X : Ct} (hC : Cx Γ X cX5_headingOf RX5 (some .int) 3) (hR : X.2.2.2.1 = ({ frames := 0, cells := 0, slots := 0, locals := 0 } : Room)) (r : Int32) (M' : Mm)  (x0 : Nat) (x1 : Int32) : ∀ (fu : Nat) (x2 : Int32) (M0 : Mm), F_X5_headingOf_L2 x0 x1 fu x2 M0 = some (r, M') → G Γ X 3 M0 0 0 (Fin Γ X (Qi Γ r M') 0 0) 2 ([(0, .ref x0), (1, .int x1), (2, .int x2)]) [] := by
  intro fu
  induction fu with
  | zero =>
    intro x2 M0 h
    rw [F_X5_headingOf_L2] at h
    cases h
  | succ n1 ih =>
    intro x2 M0 h
    rw [F_X5_headingOf_L2] at h
    refine g_iload_n hC 2 dX5_headingOf_2 rfl ?_
    refine g_aload_n hC 0 dX5_headingOf_3 rfl ?_
    replace h := ob h; obtain ⟨v2, ev2, h⟩ := h
    refine g_getI hC ev2 fk_X5_15 rfl dX5_headingOf_4 ?_
    refine g_icmp_ge hC 47 dX5_headingOf_7 (by decide) (fun c3 => ?_) (fun c3 => ?_)
    · replace h := it_t c3 h
      refine g_bipush hC (-4) dX5_headingOf_47 (by decide) ?_
      exact g_iret hC h ⟨(Nat.le_of_ble_eq_true rfl), (Nat.le_of_ble_eq_true rfl)⟩ dX5_headingOf_49
    · replace h := it_f c3 h
      refine g_aload_n hC 0 dX5_headingOf_10 rfl ?_
      replace h := ob h; obtain ⟨v4, ev4, h⟩ := h
      refine g_getI hC ev4 fk_X5_46 rfl dX5_headingOf_11 ?_
      refine g_bipush hC (-4) dX5_headingOf_14 (by decide) ?_
      refine g_icmp_eq hC 47 dX5_headingOf_16 (by decide) (fun c5 => ?_) (fun c5 => ?_)
      · replace h := it_t c5 h
        refine g_bipush hC (-4) dX5_headingOf_47 (by decide) ?_
        exact g_iret hC h ⟨(Nat.le_of_ble_eq_true rfl), (Nat.le_of_ble_eq_true rfl)⟩ dX5_headingOf_49
      · replace h := it_f c5 h
        refine g_aload_n hC 0 dX5_headingOf_19 rfl ?_
        replace h := ob h; obtain ⟨v6, ev6, h⟩ := h
        refine g_getR hC ev6 fk_X5_9 rfl dX5_headingOf_20 ?_
        refine g_iload_n hC 2 dX5_headingOf_23 rfl ?_
        replace h := ob h; obtain ⟨a8, ea8, h⟩ := h
        subst ea8
        replace h := ob h; obtain ⟨v7, ev7, h⟩ := h
        refine g_iald hC ev7 dX5_headingOf_24 ?_
        refine g_iload_n hC 1 dX5_headingOf_25 rfl ?_
        refine g_icmp_ne hC 41 dX5_headingOf_26 (by decide) (fun c9 => ?_) (fun c9 => ?_)
        · replace h := it_f c9 h
          refine g_iinc hC 2 (x2 + 1) ([(2, .int (x2 + 1)), (0, .ref x0), (1, .int x1)]) dX5_headingOf_41 rfl rfl (by decide) rfl ?_
          refine g_goto hC 2 dX5_headingOf_44 (by decide) ?_
          refine g_sub [1, 2, 0] rfl ?_
          exact ih (x2 + 1) M0 h
        · replace h := it_t c9 h
          refine g_aload_n hC 0 dX5_headingOf_29 rfl ?_
          replace h := ob h; obtain ⟨v10, ev10, h⟩ := h
          refine g_getR hC ev10 fk_X5_25 rfl dX5_headingOf_30 ?_
          refine g_aload_n hC 0 dX5_headingOf_33 rfl ?_
          replace h := ob h; obtain ⟨v11, ev11, h⟩ := h
          refine g_getR hC ev11 fk_X5_43 rfl dX5_headingOf_34 ?_
          refine g_iload_n hC 2 dX5_headingOf_37 rfl ?_
          replace h := ob h; obtain ⟨a13, ea13, h⟩ := h
          subst ea13
          replace h := ob h; obtain ⟨v12, ev12, h⟩ := h
          refine g_iald hC ev12 dX5_headingOf_38 ?_
          replace h := ob h; obtain ⟨a15, ea15, h⟩ := h
          subst ea15
          replace h := ob h; obtain ⟨v14, ev14, h⟩ := h
          refine g_iald hC ev14 dX5_headingOf_39 ?_
          exact g_iret hC h ⟨(Nat.le_of_ble_eq_true rfl), (Nat.le_of_ble_eq_true rfl)⟩ dX5_headingOf_40
set_option maxHeartbeats 4000000 in
set_option maxRecDepth 100000 in
theorem c_X5_headingOf (l : Launch) (Γ : Gm) (this : Nat) (p1 : Int32) (M M' : Mm) (r : Int32) (h : F_X5_headingOf this p1 M = some (r, M')) : Met l yX5_headingOf (wz yX5_headingOf cX5_headingOf 3 (some .int)) ({ frames := 0, cells := 0, slots := 0, locals := 0 } : Room) (Pq Γ M [.ref this, .int p1]) (Qi Γ r M') 0 0 (fr Γ) := by
  refine met_of (own := RX5) (by decide +kernel) rfl (Nat.le_of_ble_eq_true rfl) ?_
  intro X hC hR hnm hXl
  unfold F_X5_headingOf at h
  show G Γ X 3 M 0 0 _ 0 ([(0, .ref this), (1, .int p1)]) []
  refine g_iconst hC 0 dX5_headingOf_0 (by decide) ?_
  refine g_istore_n hC ([(2, .int 0), (0, .ref this), (1, .int p1)]) dX5_headingOf_1 (by decide) rfl ?_
  refine g_sub [1, 2, 0] rfl ?_
  refine l_X5_headingOf_L2 hC hR r M'  _ _  _ _ _ h

set_option maxHeartbeats 4000000 in
set_option maxRecDepth 100000 in
theorem c_X6_init (l : Launch) (Γ : Gm) (this : Nat) (M M' : Mm) (h : F_X6_init this M = some M') : Met l yX6_init (wz yX6_init cX6_init 1 none) ({ frames := 1, cells := 10, slots := 1440, locals := 20 } : Room) (Pq Γ M [.ref this]) (Qv Γ M') 10 1440 (fr Γ) := by
  refine met_of (own := RX6) (by decide +kernel) rfl (Nat.le_of_ble_eq_true rfl) ?_
  intro X hC hR hnm hXl
  unfold F_X6_init at h
  show G Γ X 1 M 0 0 _ 0 ([(0, .ref this)]) []
  refine g_aload_n hC 0 dX6_init_0 rfl ?_
  refine g_objInit hC ok_X6_3 hR (Nat.le_of_ble_eq_true rfl) ⟨(Nat.le_of_ble_eq_true rfl), (Nat.le_of_ble_eq_true rfl)⟩ dX6_init_1 ?_
  refine g_aload_n hC 0 dX6_init_4 rfl ?_
  refine g_iconst hC 0 dX6_init_5 (by decide) ?_
  replace h := ob h; obtain ⟨M1, eM1, h⟩ := h
  refine g_putI hC eM1 fk_X6_9 rfl dX6_init_6 ?_
  refine g_aload_n hC 0 dX6_init_9 rfl ?_
  refine g_sipush hC 200 dX6_init_10 (by decide) ?_
  replace h := nv_e h; obtain ⟨a2, ea2, h⟩ := h
  replace h := nv_e h; obtain ⟨M3, eM3, h⟩ := h
  refine g_newI2 (N := 200) hC ea2 eM3 ak_int (by decide) (by rw [hR]; exact ⟨(Nat.le_of_ble_eq_true rfl), (Nat.le_of_ble_eq_true rfl)⟩) dX6_init_13 ?_
  replace h := ob h; obtain ⟨M4, eM4, h⟩ := h
  refine g_putFR (v := (some a2)) hC eM4 fk_X6_15 (ow_6 rfl) (hnm.trans rfl) (Or.inr ⟨_, rfl⟩) rfl dX6_init_15 ?_
  refine g_aload_n hC 0 dX6_init_18 rfl ?_
  refine g_sipush hC 200 dX6_init_19 (by decide) ?_
  replace h := nv_e h; obtain ⟨a5, ea5, h⟩ := h
  replace h := nv_e h; obtain ⟨M6, eM6, h⟩ := h
  refine g_newI2 (N := 200) hC ea5 eM6 ak_int (by decide) (by rw [hR]; exact ⟨(Nat.le_of_ble_eq_true rfl), (Nat.le_of_ble_eq_true rfl)⟩) dX6_init_22 ?_
  replace h := ob h; obtain ⟨M7, eM7, h⟩ := h
  refine g_putFR (v := (some a5)) hC eM7 fk_X6_19 (ow_6 rfl) (hnm.trans rfl) (Or.inr ⟨_, rfl⟩) rfl dX6_init_24 ?_
  refine g_aload_n hC 0 dX6_init_27 rfl ?_
  refine g_sipush hC 200 dX6_init_28 (by decide) ?_
  replace h := nv_e h; obtain ⟨a8, ea8, h⟩ := h
  replace h := nv_e h; obtain ⟨M9, eM9, h⟩ := h
  refine g_newI2 (N := 200) hC ea8 eM9 ak_int (by decide) (by rw [hR]; exact ⟨(Nat.le_of_ble_eq_true rfl), (Nat.le_of_ble_eq_true rfl)⟩) dX6_init_31 ?_
  replace h := ob h; obtain ⟨M10, eM10, h⟩ := h
  refine g_putFR (v := (some a8)) hC eM10 fk_X6_22 (ow_6 rfl) (hnm.trans rfl) (Or.inr ⟨_, rfl⟩) rfl dX6_init_33 ?_
  refine g_aload_n hC 0 dX6_init_36 rfl ?_
  refine g_sipush hC 200 dX6_init_37 (by decide) ?_
  replace h := nv_e h; obtain ⟨a11, ea11, h⟩ := h
  replace h := nv_e h; obtain ⟨M12, eM12, h⟩ := h
  refine g_newI2 (N := 200) hC ea11 eM12 ak_int (by decide) (by rw [hR]; exact ⟨(Nat.le_of_ble_eq_true rfl), (Nat.le_of_ble_eq_true rfl)⟩) dX6_init_40 ?_
  replace h := ob h; obtain ⟨M13, eM13, h⟩ := h
  refine g_putFR (v := (some a11)) hC eM13 fk_X6_25 (ow_6 rfl) (hnm.trans rfl) (Or.inr ⟨_, rfl⟩) rfl dX6_init_42 ?_
  refine g_aload_n hC 0 dX6_init_45 rfl ?_
  refine g_sipush hC 200 dX6_init_46 (by decide) ?_
  replace h := nv_e h; obtain ⟨a14, ea14, h⟩ := h
  replace h := nv_e h; obtain ⟨M15, eM15, h⟩ := h
  refine g_newI2 (N := 200) hC ea14 eM15 ak_int (by decide) (by rw [hR]; exact ⟨(Nat.le_of_ble_eq_true rfl), (Nat.le_of_ble_eq_true rfl)⟩) dX6_init_49 ?_
  replace h := ob h; obtain ⟨M16, eM16, h⟩ := h
  refine g_putFR (v := (some a14)) hC eM16 fk_X6_28 (ow_6 rfl) (hnm.trans rfl) (Or.inr ⟨_, rfl⟩) rfl dX6_init_51 ?_
  refine g_aload_n hC 0 dX6_init_54 rfl ?_
  refine g_sipush hC 200 dX6_init_55 (by decide) ?_
  replace h := nv_e h; obtain ⟨a17, ea17, h⟩ := h
  replace h := nv_e h; obtain ⟨M18, eM18, h⟩ := h
  refine g_newI2 (N := 200) hC ea17 eM18 ak_int (by decide) (by rw [hR]; exact ⟨(Nat.le_of_ble_eq_true rfl), (Nat.le_of_ble_eq_true rfl)⟩) dX6_init_58 ?_
  replace h := ob h; obtain ⟨M19, eM19, h⟩ := h
  refine g_putFR (v := (some a17)) hC eM19 fk_X6_31 (ow_6 rfl) (hnm.trans rfl) (Or.inr ⟨_, rfl⟩) rfl dX6_init_60 ?_
  refine g_aload_n hC 0 dX6_init_63 rfl ?_
  refine g_iconst hC 0 dX6_init_64 (by decide) ?_
  replace h := ob h; obtain ⟨M20, eM20, h⟩ := h
  refine g_putI hC eM20 fk_X6_34 rfl dX6_init_65 ?_
  refine g_aload_n hC 0 dX6_init_68 rfl ?_
  refine g_bipush hC 60 dX6_init_69 (by decide) ?_
  replace h := nv_e h; obtain ⟨a21, ea21, h⟩ := h
  replace h := nv_e h; obtain ⟨M22, eM22, h⟩ := h
  refine g_newI2 (N := 60) hC ea21 eM22 ak_int (by decide) (by rw [hR]; exact ⟨(Nat.le_of_ble_eq_true rfl), (Nat.le_of_ble_eq_true rfl)⟩) dX6_init_71 ?_
  replace h := ob h; obtain ⟨M23, eM23, h⟩ := h
  refine g_putFR (v := (some a21)) hC eM23 fk_X6_37 (ow_6 rfl) (hnm.trans rfl) (Or.inr ⟨_, rfl⟩) rfl dX6_init_73 ?_
  refine g_aload_n hC 0 dX6_init_76 rfl ?_
  refine g_bipush hC 60 dX6_init_77 (by decide) ?_
  replace h := nv_e h; obtain ⟨a24, ea24, h⟩ := h
  replace h := nv_e h; obtain ⟨M25, eM25, h⟩ := h
  refine g_newI2 (N := 60) hC ea24 eM25 ak_int (by decide) (by rw [hR]; exact ⟨(Nat.le_of_ble_eq_true rfl), (Nat.le_of_ble_eq_true rfl)⟩) dX6_init_79 ?_
  replace h := ob h; obtain ⟨M26, eM26, h⟩ := h
  refine g_putFR (v := (some a24)) hC eM26 fk_X6_40 (ow_6 rfl) (hnm.trans rfl) (Or.inr ⟨_, rfl⟩) rfl dX6_init_81 ?_
  refine g_aload_n hC 0 dX6_init_84 rfl ?_
  refine g_bipush hC 60 dX6_init_85 (by decide) ?_
  replace h := nv_e h; obtain ⟨a27, ea27, h⟩ := h
  replace h := nv_e h; obtain ⟨M28, eM28, h⟩ := h
  refine g_newI2 (N := 60) hC ea27 eM28 ak_int (by decide) (by rw [hR]; exact ⟨(Nat.le_of_ble_eq_true rfl), (Nat.le_of_ble_eq_true rfl)⟩) dX6_init_87 ?_
  replace h := ob h; obtain ⟨M29, eM29, h⟩ := h
  refine g_putFR (v := (some a27)) hC eM29 fk_X6_43 (ow_6 rfl) (hnm.trans rfl) (Or.inr ⟨_, rfl⟩) rfl dX6_init_89 ?_
  refine g_aload_n hC 0 dX6_init_92 rfl ?_
  refine g_bipush hC 60 dX6_init_93 (by decide) ?_
  replace h := nv_e h; obtain ⟨a30, ea30, h⟩ := h
  replace h := nv_e h; obtain ⟨M31, eM31, h⟩ := h
  refine g_newI2 (N := 60) hC ea30 eM31 ak_int (by decide) (by rw [hR]; exact ⟨(Nat.le_of_ble_eq_true rfl), (Nat.le_of_ble_eq_true rfl)⟩) dX6_init_95 ?_
  replace h := ob h; obtain ⟨M32, eM32, h⟩ := h
  refine g_putFR (v := (some a30)) hC eM32 fk_X6_46 (ow_6 rfl) (hnm.trans rfl) (Or.inr ⟨_, rfl⟩) rfl dX6_init_97 ?_
  exact g_vret hC h ⟨(Nat.le_of_ble_eq_true rfl), (Nat.le_of_ble_eq_true rfl)⟩ dX6_init_100

set_option maxHeartbeats 4000000 in
set_option maxRecDepth 100000 in
theorem c_X6_become (l : Launch) (Γ : Gm) (this : Nat) (p1 : Nat) (M M' : Mm) (h : F_X6_become this p1 M = some M') : Met l yX6_become (wz yX6_become cX6_become 2 none) ({ frames := 2, cells := 0, slots := 0, locals := 47 } : Room) (Pq Γ M [.ref this, .ref p1]) (Qv Γ M') 0 0 (fr Γ) := by
  refine met_of (own := RX6) (by decide +kernel) rfl (Nat.le_of_ble_eq_true rfl) ?_
  intro X hC hR hnm hXl
  unfold F_X6_become at h
  show G Γ X 2 M 0 0 _ 0 ([(0, .ref this), (1, .ref p1)]) []
  refine g_aload_n hC 0 dX6_become_0 rfl ?_
  refine g_aload_n hC 1 dX6_become_1 rfl ?_
  replace h := ob h; obtain ⟨v1, ev1, h⟩ := h
  refine g_getI hC ev1 fk_X6_9 rfl dX6_become_2 ?_
  replace h := ob h; obtain ⟨M2, eM2, h⟩ := h
  refine g_putI hC eM2 fk_X6_9 rfl dX6_become_5 ?_
  refine g_aload_n hC 1 dX6_become_8 rfl ?_
  replace h := ob h; obtain ⟨v3, ev3, h⟩ := h
  refine g_getR hC ev3 fk_X6_15 rfl dX6_become_9 ?_
  refine g_aload_n hC 0 dX6_become_12 rfl ?_
  replace h := ob h; obtain ⟨v4, ev4, h⟩ := h
  refine g_getR hC ev4 fk_X6_15 rfl dX6_become_13 ?_
  replace h := ob h; obtain ⟨a5, ea5, h⟩ := h
  subst ea5
  replace h := ob h; obtain ⟨a6, ea6, h⟩ := h
  subst ea6
  replace h := ob h; obtain ⟨M7, eM7, h⟩ := h
  refine g_callv hC (r_SN hC (As := [.ref a6, .ref a5]) (c_X11_copyAll _ Γ a6 a5 M2 M7 eM7) yk_X11_copyAll lk_X6_49 rfl rfl (Nat.le_of_ble_eq_true rfl) hR ⟨(Nat.le_of_ble_eq_true rfl), (Nat.le_of_ble_eq_true rfl)⟩ ⟨(Nat.le_of_ble_eq_true rfl), (Nat.le_of_ble_eq_true rfl)⟩ dX6_become_16) ?_
  refine g_aload_n hC 1 dX6_become_19 rfl ?_
  replace h := ob h; obtain ⟨v8, ev8, h⟩ := h
  refine g_getR hC ev8 fk_X6_19 rfl dX6_become_20 ?_
  refine g_aload_n hC 0 dX6_become_23 rfl ?_
  replace h := ob h; obtain ⟨v9, ev9, h⟩ := h
  refine g_getR hC ev9 fk_X6_19 rfl dX6_become_24 ?_
  replace h := ob h; obtain ⟨a10, ea10, h⟩ := h
  subst ea10
  replace h := ob h; obtain ⟨a11, ea11, h⟩ := h
  subst ea11
  replace h := ob h; obtain ⟨M12, eM12, h⟩ := h
  refine g_callv hC (r_SN hC (As := [.ref a11, .ref a10]) (c_X11_copyAll _ Γ a11 a10 M7 M12 eM12) yk_X11_copyAll lk_X6_49 rfl rfl (Nat.le_of_ble_eq_true rfl) hR ⟨(Nat.le_of_ble_eq_true rfl), (Nat.le_of_ble_eq_true rfl)⟩ ⟨(Nat.le_of_ble_eq_true rfl), (Nat.le_of_ble_eq_true rfl)⟩ dX6_become_27) ?_
  refine g_aload_n hC 1 dX6_become_30 rfl ?_
  replace h := ob h; obtain ⟨v13, ev13, h⟩ := h
  refine g_getR hC ev13 fk_X6_22 rfl dX6_become_31 ?_
  refine g_aload_n hC 0 dX6_become_34 rfl ?_
  replace h := ob h; obtain ⟨v14, ev14, h⟩ := h
  refine g_getR hC ev14 fk_X6_22 rfl dX6_become_35 ?_
  replace h := ob h; obtain ⟨a15, ea15, h⟩ := h
  subst ea15
  replace h := ob h; obtain ⟨a16, ea16, h⟩ := h
  subst ea16
  replace h := ob h; obtain ⟨M17, eM17, h⟩ := h
  refine g_callv hC (r_SN hC (As := [.ref a16, .ref a15]) (c_X11_copyAll _ Γ a16 a15 M12 M17 eM17) yk_X11_copyAll lk_X6_49 rfl rfl (Nat.le_of_ble_eq_true rfl) hR ⟨(Nat.le_of_ble_eq_true rfl), (Nat.le_of_ble_eq_true rfl)⟩ ⟨(Nat.le_of_ble_eq_true rfl), (Nat.le_of_ble_eq_true rfl)⟩ dX6_become_38) ?_
  refine g_aload_n hC 1 dX6_become_41 rfl ?_
  replace h := ob h; obtain ⟨v18, ev18, h⟩ := h
  refine g_getR hC ev18 fk_X6_25 rfl dX6_become_42 ?_
  refine g_aload_n hC 0 dX6_become_45 rfl ?_
  replace h := ob h; obtain ⟨v19, ev19, h⟩ := h
  refine g_getR hC ev19 fk_X6_25 rfl dX6_become_46 ?_
  replace h := ob h; obtain ⟨a20, ea20, h⟩ := h
  subst ea20
  replace h := ob h; obtain ⟨a21, ea21, h⟩ := h
  subst ea21
  replace h := ob h; obtain ⟨M22, eM22, h⟩ := h
  refine g_callv hC (r_SN hC (As := [.ref a21, .ref a20]) (c_X11_copyAll _ Γ a21 a20 M17 M22 eM22) yk_X11_copyAll lk_X6_49 rfl rfl (Nat.le_of_ble_eq_true rfl) hR ⟨(Nat.le_of_ble_eq_true rfl), (Nat.le_of_ble_eq_true rfl)⟩ ⟨(Nat.le_of_ble_eq_true rfl), (Nat.le_of_ble_eq_true rfl)⟩ dX6_become_49) ?_
  refine g_aload_n hC 1 dX6_become_52 rfl ?_
  replace h := ob h; obtain ⟨v23, ev23, h⟩ := h
  refine g_getR hC ev23 fk_X6_28 rfl dX6_become_53 ?_
  refine g_aload_n hC 0 dX6_become_56 rfl ?_
  replace h := ob h; obtain ⟨v24, ev24, h⟩ := h
  refine g_getR hC ev24 fk_X6_28 rfl dX6_become_57 ?_
  replace h := ob h; obtain ⟨a25, ea25, h⟩ := h
  subst ea25
  replace h := ob h; obtain ⟨a26, ea26, h⟩ := h
  subst ea26
  replace h := ob h; obtain ⟨M27, eM27, h⟩ := h
  refine g_callv hC (r_SN hC (As := [.ref a26, .ref a25]) (c_X11_copyAll _ Γ a26 a25 M22 M27 eM27) yk_X11_copyAll lk_X6_49 rfl rfl (Nat.le_of_ble_eq_true rfl) hR ⟨(Nat.le_of_ble_eq_true rfl), (Nat.le_of_ble_eq_true rfl)⟩ ⟨(Nat.le_of_ble_eq_true rfl), (Nat.le_of_ble_eq_true rfl)⟩ dX6_become_60) ?_
  refine g_aload_n hC 1 dX6_become_63 rfl ?_
  replace h := ob h; obtain ⟨v28, ev28, h⟩ := h
  refine g_getR hC ev28 fk_X6_31 rfl dX6_become_64 ?_
  refine g_aload_n hC 0 dX6_become_67 rfl ?_
  replace h := ob h; obtain ⟨v29, ev29, h⟩ := h
  refine g_getR hC ev29 fk_X6_31 rfl dX6_become_68 ?_
  replace h := ob h; obtain ⟨a30, ea30, h⟩ := h
  subst ea30
  replace h := ob h; obtain ⟨a31, ea31, h⟩ := h
  subst ea31
  replace h := ob h; obtain ⟨M32, eM32, h⟩ := h
  refine g_callv hC (r_SN hC (As := [.ref a31, .ref a30]) (c_X11_copyAll _ Γ a31 a30 M27 M32 eM32) yk_X11_copyAll lk_X6_49 rfl rfl (Nat.le_of_ble_eq_true rfl) hR ⟨(Nat.le_of_ble_eq_true rfl), (Nat.le_of_ble_eq_true rfl)⟩ ⟨(Nat.le_of_ble_eq_true rfl), (Nat.le_of_ble_eq_true rfl)⟩ dX6_become_71) ?_
  refine g_aload_n hC 0 dX6_become_74 rfl ?_
  refine g_aload_n hC 1 dX6_become_75 rfl ?_
  replace h := ob h; obtain ⟨v33, ev33, h⟩ := h
  refine g_getI hC ev33 fk_X6_34 rfl dX6_become_76 ?_
  replace h := ob h; obtain ⟨M34, eM34, h⟩ := h
  refine g_putI hC eM34 fk_X6_34 rfl dX6_become_79 ?_
  refine g_aload_n hC 1 dX6_become_82 rfl ?_
  replace h := ob h; obtain ⟨v35, ev35, h⟩ := h
  refine g_getR hC ev35 fk_X6_37 rfl dX6_become_83 ?_
  refine g_aload_n hC 0 dX6_become_86 rfl ?_
  replace h := ob h; obtain ⟨v36, ev36, h⟩ := h
  refine g_getR hC ev36 fk_X6_37 rfl dX6_become_87 ?_
  replace h := ob h; obtain ⟨a37, ea37, h⟩ := h
  subst ea37
  replace h := ob h; obtain ⟨a38, ea38, h⟩ := h
  subst ea38
  replace h := ob h; obtain ⟨M39, eM39, h⟩ := h
  refine g_callv hC (r_SN hC (As := [.ref a38, .ref a37]) (c_X11_copyAll _ Γ a38 a37 M34 M39 eM39) yk_X11_copyAll lk_X6_49 rfl rfl (Nat.le_of_ble_eq_true rfl) hR ⟨(Nat.le_of_ble_eq_true rfl), (Nat.le_of_ble_eq_true rfl)⟩ ⟨(Nat.le_of_ble_eq_true rfl), (Nat.le_of_ble_eq_true rfl)⟩ dX6_become_90) ?_
  refine g_aload_n hC 1 dX6_become_93 rfl ?_
  replace h := ob h; obtain ⟨v40, ev40, h⟩ := h
  refine g_getR hC ev40 fk_X6_40 rfl dX6_become_94 ?_
  refine g_aload_n hC 0 dX6_become_97 rfl ?_
  replace h := ob h; obtain ⟨v41, ev41, h⟩ := h
  refine g_getR hC ev41 fk_X6_40 rfl dX6_become_98 ?_
  replace h := ob h; obtain ⟨a42, ea42, h⟩ := h
  subst ea42
  replace h := ob h; obtain ⟨a43, ea43, h⟩ := h
  subst ea43
  replace h := ob h; obtain ⟨M44, eM44, h⟩ := h
  refine g_callv hC (r_SN hC (As := [.ref a43, .ref a42]) (c_X11_copyAll _ Γ a43 a42 M39 M44 eM44) yk_X11_copyAll lk_X6_49 rfl rfl (Nat.le_of_ble_eq_true rfl) hR ⟨(Nat.le_of_ble_eq_true rfl), (Nat.le_of_ble_eq_true rfl)⟩ ⟨(Nat.le_of_ble_eq_true rfl), (Nat.le_of_ble_eq_true rfl)⟩ dX6_become_101) ?_
  refine g_aload_n hC 1 dX6_become_104 rfl ?_
  replace h := ob h; obtain ⟨v45, ev45, h⟩ := h
  refine g_getR hC ev45 fk_X6_43 rfl dX6_become_105 ?_
  refine g_aload_n hC 0 dX6_become_108 rfl ?_
  replace h := ob h; obtain ⟨v46, ev46, h⟩ := h
  refine g_getR hC ev46 fk_X6_43 rfl dX6_become_109 ?_
  replace h := ob h; obtain ⟨a47, ea47, h⟩ := h
  subst ea47
  replace h := ob h; obtain ⟨a48, ea48, h⟩ := h
  subst ea48
  replace h := ob h; obtain ⟨M49, eM49, h⟩ := h
  refine g_callv hC (r_SN hC (As := [.ref a48, .ref a47]) (c_X11_copyAll _ Γ a48 a47 M44 M49 eM49) yk_X11_copyAll lk_X6_49 rfl rfl (Nat.le_of_ble_eq_true rfl) hR ⟨(Nat.le_of_ble_eq_true rfl), (Nat.le_of_ble_eq_true rfl)⟩ ⟨(Nat.le_of_ble_eq_true rfl), (Nat.le_of_ble_eq_true rfl)⟩ dX6_become_112) ?_
  refine g_aload_n hC 1 dX6_become_115 rfl ?_
  replace h := ob h; obtain ⟨v50, ev50, h⟩ := h
  refine g_getR hC ev50 fk_X6_46 rfl dX6_become_116 ?_
  refine g_aload_n hC 0 dX6_become_119 rfl ?_
  replace h := ob h; obtain ⟨v51, ev51, h⟩ := h
  refine g_getR hC ev51 fk_X6_46 rfl dX6_become_120 ?_
  replace h := ob h; obtain ⟨a52, ea52, h⟩ := h
  subst ea52
  replace h := ob h; obtain ⟨a53, ea53, h⟩ := h
  subst ea53
  replace h := ob h; obtain ⟨M54, eM54, h⟩ := h
  refine g_callv hC (r_SN hC (As := [.ref a53, .ref a52]) (c_X11_copyAll _ Γ a53 a52 M49 M54 eM54) yk_X11_copyAll lk_X6_49 rfl rfl (Nat.le_of_ble_eq_true rfl) hR ⟨(Nat.le_of_ble_eq_true rfl), (Nat.le_of_ble_eq_true rfl)⟩ ⟨(Nat.le_of_ble_eq_true rfl), (Nat.le_of_ble_eq_true rfl)⟩ dX6_become_123) ?_
  exact g_vret hC h ⟨(Nat.le_of_ble_eq_true rfl), (Nat.le_of_ble_eq_true rfl)⟩ dX6_become_126

set_option maxHeartbeats 4000000 in
set_option maxRecDepth 100000 in
theorem c_X6_addReading (l : Launch) (Γ : Gm) (this : Nat) (p1 : Int32) (p2 : Nat) (p3 : Int32) (p4 : Int32) (M M' : Mm) (h : F_X6_addReading this p1 p2 p3 p4 M = some M') : Met l yX6_addReading (wz yX6_addReading cX6_addReading 5 none) ({ frames := 0, cells := 0, slots := 0, locals := 0 } : Room) (Pq Γ M [.ref this, .int p1, .ref p2, .int p3, .int p4]) (Qv Γ M') 0 0 (fr Γ) := by
  refine met_of (own := RX6) (by decide +kernel) rfl (Nat.le_of_ble_eq_true rfl) ?_
  intro X hC hR hnm hXl
  unfold F_X6_addReading at h
  show G Γ X 5 M 0 0 _ 0 ([(0, .ref this), (1, .int p1), (2, .ref p2), (3, .int p3), (4, .int p4)]) []
  refine g_aload_n hC 0 dX6_addReading_0 rfl ?_
  replace h := ob h; obtain ⟨v1, ev1, h⟩ := h
  refine g_getI hC ev1 fk_X6_9 rfl dX6_addReading_1 ?_
  refine g_sipush hC 200 dX6_addReading_4 (by decide) ?_
  refine g_icmp_lt hC 11 dX6_addReading_7 (by decide) (fun c2 => ?_) (fun c2 => ?_)
  · replace h := it_t c2 h
    refine g_aload_n hC 0 dX6_addReading_11 rfl ?_
    replace h := ob h; obtain ⟨v3, ev3, h⟩ := h
    refine g_getR hC ev3 fk_X6_15 rfl dX6_addReading_12 ?_
    refine g_aload_n hC 0 dX6_addReading_15 rfl ?_
    replace h := ob h; obtain ⟨v4, ev4, h⟩ := h
    refine g_getI hC ev4 fk_X6_9 rfl dX6_addReading_16 ?_
    refine g_iload_n hC 1 dX6_addReading_19 rfl ?_
    replace h := ob h; obtain ⟨a6, ea6, h⟩ := h
    subst ea6
    replace h := ob h; obtain ⟨M5, eM5, h⟩ := h
    refine g_iast hC eM5 dX6_addReading_20 ?_
    refine g_aload_n hC 0 dX6_addReading_21 rfl ?_
    replace h := ob h; obtain ⟨v7, ev7, h⟩ := h
    refine g_getR hC ev7 fk_X6_19 rfl dX6_addReading_22 ?_
    refine g_aload_n hC 0 dX6_addReading_25 rfl ?_
    replace h := ob h; obtain ⟨v8, ev8, h⟩ := h
    refine g_getI hC ev8 fk_X6_9 rfl dX6_addReading_26 ?_
    refine g_iload_n hC 3 dX6_addReading_29 rfl ?_
    replace h := ob h; obtain ⟨a10, ea10, h⟩ := h
    subst ea10
    replace h := ob h; obtain ⟨M9, eM9, h⟩ := h
    refine g_iast hC eM9 dX6_addReading_30 ?_
    refine g_aload_n hC 0 dX6_addReading_31 rfl ?_
    replace h := ob h; obtain ⟨v11, ev11, h⟩ := h
    refine g_getR hC ev11 fk_X6_22 rfl dX6_addReading_32 ?_
    refine g_aload_n hC 0 dX6_addReading_35 rfl ?_
    replace h := ob h; obtain ⟨v12, ev12, h⟩ := h
    refine g_getI hC ev12 fk_X6_9 rfl dX6_addReading_36 ?_
    refine g_aload_n hC 2 dX6_addReading_39 rfl ?_
    replace h := ob h; obtain ⟨v13, ev13, h⟩ := h
    refine g_getI hC ev13 fk_X6_53 rfl dX6_addReading_40 ?_
    replace h := ob h; obtain ⟨a15, ea15, h⟩ := h
    subst ea15
    replace h := ob h; obtain ⟨M14, eM14, h⟩ := h
    refine g_iast hC eM14 dX6_addReading_43 ?_
    refine g_aload_n hC 0 dX6_addReading_44 rfl ?_
    replace h := ob h; obtain ⟨v16, ev16, h⟩ := h
    refine g_getR hC ev16 fk_X6_25 rfl dX6_addReading_45 ?_
    refine g_aload_n hC 0 dX6_addReading_48 rfl ?_
    replace h := ob h; obtain ⟨v17, ev17, h⟩ := h
    refine g_getI hC ev17 fk_X6_9 rfl dX6_addReading_49 ?_
    refine g_iload hC 4 dX6_addReading_52 rfl ?_
    replace h := ob h; obtain ⟨a19, ea19, h⟩ := h
    subst ea19
    replace h := ob h; obtain ⟨M18, eM18, h⟩ := h
    refine g_iast hC eM18 dX6_addReading_54 ?_
    refine g_aload_n hC 0 dX6_addReading_55 rfl ?_
    replace h := ob h; obtain ⟨v20, ev20, h⟩ := h
    refine g_getR hC ev20 fk_X6_28 rfl dX6_addReading_56 ?_
    refine g_aload_n hC 0 dX6_addReading_59 rfl ?_
    replace h := ob h; obtain ⟨v21, ev21, h⟩ := h
    refine g_getI hC ev21 fk_X6_9 rfl dX6_addReading_60 ?_
    refine g_aload_n hC 2 dX6_addReading_63 rfl ?_
    replace h := ob h; obtain ⟨v22, ev22, h⟩ := h
    refine g_getI hC ev22 fk_X6_58 rfl dX6_addReading_64 ?_
    replace h := ob h; obtain ⟨a24, ea24, h⟩ := h
    subst ea24
    replace h := ob h; obtain ⟨M23, eM23, h⟩ := h
    refine g_iast hC eM23 dX6_addReading_67 ?_
    refine g_aload_n hC 0 dX6_addReading_68 rfl ?_
    replace h := ob h; obtain ⟨v25, ev25, h⟩ := h
    refine g_getR hC ev25 fk_X6_31 rfl dX6_addReading_69 ?_
    refine g_aload_n hC 0 dX6_addReading_72 rfl ?_
    replace h := ob h; obtain ⟨v26, ev26, h⟩ := h
    refine g_getI hC ev26 fk_X6_9 rfl dX6_addReading_73 ?_
    refine g_aload_n hC 2 dX6_addReading_76 rfl ?_
    replace h := ob h; obtain ⟨v27, ev27, h⟩ := h
    refine g_getI hC ev27 fk_X6_61 rfl dX6_addReading_77 ?_
    replace h := ob h; obtain ⟨a29, ea29, h⟩ := h
    subst ea29
    replace h := ob h; obtain ⟨M28, eM28, h⟩ := h
    refine g_iast hC eM28 dX6_addReading_80 ?_
    refine g_aload_n hC 0 dX6_addReading_81 rfl ?_
    refine g_dup hC dX6_addReading_82 rfl ?_
    replace h := ob h; obtain ⟨v30, ev30, h⟩ := h
    refine g_getI hC ev30 fk_X6_9 rfl dX6_addReading_83 ?_
    refine g_iconst hC 1 dX6_addReading_86 (by decide) ?_
    refine g_iadd hC dX6_addReading_87 ?_
    replace h := ob h; obtain ⟨M31, eM31, h⟩ := h
    refine g_putI hC eM31 fk_X6_9 rfl dX6_addReading_88 ?_
    exact g_vret hC h ⟨(Nat.le_of_ble_eq_true rfl), (Nat.le_of_ble_eq_true rfl)⟩ dX6_addReading_91
  · replace h := it_f c2 h
    exact g_vret hC h ⟨(Nat.le_of_ble_eq_true rfl), (Nat.le_of_ble_eq_true rfl)⟩ dX6_addReading_10

set_option maxHeartbeats 4000000 in
set_option maxRecDepth 100000 in
theorem c_X6_addCleaning (l : Launch) (Γ : Gm) (this : Nat) (p1 : Int32) (p2 : Int32) (p3 : Int32) (M M' : Mm) (r : Int32) (h : F_X6_addCleaning this p1 p2 p3 M = some (r, M')) : Met l yX6_addCleaning (wz yX6_addCleaning cX6_addCleaning 4 (some .int)) ({ frames := 0, cells := 0, slots := 0, locals := 0 } : Room) (Pq Γ M [.ref this, .int p1, .int p2, .int p3]) (Qi Γ r M') 0 0 (fr Γ) := by
  refine met_of (own := RX6) (by decide +kernel) rfl (Nat.le_of_ble_eq_true rfl) ?_
  intro X hC hR hnm hXl
  unfold F_X6_addCleaning at h
  show G Γ X 4 M 0 0 _ 0 ([(0, .ref this), (1, .int p1), (2, .int p2), (3, .int p3)]) []
  refine g_aload_n hC 0 dX6_addCleaning_0 rfl ?_
  replace h := ob h; obtain ⟨v1, ev1, h⟩ := h
  refine g_getR hC ev1 fk_X6_37 rfl dX6_addCleaning_1 ?_
  refine g_aload_n hC 0 dX6_addCleaning_4 rfl ?_
  replace h := ob h; obtain ⟨v2, ev2, h⟩ := h
  refine g_getI hC ev2 fk_X6_34 rfl dX6_addCleaning_5 ?_
  refine g_iload_n hC 1 dX6_addCleaning_8 rfl ?_
  replace h := ob h; obtain ⟨a4, ea4, h⟩ := h
  subst ea4
  replace h := ob h; obtain ⟨M3, eM3, h⟩ := h
  refine g_iast hC eM3 dX6_addCleaning_9 ?_
  refine g_aload_n hC 0 dX6_addCleaning_10 rfl ?_
  replace h := ob h; obtain ⟨v5, ev5, h⟩ := h
  refine g_getR hC ev5 fk_X6_40 rfl dX6_addCleaning_11 ?_
  refine g_aload_n hC 0 dX6_addCleaning_14 rfl ?_
  replace h := ob h; obtain ⟨v6, ev6, h⟩ := h
  refine g_getI hC ev6 fk_X6_34 rfl dX6_addCleaning_15 ?_
  refine g_iload_n hC 2 dX6_addCleaning_18 rfl ?_
  replace h := ob h; obtain ⟨a8, ea8, h⟩ := h
  subst ea8
  replace h := ob h; obtain ⟨M7, eM7, h⟩ := h
  refine g_iast hC eM7 dX6_addCleaning_19 ?_
  refine g_aload_n hC 0 dX6_addCleaning_20 rfl ?_
  replace h := ob h; obtain ⟨v9, ev9, h⟩ := h
  refine g_getR hC ev9 fk_X6_43 rfl dX6_addCleaning_21 ?_
  refine g_aload_n hC 0 dX6_addCleaning_24 rfl ?_
  replace h := ob h; obtain ⟨v10, ev10, h⟩ := h
  refine g_getI hC ev10 fk_X6_34 rfl dX6_addCleaning_25 ?_
  refine g_iload_n hC 3 dX6_addCleaning_28 rfl ?_
  replace h := ob h; obtain ⟨a12, ea12, h⟩ := h
  subst ea12
  replace h := ob h; obtain ⟨M11, eM11, h⟩ := h
  refine g_iast hC eM11 dX6_addCleaning_29 ?_
  refine g_aload_n hC 0 dX6_addCleaning_30 rfl ?_
  replace h := ob h; obtain ⟨v13, ev13, h⟩ := h
  refine g_getR hC ev13 fk_X6_46 rfl dX6_addCleaning_31 ?_
  refine g_aload_n hC 0 dX6_addCleaning_34 rfl ?_
  replace h := ob h; obtain ⟨v14, ev14, h⟩ := h
  refine g_getI hC ev14 fk_X6_34 rfl dX6_addCleaning_35 ?_
  refine g_aload_n hC 0 dX6_addCleaning_38 rfl ?_
  replace h := ob h; obtain ⟨v15, ev15, h⟩ := h
  refine g_getI hC ev15 fk_X6_9 rfl dX6_addCleaning_39 ?_
  replace h := ob h; obtain ⟨a17, ea17, h⟩ := h
  subst ea17
  replace h := ob h; obtain ⟨M16, eM16, h⟩ := h
  refine g_iast hC eM16 dX6_addCleaning_42 ?_
  refine g_aload_n hC 0 dX6_addCleaning_43 rfl ?_
  refine g_dup hC dX6_addCleaning_44 rfl ?_
  replace h := ob h; obtain ⟨v18, ev18, h⟩ := h
  refine g_getI hC ev18 fk_X6_34 rfl dX6_addCleaning_45 ?_
  refine g_iconst hC 1 dX6_addCleaning_48 (by decide) ?_
  refine g_iadd hC dX6_addCleaning_49 ?_
  replace h := ob h; obtain ⟨M19, eM19, h⟩ := h
  refine g_putI hC eM19 fk_X6_34 rfl dX6_addCleaning_50 ?_
  refine g_aload_n hC 0 dX6_addCleaning_53 rfl ?_
  replace h := ob h; obtain ⟨v20, ev20, h⟩ := h
  refine g_getI hC ev20 fk_X6_34 rfl dX6_addCleaning_54 ?_
  exact g_iret hC h ⟨(Nat.le_of_ble_eq_true rfl), (Nat.le_of_ble_eq_true rfl)⟩ dX6_addCleaning_57

set_option maxHeartbeats 4000000 in
set_option maxRecDepth 100000 in
theorem l_X6_putRight_L2 {Γ : Gm} {X : Ct} (hC : Cx Γ X cX6_putRight RX6 (some .int) 4) (hR : X.2.2.2.1 = ({ frames := 0, cells := 0, slots := 0, locals := 0 } : Room)) (r : Int32) (M' : Mm) (k54 : Int32 → Mm → Option (Int32 × Mm)) (x0 : Nat) (x1 : Int32) (hk54 : ∀ (y2 : Int32) (M1 : Mm), k54 y2 M1 = some (r, M') → G Γ X 4 M1 0 0 (Fin Γ X (Qi Γ r M') 0 0) 54 ([(0, .ref x0), (1, .int x1), (2, .int y2)]) []) : ∀ (fu : Nat) (x2 : Int32) (M0 : Mm), F_X6_putRight_L2 k54 x0 x1 fu x2 M0 = some (r, M') → G Γ X 4 M0 0 0 (Fin Γ X (Qi Γ r M') 0 0) 2 ([(0, .ref x0), (1, .int x1), (2, .int x2)]) [] := by
  intro fu
  induction fu with
  | zero =>
    intro x2 M0 h
    rw [F_X6_putRight_L2] at h
    cases h
  | succ n1 ih =>
    intro x2 M0 h
    rw [F_X6_putRight_L2] at h
    refine g_iload_n hC 2 dX6_putRight_2 rfl ?_
    refine g_aload_n hC 0 dX6_putRight_3 rfl ?_
    replace h := ob h; obtain ⟨v2, ev2, h⟩ := h
    refine g_getI hC ev2 fk_X6_34 rfl dX6_putRight_4 ?_
    refine g_icmp_ge hC 90 dX6_putRight_7 (by decide) (fun c3 => ?_) (fun c3 => ?_)
    · replace h := it_t c3 h
      refine g_aload_n hC 0 dX6_putRight_90 rfl ?_
      replace h := ob h; obtain ⟨v4, ev4, h⟩ := h
      refine g_getR hC ev4 fk_X6_31 rfl dX6_putRight_91 ?_
      refine g_iload_n hC 1 dX6_putRight_94 rfl ?_
      replace h := ob h; obtain ⟨a6, ea6, h⟩ := h
      subst ea6
      replace h := ob h; obtain ⟨v5, ev5, h⟩ := h
      refine g_iald hC ev5 dX6_putRight_95 ?_
      refine g_iconst hC 3 dX6_putRight_96 (by decide) ?_
      refine g_aload_n hC 0 dX6_putRight_97 rfl ?_
      replace h := ob h; obtain ⟨v7, ev7, h⟩ := h
      refine g_getR hC ev7 fk_X6_28 rfl dX6_putRight_98 ?_
      refine g_iload_n hC 1 dX6_putRight_101 rfl ?_
      replace h := ob h; obtain ⟨a9, ea9, h⟩ := h
      subst ea9
      replace h := ob h; obtain ⟨v8, ev8, h⟩ := h
      refine g_iald hC ev8 dX6_putRight_102 ?_
      refine g_imul hC dX6_putRight_103 ?_
      refine g_isub hC dX6_putRight_104 ?_
      exact g_iret hC h ⟨(Nat.le_of_ble_eq_true rfl), (Nat.le_of_ble_eq_true rfl)⟩ dX6_putRight_105
    · replace h := it_f c3 h
      refine g_aload_n hC 0 dX6_putRight_10 rfl ?_
      replace h := ob h; obtain ⟨v10, ev10, h⟩ := h
      refine g_getR hC ev10 fk_X6_37 rfl dX6_putRight_11 ?_
      refine g_iload_n hC 2 dX6_putRight_14 rfl ?_
      replace h := ob h; obtain ⟨a12, ea12, h⟩ := h
      subst ea12
      replace h := ob h; obtain ⟨v11, ev11, h⟩ := h
      refine g_iald hC ev11 dX6_putRight_15 ?_
      refine g_aload_n hC 0 dX6_putRight_16 rfl ?_
      replace h := ob h; obtain ⟨v13, ev13, h⟩ := h
      refine g_getR hC ev13 fk_X6_15 rfl dX6_putRight_17 ?_
      refine g_iload_n hC 1 dX6_putRight_20 rfl ?_
      replace h := ob h; obtain ⟨a15, ea15, h⟩ := h
      subst ea15
      replace h := ob h; obtain ⟨v14, ev14, h⟩ := h
      refine g_iald hC ev14 dX6_putRight_21 ?_
      replace h := jp_e h; obtain ⟨k16, ek16, h⟩ := h
      have J24 : ∀ (s17 : Int32) (M18 : Mm), k16 s17 M18 = some (r, M') → G Γ X 4 M18 0 0 (Fin Γ X (Qi Γ r M') 0 0) 40 ([(0, .ref x0), (1, .int x1), (2, .int x2)]) ([.int s17]) := by
        intro s17 M18 h
        rw [ek16] at h
        refine g_istore_n hC ([(3, .int s17), (0, .ref x0), (1, .int x1), (2, .int x2)]) dX6_putRight_40 (by decide) rfl ?_
        refine g_iload_n hC 0 dX6_putRight_41 rfl ?_
        refine g_if_eq hC 84 dX6_putRight_42 (by decide) (fun c19 => ?_) (fun c19 => ?_)
        · replace h := it_t c19 h
          refine g_iinc hC 3 (x2 + 1) ([(2, .int (x2 + 1)), (3, .int s17), (0, .ref x0), (1, .int x1)]) dX6_putRight_84 rfl rfl (by decide) rfl ?_
          refine g_goto hC 2 dX6_putRight_87 (by decide) ?_
          refine g_sub [2, 3, 0] rfl ?_
          exact ih (x2 + 1) M18 h
        · replace h := it_f c19 h
          refine g_aload_n hC 1 dX6_putRight_45 rfl ?_
          replace h := ob h; obtain ⟨v20, ev20, h⟩ := h
          refine g_getR hC ev20 fk_X6_43 rfl dX6_putRight_46 ?_
          refine g_iload_n hC 3 dX6_putRight_49 rfl ?_
          replace h := ob h; obtain ⟨a22, ea22, h⟩ := h
          subst ea22
          replace h := ob h; obtain ⟨v21, ev21, h⟩ := h
          refine g_iald hC ev21 dX6_putRight_50 ?_
          refine g_if_le hC 84 dX6_putRight_51 (by decide) (fun c23 => ?_) (fun c23 => ?_)
          · replace h := it_t c23 h
            refine g_iinc hC 3 (x2 + 1) ([(2, .int (x2 + 1)), (3, .int s17), (0, .ref x0), (1, .int x1)]) dX6_putRight_84 rfl rfl (by decide) rfl ?_
            refine g_goto hC 2 dX6_putRight_87 (by decide) ?_
            refine g_sub [2, 3, 0] rfl ?_
            exact ih (x2 + 1) M18 h
          · replace h := it_f c23 h
            refine g_sub [1, 2, 3] rfl ?_
            exact hk54 x2 M18 h
      refine g_icmp_ne hC 39 dX6_putRight_22 (by decide) (fun c25 => ?_) (fun c25 => ?_)
      · replace h := it_f c25 h
        refine g_iconst hC 0 dX6_putRight_39 (by decide) ?_
        refine g_sub [0, 1, 2] rfl ?_
        exact J24 0 M0 h
      · replace h := it_t c25 h
        refine g_aload_n hC 0 dX6_putRight_25 rfl ?_
        replace h := ob h; obtain ⟨v26, ev26, h⟩ := h
        refine g_getR hC ev26 fk_X6_46 rfl dX6_putRight_26 ?_
        refine g_iload_n hC 2 dX6_putRight_29 rfl ?_
        replace h := ob h; obtain ⟨a28, ea28, h⟩ := h
        subst ea28
        replace h := ob h; obtain ⟨v27, ev27, h⟩ := h
        refine g_iald hC ev27 dX6_putRight_30 ?_
        refine g_iload_n hC 1 dX6_putRight_31 rfl ?_
        refine g_icmp_le hC 39 dX6_putRight_32 (by decide) (fun c29 => ?_) (fun c29 => ?_)
        · replace h := it_t c29 h
          refine g_iconst hC 0 dX6_putRight_39 (by decide) ?_
          refine g_sub [0, 1, 2] rfl ?_
          exact J24 0 M0 h
        · replace h := it_f c29 h
          refine g_iconst hC 1 dX6_putRight_35 (by decide) ?_
          refine g_goto hC 40 dX6_putRight_36 (by decide) ?_
          refine g_sub [0, 1, 2] rfl ?_
          exact J24 1 M0 h
set_option maxHeartbeats 4000000 in
set_option maxRecDepth 100000 in
theorem c_X6_putRight (l : Launch) (Γ : Gm) (this : Nat) (p1 : Int32) (M M' : Mm) (r : Int32) (h : F_X6_putRight this p1 M = some (r, M')) : Met l yX6_putRight (wz yX6_putRight cX6_putRight 4 (some .int)) ({ frames := 0, cells := 0, slots := 0, locals := 0 } : Room) (Pq Γ M [.ref this, .int p1]) (Qi Γ r M') 0 0 (fr Γ) := by
  refine met_of (own := RX6) (by decide +kernel) rfl (Nat.le_of_ble_eq_true rfl) ?_
  intro X hC hR hnm hXl
  unfold F_X6_putRight at h
  show G Γ X 4 M 0 0 _ 0 ([(0, .ref this), (1, .int p1)]) []
  refine g_iconst hC 0 dX6_putRight_0 (by decide) ?_
  refine g_istore_n hC ([(2, .int 0), (0, .ref this), (1, .int p1)]) dX6_putRight_1 (by decide) rfl ?_
  refine g_sub [1, 2, 0] rfl ?_
  refine l_X6_putRight_L2 hC hR r M' _ _ _ ?_ _ _ _ h
  intro y30 M31 h
  refine g_aload_n hC 0 dX6_putRight_54 rfl ?_
  replace h := ob h; obtain ⟨v32, ev32, h⟩ := h
  refine g_getR hC ev32 fk_X6_31 rfl dX6_putRight_55 ?_
  refine g_iload_n hC 1 dX6_putRight_58 rfl ?_
  replace h := ob h; obtain ⟨a34, ea34, h⟩ := h
  subst ea34
  replace h := ob h; obtain ⟨v33, ev33, h⟩ := h
  refine g_iald hC ev33 dX6_putRight_59 ?_
  refine g_aload_n hC 0 dX6_putRight_60 rfl ?_
  replace h := ob h; obtain ⟨v35, ev35, h⟩ := h
  refine g_getR hC ev35 fk_X6_40 rfl dX6_putRight_61 ?_
  refine g_iload_n hC 2 dX6_putRight_64 rfl ?_
  replace h := ob h; obtain ⟨a37, ea37, h⟩ := h
  subst ea37
  replace h := ob h; obtain ⟨v36, ev36, h⟩ := h
  refine g_iald hC ev36 dX6_putRight_65 ?_
  refine g_aload_n hC 0 dX6_putRight_66 rfl ?_
  replace h := ob h; obtain ⟨v38, ev38, h⟩ := h
  refine g_getR hC ev38 fk_X6_28 rfl dX6_putRight_67 ?_
  refine g_iload_n hC 1 dX6_putRight_70 rfl ?_
  replace h := ob h; obtain ⟨a40, ea40, h⟩ := h
  subst ea40
  replace h := ob h; obtain ⟨v39, ev39, h⟩ := h
  refine g_iald hC ev39 dX6_putRight_71 ?_
  refine g_iconst hC 1 dX6_putRight_72 (by decide) ?_
  refine g_iadd hC dX6_putRight_73 ?_
  refine g_imul hC dX6_putRight_74 ?_
  refine g_aload_n hC 0 dX6_putRight_75 rfl ?_
  replace h := ob h; obtain ⟨v41, ev41, h⟩ := h
  refine g_getR hC ev41 fk_X6_43 rfl dX6_putRight_76 ?_
  refine g_iload_n hC 2 dX6_putRight_79 rfl ?_
  replace h := ob h; obtain ⟨a43, ea43, h⟩ := h
  subst ea43
  replace h := ob h; obtain ⟨v42, ev42, h⟩ := h
  refine g_iald hC ev42 dX6_putRight_80 ?_
  replace h := ob h; obtain ⟨v44, ev44, h⟩ := h
  refine g_idiv hC ev44 dX6_putRight_81 ?_
  refine g_isub hC dX6_putRight_82 ?_
  exact g_iret hC h ⟨(Nat.le_of_ble_eq_true rfl), (Nat.le_of_ble_eq_true rfl)⟩ dX6_putRight_83

set_option maxHeartbeats 4000000 in
set_option maxRecDepth 100000 in
theorem c_X9_init (l : Launch) (Γ : Gm) (this : Nat) (M M' : Mm) (h : F_X9_init this M = some M') : Met l yX9_init (wz yX9_init cX9_init 1 none) ({ frames := 1, cells := 2, slots := 640, locals := 20 } : Room) (Pq Γ M [.ref this]) (Qv Γ M') 2 640 (fr Γ) := by
  refine met_of (own := RX9) (by decide +kernel) rfl (Nat.le_of_ble_eq_true rfl) ?_
  intro X hC hR hnm hXl
  unfold F_X9_init at h
  show G Γ X 1 M 0 0 _ 0 ([(0, .ref this)]) []
  refine g_aload_n hC 0 dX9_init_0 rfl ?_
  refine g_objInit hC ok_X9_3 hR (Nat.le_of_ble_eq_true rfl) ⟨(Nat.le_of_ble_eq_true rfl), (Nat.le_of_ble_eq_true rfl)⟩ dX9_init_1 ?_
  refine g_aload_n hC 0 dX9_init_4 rfl ?_
  refine g_sipush hC 320 dX9_init_5 (by decide) ?_
  replace h := nv_e h; obtain ⟨a1, ea1, h⟩ := h
  replace h := nv_e h; obtain ⟨M2, eM2, h⟩ := h
  refine g_newI2 (N := 320) hC ea1 eM2 ak_int (by decide) (by rw [hR]; exact ⟨(Nat.le_of_ble_eq_true rfl), (Nat.le_of_ble_eq_true rfl)⟩) dX9_init_8 ?_
  replace h := ob h; obtain ⟨M3, eM3, h⟩ := h
  refine g_putFR (v := (some a1)) hC eM3 fk_X9_9 (ow_9 rfl) (hnm.trans rfl) (Or.inr ⟨_, rfl⟩) rfl dX9_init_10 ?_
  refine g_aload_n hC 0 dX9_init_13 rfl ?_
  refine g_sipush hC 320 dX9_init_14 (by decide) ?_
  replace h := nv_e h; obtain ⟨a4, ea4, h⟩ := h
  replace h := nv_e h; obtain ⟨M5, eM5, h⟩ := h
  refine g_newI2 (N := 320) hC ea4 eM5 ak_int (by decide) (by rw [hR]; exact ⟨(Nat.le_of_ble_eq_true rfl), (Nat.le_of_ble_eq_true rfl)⟩) dX9_init_17 ?_
  replace h := ob h; obtain ⟨M6, eM6, h⟩ := h
  refine g_putFR (v := (some a4)) hC eM6 fk_X9_15 (ow_9 rfl) (hnm.trans rfl) (Or.inr ⟨_, rfl⟩) rfl dX9_init_19 ?_
  exact g_vret hC h ⟨(Nat.le_of_ble_eq_true rfl), (Nat.le_of_ble_eq_true rfl)⟩ dX9_init_22

set_option maxHeartbeats 4000000 in
set_option maxRecDepth 100000 in
theorem c_X7_init (l : Launch) (Γ : Gm) (this : Nat) (M M' : Mm) (h : F_X7_init this M = some M') : Met l yX7_init (wz yX7_init cX7_init 1 none) ({ frames := 2, cells := 11, slots := 2164, locals := 40 } : Room) (Pq Γ M [.ref this]) (Qv Γ M') 11 2164 (fr Γ) := by
  refine met_of (own := RX7) (by decide +kernel) rfl (Nat.le_of_ble_eq_true rfl) ?_
  intro X hC hR hnm hXl
  unfold F_X7_init at h
  show G Γ X 1 M 0 0 _ 0 ([(0, .ref this)]) []
  refine g_aload_n hC 0 dX7_init_0 rfl ?_
  refine g_objInit hC ok_X7_3 hR (Nat.le_of_ble_eq_true rfl) ⟨(Nat.le_of_ble_eq_true rfl), (Nat.le_of_ble_eq_true rfl)⟩ dX7_init_1 ?_
  refine g_aload_n hC 0 dX7_init_4 rfl ?_
  refine g_bipush hC 80 dX7_init_5 (by decide) ?_
  replace h := nv_e h; obtain ⟨a1, ea1, h⟩ := h
  replace h := nv_e h; obtain ⟨M2, eM2, h⟩ := h
  refine g_newI2 (N := 80) hC ea1 eM2 ak_int (by decide) (by rw [hR]; exact ⟨(Nat.le_of_ble_eq_true rfl), (Nat.le_of_ble_eq_true rfl)⟩) dX7_init_7 ?_
  replace h := ob h; obtain ⟨M3, eM3, h⟩ := h
  refine g_putFR (v := (some a1)) hC eM3 fk_X7_9 (ow_7 rfl) (hnm.trans rfl) (Or.inr ⟨_, rfl⟩) rfl dX7_init_9 ?_
  refine g_aload_n hC 0 dX7_init_12 rfl ?_
  refine g_bipush hC 80 dX7_init_13 (by decide) ?_
  replace h := nv_e h; obtain ⟨a4, ea4, h⟩ := h
  replace h := nv_e h; obtain ⟨M5, eM5, h⟩ := h
  refine g_newI2 (N := 80) hC ea4 eM5 ak_int (by decide) (by rw [hR]; exact ⟨(Nat.le_of_ble_eq_true rfl), (Nat.le_of_ble_eq_true rfl)⟩) dX7_init_15 ?_
  replace h := ob h; obtain ⟨M6, eM6, h⟩ := h
  refine g_putFR (v := (some a4)) hC eM6 fk_X7_15 (ow_7 rfl) (hnm.trans rfl) (Or.inr ⟨_, rfl⟩) rfl dX7_init_17 ?_
  refine g_aload_n hC 0 dX7_init_20 rfl ?_
  refine g_bipush hC 80 dX7_init_21 (by decide) ?_
  replace h := nv_e h; obtain ⟨a7, ea7, h⟩ := h
  replace h := nv_e h; obtain ⟨M8, eM8, h⟩ := h
  refine g_newI2 (N := 80) hC ea7 eM8 ak_int (by decide) (by rw [hR]; exact ⟨(Nat.le_of_ble_eq_true rfl), (Nat.le_of_ble_eq_true rfl)⟩) dX7_init_23 ?_
  replace h := ob h; obtain ⟨M9, eM9, h⟩ := h
  refine g_putFR (v := (some a7)) hC eM9 fk_X7_18 (ow_7 rfl) (hnm.trans rfl) (Or.inr ⟨_, rfl⟩) rfl dX7_init_25 ?_
  refine g_aload_n hC 0 dX7_init_28 rfl ?_
  refine g_sipush hC 320 dX7_init_29 (by decide) ?_
  replace h := nv_e h; obtain ⟨a10, ea10, h⟩ := h
  replace h := nv_e h; obtain ⟨M11, eM11, h⟩ := h
  refine g_newI2 (N := 320) hC ea10 eM11 ak_int (by decide) (by rw [hR]; exact ⟨(Nat.le_of_ble_eq_true rfl), (Nat.le_of_ble_eq_true rfl)⟩) dX7_init_32 ?_
  replace h := ob h; obtain ⟨M12, eM12, h⟩ := h
  refine g_putFR (v := (some a10)) hC eM12 fk_X7_21 (ow_7 rfl) (hnm.trans rfl) (Or.inr ⟨_, rfl⟩) rfl dX7_init_34 ?_
  refine g_aload_n hC 0 dX7_init_37 rfl ?_
  refine g_sipush hC 320 dX7_init_38 (by decide) ?_
  replace h := nv_e h; obtain ⟨a13, ea13, h⟩ := h
  replace h := nv_e h; obtain ⟨M14, eM14, h⟩ := h
  refine g_newI2 (N := 320) hC ea13 eM14 ak_int (by decide) (by rw [hR]; exact ⟨(Nat.le_of_ble_eq_true rfl), (Nat.le_of_ble_eq_true rfl)⟩) dX7_init_41 ?_
  replace h := ob h; obtain ⟨M15, eM15, h⟩ := h
  refine g_putFR (v := (some a13)) hC eM15 fk_X7_24 (ow_7 rfl) (hnm.trans rfl) (Or.inr ⟨_, rfl⟩) rfl dX7_init_43 ?_
  refine g_aload_n hC 0 dX7_init_46 rfl ?_
  replace h := nv_e h; obtain ⟨a16, ea16, h⟩ := h
  replace h := nv_e h; obtain ⟨M17, eM17, h⟩ := h
  refine g_newO2 (n := 2) hC ea16 eM17 cl_9 rfl ck_X7_27.1 ck_X7_27.2.1 ck_X7_27.2.2 nd_9 (by rw [hR]; exact ⟨(Nat.le_of_ble_eq_true rfl), (Nat.le_of_ble_eq_true rfl)⟩) dX7_init_47 ?_
  refine g_dup hC dX7_init_50 rfl ?_
  replace h := ob h; obtain ⟨M18, eM18, h⟩ := h
  refine g_callv hC (r_IN hC (As := []) (c_X9_init _ Γ a16 M17 M18 eM18) yk_X9_init lk_X7_29 rfl rfl (Nat.le_of_ble_eq_true rfl) hR ⟨(Nat.le_of_ble_eq_true rfl), (Nat.le_of_ble_eq_true rfl)⟩ ⟨(Nat.le_of_ble_eq_true rfl), (Nat.le_of_ble_eq_true rfl)⟩ dX7_init_51) ?_
  replace h := ob h; obtain ⟨M19, eM19, h⟩ := h
  refine g_putFR (v := (some a16)) hC eM19 fk_X7_30 (ow_7 rfl) (hnm.trans rfl) (Or.inl ⟨_, rfl⟩) rfl dX7_init_54 ?_
  refine g_aload_n hC 0 dX7_init_57 rfl ?_
  replace h := nv_e h; obtain ⟨a20, ea20, h⟩ := h
  replace h := nv_e h; obtain ⟨M21, eM21, h⟩ := h
  refine g_newO2 (n := 2) hC ea20 eM21 cl_9 rfl ck_X7_27.1 ck_X7_27.2.1 ck_X7_27.2.2 nd_9 (by rw [hR]; exact ⟨(Nat.le_of_ble_eq_true rfl), (Nat.le_of_ble_eq_true rfl)⟩) dX7_init_58 ?_
  refine g_dup hC dX7_init_61 rfl ?_
  replace h := ob h; obtain ⟨M22, eM22, h⟩ := h
  refine g_callv hC (r_IN hC (As := []) (c_X9_init _ Γ a20 M21 M22 eM22) yk_X9_init lk_X7_29 rfl rfl (Nat.le_of_ble_eq_true rfl) hR ⟨(Nat.le_of_ble_eq_true rfl), (Nat.le_of_ble_eq_true rfl)⟩ ⟨(Nat.le_of_ble_eq_true rfl), (Nat.le_of_ble_eq_true rfl)⟩ dX7_init_62) ?_
  replace h := ob h; obtain ⟨M23, eM23, h⟩ := h
  refine g_putFR (v := (some a20)) hC eM23 fk_X7_34 (ow_7 rfl) (hnm.trans rfl) (Or.inl ⟨_, rfl⟩) rfl dX7_init_65 ?_
  refine g_aload_n hC 0 dX7_init_68 rfl ?_
  replace h := ob h; obtain ⟨v24, ev24, h⟩ := h
  refine g_getR hC ev24 fk_X7_9 rfl dX7_init_69 ?_
  refine g_iconst hC 4 dX7_init_72 (by decide) ?_
  replace h := ob h; obtain ⟨a25, ea25, h⟩ := h
  subst ea25
  replace h := ob h; obtain ⟨M26, eM26, h⟩ := h
  refine g_callv hC (r_S hC (As := [.ref a25, .int 4]) (c_J7_fill_53178 _ Γ a25 4 M23 M26 eM26) yk_J7_fill_53178 lk_X7_37 rfl rfl (Nat.le_of_ble_eq_true rfl) hR ⟨(Nat.le_of_ble_eq_true rfl), (Nat.le_of_ble_eq_true rfl)⟩ ⟨(Nat.le_of_ble_eq_true rfl), (Nat.le_of_ble_eq_true rfl)⟩ dX7_init_73) ?_
  refine g_aload_n hC 0 dX7_init_76 rfl ?_
  replace h := ob h; obtain ⟨v27, ev27, h⟩ := h
  refine g_getR hC ev27 fk_X7_18 rfl dX7_init_77 ?_
  refine g_bipush hC 50 dX7_init_80 (by decide) ?_
  replace h := ob h; obtain ⟨a28, ea28, h⟩ := h
  subst ea28
  replace h := ob h; obtain ⟨M29, eM29, h⟩ := h
  refine g_callv hC (r_S hC (As := [.ref a28, .int 50]) (c_J7_fill_53178 _ Γ a28 50 M26 M29 eM29) yk_J7_fill_53178 lk_X7_37 rfl rfl (Nat.le_of_ble_eq_true rfl) hR ⟨(Nat.le_of_ble_eq_true rfl), (Nat.le_of_ble_eq_true rfl)⟩ ⟨(Nat.le_of_ble_eq_true rfl), (Nat.le_of_ble_eq_true rfl)⟩ dX7_init_82) ?_
  exact g_vret hC h ⟨(Nat.le_of_ble_eq_true rfl), (Nat.le_of_ble_eq_true rfl)⟩ dX7_init_85

set_option maxHeartbeats 4000000 in
set_option maxRecDepth 100000 in
theorem c_X9_become (l : Launch) (Γ : Gm) (this : Nat) (p1 : Nat) (M M' : Mm) (h : F_X9_become this p1 M = some M') : Met l yX9_become (wz yX9_become cX9_become 2 none) ({ frames := 2, cells := 0, slots := 0, locals := 47 } : Room) (Pq Γ M [.ref this, .ref p1]) (Qv Γ M') 0 0 (fr Γ) := by
  refine met_of (own := RX9) (by decide +kernel) rfl (Nat.le_of_ble_eq_true rfl) ?_
  intro X hC hR hnm hXl
  unfold F_X9_become at h
  show G Γ X 2 M 0 0 _ 0 ([(0, .ref this), (1, .ref p1)]) []
  refine g_aload_n hC 1 dX9_become_0 rfl ?_
  replace h := ob h; obtain ⟨v1, ev1, h⟩ := h
  refine g_getR hC ev1 fk_X9_9 rfl dX9_become_1 ?_
  refine g_aload_n hC 0 dX9_become_4 rfl ?_
  replace h := ob h; obtain ⟨v2, ev2, h⟩ := h
  refine g_getR hC ev2 fk_X9_9 rfl dX9_become_5 ?_
  replace h := ob h; obtain ⟨a3, ea3, h⟩ := h
  subst ea3
  replace h := ob h; obtain ⟨a4, ea4, h⟩ := h
  subst ea4
  replace h := ob h; obtain ⟨M5, eM5, h⟩ := h
  refine g_callv hC (r_SN hC (As := [.ref a4, .ref a3]) (c_X11_copyAll _ Γ a4 a3 M M5 eM5) yk_X11_copyAll lk_X9_18 rfl rfl (Nat.le_of_ble_eq_true rfl) hR ⟨(Nat.le_of_ble_eq_true rfl), (Nat.le_of_ble_eq_true rfl)⟩ ⟨(Nat.le_of_ble_eq_true rfl), (Nat.le_of_ble_eq_true rfl)⟩ dX9_become_8) ?_
  refine g_aload_n hC 1 dX9_become_11 rfl ?_
  replace h := ob h; obtain ⟨v6, ev6, h⟩ := h
  refine g_getR hC ev6 fk_X9_15 rfl dX9_become_12 ?_
  refine g_aload_n hC 0 dX9_become_15 rfl ?_
  replace h := ob h; obtain ⟨v7, ev7, h⟩ := h
  refine g_getR hC ev7 fk_X9_15 rfl dX9_become_16 ?_
  replace h := ob h; obtain ⟨a8, ea8, h⟩ := h
  subst ea8
  replace h := ob h; obtain ⟨a9, ea9, h⟩ := h
  subst ea9
  replace h := ob h; obtain ⟨M10, eM10, h⟩ := h
  refine g_callv hC (r_SN hC (As := [.ref a9, .ref a8]) (c_X11_copyAll _ Γ a9 a8 M5 M10 eM10) yk_X11_copyAll lk_X9_18 rfl rfl (Nat.le_of_ble_eq_true rfl) hR ⟨(Nat.le_of_ble_eq_true rfl), (Nat.le_of_ble_eq_true rfl)⟩ ⟨(Nat.le_of_ble_eq_true rfl), (Nat.le_of_ble_eq_true rfl)⟩ dX9_become_19) ?_
  exact g_vret hC h ⟨(Nat.le_of_ble_eq_true rfl), (Nat.le_of_ble_eq_true rfl)⟩ dX9_become_22

set_option maxHeartbeats 4000000 in
set_option maxRecDepth 100000 in
theorem c_X7_become (l : Launch) (Γ : Gm) (this : Nat) (p1 : Nat) (M M' : Mm) (h : F_X7_become this p1 M = some M') : Met l yX7_become (wz yX7_become cX7_become 2 none) ({ frames := 3, cells := 0, slots := 0, locals := 68 } : Room) (Pq Γ M [.ref this, .ref p1]) (Qv Γ M') 0 0 (fr Γ) := by
  refine met_of (own := RX7) (by decide +kernel) rfl (Nat.le_of_ble_eq_true rfl) ?_
  intro X hC hR hnm hXl
  unfold F_X7_become at h
  show G Γ X 2 M 0 0 _ 0 ([(0, .ref this), (1, .ref p1)]) []
  refine g_aload_n hC 1 dX7_become_0 rfl ?_
  replace h := ob h; obtain ⟨v1, ev1, h⟩ := h
  refine g_getR hC ev1 fk_X7_9 rfl dX7_become_1 ?_
  refine g_aload_n hC 0 dX7_become_4 rfl ?_
  replace h := ob h; obtain ⟨v2, ev2, h⟩ := h
  refine g_getR hC ev2 fk_X7_9 rfl dX7_become_5 ?_
  replace h := ob h; obtain ⟨a3, ea3, h⟩ := h
  subst ea3
  replace h := ob h; obtain ⟨a4, ea4, h⟩ := h
  subst ea4
  replace h := ob h; obtain ⟨M5, eM5, h⟩ := h
  refine g_callv hC (r_SN hC (As := [.ref a4, .ref a3]) (c_X11_copyAll _ Γ a4 a3 M M5 eM5) yk_X11_copyAll lk_X7_43 rfl rfl (Nat.le_of_ble_eq_true rfl) hR ⟨(Nat.le_of_ble_eq_true rfl), (Nat.le_of_ble_eq_true rfl)⟩ ⟨(Nat.le_of_ble_eq_true rfl), (Nat.le_of_ble_eq_true rfl)⟩ dX7_become_8) ?_
  refine g_aload_n hC 1 dX7_become_11 rfl ?_
  replace h := ob h; obtain ⟨v6, ev6, h⟩ := h
  refine g_getR hC ev6 fk_X7_15 rfl dX7_become_12 ?_
  refine g_aload_n hC 0 dX7_become_15 rfl ?_
  replace h := ob h; obtain ⟨v7, ev7, h⟩ := h
  refine g_getR hC ev7 fk_X7_15 rfl dX7_become_16 ?_
  replace h := ob h; obtain ⟨a8, ea8, h⟩ := h
  subst ea8
  replace h := ob h; obtain ⟨a9, ea9, h⟩ := h
  subst ea9
  replace h := ob h; obtain ⟨M10, eM10, h⟩ := h
  refine g_callv hC (r_SN hC (As := [.ref a9, .ref a8]) (c_X11_copyAll _ Γ a9 a8 M5 M10 eM10) yk_X11_copyAll lk_X7_43 rfl rfl (Nat.le_of_ble_eq_true rfl) hR ⟨(Nat.le_of_ble_eq_true rfl), (Nat.le_of_ble_eq_true rfl)⟩ ⟨(Nat.le_of_ble_eq_true rfl), (Nat.le_of_ble_eq_true rfl)⟩ dX7_become_19) ?_
  refine g_aload_n hC 1 dX7_become_22 rfl ?_
  replace h := ob h; obtain ⟨v11, ev11, h⟩ := h
  refine g_getR hC ev11 fk_X7_18 rfl dX7_become_23 ?_
  refine g_aload_n hC 0 dX7_become_26 rfl ?_
  replace h := ob h; obtain ⟨v12, ev12, h⟩ := h
  refine g_getR hC ev12 fk_X7_18 rfl dX7_become_27 ?_
  replace h := ob h; obtain ⟨a13, ea13, h⟩ := h
  subst ea13
  replace h := ob h; obtain ⟨a14, ea14, h⟩ := h
  subst ea14
  replace h := ob h; obtain ⟨M15, eM15, h⟩ := h
  refine g_callv hC (r_SN hC (As := [.ref a14, .ref a13]) (c_X11_copyAll _ Γ a14 a13 M10 M15 eM15) yk_X11_copyAll lk_X7_43 rfl rfl (Nat.le_of_ble_eq_true rfl) hR ⟨(Nat.le_of_ble_eq_true rfl), (Nat.le_of_ble_eq_true rfl)⟩ ⟨(Nat.le_of_ble_eq_true rfl), (Nat.le_of_ble_eq_true rfl)⟩ dX7_become_30) ?_
  refine g_aload_n hC 1 dX7_become_33 rfl ?_
  replace h := ob h; obtain ⟨v16, ev16, h⟩ := h
  refine g_getR hC ev16 fk_X7_21 rfl dX7_become_34 ?_
  refine g_aload_n hC 0 dX7_become_37 rfl ?_
  replace h := ob h; obtain ⟨v17, ev17, h⟩ := h
  refine g_getR hC ev17 fk_X7_21 rfl dX7_become_38 ?_
  replace h := ob h; obtain ⟨a18, ea18, h⟩ := h
  subst ea18
  replace h := ob h; obtain ⟨a19, ea19, h⟩ := h
  subst ea19
  replace h := ob h; obtain ⟨M20, eM20, h⟩ := h
  refine g_callv hC (r_SN hC (As := [.ref a19, .ref a18]) (c_X11_copyAll _ Γ a19 a18 M15 M20 eM20) yk_X11_copyAll lk_X7_43 rfl rfl (Nat.le_of_ble_eq_true rfl) hR ⟨(Nat.le_of_ble_eq_true rfl), (Nat.le_of_ble_eq_true rfl)⟩ ⟨(Nat.le_of_ble_eq_true rfl), (Nat.le_of_ble_eq_true rfl)⟩ dX7_become_41) ?_
  refine g_aload_n hC 1 dX7_become_44 rfl ?_
  replace h := ob h; obtain ⟨v21, ev21, h⟩ := h
  refine g_getR hC ev21 fk_X7_24 rfl dX7_become_45 ?_
  refine g_aload_n hC 0 dX7_become_48 rfl ?_
  replace h := ob h; obtain ⟨v22, ev22, h⟩ := h
  refine g_getR hC ev22 fk_X7_24 rfl dX7_become_49 ?_
  replace h := ob h; obtain ⟨a23, ea23, h⟩ := h
  subst ea23
  replace h := ob h; obtain ⟨a24, ea24, h⟩ := h
  subst ea24
  replace h := ob h; obtain ⟨M25, eM25, h⟩ := h
  refine g_callv hC (r_SN hC (As := [.ref a24, .ref a23]) (c_X11_copyAll _ Γ a24 a23 M20 M25 eM25) yk_X11_copyAll lk_X7_43 rfl rfl (Nat.le_of_ble_eq_true rfl) hR ⟨(Nat.le_of_ble_eq_true rfl), (Nat.le_of_ble_eq_true rfl)⟩ ⟨(Nat.le_of_ble_eq_true rfl), (Nat.le_of_ble_eq_true rfl)⟩ dX7_become_52) ?_
  refine g_aload_n hC 0 dX7_become_55 rfl ?_
  replace h := ob h; obtain ⟨v26, ev26, h⟩ := h
  refine g_getR hC ev26 fk_X7_30 rfl dX7_become_56 ?_
  refine g_aload_n hC 1 dX7_become_59 rfl ?_
  replace h := ob h; obtain ⟨v27, ev27, h⟩ := h
  refine g_getR hC ev27 fk_X7_30 rfl dX7_become_60 ?_
  replace h := ob h; obtain ⟨a28, ea28, h⟩ := h
  subst ea28
  replace h := ob h; obtain ⟨a29, ea29, h⟩ := h
  subst ea29
  replace h := ob h; obtain ⟨_, eu31, h⟩ := h
  replace h := ob h; obtain ⟨M30, eM30, h⟩ := h
  refine g_callv hC (r_V hC (As := [.ref a28]) (c_X9_become _ Γ a29 a28 M25 M30 eM30) yk_X9_become lk_X7_47 eu31 ⟨_, rfl, rfl⟩ rfl rfl (Nat.le_of_ble_eq_true rfl) hR ⟨(Nat.le_of_ble_eq_true rfl), (Nat.le_of_ble_eq_true rfl)⟩ ⟨(Nat.le_of_ble_eq_true rfl), (Nat.le_of_ble_eq_true rfl)⟩ dX7_become_63) ?_
  refine g_aload_n hC 0 dX7_become_66 rfl ?_
  replace h := ob h; obtain ⟨v32, ev32, h⟩ := h
  refine g_getR hC ev32 fk_X7_34 rfl dX7_become_67 ?_
  refine g_aload_n hC 1 dX7_become_70 rfl ?_
  replace h := ob h; obtain ⟨v33, ev33, h⟩ := h
  refine g_getR hC ev33 fk_X7_34 rfl dX7_become_71 ?_
  replace h := ob h; obtain ⟨a34, ea34, h⟩ := h
  subst ea34
  replace h := ob h; obtain ⟨a35, ea35, h⟩ := h
  subst ea35
  replace h := ob h; obtain ⟨_, eu37, h⟩ := h
  replace h := ob h; obtain ⟨M36, eM36, h⟩ := h
  refine g_callv hC (r_V hC (As := [.ref a34]) (c_X9_become _ Γ a35 a34 M30 M36 eM36) yk_X9_become lk_X7_47 eu37 ⟨_, rfl, rfl⟩ rfl rfl (Nat.le_of_ble_eq_true rfl) hR ⟨(Nat.le_of_ble_eq_true rfl), (Nat.le_of_ble_eq_true rfl)⟩ ⟨(Nat.le_of_ble_eq_true rfl), (Nat.le_of_ble_eq_true rfl)⟩ dX7_become_74) ?_
  exact g_vret hC h ⟨(Nat.le_of_ble_eq_true rfl), (Nat.le_of_ble_eq_true rfl)⟩ dX7_become_77

set_option maxHeartbeats 4000000 in
set_option maxRecDepth 100000 in
theorem c_X7_cellRow (l : Launch) (Γ : Gm) (this : Nat) (p1 : Int32) (M M' : Mm) (r : Option Nat) (h : F_X7_cellRow this p1 M = some (r, M')) : Met l yX7_cellRow (wz yX7_cellRow cX7_cellRow 2 (some (.array .int))) ({ frames := 0, cells := 0, slots := 0, locals := 0 } : Room) (Pq Γ M [.ref this, .int p1]) (Qr Γ r M') 0 0 (fr Γ) := by
  refine met_of (own := RX7) (by decide +kernel) rfl (Nat.le_of_ble_eq_true rfl) ?_
  intro X hC hR hnm hXl
  unfold F_X7_cellRow at h
  show G Γ X 2 M 0 0 _ 0 ([(0, .ref this), (1, .int p1)]) []
  refine g_iload_n hC 1 dX7_cellRow_0 rfl ?_
  by_cases c1 : p1 = 0
  · replace h := it_t c1 h
    refine g_lkp (off := 27) hC 28 c1 dX7_cellRow_1 (by decide) ?_
    refine g_aload_n hC 0 dX7_cellRow_28 rfl ?_
    replace h := ob h; obtain ⟨v2, ev2, h⟩ := h
    refine g_getR hC ev2 fk_X7_9 rfl dX7_cellRow_29 ?_
    exact g_aret (v := v2) hC rfl (Or.inr ⟨_, rfl⟩) h ⟨(Nat.le_of_ble_eq_true rfl), (Nat.le_of_ble_eq_true rfl)⟩ dX7_cellRow_32
  replace h := it_f c1 h
  by_cases c3 : p1 = 1
  · replace h := it_t c3 h
    refine g_lkp (off := 32) hC 33 c3 dX7_cellRow_1 (by decide) ?_
    refine g_aload_n hC 0 dX7_cellRow_33 rfl ?_
    replace h := ob h; obtain ⟨v4, ev4, h⟩ := h
    refine g_getR hC ev4 fk_X7_15 rfl dX7_cellRow_34 ?_
    exact g_aret (v := v4) hC rfl (Or.inr ⟨_, rfl⟩) h ⟨(Nat.le_of_ble_eq_true rfl), (Nat.le_of_ble_eq_true rfl)⟩ dX7_cellRow_37
  replace h := it_f c3 h
  refine g_lookup hC 38 dX7_cellRow_1 (by decide) (lk_out _ (fun p hp => ?_)) (by decide) ?_
  · simp only [List.mem_cons, List.not_mem_nil, or_false] at hp
    rcases hp with rfl | rfl
    · exact ⟨by decide, c1⟩
    · exact ⟨by decide, c3⟩
  refine g_aload_n hC 0 dX7_cellRow_38 rfl ?_
  replace h := ob h; obtain ⟨v5, ev5, h⟩ := h
  refine g_getR hC ev5 fk_X7_18 rfl dX7_cellRow_39 ?_
  exact g_aret (v := v5) hC rfl (Or.inr ⟨_, rfl⟩) h ⟨(Nat.le_of_ble_eq_true rfl), (Nat.le_of_ble_eq_true rfl)⟩ dX7_cellRow_42

set_option maxHeartbeats 4000000 in
set_option maxRecDepth 100000 in
theorem c_X7_placeRow (l : Launch) (Γ : Gm) (this : Nat) (p1 : Int32) (M M' : Mm) (r : Option Nat) (h : F_X7_placeRow this p1 M = some (r, M')) : Met l yX7_placeRow (wz yX7_placeRow cX7_placeRow 2 (some (.array .int))) ({ frames := 0, cells := 0, slots := 0, locals := 0 } : Room) (Pq Γ M [.ref this, .int p1]) (Qr Γ r M') 0 0 (fr Γ) := by
  refine met_of (own := RX7) (by decide +kernel) rfl (Nat.le_of_ble_eq_true rfl) ?_
  intro X hC hR hnm hXl
  unfold F_X7_placeRow at h
  show G Γ X 2 M 0 0 _ 0 ([(0, .ref this), (1, .int p1)]) []
  refine g_iload_n hC 1 dX7_placeRow_0 rfl ?_
  by_cases c1 : p1 = 3
  · replace h := it_t c1 h
    refine g_tbl (off := 35) hC 36 c1 dX7_placeRow_1 (by decide) ?_
    refine g_aload_n hC 0 dX7_placeRow_36 rfl ?_
    replace h := ob h; obtain ⟨v2, ev2, h⟩ := h
    refine g_getR hC ev2 fk_X7_30 rfl dX7_placeRow_37 ?_
    replace h := ob h; obtain ⟨a3, ea3, h⟩ := h
    subst ea3
    replace h := ob h; obtain ⟨v4, ev4, h⟩ := h
    refine g_getR hC ev4 fk_X7_51 rfl dX7_placeRow_40 ?_
    exact g_aret (v := v4) hC rfl (Or.inr ⟨_, rfl⟩) h ⟨(Nat.le_of_ble_eq_true rfl), (Nat.le_of_ble_eq_true rfl)⟩ dX7_placeRow_43
  replace h := it_f c1 h
  by_cases c5 : p1 = 4
  · replace h := it_t c5 h
    refine g_tbl (off := 43) hC 44 c5 dX7_placeRow_1 (by decide) ?_
    refine g_aload_n hC 0 dX7_placeRow_44 rfl ?_
    replace h := ob h; obtain ⟨v6, ev6, h⟩ := h
    refine g_getR hC ev6 fk_X7_30 rfl dX7_placeRow_45 ?_
    replace h := ob h; obtain ⟨a7, ea7, h⟩ := h
    subst ea7
    replace h := ob h; obtain ⟨v8, ev8, h⟩ := h
    refine g_getR hC ev8 fk_X7_54 rfl dX7_placeRow_48 ?_
    exact g_aret (v := v8) hC rfl (Or.inr ⟨_, rfl⟩) h ⟨(Nat.le_of_ble_eq_true rfl), (Nat.le_of_ble_eq_true rfl)⟩ dX7_placeRow_51
  replace h := it_f c5 h
  by_cases c9 : p1 = 5
  · replace h := it_t c9 h
    refine g_tbl (off := 51) hC 52 c9 dX7_placeRow_1 (by decide) ?_
    refine g_aload_n hC 0 dX7_placeRow_52 rfl ?_
    replace h := ob h; obtain ⟨v10, ev10, h⟩ := h
    refine g_getR hC ev10 fk_X7_34 rfl dX7_placeRow_53 ?_
    replace h := ob h; obtain ⟨a11, ea11, h⟩ := h
    subst ea11
    replace h := ob h; obtain ⟨v12, ev12, h⟩ := h
    refine g_getR hC ev12 fk_X7_51 rfl dX7_placeRow_56 ?_
    exact g_aret (v := v12) hC rfl (Or.inr ⟨_, rfl⟩) h ⟨(Nat.le_of_ble_eq_true rfl), (Nat.le_of_ble_eq_true rfl)⟩ dX7_placeRow_59
  replace h := it_f c9 h
  by_cases c13 : p1 = 6
  · replace h := it_t c13 h
    refine g_tbl (off := 59) hC 60 c13 dX7_placeRow_1 (by decide) ?_
    refine g_aload_n hC 0 dX7_placeRow_60 rfl ?_
    replace h := ob h; obtain ⟨v14, ev14, h⟩ := h
    refine g_getR hC ev14 fk_X7_34 rfl dX7_placeRow_61 ?_
    replace h := ob h; obtain ⟨a15, ea15, h⟩ := h
    subst ea15
    replace h := ob h; obtain ⟨v16, ev16, h⟩ := h
    refine g_getR hC ev16 fk_X7_54 rfl dX7_placeRow_64 ?_
    exact g_aret (v := v16) hC rfl (Or.inr ⟨_, rfl⟩) h ⟨(Nat.le_of_ble_eq_true rfl), (Nat.le_of_ble_eq_true rfl)⟩ dX7_placeRow_67
  replace h := it_f c13 h
  by_cases c17 : p1 = 7
  · replace h := it_t c17 h
    refine g_tbl (off := 67) hC 68 c17 dX7_placeRow_1 (by decide) ?_
    refine g_aload_n hC 0 dX7_placeRow_68 rfl ?_
    replace h := ob h; obtain ⟨v18, ev18, h⟩ := h
    refine g_getR hC ev18 fk_X7_21 rfl dX7_placeRow_69 ?_
    exact g_aret (v := v18) hC rfl (Or.inr ⟨_, rfl⟩) h ⟨(Nat.le_of_ble_eq_true rfl), (Nat.le_of_ble_eq_true rfl)⟩ dX7_placeRow_72
  replace h := it_f c17 h
  refine g_tbd (n := 5) hC 73 (fun j hj => ?_) (by decide) dX7_placeRow_1 (by decide) ?_
  · match j, hj with
    | 0, _ => exact c1
    | 1, _ => exact c5
    | 2, _ => exact c9
    | 3, _ => exact c13
    | 4, _ => exact c17
    | j + 5, hj => exact absurd hj (by omega)
  refine g_aload_n hC 0 dX7_placeRow_73 rfl ?_
  replace h := ob h; obtain ⟨v19, ev19, h⟩ := h
  refine g_getR hC ev19 fk_X7_24 rfl dX7_placeRow_74 ?_
  exact g_aret (v := v19) hC rfl (Or.inr ⟨_, rfl⟩) h ⟨(Nat.le_of_ble_eq_true rfl), (Nat.le_of_ble_eq_true rfl)⟩ dX7_placeRow_77

set_option maxHeartbeats 4000000 in
set_option maxRecDepth 100000 in
theorem c_X11_changeAt (l : Launch) (Γ : Gm) (p1 : Nat) (p2 : Int32) (p3 : Int32) (M M' : Mm) (r : Int32) (h : F_X11_changeAt p1 p2 p3 M = some (r, M')) : Met l yX11_changeAt (wz yX11_changeAt cX11_changeAt 4 (some .int)) ({ frames := 0, cells := 0, slots := 0, locals := 0 } : Room) (Pq Γ M [.ref p1, .int p2, .int p3]) (Qi Γ r M') 0 0 (fr Γ) := by
  refine met_of (own := RX11) (by decide +kernel) rfl (Nat.le_of_ble_eq_true rfl) ?_
  intro X hC hR hnm hXl
  unfold F_X11_changeAt at h
  show G Γ X 4 M 0 0 _ 0 ([(0, .ref p1), (1, .int p2), (2, .int p3)]) []
  refine g_aload_n hC 0 dX11_changeAt_0 rfl ?_
  refine g_iload_n hC 1 dX11_changeAt_1 rfl ?_
  replace h := ob h; obtain ⟨v1, ev1, h⟩ := h
  refine g_iald hC ev1 dX11_changeAt_2 ?_
  refine g_istore_n hC ([(3, .int v1), (0, .ref p1), (1, .int p2), (2, .int p3)]) dX11_changeAt_3 (by decide) rfl ?_
  refine g_aload_n hC 1 dX11_changeAt_4 rfl ?_
  refine g_iload_n hC 2 dX11_changeAt_5 rfl ?_
  refine g_iload_n hC 3 dX11_changeAt_6 rfl ?_
  replace h := ob h; obtain ⟨M2, eM2, h⟩ := h
  refine g_iast hC eM2 dX11_changeAt_7 ?_
  refine g_iload_n hC 0 dX11_changeAt_8 rfl ?_
  refine g_iload_n hC 3 dX11_changeAt_9 rfl ?_
  refine g_icmp_ne hC 17 dX11_changeAt_10 (by decide) (fun c3 => ?_) (fun c3 => ?_)
  · replace h := it_f c3 h
    refine g_iconst hC 1 dX11_changeAt_17 (by decide) ?_
    exact g_iret hC h ⟨(Nat.le_of_ble_eq_true rfl), (Nat.le_of_ble_eq_true rfl)⟩ dX11_changeAt_18
  · replace h := it_t c3 h
    refine g_iconst hC 0 dX11_changeAt_13 (by decide) ?_
    refine g_goto hC 18 dX11_changeAt_14 (by decide) ?_
    exact g_iret hC h ⟨(Nat.le_of_ble_eq_true rfl), (Nat.le_of_ble_eq_true rfl)⟩ dX11_changeAt_18

set_option maxHeartbeats 4000000 in
set_option maxRecDepth 100000 in
theorem l_X7_change_L31 {Γ : Gm} {X : Ct} (hC : Cx Γ X cX7_change RX7 (some .int) 10) (hR : X.2.2.2.1 = ({ frames := 1, cells := 0, slots := 0, locals := 23 } : Room)) (r : Int32) (M' : Mm) (k105 : Int32 → Mm → Option (Int32 × Mm)) (x0 : Nat) (x1 : Int32) (x2 : Int32) (x3 : Int32) (x4 : Int32) (x5 : Option Nat) (x7 : Int32) (hk105 : ∀ (y6 : Int32) (M1 : Mm), k105 y6 M1 = some (r, M') → G Γ X 10 M1 0 0 (Fin Γ X (Qi Γ r M') 0 0) 105 ([(0, .ref x0), (1, .int x1), (2, .int x2), (3, .int x3), (4, .int x4), (5, va_rf x5), (6, .int y6), (7, .int x7)]) []) : ∀ (fu : Nat) (x6 : Int32) (x8 : Int32) (M0 : Mm), F_X7_change_L31 k105 x0 x1 x2 x3 x4 x5 x7 fu x6 x8 M0 = some (r, M') → G Γ X 10 M0 0 0 (Fin Γ X (Qi Γ r M') 0 0) 31 ([(0, .ref x0), (1, .int x1), (2, .int x2), (3, .int x3), (4, .int x4), (5, va_rf x5), (7, .int x7), (6, .int x6), (8, .int x8)]) [] := by
  intro fu
  induction fu with
  | zero =>
    intro x6 x8 M0 h
    rw [F_X7_change_L31] at h
    cases h
  | succ n9 ih =>
    intro x6 x8 M0 h
    rw [F_X7_change_L31] at h
    refine g_iload hC 8 dX7_change_31 rfl ?_
    refine g_iload_n hC 2 dX7_change_33 rfl ?_
    refine g_bipush hC 10 dX7_change_34 (by decide) ?_
    replace h := ob h; obtain ⟨v10, ev10, h⟩ := h
    refine g_irem hC ev10 dX7_change_36 ?_
    refine g_icmp_gt hC 105 dX7_change_37 (by decide) (fun c11 => ?_) (fun c11 => ?_)
    · replace h := it_t c11 h
      refine g_sub [0, 1, 2, 3, 4, 5, 7, 6] rfl ?_
      exact hk105 x6 M0 h
    · replace h := it_f c11 h
      refine g_iload hC 6 dX7_change_40 rfl ?_
      refine g_iload hC 8 dX7_change_42 rfl ?_
      replace h := ob h; obtain ⟨⟨v13, M12⟩, eM12, h⟩ := h
      refine g_calli hC (r_SN hC (As := [.int x7, .int x8]) (c_X11_cellOf _ Γ x7 x8 M0 M12 v13 eM12) yk_X11_cellOf lk_X7_61 rfl rfl (Nat.le_of_ble_eq_true rfl) hR ⟨(Nat.le_of_ble_eq_true rfl), (Nat.le_of_ble_eq_true rfl)⟩ ⟨(Nat.le_of_ble_eq_true rfl), (Nat.le_of_ble_eq_true rfl)⟩ dX7_change_44) ?_
      refine g_istore hC ([(9, .int v13), (0, .ref x0), (1, .int x1), (2, .int x2), (3, .int x3), (4, .int x4), (5, va_rf x5), (7, .int x7), (6, .int x6), (8, .int x8)]) dX7_change_47 (by decide) rfl ?_
      refine g_iload_n hC 4 dX7_change_49 rfl ?_
      refine g_iconst hC 2 dX7_change_50 (by decide) ?_
      refine g_icmp_ne hC 67 dX7_change_51 (by decide) (fun c14 => ?_) (fun c14 => ?_)
      · replace h := it_f c14 h
        refine g_iload hC 8 dX7_change_67 rfl ?_
        refine g_aloadq hC 6 (x := x5) dX7_change_69 rfl ?_
        refine g_iload hC 0 dX7_change_71 rfl ?_
        refine g_iload hC 5 dX7_change_73 rfl ?_
        replace h := ob h; obtain ⟨a15, ea15, h⟩ := h
        subst ea15
        replace h := ob h; obtain ⟨⟨v17, M16⟩, eM16, h⟩ := h
        refine g_calli hC (r_SN hC (As := [.ref a15, .int v13, .int x4]) (c_X11_changeAt _ Γ a15 v13 x4 M12 M16 v17 eM16) yk_X11_changeAt lk_X7_65 rfl rfl (Nat.le_of_ble_eq_true rfl) hR ⟨(Nat.le_of_ble_eq_true rfl), (Nat.le_of_ble_eq_true rfl)⟩ ⟨(Nat.le_of_ble_eq_true rfl), (Nat.le_of_ble_eq_true rfl)⟩ dX7_change_75) ?_
        refine g_iadd hC dX7_change_78 ?_
        refine g_istore hC ([(6, .int (x6 + v17)), (9, .int v13), (0, .ref x0), (1, .int x1), (2, .int x2), (3, .int x3), (4, .int x4), (5, .ref a15), (7, .int x7), (8, .int x8)]) dX7_change_79 (by decide) rfl ?_
        refine g_aload_n hC 2 dX7_change_81 rfl ?_
        replace h := ob h; obtain ⟨v18, ev18, h⟩ := h
        refine g_getR hC ev18 fk_X7_9 rfl dX7_change_82 ?_
        refine g_iload hC 1 dX7_change_85 rfl ?_
        replace h := ob h; obtain ⟨a20, ea20, h⟩ := h
        subst ea20
        replace h := ob h; obtain ⟨v19, ev19, h⟩ := h
        refine g_iald hC ev19 dX7_change_87 ?_
        refine g_if_ne hC 99 dX7_change_88 (by decide) (fun c21 => ?_) (fun c21 => ?_)
        · replace h := it_f c21 h
          refine g_iinc hC 9 (x8 + 1) ([(8, .int (x8 + 1)), (6, .int (x6 + v17)), (9, .int v13), (0, .ref x0), (1, .int x1), (2, .int x2), (3, .int x3), (4, .int x4), (5, .ref a15), (7, .int x7)]) dX7_change_99 rfl rfl (by decide) rfl ?_
          refine g_goto hC 31 dX7_change_102 (by decide) ?_
          refine g_sub [3, 4, 5, 6, 7, 8, 9, 1, 0] rfl ?_
          exact ih (x6 + v17) (x8 + 1) M16 h
        · replace h := it_t c21 h
          refine g_aload_n hC 2 dX7_change_91 rfl ?_
          replace h := ob h; obtain ⟨v22, ev22, h⟩ := h
          refine g_getR hC ev22 fk_X7_18 rfl dX7_change_92 ?_
          refine g_iload hC 1 dX7_change_95 rfl ?_
          refine g_iconst hC 0 dX7_change_97 (by decide) ?_
          replace h := ob h; obtain ⟨a24, ea24, h⟩ := h
          subst ea24
          replace h := ob h; obtain ⟨M23, eM23, h⟩ := h
          refine g_iast hC eM23 dX7_change_98 ?_
          refine g_iinc hC 9 (x8 + 1) ([(8, .int (x8 + 1)), (6, .int (x6 + v17)), (9, .int v13), (0, .ref x0), (1, .int x1), (2, .int x2), (3, .int x3), (4, .int x4), (5, .ref a15), (7, .int x7)]) dX7_change_99 rfl rfl (by decide) rfl ?_
          refine g_goto hC 31 dX7_change_102 (by decide) ?_
          refine g_sub [3, 4, 5, 6, 7, 8, 9, 1, 0] rfl ?_
          exact ih (x6 + v17) (x8 + 1) M23 h
      · replace h := it_t c14 h
        refine g_aload_n hC 1 dX7_change_54 rfl ?_
        replace h := ob h; obtain ⟨v25, ev25, h⟩ := h
        refine g_getR hC ev25 fk_X7_9 rfl dX7_change_55 ?_
        refine g_iload hC 0 dX7_change_58 rfl ?_
        replace h := ob h; obtain ⟨a27, ea27, h⟩ := h
        subst ea27
        replace h := ob h; obtain ⟨v26, ev26, h⟩ := h
        refine g_iald hC ev26 dX7_change_60 ?_
        refine g_if_ne hC 67 dX7_change_61 (by decide) (fun c28 => ?_) (fun c28 => ?_)
        · replace h := it_f c28 h
          refine g_iload hC 8 dX7_change_67 rfl ?_
          refine g_aloadq hC 6 (x := x5) dX7_change_69 rfl ?_
          refine g_iload hC 0 dX7_change_71 rfl ?_
          refine g_iload hC 5 dX7_change_73 rfl ?_
          replace h := ob h; obtain ⟨a29, ea29, h⟩ := h
          subst ea29
          replace h := ob h; obtain ⟨⟨v31, M30⟩, eM30, h⟩ := h
          refine g_calli hC (r_SN hC (As := [.ref a29, .int v13, .int x4]) (c_X11_changeAt _ Γ a29 v13 x4 M12 M30 v31 eM30) yk_X11_changeAt lk_X7_65 rfl rfl (Nat.le_of_ble_eq_true rfl) hR ⟨(Nat.le_of_ble_eq_true rfl), (Nat.le_of_ble_eq_true rfl)⟩ ⟨(Nat.le_of_ble_eq_true rfl), (Nat.le_of_ble_eq_true rfl)⟩ dX7_change_75) ?_
          refine g_iadd hC dX7_change_78 ?_
          refine g_istore hC ([(6, .int (x6 + v31)), (9, .int v13), (0, .ref x0), (1, .int x1), (2, .int x2), (3, .int x3), (4, .int x4), (5, .ref a29), (7, .int x7), (8, .int x8)]) dX7_change_79 (by decide) rfl ?_
          refine g_aload_n hC 2 dX7_change_81 rfl ?_
          replace h := ob h; obtain ⟨v32, ev32, h⟩ := h
          refine g_getR hC ev32 fk_X7_9 rfl dX7_change_82 ?_
          refine g_iload hC 1 dX7_change_85 rfl ?_
          replace h := ob h; obtain ⟨a34, ea34, h⟩ := h
          subst ea34
          replace h := ob h; obtain ⟨v33, ev33, h⟩ := h
          refine g_iald hC ev33 dX7_change_87 ?_
          refine g_if_ne hC 99 dX7_change_88 (by decide) (fun c35 => ?_) (fun c35 => ?_)
          · replace h := it_f c35 h
            refine g_iinc hC 9 (x8 + 1) ([(8, .int (x8 + 1)), (6, .int (x6 + v31)), (9, .int v13), (0, .ref x0), (1, .int x1), (2, .int x2), (3, .int x3), (4, .int x4), (5, .ref a29), (7, .int x7)]) dX7_change_99 rfl rfl (by decide) rfl ?_
            refine g_goto hC 31 dX7_change_102 (by decide) ?_
            refine g_sub [3, 4, 5, 6, 7, 8, 9, 1, 0] rfl ?_
            exact ih (x6 + v31) (x8 + 1) M30 h
          · replace h := it_t c35 h
            refine g_aload_n hC 2 dX7_change_91 rfl ?_
            replace h := ob h; obtain ⟨v36, ev36, h⟩ := h
            refine g_getR hC ev36 fk_X7_18 rfl dX7_change_92 ?_
            refine g_iload hC 1 dX7_change_95 rfl ?_
            refine g_iconst hC 0 dX7_change_97 (by decide) ?_
            replace h := ob h; obtain ⟨a38, ea38, h⟩ := h
            subst ea38
            replace h := ob h; obtain ⟨M37, eM37, h⟩ := h
            refine g_iast hC eM37 dX7_change_98 ?_
            refine g_iinc hC 9 (x8 + 1) ([(8, .int (x8 + 1)), (6, .int (x6 + v31)), (9, .int v13), (0, .ref x0), (1, .int x1), (2, .int x2), (3, .int x3), (4, .int x4), (5, .ref a29), (7, .int x7)]) dX7_change_99 rfl rfl (by decide) rfl ?_
            refine g_goto hC 31 dX7_change_102 (by decide) ?_
            refine g_sub [3, 4, 5, 6, 7, 8, 9, 1, 0] rfl ?_
            exact ih (x6 + v31) (x8 + 1) M37 h
        · replace h := it_t c28 h
          refine g_goto hC 99 dX7_change_64 (by decide) ?_
          refine g_iinc hC 9 (x8 + 1) ([(8, .int (x8 + 1)), (9, .int v13), (0, .ref x0), (1, .int x1), (2, .int x2), (3, .int x3), (4, .int x4), (5, va_rf x5), (7, .int x7), (6, .int x6)]) dX7_change_99 rfl rfl (by decide) rfl ?_
          refine g_goto hC 31 dX7_change_102 (by decide) ?_
          refine g_sub [2, 3, 4, 5, 6, 7, 8, 9, 0] rfl ?_
          exact ih x6 (x8 + 1) M12 h
set_option maxHeartbeats 4000000 in
set_option maxRecDepth 100000 in
theorem l_X7_change_L16 {Γ : Gm} {X : Ct} (hC : Cx Γ X cX7_change RX7 (some .int) 10) (hR : X.2.2.2.1 = ({ frames := 1, cells := 0, slots := 0, locals := 23 } : Room)) (r : Int32) (M' : Mm)  (x0 : Nat) (x1 : Int32) (x2 : Int32) (x3 : Int32) (x4 : Int32) (x5 : Option Nat) : ∀ (fu : Nat) (x6 : Int32) (x7 : Int32) (M0 : Mm), F_X7_change_L16 x0 x1 x2 x3 x4 x5 fu x6 x7 M0 = some (r, M') → G Γ X 10 M0 0 0 (Fin Γ X (Qi Γ r M') 0 0) 16 ([(0, .ref x0), (1, .int x1), (2, .int x2), (3, .int x3), (4, .int x4), (5, va_rf x5), (6, .int x6), (7, .int x7)]) [] := by
  intro fu
  induction fu with
  | zero =>
    intro x6 x7 M0 h
    rw [F_X7_change_L16] at h
    cases h
  | succ n5 ih =>
    intro x6 x7 M0 h
    rw [F_X7_change_L16] at h
    refine g_iload hC 7 dX7_change_16 rfl ?_
    refine g_iload_n hC 1 dX7_change_18 rfl ?_
    refine g_bipush hC 10 dX7_change_19 (by decide) ?_
    replace h := ob h; obtain ⟨v6, ev6, h⟩ := h
    refine g_irem hC ev6 dX7_change_21 ?_
    refine g_icmp_gt hC 111 dX7_change_22 (by decide) (fun c7 => ?_) (fun c7 => ?_)
    · replace h := it_t c7 h
      refine g_iload hC 6 dX7_change_111 rfl ?_
      exact g_iret hC h ⟨(Nat.le_of_ble_eq_true rfl), (Nat.le_of_ble_eq_true rfl)⟩ dX7_change_113
    · replace h := it_f c7 h
      refine g_iload_n hC 2 dX7_change_25 rfl ?_
      refine g_bipush hC 10 dX7_change_26 (by decide) ?_
      replace h := ob h; obtain ⟨v8, ev8, h⟩ := h
      refine g_idiv hC ev8 dX7_change_28 ?_
      refine g_istore hC ([(8, .int v8), (0, .ref x0), (1, .int x1), (2, .int x2), (3, .int x3), (4, .int x4), (5, va_rf x5), (6, .int x6), (7, .int x7)]) dX7_change_29 (by decide) rfl ?_
      refine g_sub [1, 2, 3, 4, 5, 6, 8, 7, 0] rfl ?_
      refine l_X7_change_L31 hC hR r M' _ _ _ _ _ _ _ _ ?_ _ _ _ _ h
      intro y39 M40 h
      refine g_iinc hC 7 (x7 + 1) ([(7, .int (x7 + 1)), (0, .ref x0), (1, .int x1), (2, .int x2), (3, .int x3), (4, .int x4), (5, va_rf x5), (6, .int y39)]) dX7_change_105 rfl rfl (by decide) rfl ?_
      refine g_goto hC 16 dX7_change_108 (by decide) ?_
      refine g_sub [1, 2, 3, 4, 5, 6, 7, 0] rfl ?_
      exact ih y39 (x7 + 1) M40 h
set_option maxHeartbeats 4000000 in
set_option maxRecDepth 100000 in
theorem c_X7_change (l : Launch) (Γ : Gm) (this : Nat) (p1 : Int32) (p2 : Int32) (p3 : Int32) (p4 : Int32) (M M' : Mm) (r : Int32) (h : F_X7_change this p1 p2 p3 p4 M = some (r, M')) : Met l yX7_change (wz yX7_change cX7_change 10 (some .int)) ({ frames := 1, cells := 0, slots := 0, locals := 23 } : Room) (Pq Γ M [.ref this, .int p1, .int p2, .int p3, .int p4]) (Qi Γ r M') 0 0 (fr Γ) := by
  refine met_of (own := RX7) (by decide +kernel) rfl (Nat.le_of_ble_eq_true rfl) ?_
  intro X hC hR hnm hXl
  unfold F_X7_change at h
  show G Γ X 10 M 0 0 _ 0 ([(0, .ref this), (1, .int p1), (2, .int p2), (3, .int p3), (4, .int p4)]) []
  refine g_aload_n hC 0 dX7_change_0 rfl ?_
  refine g_iload_n hC 3 dX7_change_1 rfl ?_
  replace h := ob h; obtain ⟨_, eu2, h⟩ := h
  replace h := ob h; obtain ⟨⟨v3, M1⟩, eM1, h⟩ := h
  refine g_callr hC (r_V hC (As := [.int p3]) (c_X7_cellRow _ Γ this p3 M M1 v3 eM1) yk_X7_cellRow lk_X7_57 eu2 ⟨_, rfl, rfl⟩ rfl rfl (Nat.le_of_ble_eq_true rfl) hR ⟨(Nat.le_of_ble_eq_true rfl), (Nat.le_of_ble_eq_true rfl)⟩ ⟨(Nat.le_of_ble_eq_true rfl), (Nat.le_of_ble_eq_true rfl)⟩ dX7_change_2) ?_
  refine g_astoreq hC (x := v3) ([(5, va_rf v3), (0, .ref this), (1, .int p1), (2, .int p2), (3, .int p3), (4, .int p4)]) dX7_change_5 (by decide) rfl ?_
  refine g_iconst hC 0 dX7_change_7 (by decide) ?_
  refine g_istore hC ([(6, .int 0), (5, va_rf v3), (0, .ref this), (1, .int p1), (2, .int p2), (3, .int p3), (4, .int p4)]) dX7_change_8 (by decide) (by simp [cat_rf]) ?_
  refine g_iload_n hC 3 dX7_change_10 rfl ?_
  refine g_bipush hC 10 dX7_change_11 (by decide) ?_
  replace h := ob h; obtain ⟨v4, ev4, h⟩ := h
  refine g_idiv hC ev4 dX7_change_13 ?_
  refine g_istore hC ([(7, .int v4), (6, .int 0), (5, va_rf v3), (0, .ref this), (1, .int p1), (2, .int p2), (3, .int p3), (4, .int p4)]) dX7_change_14 (by decide) rfl ?_
  refine g_sub [3, 4, 5, 6, 7, 2, 1, 0] rfl ?_
  refine l_X7_change_L16 hC hR r M'  _ _ _ _ _ _  _ _ _ _ h

set_option maxHeartbeats 4000000 in
set_option maxRecDepth 100000 in
theorem l_X7_lessenDoubt_L9 {Γ : Gm} {X : Ct} (hC : Cx Γ X cX7_lessenDoubt RX7 none 4) (hR : X.2.2.2.1 = ({ frames := 2, cells := 0, slots := 0, locals := 45 } : Room)) (M' : Mm)  (x0 : Nat) (x1 : Int32) : ∀ (fu : Nat) (x2 : Int32) (M0 : Mm), F_X7_lessenDoubt_L9 x0 x1 fu x2 M0 = some M' → G Γ X 4 M0 0 0 (Fin Γ X (Qv Γ M') 0 0) 9 ([(0, .ref x0), (1, .int x1), (2, .int x2)]) [] := by
  intro fu
  induction fu with
  | zero =>
    intro x2 M0 h
    rw [F_X7_lessenDoubt_L9] at h
    cases h
  | succ n4 ih =>
    intro x2 M0 h
    rw [F_X7_lessenDoubt_L9] at h
    refine g_iload_n hC 2 dX7_lessenDoubt_9 rfl ?_
    refine g_iconst hC 5 dX7_lessenDoubt_10 (by decide) ?_
    refine g_icmp_ge hC 41 dX7_lessenDoubt_11 (by decide) (fun c5 => ?_) (fun c5 => ?_)
    · replace h := it_t c5 h
      exact g_vret hC h ⟨(Nat.le_of_ble_eq_true rfl), (Nat.le_of_ble_eq_true rfl)⟩ dX7_lessenDoubt_41
    · replace h := it_f c5 h
      refine g_aload_n hC 0 dX7_lessenDoubt_14 rfl ?_
      refine g_iload_n hC 1 dX7_lessenDoubt_15 rfl ?_
      refine g_iload_n hC 2 dX7_lessenDoubt_16 rfl ?_
      replace h := ob h; obtain ⟨_, eu7, h⟩ := h
      replace h := ob h; obtain ⟨⟨v8, M6⟩, eM6, h⟩ := h
      refine g_calli hC (r_V hC (As := [.int x1, .int x2]) (c_X7_beside _ Γ x0 x1 x2 M0 M6 v8 eM6) yk_X7_beside lk_X7_95 eu7 ⟨_, rfl, rfl⟩ rfl rfl (Nat.le_of_ble_eq_true rfl) hR ⟨(Nat.le_of_ble_eq_true rfl), (Nat.le_of_ble_eq_true rfl)⟩ ⟨(Nat.le_of_ble_eq_true rfl), (Nat.le_of_ble_eq_true rfl)⟩ dX7_lessenDoubt_17) ?_
      refine g_istore_n hC ([(3, .int v8), (0, .ref x0), (1, .int x1), (2, .int x2)]) dX7_lessenDoubt_20 (by decide) rfl ?_
      refine g_iload_n hC 0 dX7_lessenDoubt_21 rfl ?_
      refine g_if_lt hC 35 dX7_lessenDoubt_22 (by decide) (fun c9 => ?_) (fun c9 => ?_)
      · replace h := it_t c9 h
        refine g_iinc hC 3 (x2 + 1) ([(2, .int (x2 + 1)), (3, .int v8), (0, .ref x0), (1, .int x1)]) dX7_lessenDoubt_35 rfl rfl (by decide) rfl ?_
        refine g_goto hC 9 dX7_lessenDoubt_38 (by decide) ?_
        refine g_sub [2, 3, 0] rfl ?_
        exact ih (x2 + 1) M6 h
      · replace h := it_f c9 h
        refine g_aload_n hC 1 dX7_lessenDoubt_25 rfl ?_
        replace h := ob h; obtain ⟨v10, ev10, h⟩ := h
        refine g_getR hC ev10 fk_X7_18 rfl dX7_lessenDoubt_26 ?_
        refine g_iload_n hC 0 dX7_lessenDoubt_29 rfl ?_
        refine g_dup2 hC dX7_lessenDoubt_30 rfl (cat_rf _) ?_
        replace h := ob h; obtain ⟨a12, ea12, h⟩ := h
        subst ea12
        replace h := ob h; obtain ⟨v11, ev11, h⟩ := h
        refine g_iald hC ev11 dX7_lessenDoubt_31 ?_
        refine g_iconst hC 2 dX7_lessenDoubt_32 (by decide) ?_
        replace h := ob h; obtain ⟨v13, ev13, h⟩ := h
        refine g_idiv hC ev13 dX7_lessenDoubt_33 ?_
        replace h := ob h; obtain ⟨M14, eM14, h⟩ := h
        refine g_iast hC eM14 dX7_lessenDoubt_34 ?_
        refine g_iinc hC 3 (x2 + 1) ([(2, .int (x2 + 1)), (3, .int v8), (0, .ref x0), (1, .int x1)]) dX7_lessenDoubt_35 rfl rfl (by decide) rfl ?_
        refine g_goto hC 9 dX7_lessenDoubt_38 (by decide) ?_
        refine g_sub [2, 3, 0] rfl ?_
        exact ih (x2 + 1) M14 h
set_option maxHeartbeats 4000000 in
set_option maxRecDepth 100000 in
theorem c_X7_lessenDoubt (l : Launch) (Γ : Gm) (this : Nat) (p1 : Int32) (M M' : Mm) (h : F_X7_lessenDoubt this p1 M = some M') : Met l yX7_lessenDoubt (wz yX7_lessenDoubt cX7_lessenDoubt 4 none) ({ frames := 2, cells := 0, slots := 0, locals := 45 } : Room) (Pq Γ M [.ref this, .int p1]) (Qv Γ M') 0 0 (fr Γ) := by
  refine met_of (own := RX7) (by decide +kernel) rfl (Nat.le_of_ble_eq_true rfl) ?_
  intro X hC hR hnm hXl
  unfold F_X7_lessenDoubt at h
  show G Γ X 4 M 0 0 _ 0 ([(0, .ref this), (1, .int p1)]) []
  refine g_aload_n hC 0 dX7_lessenDoubt_0 rfl ?_
  replace h := ob h; obtain ⟨v1, ev1, h⟩ := h
  refine g_getR hC ev1 fk_X7_18 rfl dX7_lessenDoubt_1 ?_
  refine g_iload_n hC 1 dX7_lessenDoubt_4 rfl ?_
  refine g_iconst hC 0 dX7_lessenDoubt_5 (by decide) ?_
  replace h := ob h; obtain ⟨a3, ea3, h⟩ := h
  subst ea3
  replace h := ob h; obtain ⟨M2, eM2, h⟩ := h
  refine g_iast hC eM2 dX7_lessenDoubt_6 ?_
  refine g_iconst hC 1 dX7_lessenDoubt_7 (by decide) ?_
  refine g_istore_n hC ([(2, .int 1), (0, .ref this), (1, .int p1)]) dX7_lessenDoubt_8 (by decide) rfl ?_
  refine g_sub [1, 2, 0] rfl ?_
  refine l_X7_lessenDoubt_L9 hC hR M'  _ _  _ _ _ h

set_option maxHeartbeats 4000000 in
set_option maxRecDepth 100000 in
theorem l_X7_growDoubt_L2 {Γ : Gm} {X : Ct} (hC : Cx Γ X cX7_growDoubt RX7 none 2) (hR : X.2.2.2.1 = ({ frames := 0, cells := 0, slots := 0, locals := 0 } : Room)) (M' : Mm)  (x0 : Nat) : ∀ (fu : Nat) (x1 : Int32) (M0 : Mm), F_X7_growDoubt_L2 x0 fu x1 M0 = some M' → G Γ X 2 M0 0 0 (Fin Γ X (Qv Γ M') 0 0) 2 ([(0, .ref x0), (1, .int x1)]) [] := by
  intro fu
  induction fu with
  | zero =>
    intro x1 M0 h
    rw [F_X7_growDoubt_L2] at h
    cases h
  | succ n1 ih =>
    intro x1 M0 h
    rw [F_X7_growDoubt_L2] at h
    refine g_iload_n hC 1 dX7_growDoubt_2 rfl ?_
    refine g_bipush hC 80 dX7_growDoubt_3 (by decide) ?_
    refine g_icmp_ge hC 44 dX7_growDoubt_5 (by decide) (fun c2 => ?_) (fun c2 => ?_)
    · replace h := it_t c2 h
      exact g_vret hC h ⟨(Nat.le_of_ble_eq_true rfl), (Nat.le_of_ble_eq_true rfl)⟩ dX7_growDoubt_44
    · replace h := it_f c2 h
      refine g_aload_n hC 0 dX7_growDoubt_8 rfl ?_
      replace h := ob h; obtain ⟨v3, ev3, h⟩ := h
      refine g_getR hC ev3 fk_X7_9 rfl dX7_growDoubt_9 ?_
      refine g_iload_n hC 1 dX7_growDoubt_12 rfl ?_
      replace h := ob h; obtain ⟨a5, ea5, h⟩ := h
      subst ea5
      replace h := ob h; obtain ⟨v4, ev4, h⟩ := h
      refine g_iald hC ev4 dX7_growDoubt_13 ?_
      refine g_if_le hC 38 dX7_growDoubt_14 (by decide) (fun c6 => ?_) (fun c6 => ?_)
      · replace h := it_t c6 h
        refine g_iinc hC 1 (x1 + 1) ([(1, .int (x1 + 1)), (0, .ref x0)]) dX7_growDoubt_38 rfl rfl (by decide) rfl ?_
        refine g_goto hC 2 dX7_growDoubt_41 (by decide) ?_
        refine g_sub [1, 0] rfl ?_
        exact ih (x1 + 1) M0 h
      · replace h := it_f c6 h
        refine g_aload_n hC 0 dX7_growDoubt_17 rfl ?_
        replace h := ob h; obtain ⟨v7, ev7, h⟩ := h
        refine g_getR hC ev7 fk_X7_18 rfl dX7_growDoubt_18 ?_
        refine g_iload_n hC 1 dX7_growDoubt_21 rfl ?_
        replace h := ob h; obtain ⟨a9, ea9, h⟩ := h
        subst ea9
        replace h := ob h; obtain ⟨v8, ev8, h⟩ := h
        refine g_iald hC ev8 dX7_growDoubt_22 ?_
        refine g_bipush hC 99 dX7_growDoubt_23 (by decide) ?_
        refine g_icmp_ge hC 38 dX7_growDoubt_25 (by decide) (fun c10 => ?_) (fun c10 => ?_)
        · replace h := it_t c10 h
          refine g_iinc hC 1 (x1 + 1) ([(1, .int (x1 + 1)), (0, .ref x0)]) dX7_growDoubt_38 rfl rfl (by decide) rfl ?_
          refine g_goto hC 2 dX7_growDoubt_41 (by decide) ?_
          refine g_sub [1, 0] rfl ?_
          exact ih (x1 + 1) M0 h
        · replace h := it_f c10 h
          refine g_aload_n hC 0 dX7_growDoubt_28 rfl ?_
          replace h := ob h; obtain ⟨v11, ev11, h⟩ := h
          refine g_getR hC ev11 fk_X7_18 rfl dX7_growDoubt_29 ?_
          refine g_iload_n hC 1 dX7_growDoubt_32 rfl ?_
          refine g_dup2 hC dX7_growDoubt_33 rfl (cat_rf _) ?_
          replace h := ob h; obtain ⟨a13, ea13, h⟩ := h
          subst ea13
          replace h := ob h; obtain ⟨v12, ev12, h⟩ := h
          refine g_iald hC ev12 dX7_growDoubt_34 ?_
          refine g_iconst hC 1 dX7_growDoubt_35 (by decide) ?_
          refine g_iadd hC dX7_growDoubt_36 ?_
          replace h := ob h; obtain ⟨M14, eM14, h⟩ := h
          refine g_iast hC eM14 dX7_growDoubt_37 ?_
          refine g_iinc hC 1 (x1 + 1) ([(1, .int (x1 + 1)), (0, .ref x0)]) dX7_growDoubt_38 rfl rfl (by decide) rfl ?_
          refine g_goto hC 2 dX7_growDoubt_41 (by decide) ?_
          refine g_sub [1, 0] rfl ?_
          exact ih (x1 + 1) M14 h
set_option maxHeartbeats 4000000 in
set_option maxRecDepth 100000 in
theorem c_X7_growDoubt (l : Launch) (Γ : Gm) (this : Nat) (M M' : Mm) (h : F_X7_growDoubt this M = some M') : Met l yX7_growDoubt (wz yX7_growDoubt cX7_growDoubt 2 none) ({ frames := 0, cells := 0, slots := 0, locals := 0 } : Room) (Pq Γ M [.ref this]) (Qv Γ M') 0 0 (fr Γ) := by
  refine met_of (own := RX7) (by decide +kernel) rfl (Nat.le_of_ble_eq_true rfl) ?_
  intro X hC hR hnm hXl
  unfold F_X7_growDoubt at h
  show G Γ X 2 M 0 0 _ 0 ([(0, .ref this)]) []
  refine g_iconst hC 0 dX7_growDoubt_0 (by decide) ?_
  refine g_istore_n hC ([(1, .int 0), (0, .ref this)]) dX7_growDoubt_1 (by decide) rfl ?_
  refine g_sub [1, 0] rfl ?_
  refine l_X7_growDoubt_L2 hC hR M'  _  _ _ _ h

set_option maxHeartbeats 4000000 in
set_option maxRecDepth 100000 in
theorem l_X7_allDoubt_L4 {Γ : Gm} {X : Ct} (hC : Cx Γ X cX7_allDoubt RX7 (some .int) 3) (hR : X.2.2.2.1 = ({ frames := 0, cells := 0, slots := 0, locals := 0 } : Room)) (r : Int32) (M' : Mm)  (x0 : Nat) : ∀ (fu : Nat) (x1 : Int32) (x2 : Int32) (M0 : Mm), F_X7_allDoubt_L4 x0 fu x1 x2 M0 = some (r, M') → G Γ X 3 M0 0 0 (Fin Γ X (Qi Γ r M') 0 0) 4 ([(0, .ref x0), (1, .int x1), (2, .int x2)]) [] := by
  intro fu
  induction fu with
  | zero =>
    intro x1 x2 M0 h
    rw [F_X7_allDoubt_L4] at h
    cases h
  | succ n1 ih =>
    intro x1 x2 M0 h
    rw [F_X7_allDoubt_L4] at h
    refine g_iload_n hC 2 dX7_allDoubt_4 rfl ?_
    refine g_bipush hC 80 dX7_allDoubt_5 (by decide) ?_
    refine g_icmp_ge hC 25 dX7_allDoubt_7 (by decide) (fun c2 => ?_) (fun c2 => ?_)
    · replace h := it_t c2 h
      refine g_iload_n hC 1 dX7_allDoubt_25 rfl ?_
      exact g_iret hC h ⟨(Nat.le_of_ble_eq_true rfl), (Nat.le_of_ble_eq_true rfl)⟩ dX7_allDoubt_26
    · replace h := it_f c2 h
      refine g_iload_n hC 1 dX7_allDoubt_10 rfl ?_
      refine g_aload_n hC 0 dX7_allDoubt_11 rfl ?_
      replace h := ob h; obtain ⟨v3, ev3, h⟩ := h
      refine g_getR hC ev3 fk_X7_18 rfl dX7_allDoubt_12 ?_
      refine g_iload_n hC 2 dX7_allDoubt_15 rfl ?_
      replace h := ob h; obtain ⟨a5, ea5, h⟩ := h
      subst ea5
      replace h := ob h; obtain ⟨v4, ev4, h⟩ := h
      refine g_iald hC ev4 dX7_allDoubt_16 ?_
      refine g_iadd hC dX7_allDoubt_17 ?_
      refine g_istore_n hC ([(1, .int (x1 + v4)), (0, .ref x0), (2, .int x2)]) dX7_allDoubt_18 (by decide) rfl ?_
      refine g_iinc hC 2 (x2 + 1) ([(2, .int (x2 + 1)), (1, .int (x1 + v4)), (0, .ref x0)]) dX7_allDoubt_19 rfl rfl (by decide) rfl ?_
      refine g_goto hC 4 dX7_allDoubt_22 (by decide) ?_
      refine g_sub [2, 1, 0] rfl ?_
      exact ih (x1 + v4) (x2 + 1) M0 h
set_option maxHeartbeats 4000000 in
set_option maxRecDepth 100000 in
theorem c_X7_allDoubt (l : Launch) (Γ : Gm) (this : Nat) (M M' : Mm) (r : Int32) (h : F_X7_allDoubt this M = some (r, M')) : Met l yX7_allDoubt (wz yX7_allDoubt cX7_allDoubt 3 (some .int)) ({ frames := 0, cells := 0, slots := 0, locals := 0 } : Room) (Pq Γ M [.ref this]) (Qi Γ r M') 0 0 (fr Γ) := by
  refine met_of (own := RX7) (by decide +kernel) rfl (Nat.le_of_ble_eq_true rfl) ?_
  intro X hC hR hnm hXl
  unfold F_X7_allDoubt at h
  show G Γ X 3 M 0 0 _ 0 ([(0, .ref this)]) []
  refine g_iconst hC 0 dX7_allDoubt_0 (by decide) ?_
  refine g_istore_n hC ([(1, .int 0), (0, .ref this)]) dX7_allDoubt_1 (by decide) rfl ?_
  refine g_iconst hC 0 dX7_allDoubt_2 (by decide) ?_
  refine g_istore_n hC ([(2, .int 0), (1, .int 0), (0, .ref this)]) dX7_allDoubt_3 (by decide) rfl ?_
  refine g_sub [2, 1, 0] rfl ?_
  refine l_X7_allDoubt_L4 hC hR r M'  _  _ _ _ _ h

set_option maxHeartbeats 4000000 in
set_option maxRecDepth 100000 in
theorem c_X7_nudged (l : Launch) (Γ : Gm) (p1 : Int32) (p2 : Int32) (M M' : Mm) (r : Int32) (h : F_X7_nudged p1 p2 M = some (r, M')) : Met l yX7_nudged (wz yX7_nudged cX7_nudged 2 (some .int)) ({ frames := 1, cells := 0, slots := 0, locals := 21 } : Room) (Pq Γ M [.int p1, .int p2]) (Qi Γ r M') 0 0 (fr Γ) := by
  refine met_of (own := RX7) (by decide +kernel) rfl (Nat.le_of_ble_eq_true rfl) ?_
  intro X hC hR hnm hXl
  unfold F_X7_nudged at h
  show G Γ X 2 M 0 0 _ 0 ([(0, .int p1), (1, .int p2)]) []
  refine g_iload_n hC 1 dX7_nudged_0 rfl ?_
  refine g_if_le hC 12 dX7_nudged_1 (by decide) (fun c1 => ?_) (fun c1 => ?_)
  · replace h := it_t c1 h
    refine g_iload_n hC 1 dX7_nudged_12 rfl ?_
    refine g_if_ge hC 27 dX7_nudged_13 (by decide) (fun c2 => ?_) (fun c2 => ?_)
    · replace h := it_t c2 h
      refine g_iload_n hC 0 dX7_nudged_27 rfl ?_
      exact g_iret hC h ⟨(Nat.le_of_ble_eq_true rfl), (Nat.le_of_ble_eq_true rfl)⟩ dX7_nudged_28
    · replace h := it_f c2 h
      refine g_bipush hC (-2) dX7_nudged_16 (by decide) ?_
      refine g_iload_n hC 0 dX7_nudged_18 rfl ?_
      refine g_iconst hC 1 dX7_nudged_19 (by decide) ?_
      refine g_isub hC dX7_nudged_20 ?_
      refine g_max hC lk_X7_107 hR (Nat.le_of_ble_eq_true rfl) ⟨(Nat.le_of_ble_eq_true rfl), (Nat.le_of_ble_eq_true rfl), (Nat.le_of_ble_eq_true rfl), (Nat.le_of_ble_eq_true rfl)⟩ dX7_nudged_21 ?_
      refine g_goto hC 28 dX7_nudged_24 (by decide) ?_
      exact g_iret hC h ⟨(Nat.le_of_ble_eq_true rfl), (Nat.le_of_ble_eq_true rfl)⟩ dX7_nudged_28
  · replace h := it_f c1 h
    refine g_iconst hC 2 dX7_nudged_4 (by decide) ?_
    refine g_iload_n hC 0 dX7_nudged_5 rfl ?_
    refine g_iconst hC 1 dX7_nudged_6 (by decide) ?_
    refine g_iadd hC dX7_nudged_7 ?_
    refine g_min hC lk_X7_98 hR (Nat.le_of_ble_eq_true rfl) ⟨(Nat.le_of_ble_eq_true rfl), (Nat.le_of_ble_eq_true rfl), (Nat.le_of_ble_eq_true rfl), (Nat.le_of_ble_eq_true rfl)⟩ dX7_nudged_8 ?_
    exact g_iret hC h ⟨(Nat.le_of_ble_eq_true rfl), (Nat.le_of_ble_eq_true rfl)⟩ dX7_nudged_11

set_option maxHeartbeats 4000000 in
set_option maxRecDepth 100000 in
theorem l_X7_learn_L24 {Γ : Gm} {X : Ct} (hC : Cx Γ X cX7_learn RX7 none 10) (hR : X.2.2.2.1 = ({ frames := 2, cells := 0, slots := 0, locals := 42 } : Room)) (M' : Mm) (k75 : Int32 → Int32 → Mm → Option Mm) (x0 : Nat) (x1 : Int32) (x5 : Int32) (hk75 : ∀ (y6 : Int32) (y7 : Int32) (M1 : Mm), k75 y6 y7 M1 = some M' → G Γ X 10 M1 0 0 (Fin Γ X (Qv Γ M') 0 0) 75 ([(0, .ref x0), (1, .int x1), (5, .int x5), (6, .int y6), (7, .int y7)]) []) : ∀ (fu : Nat) (x6 : Int32) (x7 : Int32) (x8 : Int32) (M0 : Mm), F_X7_learn_L24 k75 x0 x1 x5 fu x6 x7 x8 M0 = some M' → G Γ X 10 M0 0 0 (Fin Γ X (Qv Γ M') 0 0) 24 ([(0, .ref x0), (1, .int x1), (5, .int x5), (6, .int x6), (7, .int x7), (8, .int x8)]) [] := by
  intro fu
  induction fu with
  | zero =>
    intro x6 x7 x8 M0 h
    rw [F_X7_learn_L24] at h
    cases h
  | succ n4 ih =>
    intro x6 x7 x8 M0 h
    rw [F_X7_learn_L24] at h
    refine g_iload hC 5 dX7_learn_24 rfl ?_
    refine g_iload hC 2 dX7_learn_26 rfl ?_
    refine g_icmp_ge hC 75 dX7_learn_28 (by decide) (fun c5 => ?_) (fun c5 => ?_)
    · replace h := it_t c5 h
      refine g_sub [0, 1, 2, 3, 4] rfl ?_
      exact hk75 x6 x7 M0 h
    · replace h := it_f c5 h
      refine g_iload hC 3 dX7_learn_31 rfl ?_
      refine g_aload_n hC 0 dX7_learn_33 rfl ?_
      replace h := ob h; obtain ⟨v6, ev6, h⟩ := h
      refine g_getR hC ev6 fk_X7_34 rfl dX7_learn_34 ?_
      replace h := ob h; obtain ⟨a7, ea7, h⟩ := h
      subst ea7
      replace h := ob h; obtain ⟨v8, ev8, h⟩ := h
      refine g_getR hC ev8 fk_X7_51 rfl dX7_learn_37 ?_
      refine g_iload_n hC 1 dX7_learn_40 rfl ?_
      refine g_iload hC 5 dX7_learn_41 rfl ?_
      replace h := ob h; obtain ⟨⟨v10, M9⟩, eM9, h⟩ := h
      refine g_calli hC (r_SN hC (As := [.int x1, .int x8]) (c_X11_placeOf _ Γ x1 x8 M0 M9 v10 eM9) yk_X11_placeOf lk_X7_101 rfl rfl (by simp only [List.map, cat_rf]; exact Nat.le_of_ble_eq_true rfl) hR ⟨(Nat.le_of_ble_eq_true rfl), (Nat.le_of_ble_eq_true rfl)⟩ ⟨(Nat.le_of_ble_eq_true rfl), (Nat.le_of_ble_eq_true rfl)⟩ dX7_learn_43) ?_
      replace h := ob h; obtain ⟨a12, ea12, h⟩ := h
      subst ea12
      replace h := ob h; obtain ⟨v11, ev11, h⟩ := h
      refine g_iald hC ev11 dX7_learn_46 ?_
      refine g_isub hC dX7_learn_47 ?_
      refine g_istore hC ([(6, .int (x6 - v11)), (0, .ref x0), (1, .int x1), (5, .int x5), (7, .int x7), (8, .int x8)]) dX7_learn_48 (by decide) rfl ?_
      refine g_iload hC 4 dX7_learn_50 rfl ?_
      refine g_aload_n hC 1 dX7_learn_52 rfl ?_
      replace h := ob h; obtain ⟨v13, ev13, h⟩ := h
      refine g_getR hC ev13 fk_X7_34 rfl dX7_learn_53 ?_
      replace h := ob h; obtain ⟨a14, ea14, h⟩ := h
      subst ea14
      replace h := ob h; obtain ⟨v15, ev15, h⟩ := h
      refine g_getR hC ev15 fk_X7_54 rfl dX7_learn_56 ?_
      refine g_iload_n hC 2 dX7_learn_59 rfl ?_
      refine g_iload hC 5 dX7_learn_60 rfl ?_
      replace h := ob h; obtain ⟨⟨v17, M16⟩, eM16, h⟩ := h
      refine g_calli hC (r_SN hC (As := [.int x1, .int x8]) (c_X11_placeOf _ Γ x1 x8 M9 M16 v17 eM16) yk_X11_placeOf lk_X7_101 rfl rfl (by simp only [List.map, cat_rf]; exact Nat.le_of_ble_eq_true rfl) hR ⟨(Nat.le_of_ble_eq_true rfl), (Nat.le_of_ble_eq_true rfl)⟩ ⟨(Nat.le_of_ble_eq_true rfl), (Nat.le_of_ble_eq_true rfl)⟩ dX7_learn_62) ?_
      replace h := ob h; obtain ⟨a19, ea19, h⟩ := h
      subst ea19
      replace h := ob h; obtain ⟨v18, ev18, h⟩ := h
      refine g_iald hC ev18 dX7_learn_65 ?_
      refine g_isub hC dX7_learn_66 ?_
      refine g_istore hC ([(7, .int (x7 - v18)), (6, .int (x6 - v11)), (0, .ref x0), (1, .int x1), (5, .int x5), (8, .int x8)]) dX7_learn_67 (by decide) rfl ?_
      refine g_iinc hC 5 (x8 + 1) ([(8, .int (x8 + 1)), (7, .int (x7 - v18)), (6, .int (x6 - v11)), (0, .ref x0), (1, .int x1), (5, .int x5)]) dX7_learn_69 rfl rfl (by decide) rfl ?_
      refine g_goto hC 24 dX7_learn_72 (by decide) ?_
      refine g_sub [3, 4, 5, 2, 1, 0] rfl ?_
      exact ih (x6 - v11) (x7 - v18) (x8 + 1) M16 h
set_option maxHeartbeats 4000000 in
set_option maxRecDepth 100000 in
theorem l_X7_learn_L78 {Γ : Gm} {X : Ct} (hC : Cx Γ X cX7_learn RX7 none 10) (hR : X.2.2.2.1 = ({ frames := 2, cells := 0, slots := 0, locals := 42 } : Room)) (M' : Mm)  (x0 : Nat) (x1 : Int32) (x5 : Int32) (x6 : Int32) (x7 : Int32) : ∀ (fu : Nat) (x8 : Int32) (M0 : Mm), F_X7_learn_L78 x0 x1 x5 x6 x7 fu x8 M0 = some M' → G Γ X 10 M0 0 0 (Fin Γ X (Qv Γ M') 0 0) 78 ([(0, .ref x0), (1, .int x1), (5, .int x5), (6, .int x6), (7, .int x7), (8, .int x8)]) [] := by
  intro fu
  induction fu with
  | zero =>
    intro x8 M0 h
    rw [F_X7_learn_L78] at h
    cases h
  | succ n23 ih =>
    intro x8 M0 h
    rw [F_X7_learn_L78] at h
    refine g_iload hC 5 dX7_learn_78 rfl ?_
    refine g_iload hC 2 dX7_learn_80 rfl ?_
    refine g_icmp_ge hC 149 dX7_learn_82 (by decide) (fun c24 => ?_) (fun c24 => ?_)
    · replace h := it_t c24 h
      exact g_vret hC h ⟨(Nat.le_of_ble_eq_true rfl), (Nat.le_of_ble_eq_true rfl)⟩ dX7_learn_149
    · replace h := it_f c24 h
      refine g_iload_n hC 1 dX7_learn_85 rfl ?_
      refine g_iload hC 5 dX7_learn_86 rfl ?_
      replace h := ob h; obtain ⟨⟨v26, M25⟩, eM25, h⟩ := h
      refine g_calli hC (r_SN hC (As := [.int x1, .int x8]) (c_X11_placeOf _ Γ x1 x8 M0 M25 v26 eM25) yk_X11_placeOf lk_X7_101 rfl rfl (Nat.le_of_ble_eq_true rfl) hR ⟨(Nat.le_of_ble_eq_true rfl), (Nat.le_of_ble_eq_true rfl)⟩ ⟨(Nat.le_of_ble_eq_true rfl), (Nat.le_of_ble_eq_true rfl)⟩ dX7_learn_88) ?_
      refine g_istore hC ([(9, .int v26), (0, .ref x0), (1, .int x1), (5, .int x5), (6, .int x6), (7, .int x7), (8, .int x8)]) dX7_learn_91 (by decide) rfl ?_
      refine g_aload_n hC 1 dX7_learn_93 rfl ?_
      replace h := ob h; obtain ⟨v27, ev27, h⟩ := h
      refine g_getR hC ev27 fk_X7_34 rfl dX7_learn_94 ?_
      replace h := ob h; obtain ⟨a28, ea28, h⟩ := h
      subst ea28
      replace h := ob h; obtain ⟨v29, ev29, h⟩ := h
      refine g_getR hC ev29 fk_X7_51 rfl dX7_learn_97 ?_
      refine g_iload hC 0 dX7_learn_100 rfl ?_
      refine g_aload_n hC 1 dX7_learn_102 rfl ?_
      replace h := ob h; obtain ⟨v30, ev30, h⟩ := h
      refine g_getR hC ev30 fk_X7_34 rfl dX7_learn_103 ?_
      replace h := ob h; obtain ⟨a31, ea31, h⟩ := h
      subst ea31
      replace h := ob h; obtain ⟨v32, ev32, h⟩ := h
      refine g_getR hC ev32 fk_X7_51 rfl dX7_learn_106 ?_
      refine g_iload hC 0 dX7_learn_109 rfl ?_
      replace h := ob h; obtain ⟨a34, ea34, h⟩ := h
      subst ea34
      replace h := ob h; obtain ⟨v33, ev33, h⟩ := h
      refine g_iald hC ev33 dX7_learn_111 ?_
      refine g_iload hC 4 dX7_learn_112 rfl ?_
      replace h := ob h; obtain ⟨⟨v36, M35⟩, eM35, h⟩ := h
      refine g_calli hC (r_S hC (As := [.int v33, .int x6]) (c_X7_nudged _ Γ v33 x6 M25 M35 v36 eM35) yk_X7_nudged lk_X7_104 rfl rfl (by simp only [List.map, cat_rf]; exact Nat.le_of_ble_eq_true rfl) hR ⟨(Nat.le_of_ble_eq_true rfl), (Nat.le_of_ble_eq_true rfl)⟩ ⟨(Nat.le_of_ble_eq_true rfl), (Nat.le_of_ble_eq_true rfl)⟩ dX7_learn_114) ?_
      replace h := ob h; obtain ⟨a38, ea38, h⟩ := h
      subst ea38
      replace h := ob h; obtain ⟨M37, eM37, h⟩ := h
      refine g_iast hC eM37 dX7_learn_117 ?_
      refine g_aload_n hC 1 dX7_learn_118 rfl ?_
      replace h := ob h; obtain ⟨v39, ev39, h⟩ := h
      refine g_getR hC ev39 fk_X7_34 rfl dX7_learn_119 ?_
      replace h := ob h; obtain ⟨a40, ea40, h⟩ := h
      subst ea40
      replace h := ob h; obtain ⟨v41, ev41, h⟩ := h
      refine g_getR hC ev41 fk_X7_54 rfl dX7_learn_122 ?_
      refine g_iload hC 0 dX7_learn_125 rfl ?_
      refine g_aload_n hC 1 dX7_learn_127 rfl ?_
      replace h := ob h; obtain ⟨v42, ev42, h⟩ := h
      refine g_getR hC ev42 fk_X7_34 rfl dX7_learn_128 ?_
      replace h := ob h; obtain ⟨a43, ea43, h⟩ := h
      subst ea43
      replace h := ob h; obtain ⟨v44, ev44, h⟩ := h
      refine g_getR hC ev44 fk_X7_54 rfl dX7_learn_131 ?_
      refine g_iload hC 0 dX7_learn_134 rfl ?_
      replace h := ob h; obtain ⟨a46, ea46, h⟩ := h
      subst ea46
      replace h := ob h; obtain ⟨v45, ev45, h⟩ := h
      refine g_iald hC ev45 dX7_learn_136 ?_
      refine g_iload hC 5 dX7_learn_137 rfl ?_
      replace h := ob h; obtain ⟨⟨v48, M47⟩, eM47, h⟩ := h
      refine g_calli hC (r_S hC (As := [.int v45, .int x7]) (c_X7_nudged _ Γ v45 x7 M37 M47 v48 eM47) yk_X7_nudged lk_X7_104 rfl rfl (by simp only [List.map, cat_rf]; exact Nat.le_of_ble_eq_true rfl) hR ⟨(Nat.le_of_ble_eq_true rfl), (Nat.le_of_ble_eq_true rfl)⟩ ⟨(Nat.le_of_ble_eq_true rfl), (Nat.le_of_ble_eq_true rfl)⟩ dX7_learn_139) ?_
      replace h := ob h; obtain ⟨a50, ea50, h⟩ := h
      subst ea50
      replace h := ob h; obtain ⟨M49, eM49, h⟩ := h
      refine g_iast hC eM49 dX7_learn_142 ?_
      refine g_iinc hC 6 (x8 + 1) ([(8, .int (x8 + 1)), (9, .int v26), (0, .ref x0), (1, .int x1), (5, .int x5), (6, .int x6), (7, .int x7)]) dX7_learn_143 rfl rfl (by decide) rfl ?_
      refine g_goto hC 78 dX7_learn_146 (by decide) ?_
      refine g_sub [2, 3, 4, 5, 6, 0] rfl ?_
      exact ih (x8 + 1) M49 h
set_option maxHeartbeats 4000000 in
set_option maxRecDepth 100000 in
theorem c_X7_learn (l : Launch) (Γ : Gm) (this : Nat) (p1 : Int32) (p2 : Int32) (p3 : Int32) (p4 : Int32) (M M' : Mm) (h : F_X7_learn this p1 p2 p3 p4 M = some M') : Met l yX7_learn (wz yX7_learn cX7_learn 10 none) ({ frames := 2, cells := 0, slots := 0, locals := 42 } : Room) (Pq Γ M [.ref this, .int p1, .int p2, .int p3, .int p4]) (Qv Γ M') 0 0 (fr Γ) := by
  refine met_of (own := RX7) (by decide +kernel) rfl (Nat.le_of_ble_eq_true rfl) ?_
  intro X hC hR hnm hXl
  unfold F_X7_learn at h
  show G Γ X 10 M 0 0 _ 0 ([(0, .ref this), (1, .int p1), (2, .int p2), (3, .int p3), (4, .int p4)]) []
  refine g_iload_n hC 2 dX7_learn_0 rfl ?_
  refine g_iconst hC 1 dX7_learn_1 (by decide) ?_
  refine g_iadd hC dX7_learn_2 ?_
  refine g_aload_n hC 0 dX7_learn_3 rfl ?_
  replace h := ob h; obtain ⟨v1, ev1, h⟩ := h
  refine g_getR hC ev1 fk_X7_9 rfl dX7_learn_4 ?_
  refine g_iload_n hC 1 dX7_learn_7 rfl ?_
  replace h := ob h; obtain ⟨a3, ea3, h⟩ := h
  subst ea3
  replace h := ob h; obtain ⟨v2, ev2, h⟩ := h
  refine g_iald hC ev2 dX7_learn_8 ?_
  refine g_min hC lk_X7_98 hR (Nat.le_of_ble_eq_true rfl) ⟨(Nat.le_of_ble_eq_true rfl), (Nat.le_of_ble_eq_true rfl), (Nat.le_of_ble_eq_true rfl), (Nat.le_of_ble_eq_true rfl)⟩ dX7_learn_9 ?_
  refine g_istore hC ([(5, .int (mnI (p2 + 1) v2)), (0, .ref this), (1, .int p1), (2, .int p2), (3, .int p3), (4, .int p4)]) dX7_learn_12 (by decide) rfl ?_
  refine g_iload_n hC 4 dX7_learn_14 rfl ?_
  refine g_istore hC ([(6, .int p3), (5, .int (mnI (p2 + 1) v2)), (0, .ref this), (1, .int p1), (2, .int p2), (3, .int p3), (4, .int p4)]) dX7_learn_15 (by decide) rfl ?_
  refine g_iload hC 6 dX7_learn_17 rfl ?_
  refine g_istore hC ([(7, .int p4), (6, .int p3), (5, .int (mnI (p2 + 1) v2)), (0, .ref this), (1, .int p1), (2, .int p2), (3, .int p3), (4, .int p4)]) dX7_learn_19 (by decide) rfl ?_
  refine g_iconst hC 0 dX7_learn_21 (by decide) ?_
  refine g_istore hC ([(8, .int 0), (7, .int p4), (6, .int p3), (5, .int (mnI (p2 + 1) v2)), (0, .ref this), (1, .int p1), (2, .int p2), (3, .int p3), (4, .int p4)]) dX7_learn_22 (by decide) rfl ?_
  refine g_sub [4, 5, 3, 2, 1, 0] rfl ?_
  refine l_X7_learn_L24 hC hR M' _ _ _ _ ?_ _ _ _ _ _ h
  intro y20 y21 M22 h
  refine g_iconst hC 0 dX7_learn_75 (by decide) ?_
  refine g_istore hC ([(8, .int 0), (0, .ref this), (1, .int p1), (5, .int (mnI (p2 + 1) v2)), (6, .int y20), (7, .int y21)]) dX7_learn_76 (by decide) rfl ?_
  refine g_sub [1, 2, 3, 4, 5, 0] rfl ?_
  refine l_X7_learn_L78 hC hR M'  _ _ _ _ _  _ _ _ h

set_option maxHeartbeats 4000000 in
set_option maxRecDepth 100000 in
theorem l_X7_isWhole_L39 {Γ : Gm} {X : Ct} (hC : Cx Γ X cX7_isWhole RX7 (some .boolean) 10) (hR : X.2.2.2.1 = ({ frames := 2, cells := 0, slots := 0, locals := 45 } : Room)) (r : Int32) (M' : Mm) (k132 : Int32 → Mm → Option (Int32 × Mm)) (x0 : Nat) (x1 : Int32) (x2 : Int32) (x4 : Int32) (hk132 : ∀ (y5 : Int32) (M1 : Mm), k132 y5 M1 = some (r, M') → G Γ X 10 M1 0 0 (Fin Γ X (Qi Γ r M') 0 0) 132 ([(4, .int x4), (5, .int y5)]) []) : ∀ (fu : Nat) (x5 : Int32) (x6 : Int32) (M0 : Mm), F_X7_isWhole_L39 k132 x0 x1 x2 x4 fu x5 x6 M0 = some (r, M') → G Γ X 10 M0 0 0 (Fin Γ X (Qi Γ r M') 0 0) 39 ([(0, .ref x0), (1, .int x1), (2, .int x2), (4, .int x4), (5, .int x5), (6, .int x6)]) [] := by
  intro fu
  induction fu with
  | zero =>
    intro x5 x6 M0 h
    rw [F_X7_isWhole_L39] at h
    cases h
  | succ n13 ih =>
    intro x5 x6 M0 h
    rw [F_X7_isWhole_L39] at h
    refine g_iload hC 5 dX7_isWhole_39 rfl ?_
    refine g_iconst hC 5 dX7_isWhole_41 (by decide) ?_
    refine g_icmp_ge hC 132 dX7_isWhole_42 (by decide) (fun c14 => ?_) (fun c14 => ?_)
    · replace h := it_t c14 h
      refine g_sub [3, 4] rfl ?_
      exact hk132 x5 M0 h
    · replace h := it_f c14 h
      refine g_aload_n hC 0 dX7_isWhole_45 rfl ?_
      refine g_iload_n hC 1 dX7_isWhole_46 rfl ?_
      refine g_iload hC 5 dX7_isWhole_47 rfl ?_
      replace h := ob h; obtain ⟨_, eu16, h⟩ := h
      replace h := ob h; obtain ⟨⟨v17, M15⟩, eM15, h⟩ := h
      refine g_calli hC (r_V hC (As := [.int x1, .int x6]) (c_X7_beside _ Γ x0 x1 x6 M0 M15 v17 eM15) yk_X7_beside lk_X7_95 eu16 ⟨_, rfl, rfl⟩ rfl rfl (Nat.le_of_ble_eq_true rfl) hR ⟨(Nat.le_of_ble_eq_true rfl), (Nat.le_of_ble_eq_true rfl)⟩ ⟨(Nat.le_of_ble_eq_true rfl), (Nat.le_of_ble_eq_true rfl)⟩ dX7_isWhole_49) ?_
      refine g_istore hC ([(7, .int v17), (0, .ref x0), (1, .int x1), (2, .int x2), (4, .int x4), (5, .int x5), (6, .int x6)]) dX7_isWhole_52 (by decide) rfl ?_
      refine g_iload hC 0 dX7_isWhole_54 rfl ?_
      refine g_if_lt hC 126 dX7_isWhole_56 (by decide) (fun c18 => ?_) (fun c18 => ?_)
      · replace h := it_t c18 h
        refine g_iinc hC 6 (x6 + 1) ([(6, .int (x6 + 1)), (7, .int v17), (0, .ref x0), (1, .int x1), (2, .int x2), (4, .int x4), (5, .int x5)]) dX7_isWhole_126 rfl rfl (by decide) rfl ?_
        refine g_goto hC 39 dX7_isWhole_129 (by decide) ?_
        refine g_sub [2, 3, 4, 5, 6, 0] rfl ?_
        exact ih x5 (x6 + 1) M15 h
      · replace h := it_f c18 h
        refine g_aload_n hC 1 dX7_isWhole_59 rfl ?_
        refine g_iload hC 0 dX7_isWhole_60 rfl ?_
        refine g_iload_n hC 3 dX7_isWhole_62 rfl ?_
        replace h := ob h; obtain ⟨_, eu20, h⟩ := h
        replace h := ob h; obtain ⟨⟨v21, M19⟩, eM19, h⟩ := h
        refine g_calli hC (r_V hC (As := [.int v17, .int x2]) (c_X7_has _ Γ x0 v17 x2 M15 M19 v21 eM19) yk_X7_has lk_X7_110 eu20 ⟨_, rfl, rfl⟩ rfl rfl (Nat.le_of_ble_eq_true rfl) hR ⟨(Nat.le_of_ble_eq_true rfl), (Nat.le_of_ble_eq_true rfl)⟩ ⟨(Nat.le_of_ble_eq_true rfl), (Nat.le_of_ble_eq_true rfl)⟩ dX7_isWhole_63) ?_
        refine g_if_eq hC 126 dX7_isWhole_66 (by decide) (fun c22 => ?_) (fun c22 => ?_)
        · replace h := it_t c22 h
          refine g_iinc hC 6 (x6 + 1) ([(6, .int (x6 + 1)), (7, .int v17), (0, .ref x0), (1, .int x1), (2, .int x2), (4, .int x4), (5, .int x5)]) dX7_isWhole_126 rfl rfl (by decide) rfl ?_
          refine g_goto hC 39 dX7_isWhole_129 (by decide) ?_
          refine g_sub [2, 3, 4, 5, 6, 0] rfl ?_
          exact ih x5 (x6 + 1) M19 h
        · replace h := it_f c22 h
          refine g_iload hC 0 dX7_isWhole_69 rfl ?_
          refine g_iload_n hC 3 dX7_isWhole_71 rfl ?_
          replace h := ob h; obtain ⟨⟨v24, M23⟩, eM23, h⟩ := h
          refine g_calli hC (r_SN hC (As := [.int v17, .int x2]) (c_X11_placeOf _ Γ v17 x2 M19 M23 v24 eM23) yk_X11_placeOf lk_X7_101 rfl rfl (Nat.le_of_ble_eq_true rfl) hR ⟨(Nat.le_of_ble_eq_true rfl), (Nat.le_of_ble_eq_true rfl)⟩ ⟨(Nat.le_of_ble_eq_true rfl), (Nat.le_of_ble_eq_true rfl)⟩ dX7_isWhole_72) ?_
          refine g_istore hC ([(8, .int v24), (7, .int v17), (0, .ref x0), (1, .int x1), (2, .int x2), (4, .int x4), (5, .int x5), (6, .int x6)]) dX7_isWhole_75 (by decide) rfl ?_
          refine g_aload_n hC 2 dX7_isWhole_77 rfl ?_
          replace h := ob h; obtain ⟨v25, ev25, h⟩ := h
          refine g_getR hC ev25 fk_X7_34 rfl dX7_isWhole_78 ?_
          replace h := ob h; obtain ⟨a26, ea26, h⟩ := h
          subst ea26
          replace h := ob h; obtain ⟨v27, ev27, h⟩ := h
          refine g_getR hC ev27 fk_X7_51 rfl dX7_isWhole_81 ?_
          refine g_iload hC 0 dX7_isWhole_84 rfl ?_
          replace h := ob h; obtain ⟨a29, ea29, h⟩ := h
          subst ea29
          replace h := ob h; obtain ⟨v28, ev28, h⟩ := h
          refine g_iald hC ev28 dX7_isWhole_86 ?_
          refine g_getsN hC 2 (by decide) sk_X7_73 dX7_isWhole_87 ?_
          refine g_iload hC 7 dX7_isWhole_90 rfl ?_
          replace h := ob h; obtain ⟨v30, ev30, h⟩ := h
          refine g_sald hC (by decide) ev30 dX7_isWhole_92 ?_
          refine g_imul hC dX7_isWhole_93 ?_
          refine g_aload_n hC 2 dX7_isWhole_94 rfl ?_
          replace h := ob h; obtain ⟨v31, ev31, h⟩ := h
          refine g_getR hC ev31 fk_X7_34 rfl dX7_isWhole_95 ?_
          replace h := ob h; obtain ⟨a32, ea32, h⟩ := h
          subst ea32
          replace h := ob h; obtain ⟨v33, ev33, h⟩ := h
          refine g_getR hC ev33 fk_X7_54 rfl dX7_isWhole_98 ?_
          refine g_iload hC 0 dX7_isWhole_101 rfl ?_
          replace h := ob h; obtain ⟨a35, ea35, h⟩ := h
          subst ea35
          replace h := ob h; obtain ⟨v34, ev34, h⟩ := h
          refine g_iald hC ev34 dX7_isWhole_103 ?_
          refine g_getsN hC 3 (by decide) sk_X7_79 dX7_isWhole_104 ?_
          refine g_iload hC 7 dX7_isWhole_107 rfl ?_
          replace h := ob h; obtain ⟨v36, ev36, h⟩ := h
          refine g_sald hC (by decide) ev36 dX7_isWhole_109 ?_
          refine g_imul hC dX7_isWhole_110 ?_
          refine g_iadd hC dX7_isWhole_111 ?_
          refine g_istore hC ([(9, .int ((v28 * v30) + (v34 * v36))), (8, .int v24), (7, .int v17), (0, .ref x0), (1, .int x1), (2, .int x2), (4, .int x4), (5, .int x5), (6, .int x6)]) dX7_isWhole_112 (by decide) rfl ?_
          refine g_iload hC 7 dX7_isWhole_114 rfl ?_
          refine g_iconst hC 0 dX7_isWhole_116 (by decide) ?_
          refine g_iload hC 0 dX7_isWhole_117 rfl ?_
          refine g_ineg hC dX7_isWhole_119 ?_
          refine g_max hC lk_X7_107 hR (Nat.le_of_ble_eq_true rfl) ⟨(Nat.le_of_ble_eq_true rfl), (Nat.le_of_ble_eq_true rfl), (Nat.le_of_ble_eq_true rfl), (Nat.le_of_ble_eq_true rfl)⟩ dX7_isWhole_120 ?_
          refine g_iadd hC dX7_isWhole_123 ?_
          refine g_istore hC ([(5, .int (x5 + (mxI 0 (-((v28 * v30) + (v34 * v36)))))), (9, .int ((v28 * v30) + (v34 * v36))), (8, .int v24), (7, .int v17), (0, .ref x0), (1, .int x1), (2, .int x2), (4, .int x4), (6, .int x6)]) dX7_isWhole_124 (by decide) rfl ?_
          refine g_iinc hC 8 (x6 + 1) ([(6, .int (x6 + 1)), (5, .int (x5 + (mxI 0 (-((v28 * v30) + (v34 * v36)))))), (9, .int ((v28 * v30) + (v34 * v36))), (8, .int v24), (7, .int v17), (0, .ref x0), (1, .int x1), (2, .int x2), (4, .int x4)]) dX7_isWhole_126 rfl rfl (by decide) rfl ?_
          refine g_goto hC 39 dX7_isWhole_129 (by decide) ?_
          refine g_sub [5, 6, 7, 8, 1, 0] rfl ?_
          exact ih (x5 + (mxI 0 (-((v28 * v30) + (v34 * v36))))) (x6 + 1) M23 h
set_option maxHeartbeats 4000000 in
set_option maxRecDepth 100000 in
theorem c_X7_isWhole (l : Launch) (Γ : Gm) (this : Nat) (p1 : Int32) (p2 : Int32) (M M' : Mm) (r : Int32) (h : F_X7_isWhole this p1 p2 M = some (r, M')) : Met l yX7_isWhole (wz yX7_isWhole cX7_isWhole 10 (some .boolean)) ({ frames := 2, cells := 0, slots := 0, locals := 45 } : Room) (Pq Γ M [.ref this, .int p1, .int p2]) (Qi Γ r M') 0 0 (fr Γ) := by
  refine met_of (own := RX7) (by decide +kernel) rfl (Nat.le_of_ble_eq_true rfl) ?_
  intro X hC hR hnm hXl
  unfold F_X7_isWhole at h
  show G Γ X 10 M 0 0 _ 0 ([(0, .ref this), (1, .int p1), (2, .int p2)]) []
  refine g_iload_n hC 1 dX7_isWhole_0 rfl ?_
  refine g_iload_n hC 2 dX7_isWhole_1 rfl ?_
  replace h := ob h; obtain ⟨⟨v2, M1⟩, eM1, h⟩ := h
  refine g_calli hC (r_SN hC (As := [.int p1, .int p2]) (c_X11_placeOf _ Γ p1 p2 M M1 v2 eM1) yk_X11_placeOf lk_X7_101 rfl rfl (Nat.le_of_ble_eq_true rfl) hR ⟨(Nat.le_of_ble_eq_true rfl), (Nat.le_of_ble_eq_true rfl)⟩ ⟨(Nat.le_of_ble_eq_true rfl), (Nat.le_of_ble_eq_true rfl)⟩ dX7_isWhole_2) ?_
  refine g_istore_n hC ([(3, .int v2), (0, .ref this), (1, .int p1), (2, .int p2)]) dX7_isWhole_5 (by decide) rfl ?_
  refine g_aload_n hC 1 dX7_isWhole_6 rfl ?_
  replace h := ob h; obtain ⟨v3, ev3, h⟩ := h
  refine g_getR hC ev3 fk_X7_34 rfl dX7_isWhole_7 ?_
  replace h := ob h; obtain ⟨a4, ea4, h⟩ := h
  subst ea4
  replace h := ob h; obtain ⟨v5, ev5, h⟩ := h
  refine g_getR hC ev5 fk_X7_51 rfl dX7_isWhole_10 ?_
  refine g_iload_n hC 0 dX7_isWhole_13 rfl ?_
  replace h := ob h; obtain ⟨a7, ea7, h⟩ := h
  subst ea7
  replace h := ob h; obtain ⟨v6, ev6, h⟩ := h
  refine g_iald hC ev6 dX7_isWhole_14 ?_
  refine g_abs hC lk_X7_86 hR (Nat.le_of_ble_eq_true rfl) ⟨(Nat.le_of_ble_eq_true rfl), (Nat.le_of_ble_eq_true rfl), (Nat.le_of_ble_eq_true rfl), (Nat.le_of_ble_eq_true rfl)⟩ dX7_isWhole_15 ?_
  refine g_aload_n hC 1 dX7_isWhole_18 rfl ?_
  replace h := ob h; obtain ⟨v8, ev8, h⟩ := h
  refine g_getR hC ev8 fk_X7_34 rfl dX7_isWhole_19 ?_
  replace h := ob h; obtain ⟨a9, ea9, h⟩ := h
  subst ea9
  replace h := ob h; obtain ⟨v10, ev10, h⟩ := h
  refine g_getR hC ev10 fk_X7_54 rfl dX7_isWhole_22 ?_
  refine g_iload_n hC 0 dX7_isWhole_25 rfl ?_
  replace h := ob h; obtain ⟨a12, ea12, h⟩ := h
  subst ea12
  replace h := ob h; obtain ⟨v11, ev11, h⟩ := h
  refine g_iald hC ev11 dX7_isWhole_26 ?_
  refine g_abs hC lk_X7_86 hR (Nat.le_of_ble_eq_true rfl) ⟨(Nat.le_of_ble_eq_true rfl), (Nat.le_of_ble_eq_true rfl), (Nat.le_of_ble_eq_true rfl), (Nat.le_of_ble_eq_true rfl)⟩ dX7_isWhole_27 ?_
  refine g_iadd hC dX7_isWhole_30 ?_
  refine g_istore hC ([(4, .int ((abI v6) + (abI v11))), (3, .int v2), (0, .ref this), (1, .int p1), (2, .int p2)]) dX7_isWhole_31 (by decide) rfl ?_
  refine g_iconst hC 0 dX7_isWhole_33 (by decide) ?_
  refine g_istore hC ([(5, .int 0), (4, .int ((abI v6) + (abI v11))), (3, .int v2), (0, .ref this), (1, .int p1), (2, .int p2)]) dX7_isWhole_34 (by decide) rfl ?_
  refine g_iconst hC 1 dX7_isWhole_36 (by decide) ?_
  refine g_istore hC ([(6, .int 1), (5, .int 0), (4, .int ((abI v6) + (abI v11))), (3, .int v2), (0, .ref this), (1, .int p1), (2, .int p2)]) dX7_isWhole_37 (by decide) rfl ?_
  refine g_sub [4, 5, 6, 2, 1, 0] rfl ?_
  refine l_X7_isWhole_L39 hC hR r M' _ _ _ _ _ ?_ _ _ _ _ h
  intro y37 M38 h
  refine g_iload hC 1 dX7_isWhole_132 rfl ?_
  refine g_iload hC 0 dX7_isWhole_134 rfl ?_
  refine g_icmp_ne hC 143 dX7_isWhole_136 (by decide) (fun c39 => ?_) (fun c39 => ?_)
  · replace h := it_f c39 h
    refine g_iconst hC 0 dX7_isWhole_143 (by decide) ?_
    exact g_zret hC (by decide) h ⟨(Nat.le_of_ble_eq_true rfl), (Nat.le_of_ble_eq_true rfl)⟩ dX7_isWhole_144
  · replace h := it_t c39 h
    refine g_iconst hC 1 dX7_isWhole_139 (by decide) ?_
    refine g_goto hC 144 dX7_isWhole_140 (by decide) ?_
    exact g_zret hC (by decide) h ⟨(Nat.le_of_ble_eq_true rfl), (Nat.le_of_ble_eq_true rfl)⟩ dX7_isWhole_144
