set_option maxHeartbeats 4000000 in
set_option maxRecDepth 100000 in
theorem c_X12_nearer (l : Launch) (Γ : Gm) (this : Nat) (p1 : Int32) (p2 : Int32) (p3 : Int32) (M M' : Mm) (r : Int32) (h : F_X12_nearer this p1 p2 p3 M = some (r, M')) : Met l yX12_nearer (wz yX12_nearer cX12_nearer 4 (some .int)) ({ frames := 0, cells := 0, slots := 0, locals := 0 } : Room) (Pq Γ M [.ref this, .int p1, .int p2, .int p3]) (Qi Γ r M') 0 0 (fr Γ) := by
  refine met_of (own := RX12) (by decide +kernel) rfl (Nat.le_of_ble_eq_true rfl) ?_
  intro X hC hR hnm hXl
  unfold F_X12_nearer at h
  show G Γ X 4 M 0 0 _ 0 ([(0, .ref this), (1, .int p1), (2, .int p2), (3, .int p3)]) []
  refine g_iload_n hC 2 dX12_nearer_0 rfl ?_
  refine g_iload_n hC 3 dX12_nearer_1 rfl ?_
  refine g_icmp_le hC 16 dX12_nearer_2 (by decide) (fun c1 => ?_) (fun c1 => ?_)
  · replace h := it_t c1 h
    refine g_iload_n hC 2 dX12_nearer_16 rfl ?_
    refine g_iload_n hC 3 dX12_nearer_17 rfl ?_
    refine g_icmp_ge hC 33 dX12_nearer_18 (by decide) (fun c2 => ?_) (fun c2 => ?_)
    · replace h := it_t c2 h
      refine g_iload_n hC 1 dX12_nearer_33 rfl ?_
      exact g_iret hC h ⟨(Nat.le_of_ble_eq_true rfl), (Nat.le_of_ble_eq_true rfl)⟩ dX12_nearer_34
    · replace h := it_f c2 h
      refine g_iload_n hC 1 dX12_nearer_21 rfl ?_
      refine g_bipush hC (-2) dX12_nearer_22 (by decide) ?_
      refine g_icmp_le hC 33 dX12_nearer_24 (by decide) (fun c3 => ?_) (fun c3 => ?_)
      · replace h := it_t c3 h
        refine g_iload_n hC 1 dX12_nearer_33 rfl ?_
        exact g_iret hC h ⟨(Nat.le_of_ble_eq_true rfl), (Nat.le_of_ble_eq_true rfl)⟩ dX12_nearer_34
      · replace h := it_f c3 h
        refine g_iload_n hC 1 dX12_nearer_27 rfl ?_
        refine g_iconst hC 1 dX12_nearer_28 (by decide) ?_
        refine g_isub hC dX12_nearer_29 ?_
        refine g_goto hC 34 dX12_nearer_30 (by decide) ?_
        exact g_iret hC h ⟨(Nat.le_of_ble_eq_true rfl), (Nat.le_of_ble_eq_true rfl)⟩ dX12_nearer_34
  · replace h := it_f c1 h
    refine g_iload_n hC 1 dX12_nearer_5 rfl ?_
    refine g_iconst hC 2 dX12_nearer_6 (by decide) ?_
    refine g_icmp_ge hC 16 dX12_nearer_7 (by decide) (fun c4 => ?_) (fun c4 => ?_)
    · replace h := it_t c4 h
      refine g_iload_n hC 2 dX12_nearer_16 rfl ?_
      refine g_iload_n hC 3 dX12_nearer_17 rfl ?_
      refine g_icmp_ge hC 33 dX12_nearer_18 (by decide) (fun c5 => ?_) (fun c5 => ?_)
      · replace h := it_t c5 h
        refine g_iload_n hC 1 dX12_nearer_33 rfl ?_
        exact g_iret hC h ⟨(Nat.le_of_ble_eq_true rfl), (Nat.le_of_ble_eq_true rfl)⟩ dX12_nearer_34
      · replace h := it_f c5 h
        refine g_iload_n hC 1 dX12_nearer_21 rfl ?_
        refine g_bipush hC (-2) dX12_nearer_22 (by decide) ?_
        refine g_icmp_le hC 33 dX12_nearer_24 (by decide) (fun c6 => ?_) (fun c6 => ?_)
        · replace h := it_t c6 h
          refine g_iload_n hC 1 dX12_nearer_33 rfl ?_
          exact g_iret hC h ⟨(Nat.le_of_ble_eq_true rfl), (Nat.le_of_ble_eq_true rfl)⟩ dX12_nearer_34
        · replace h := it_f c6 h
          refine g_iload_n hC 1 dX12_nearer_27 rfl ?_
          refine g_iconst hC 1 dX12_nearer_28 (by decide) ?_
          refine g_isub hC dX12_nearer_29 ?_
          refine g_goto hC 34 dX12_nearer_30 (by decide) ?_
          exact g_iret hC h ⟨(Nat.le_of_ble_eq_true rfl), (Nat.le_of_ble_eq_true rfl)⟩ dX12_nearer_34
    · replace h := it_f c4 h
      refine g_iload_n hC 1 dX12_nearer_10 rfl ?_
      refine g_iconst hC 1 dX12_nearer_11 (by decide) ?_
      refine g_iadd hC dX12_nearer_12 ?_
      refine g_goto hC 34 dX12_nearer_13 (by decide) ?_
      exact g_iret hC h ⟨(Nat.le_of_ble_eq_true rfl), (Nat.le_of_ble_eq_true rfl)⟩ dX12_nearer_34

set_option maxHeartbeats 4000000 in
set_option maxRecDepth 100000 in
theorem l_X12_learn_L73 {Γ : Gm} {X : Ct} (hC : Cx Γ X cX12_learn RX12 none 11) (hR : X.2.2.2.1 = ({ frames := 5, cells := 0, slots := 0, locals := 112 } : Room)) (M' : Mm) (k142 : Int32 → Int32 → Mm → Option Mm) (x0 : Nat) (x1 : Int32) (x6 : Int32) (x7 : Int32) (hk142 : ∀ (y8 : Int32) (y9 : Int32) (M1 : Mm), k142 y8 y9 M1 = some M' → G Γ X 11 M1 0 0 (Fin Γ X (Qv Γ M') 0 0) 142 ([(0, .ref x0), (1, .int x1), (6, .int x6), (7, .int x7), (8, .int y8), (9, .int y9)]) []) : ∀ (fu : Nat) (x8 : Int32) (x9 : Int32) (x10 : Int32) (M0 : Mm), F_X12_learn_L73 k142 x0 x1 x6 x7 fu x8 x9 x10 M0 = some M' → G Γ X 11 M0 0 0 (Fin Γ X (Qv Γ M') 0 0) 73 ([(0, .ref x0), (1, .int x1), (6, .int x6), (7, .int x7), (8, .int x8), (9, .int x9), (10, .int x10)]) [] := by
  intro fu
  induction fu with
  | zero =>
    intro x8 x9 x10 M0 h
    rw [F_X12_learn_L73] at h
    cases h
  | succ n13 ih =>
    intro x8 x9 x10 M0 h
    rw [F_X12_learn_L73] at h
    refine g_iload hC 6 dX12_learn_73 rfl ?_
    refine g_aload_n hC 0 dX12_learn_75 rfl ?_
    replace h := ob h; obtain ⟨v14, ev14, h⟩ := h
    refine g_getI hC ev14 fk_X12_30 rfl dX12_learn_76 ?_
    refine g_icmp_gt hC 142 dX12_learn_79 (by decide) (fun c15 => ?_) (fun c15 => ?_)
    · replace h := it_t c15 h
      refine g_sub [0, 1, 2, 3, 4, 5] rfl ?_
      exact hk142 x8 x9 M0 h
    · replace h := it_f c15 h
      refine g_iload hC 6 dX12_learn_82 rfl ?_
      refine g_aload_n hC 0 dX12_learn_84 rfl ?_
      replace h := ob h; obtain ⟨v16, ev16, h⟩ := h
      refine g_getR hC ev16 fk_X12_13 rfl dX12_learn_85 ?_
      refine g_bipush hC 10 dX12_learn_88 (by decide) ?_
      refine g_iload_n hC 1 dX12_learn_90 rfl ?_
      refine g_iadd hC dX12_learn_91 ?_
      replace h := ob h; obtain ⟨a18, ea18, h⟩ := h
      subst ea18
      replace h := ob h; obtain ⟨v17, ev17, h⟩ := h
      refine g_iald hC ev17 dX12_learn_92 ?_
      refine g_icmp_ge hC 142 dX12_learn_93 (by decide) (fun c19 => ?_) (fun c19 => ?_)
      · replace h := it_t c19 h
        refine g_sub [0, 1, 2, 3, 4, 5] rfl ?_
        exact hk142 x8 x9 M0 h
      · replace h := it_f c19 h
        refine g_iload hC 4 dX12_learn_96 rfl ?_
        refine g_aload_n hC 0 dX12_learn_98 rfl ?_
        replace h := ob h; obtain ⟨v20, ev20, h⟩ := h
        refine g_getR hC ev20 fk_X12_13 rfl dX12_learn_99 ?_
        refine g_sipush hC 890 dX12_learn_102 (by decide) ?_
        refine g_iconst hC 4 dX12_learn_105 (by decide) ?_
        refine g_iload_n hC 1 dX12_learn_106 rfl ?_
        refine g_imul hC dX12_learn_107 ?_
        refine g_iadd hC dX12_learn_108 ?_
        refine g_iload hC 6 dX12_learn_109 rfl ?_
        refine g_iadd hC dX12_learn_111 ?_
        replace h := ob h; obtain ⟨a22, ea22, h⟩ := h
        subst ea22
        replace h := ob h; obtain ⟨v21, ev21, h⟩ := h
        refine g_iald hC ev21 dX12_learn_112 ?_
        refine g_iadd hC dX12_learn_113 ?_
        refine g_istore hC ([(8, .int (x8 + v21)), (0, .ref x0), (1, .int x1), (6, .int x6), (7, .int x7), (9, .int x9), (10, .int x10)]) dX12_learn_114 (by decide) rfl ?_
        refine g_iload hC 5 dX12_learn_116 rfl ?_
        refine g_aload_n hC 1 dX12_learn_118 rfl ?_
        replace h := ob h; obtain ⟨v23, ev23, h⟩ := h
        refine g_getR hC ev23 fk_X12_13 rfl dX12_learn_119 ?_
        refine g_sipush hC 1210 dX12_learn_122 (by decide) ?_
        refine g_iconst hC 4 dX12_learn_125 (by decide) ?_
        refine g_iload_n hC 2 dX12_learn_126 rfl ?_
        refine g_imul hC dX12_learn_127 ?_
        refine g_iadd hC dX12_learn_128 ?_
        refine g_iload hC 6 dX12_learn_129 rfl ?_
        refine g_iadd hC dX12_learn_131 ?_
        replace h := ob h; obtain ⟨a25, ea25, h⟩ := h
        subst ea25
        replace h := ob h; obtain ⟨v24, ev24, h⟩ := h
        refine g_iald hC ev24 dX12_learn_132 ?_
        refine g_iadd hC dX12_learn_133 ?_
        refine g_istore hC ([(9, .int (x9 + v24)), (8, .int (x8 + v21)), (0, .ref x0), (1, .int x1), (6, .int x6), (7, .int x7), (10, .int x10)]) dX12_learn_134 (by decide) rfl ?_
        refine g_iinc hC 6 (x10 + 1) ([(10, .int (x10 + 1)), (9, .int (x9 + v24)), (8, .int (x8 + v21)), (0, .ref x0), (1, .int x1), (6, .int x6), (7, .int x7)]) dX12_learn_136 rfl rfl (by decide) rfl ?_
        refine g_goto hC 73 dX12_learn_139 (by decide) ?_
        refine g_sub [3, 4, 5, 6, 2, 1, 0] rfl ?_
        exact ih (x8 + v21) (x9 + v24) (x10 + 1) M0 h
set_option maxHeartbeats 4000000 in
set_option maxRecDepth 100000 in
theorem l_X12_learn_L145 {Γ : Gm} {X : Ct} (hC : Cx Γ X cX12_learn RX12 none 11) (hR : X.2.2.2.1 = ({ frames := 5, cells := 0, slots := 0, locals := 112 } : Room)) (M' : Mm)  (x0 : Nat) (x1 : Int32) (x6 : Int32) (x7 : Int32) (x8 : Int32) (x9 : Int32) : ∀ (fu : Nat) (x10 : Int32) (M0 : Mm), F_X12_learn_L145 x0 x1 x6 x7 x8 x9 fu x10 M0 = some M' → G Γ X 11 M0 0 0 (Fin Γ X (Qv Γ M') 0 0) 145 ([(0, .ref x0), (1, .int x1), (6, .int x6), (7, .int x7), (8, .int x8), (9, .int x9), (10, .int x10)]) [] := by
  intro fu
  induction fu with
  | zero =>
    intro x10 M0 h
    rw [F_X12_learn_L145] at h
    cases h
  | succ n29 ih =>
    intro x10 M0 h
    rw [F_X12_learn_L145] at h
    refine g_iload hC 6 dX12_learn_145 rfl ?_
    refine g_aload_n hC 0 dX12_learn_147 rfl ?_
    replace h := ob h; obtain ⟨v30, ev30, h⟩ := h
    refine g_getI hC ev30 fk_X12_30 rfl dX12_learn_148 ?_
    refine g_icmp_gt hC 250 dX12_learn_151 (by decide) (fun c31 => ?_) (fun c31 => ?_)
    · replace h := it_t c31 h
      exact g_vret hC h ⟨(Nat.le_of_ble_eq_true rfl), (Nat.le_of_ble_eq_true rfl)⟩ dX12_learn_250
    · replace h := it_f c31 h
      refine g_iload hC 6 dX12_learn_154 rfl ?_
      refine g_aload_n hC 0 dX12_learn_156 rfl ?_
      replace h := ob h; obtain ⟨v32, ev32, h⟩ := h
      refine g_getR hC ev32 fk_X12_13 rfl dX12_learn_157 ?_
      refine g_bipush hC 10 dX12_learn_160 (by decide) ?_
      refine g_iload_n hC 1 dX12_learn_162 rfl ?_
      refine g_iadd hC dX12_learn_163 ?_
      replace h := ob h; obtain ⟨a34, ea34, h⟩ := h
      subst ea34
      replace h := ob h; obtain ⟨v33, ev33, h⟩ := h
      refine g_iald hC ev33 dX12_learn_164 ?_
      refine g_icmp_ge hC 250 dX12_learn_165 (by decide) (fun c35 => ?_) (fun c35 => ?_)
      · replace h := it_t c35 h
        exact g_vret hC h ⟨(Nat.le_of_ble_eq_true rfl), (Nat.le_of_ble_eq_true rfl)⟩ dX12_learn_250
      · replace h := it_f c35 h
        refine g_aload_n hC 0 dX12_learn_168 rfl ?_
        replace h := ob h; obtain ⟨v36, ev36, h⟩ := h
        refine g_getR hC ev36 fk_X12_13 rfl dX12_learn_169 ?_
        refine g_sipush hC 890 dX12_learn_172 (by decide) ?_
        refine g_iconst hC 4 dX12_learn_175 (by decide) ?_
        refine g_iload_n hC 1 dX12_learn_176 rfl ?_
        refine g_imul hC dX12_learn_177 ?_
        refine g_iadd hC dX12_learn_178 ?_
        refine g_iload hC 6 dX12_learn_179 rfl ?_
        refine g_iadd hC dX12_learn_181 ?_
        refine g_aload_n hC 0 dX12_learn_182 rfl ?_
        refine g_aload_n hC 0 dX12_learn_183 rfl ?_
        replace h := ob h; obtain ⟨v37, ev37, h⟩ := h
        refine g_getR hC ev37 fk_X12_13 rfl dX12_learn_184 ?_
        refine g_sipush hC 890 dX12_learn_187 (by decide) ?_
        refine g_iconst hC 4 dX12_learn_190 (by decide) ?_
        refine g_iload_n hC 1 dX12_learn_191 rfl ?_
        refine g_imul hC dX12_learn_192 ?_
        refine g_iadd hC dX12_learn_193 ?_
        refine g_iload hC 6 dX12_learn_194 rfl ?_
        refine g_iadd hC dX12_learn_196 ?_
        replace h := ob h; obtain ⟨a39, ea39, h⟩ := h
        subst ea39
        replace h := ob h; obtain ⟨v38, ev38, h⟩ := h
        refine g_iald hC ev38 dX12_learn_197 ?_
        refine g_iload hC 2 dX12_learn_198 rfl ?_
        refine g_iload hC 4 dX12_learn_200 rfl ?_
        replace h := ob h; obtain ⟨_, eu41, h⟩ := h
        replace h := ob h; obtain ⟨⟨v42, M40⟩, eM40, h⟩ := h
        refine g_calli hC (r_V hC (As := [.int v38, .int x6, .int x8]) (c_X12_nearer _ Γ x0 v38 x6 x8 M0 M40 v42 eM40) yk_X12_nearer lk_X12_168 eu41 ⟨_, rfl, rfl⟩ rfl rfl (by simp only [List.map, cat_rf]; exact Nat.le_of_ble_eq_true rfl) hR ⟨(Nat.le_of_ble_eq_true rfl), (Nat.le_of_ble_eq_true rfl)⟩ ⟨(Nat.le_of_ble_eq_true rfl), (Nat.le_of_ble_eq_true rfl)⟩ dX12_learn_202) ?_
        replace h := ob h; obtain ⟨a44, ea44, h⟩ := h
        subst ea44
        replace h := ob h; obtain ⟨M43, eM43, h⟩ := h
        refine g_iast hC eM43 dX12_learn_205 ?_
        refine g_aload_n hC 0 dX12_learn_206 rfl ?_
        replace h := ob h; obtain ⟨v45, ev45, h⟩ := h
        refine g_getR hC ev45 fk_X12_13 rfl dX12_learn_207 ?_
        refine g_sipush hC 1210 dX12_learn_210 (by decide) ?_
        refine g_iconst hC 4 dX12_learn_213 (by decide) ?_
        refine g_iload_n hC 1 dX12_learn_214 rfl ?_
        refine g_imul hC dX12_learn_215 ?_
        refine g_iadd hC dX12_learn_216 ?_
        refine g_iload hC 6 dX12_learn_217 rfl ?_
        refine g_iadd hC dX12_learn_219 ?_
        refine g_aload_n hC 0 dX12_learn_220 rfl ?_
        refine g_aload_n hC 0 dX12_learn_221 rfl ?_
        replace h := ob h; obtain ⟨v46, ev46, h⟩ := h
        refine g_getR hC ev46 fk_X12_13 rfl dX12_learn_222 ?_
        refine g_sipush hC 1210 dX12_learn_225 (by decide) ?_
        refine g_iconst hC 4 dX12_learn_228 (by decide) ?_
        refine g_iload_n hC 1 dX12_learn_229 rfl ?_
        refine g_imul hC dX12_learn_230 ?_
        refine g_iadd hC dX12_learn_231 ?_
        refine g_iload hC 6 dX12_learn_232 rfl ?_
        refine g_iadd hC dX12_learn_234 ?_
        replace h := ob h; obtain ⟨a48, ea48, h⟩ := h
        subst ea48
        replace h := ob h; obtain ⟨v47, ev47, h⟩ := h
        refine g_iald hC ev47 dX12_learn_235 ?_
        refine g_iload hC 3 dX12_learn_236 rfl ?_
        refine g_iload hC 5 dX12_learn_238 rfl ?_
        replace h := ob h; obtain ⟨_, eu50, h⟩ := h
        replace h := ob h; obtain ⟨⟨v51, M49⟩, eM49, h⟩ := h
        refine g_calli hC (r_V hC (As := [.int v47, .int x7, .int x9]) (c_X12_nearer _ Γ x0 v47 x7 x9 M43 M49 v51 eM49) yk_X12_nearer lk_X12_168 eu50 ⟨_, rfl, rfl⟩ rfl rfl (by simp only [List.map, cat_rf]; exact Nat.le_of_ble_eq_true rfl) hR ⟨(Nat.le_of_ble_eq_true rfl), (Nat.le_of_ble_eq_true rfl)⟩ ⟨(Nat.le_of_ble_eq_true rfl), (Nat.le_of_ble_eq_true rfl)⟩ dX12_learn_240) ?_
        replace h := ob h; obtain ⟨a53, ea53, h⟩ := h
        subst ea53
        replace h := ob h; obtain ⟨M52, eM52, h⟩ := h
        refine g_iast hC eM52 dX12_learn_243 ?_
        refine g_iinc hC 6 (x10 + 1) ([(10, .int (x10 + 1)), (0, .ref x0), (1, .int x1), (6, .int x6), (7, .int x7), (8, .int x8), (9, .int x9)]) dX12_learn_244 rfl rfl (by decide) rfl ?_
        refine g_goto hC 145 dX12_learn_247 (by decide) ?_
        refine g_sub [1, 2, 3, 4, 5, 6, 0] rfl ?_
        exact ih (x10 + 1) M52 h
set_option maxHeartbeats 4000000 in
set_option maxRecDepth 100000 in
theorem c_X12_learn (l : Launch) (Γ : Gm) (this : Nat) (p1 : Int32) (p2 : Int32) (p3 : Int32) (M M' : Mm) (h : F_X12_learn this p1 p2 p3 M = some M') : Met l yX12_learn (wz yX12_learn cX12_learn 11 none) ({ frames := 5, cells := 0, slots := 0, locals := 112 } : Room) (Pq Γ M [.ref this, .int p1, .int p2, .int p3]) (Qv Γ M') 0 0 (fr Γ) := by
  refine met_of (own := RX12) (by decide +kernel) rfl (Nat.le_of_ble_eq_true rfl) ?_
  intro X hC hR hnm hXl
  unfold F_X12_learn at h
  show G Γ X 11 M 0 0 _ 0 ([(0, .ref this), (1, .int p1), (2, .int p2), (3, .int p3)]) []
  refine g_aload_n hC 0 dX12_learn_0 rfl ?_
  replace h := ob h; obtain ⟨v1, ev1, h⟩ := h
  refine g_getI hC ev1 fk_X12_24 rfl dX12_learn_1 ?_
  refine g_istore hC ([(4, .int v1), (0, .ref this), (1, .int p1), (2, .int p2), (3, .int p3)]) dX12_learn_4 (by decide) rfl ?_
  refine g_aload_n hC 1 dX12_learn_6 rfl ?_
  replace h := ob h; obtain ⟨v2, ev2, h⟩ := h
  refine g_getI hC ev2 fk_X12_27 rfl dX12_learn_7 ?_
  refine g_istore hC ([(5, .int v2), (4, .int v1), (0, .ref this), (1, .int p1), (2, .int p2), (3, .int p3)]) dX12_learn_10 (by decide) rfl ?_
  refine g_aload_n hC 2 dX12_learn_12 rfl ?_
  refine g_iload_n hC 3 dX12_learn_13 rfl ?_
  refine g_bipush hC 8 dX12_learn_14 (by decide) ?_
  replace h := ob h; obtain ⟨v3, ev3, h⟩ := h
  refine g_idiv hC ev3 dX12_learn_16 ?_
  replace h := ob h; obtain ⟨M4, eM4, h⟩ := h
  refine g_putI hC eM4 fk_X12_24 rfl dX12_learn_17 ?_
  refine g_aload_n hC 2 dX12_learn_20 rfl ?_
  refine g_iload_n hC 3 dX12_learn_21 rfl ?_
  refine g_bipush hC 8 dX12_learn_22 (by decide) ?_
  replace h := ob h; obtain ⟨v5, ev5, h⟩ := h
  refine g_irem hC ev5 dX12_learn_24 ?_
  replace h := ob h; obtain ⟨M6, eM6, h⟩ := h
  refine g_putI hC eM6 fk_X12_27 rfl dX12_learn_25 ?_
  refine g_aload_n hC 2 dX12_learn_28 rfl ?_
  refine g_iload_n hC 4 dX12_learn_29 rfl ?_
  refine g_iload_n hC 5 dX12_learn_30 rfl ?_
  replace h := ob h; obtain ⟨_, eu8, h⟩ := h
  replace h := ob h; obtain ⟨M7, eM7, h⟩ := h
  refine g_callv hC (r_V hC (As := [.int p2, .int p3]) (c_X12_steps _ Γ this p2 p3 M6 M7 eM7) yk_X12_steps lk_X12_159 eu8 ⟨_, rfl, rfl⟩ rfl rfl (Nat.le_of_ble_eq_true rfl) hR ⟨(Nat.le_of_ble_eq_true rfl), (Nat.le_of_ble_eq_true rfl)⟩ ⟨(Nat.le_of_ble_eq_true rfl), (Nat.le_of_ble_eq_true rfl)⟩ dX12_learn_31) ?_
  refine g_iload hC 1 dX12_learn_34 rfl ?_
  refine g_aload_n hC 2 dX12_learn_36 rfl ?_
  replace h := ob h; obtain ⟨v9, ev9, h⟩ := h
  refine g_getI hC ev9 fk_X12_24 rfl dX12_learn_37 ?_
  refine g_isub hC dX12_learn_40 ?_
  refine g_istore hC ([(6, .int (v1 - v9)), (5, .int v2), (4, .int v1), (0, .ref this), (1, .int p1), (2, .int p2), (3, .int p3)]) dX12_learn_41 (by decide) rfl ?_
  refine g_iload hC 1 dX12_learn_43 rfl ?_
  refine g_aload_n hC 3 dX12_learn_45 rfl ?_
  replace h := ob h; obtain ⟨v10, ev10, h⟩ := h
  refine g_getI hC ev10 fk_X12_27 rfl dX12_learn_46 ?_
  refine g_isub hC dX12_learn_49 ?_
  refine g_istore hC ([(7, .int (v2 - v10)), (6, .int (v1 - v9)), (5, .int v2), (4, .int v1), (0, .ref this), (1, .int p1), (2, .int p2), (3, .int p3)]) dX12_learn_50 (by decide) rfl ?_
  refine g_aload_n hC 4 dX12_learn_52 rfl ?_
  refine g_iload hC 3 dX12_learn_53 rfl ?_
  replace h := ob h; obtain ⟨M11, eM11, h⟩ := h
  refine g_putI hC eM11 fk_X12_24 rfl dX12_learn_55 ?_
  refine g_aload_n hC 4 dX12_learn_58 rfl ?_
  refine g_iload hC 2 dX12_learn_59 rfl ?_
  replace h := ob h; obtain ⟨M12, eM12, h⟩ := h
  refine g_putI hC eM12 fk_X12_27 rfl dX12_learn_61 ?_
  refine g_iconst hC 0 dX12_learn_64 (by decide) ?_
  refine g_istore hC ([(8, .int 0), (7, .int (v2 - v10)), (6, .int (v1 - v9)), (5, .int v2), (4, .int v1), (0, .ref this), (1, .int p1), (2, .int p2), (3, .int p3)]) dX12_learn_65 (by decide) rfl ?_
  refine g_iconst hC 0 dX12_learn_67 (by decide) ?_
  refine g_istore hC ([(9, .int 0), (8, .int 0), (7, .int (v2 - v10)), (6, .int (v1 - v9)), (5, .int v2), (4, .int v1), (0, .ref this), (1, .int p1), (2, .int p2), (3, .int p3)]) dX12_learn_68 (by decide) rfl ?_
  refine g_iconst hC 0 dX12_learn_70 (by decide) ?_
  refine g_istore hC ([(10, .int 0), (9, .int 0), (8, .int 0), (7, .int (v2 - v10)), (6, .int (v1 - v9)), (5, .int v2), (4, .int v1), (0, .ref this), (1, .int p1), (2, .int p2), (3, .int p3)]) dX12_learn_71 (by decide) rfl ?_
  refine g_sub [7, 8, 4, 3, 2, 1, 0] rfl ?_
  refine l_X12_learn_L73 hC hR M' _ _ _ _ _ ?_ _ _ _ _ _ h
  intro y26 y27 M28 h
  refine g_iconst hC 0 dX12_learn_142 (by decide) ?_
  refine g_istore hC ([(10, .int 0), (0, .ref this), (1, .int p1), (6, .int (v1 - v9)), (7, .int (v2 - v10)), (8, .int y26), (9, .int y27)]) dX12_learn_143 (by decide) rfl ?_
  refine g_sub [1, 2, 3, 4, 5, 6, 0] rfl ?_
  refine l_X12_learn_L145 hC hR M'  _ _ _ _ _ _  _ _ _ h

set_option maxHeartbeats 4000000 in
set_option maxRecDepth 100000 in
theorem c_X12_dives (l : Launch) (Γ : Gm) (this : Nat) (p1 : Int32) (p2 : Int32) (p3 : Int32) (p4 : Int32) (M M' : Mm) (r : Int32) (h : F_X12_dives this p1 p2 p3 p4 M = some (r, M')) : Met l yX12_dives (wz yX12_dives cX12_dives 6 (some .int)) ({ frames := 6, cells := 0, slots := 0, locals := 142 } : Room) (Pq Γ M [.ref this, .int p1, .int p2, .int p3, .int p4]) (Qi Γ r M') 0 0 (fr Γ) := by
  refine met_of (own := RX12) (by decide +kernel) rfl (Nat.le_of_ble_eq_true rfl) ?_
  intro X hC hR hnm hXl
  unfold F_X12_dives at h
  show G Γ X 6 M 0 0 _ 0 ([(0, .ref this), (1, .int p1), (2, .int p2), (3, .int p3), (4, .int p4)]) []
  refine g_bipush hC 8 dX12_dives_0 (by decide) ?_
  refine g_aload_n hC 0 dX12_dives_2 rfl ?_
  replace h := ob h; obtain ⟨v1, ev1, h⟩ := h
  refine g_getR hC ev1 fk_X12_13 rfl dX12_dives_3 ?_
  refine g_sipush hC 2178 dX12_dives_6 (by decide) ?_
  refine g_iload_n hC 1 dX12_dives_9 rfl ?_
  refine g_iadd hC dX12_dives_10 ?_
  replace h := ob h; obtain ⟨a3, ea3, h⟩ := h
  subst ea3
  replace h := ob h; obtain ⟨v2, ev2, h⟩ := h
  refine g_iald hC ev2 dX12_dives_11 ?_
  refine g_imul hC dX12_dives_12 ?_
  refine g_aload_n hC 0 dX12_dives_13 rfl ?_
  replace h := ob h; obtain ⟨v4, ev4, h⟩ := h
  refine g_getR hC ev4 fk_X12_13 rfl dX12_dives_14 ?_
  refine g_sipush hC 2186 dX12_dives_17 (by decide) ?_
  refine g_iload_n hC 1 dX12_dives_20 rfl ?_
  refine g_iadd hC dX12_dives_21 ?_
  replace h := ob h; obtain ⟨a6, ea6, h⟩ := h
  subst ea6
  replace h := ob h; obtain ⟨v5, ev5, h⟩ := h
  refine g_iald hC ev5 dX12_dives_22 ?_
  refine g_iadd hC dX12_dives_23 ?_
  refine g_istore hC ([(5, .int ((8 * v2) + v5)), (0, .ref this), (1, .int p1), (2, .int p2), (3, .int p3), (4, .int p4)]) dX12_dives_24 (by decide) rfl ?_
  refine g_aload_n hC 1 dX12_dives_26 rfl ?_
  replace h := ob h; obtain ⟨v7, ev7, h⟩ := h
  refine g_getR hC ev7 fk_X12_13 rfl dX12_dives_27 ?_
  refine g_sipush hC 2194 dX12_dives_30 (by decide) ?_
  refine g_iload_n hC 2 dX12_dives_33 rfl ?_
  refine g_iadd hC dX12_dives_34 ?_
  refine g_dup2 hC dX12_dives_35 rfl (cat_rf _) ?_
  replace h := ob h; obtain ⟨a9, ea9, h⟩ := h
  subst ea9
  replace h := ob h; obtain ⟨v8, ev8, h⟩ := h
  refine g_iald hC ev8 dX12_dives_36 ?_
  refine g_aload_n hC 1 dX12_dives_37 rfl ?_
  refine g_iload_n hC 2 dX12_dives_38 rfl ?_
  refine g_iload_n hC 3 dX12_dives_39 rfl ?_
  replace h := ob h; obtain ⟨_, eu11, h⟩ := h
  replace h := ob h; obtain ⟨⟨v12, M10⟩, eM10, h⟩ := h
  refine g_calli hC (r_V hC (As := [.int p1, .int p2]) (c_X12_cost _ Γ this p1 p2 M M10 v12 eM10) yk_X12_cost lk_X12_149 eu11 ⟨_, rfl, rfl⟩ rfl rfl (Nat.le_of_ble_eq_true rfl) hR ⟨(Nat.le_of_ble_eq_true rfl), (Nat.le_of_ble_eq_true rfl)⟩ ⟨(Nat.le_of_ble_eq_true rfl), (Nat.le_of_ble_eq_true rfl)⟩ dX12_dives_40) ?_
  refine g_isub hC dX12_dives_43 ?_
  replace h := ob h; obtain ⟨M13, eM13, h⟩ := h
  refine g_iast hC eM13 dX12_dives_44 ?_
  refine g_aload_n hC 1 dX12_dives_45 rfl ?_
  replace h := ob h; obtain ⟨v14, ev14, h⟩ := h
  refine g_getR hC ev14 fk_X12_13 rfl dX12_dives_46 ?_
  refine g_sipush hC 2242 dX12_dives_49 (by decide) ?_
  refine g_iload_n hC 2 dX12_dives_52 rfl ?_
  refine g_iadd hC dX12_dives_53 ?_
  refine g_dup2 hC dX12_dives_54 rfl (cat_rf _) ?_
  replace h := ob h; obtain ⟨a16, ea16, h⟩ := h
  subst ea16
  replace h := ob h; obtain ⟨v15, ev15, h⟩ := h
  refine g_iald hC ev15 dX12_dives_55 ?_
  refine g_iconst hC 1 dX12_dives_56 (by decide) ?_
  refine g_iadd hC dX12_dives_57 ?_
  replace h := ob h; obtain ⟨M17, eM17, h⟩ := h
  refine g_iast hC eM17 dX12_dives_58 ?_
  refine g_aload_n hC 1 dX12_dives_59 rfl ?_
  refine g_aload_n hC 1 dX12_dives_60 rfl ?_
  replace h := ob h; obtain ⟨v18, ev18, h⟩ := h
  refine g_getR hC ev18 fk_X12_13 rfl dX12_dives_61 ?_
  refine g_sipush hC 2178 dX12_dives_64 (by decide) ?_
  refine g_iload_n hC 2 dX12_dives_67 rfl ?_
  refine g_iadd hC dX12_dives_68 ?_
  replace h := ob h; obtain ⟨a20, ea20, h⟩ := h
  subst ea20
  replace h := ob h; obtain ⟨v19, ev19, h⟩ := h
  refine g_iald hC ev19 dX12_dives_69 ?_
  replace h := ob h; obtain ⟨M21, eM21, h⟩ := h
  refine g_putI hC eM21 fk_X12_24 rfl dX12_dives_70 ?_
  refine g_aload_n hC 1 dX12_dives_73 rfl ?_
  refine g_aload_n hC 1 dX12_dives_74 rfl ?_
  replace h := ob h; obtain ⟨v22, ev22, h⟩ := h
  refine g_getR hC ev22 fk_X12_13 rfl dX12_dives_75 ?_
  refine g_sipush hC 2186 dX12_dives_78 (by decide) ?_
  refine g_iload_n hC 2 dX12_dives_81 rfl ?_
  refine g_iadd hC dX12_dives_82 ?_
  replace h := ob h; obtain ⟨a24, ea24, h⟩ := h
  subst ea24
  replace h := ob h; obtain ⟨v23, ev23, h⟩ := h
  refine g_iald hC ev23 dX12_dives_83 ?_
  replace h := ob h; obtain ⟨M25, eM25, h⟩ := h
  refine g_putI hC eM25 fk_X12_27 rfl dX12_dives_84 ?_
  refine g_aload_n hC 1 dX12_dives_87 rfl ?_
  refine g_iload_n hC 3 dX12_dives_88 rfl ?_
  refine g_iconst hC 0 dX12_dives_89 (by decide) ?_
  replace h := ob h; obtain ⟨_, eu27, h⟩ := h
  replace h := ob h; obtain ⟨M26, eM26, h⟩ := h
  refine g_callv hC (r_V hC (As := [.int p2, .int 0]) (c_X12_sink _ Γ this p2 0 M25 M26 eM26) yk_X12_sink lk_X12_172 eu27 ⟨_, rfl, rfl⟩ rfl rfl (Nat.le_of_ble_eq_true rfl) hR ⟨(Nat.le_of_ble_eq_true rfl), (Nat.le_of_ble_eq_true rfl)⟩ ⟨(Nat.le_of_ble_eq_true rfl), (Nat.le_of_ble_eq_true rfl)⟩ dX12_dives_90) ?_
  refine g_aload_n hC 1 dX12_dives_93 rfl ?_
  replace h := ob h; obtain ⟨v28, ev28, h⟩ := h
  refine g_getI hC ev28 fk_X12_33 rfl dX12_dives_94 ?_
  replace h := jp_e h; obtain ⟨k29, ek29, h⟩ := h
  have J69 : ∀  (M30 : Mm), k29  M30 = some (r, M') → G Γ X 6 M30 0 0 (Fin Γ X (Qi Γ r M') 0 0) 112 ([(0, .ref this), (1, .int p1), (3, .int p3), (4, .int p4), (5, .int ((8 * v2) + v5))]) ([]) := by
    intro  M30 h
    rw [ek29] at h
    refine g_aload_n hC 0 dX12_dives_112 rfl ?_
    replace h := ob h; obtain ⟨v31, ev31, h⟩ := h
    refine g_getR hC ev31 fk_X12_13 rfl dX12_dives_113 ?_
    refine g_sipush hC 2178 dX12_dives_116 (by decide) ?_
    refine g_iload_n hC 1 dX12_dives_119 rfl ?_
    refine g_iadd hC dX12_dives_120 ?_
    refine g_aload_n hC 0 dX12_dives_121 rfl ?_
    replace h := ob h; obtain ⟨v32, ev32, h⟩ := h
    refine g_getI hC ev32 fk_X12_24 rfl dX12_dives_122 ?_
    replace h := ob h; obtain ⟨a34, ea34, h⟩ := h
    subst ea34
    replace h := ob h; obtain ⟨M33, eM33, h⟩ := h
    refine g_iast hC eM33 dX12_dives_125 ?_
    refine g_aload_n hC 0 dX12_dives_126 rfl ?_
    replace h := ob h; obtain ⟨v35, ev35, h⟩ := h
    refine g_getR hC ev35 fk_X12_13 rfl dX12_dives_127 ?_
    refine g_sipush hC 2186 dX12_dives_130 (by decide) ?_
    refine g_iload_n hC 1 dX12_dives_133 rfl ?_
    refine g_iadd hC dX12_dives_134 ?_
    refine g_aload_n hC 0 dX12_dives_135 rfl ?_
    replace h := ob h; obtain ⟨v36, ev36, h⟩ := h
    refine g_getI hC ev36 fk_X12_27 rfl dX12_dives_136 ?_
    replace h := ob h; obtain ⟨a38, ea38, h⟩ := h
    subst ea38
    replace h := ob h; obtain ⟨M37, eM37, h⟩ := h
    refine g_iast hC eM37 dX12_dives_139 ?_
    refine g_aload_n hC 0 dX12_dives_140 rfl ?_
    replace h := ob h; obtain ⟨v39, ev39, h⟩ := h
    refine g_getI hC ev39 fk_X12_33 rfl dX12_dives_141 ?_
    refine g_if_eq hC 161 dX12_dives_144 (by decide) (fun c40 => ?_) (fun c40 => ?_)
    · replace h := it_t c40 h
      refine g_aload_n hC 0 dX12_dives_161 rfl ?_
      replace h := ob h; obtain ⟨v41, ev41, h⟩ := h
      refine g_getR hC ev41 fk_X12_13 rfl dX12_dives_162 ?_
      refine g_bipush hC 90 dX12_dives_165 (by decide) ?_
      refine g_bipush hC 8 dX12_dives_167 (by decide) ?_
      refine g_aload_n hC 0 dX12_dives_169 rfl ?_
      replace h := ob h; obtain ⟨v42, ev42, h⟩ := h
      refine g_getI hC ev42 fk_X12_24 rfl dX12_dives_170 ?_
      refine g_imul hC dX12_dives_173 ?_
      refine g_iadd hC dX12_dives_174 ?_
      refine g_aload_n hC 0 dX12_dives_175 rfl ?_
      replace h := ob h; obtain ⟨v43, ev43, h⟩ := h
      refine g_getI hC ev43 fk_X12_27 rfl dX12_dives_176 ?_
      refine g_iadd hC dX12_dives_179 ?_
      replace h := ob h; obtain ⟨a45, ea45, h⟩ := h
      subst ea45
      replace h := ob h; obtain ⟨v44, ev44, h⟩ := h
      refine g_iald hC ev44 dX12_dives_180 ?_
      refine g_iconst hC 1 dX12_dives_181 (by decide) ?_
      replace h := jp_e h; obtain ⟨k46, ek46, h⟩ := h
      have J52 : ∀  (M47 : Mm), k46  M47 = some (r, M') → G Γ X 6 M47 0 0 (Fin Γ X (Qi Γ r M') 0 0) 225 ([(0, .ref this), (3, .int p3), (4, .int p4), (5, .int ((8 * v2) + v5))]) ([]) := by
        intro  M47 h
        rw [ek46] at h
        refine g_aload_n hC 0 dX12_dives_225 rfl ?_
        refine g_iload hC 3 dX12_dives_226 rfl ?_
        refine g_iload_n hC 1 dX12_dives_228 rfl ?_
        refine g_iload hC 2 dX12_dives_229 rfl ?_
        replace h := ob h; obtain ⟨_, eu49, h⟩ := h
        replace h := ob h; obtain ⟨M48, eM48, h⟩ := h
        refine g_callv hC (r_V hC (As := [.int ((8 * v2) + v5), .int p3, .int p4]) (c_X12_learn _ Γ this ((8 * v2) + v5) p3 p4 M47 M48 eM48) yk_X12_learn lk_X12_180 eu49 ⟨_, rfl, rfl⟩ rfl rfl (Nat.le_of_ble_eq_true rfl) hR ⟨(Nat.le_of_ble_eq_true rfl), (Nat.le_of_ble_eq_true rfl)⟩ ⟨(Nat.le_of_ble_eq_true rfl), (Nat.le_of_ble_eq_true rfl)⟩ dX12_dives_231) ?_
        refine g_bipush hC 8 dX12_dives_234 (by decide) ?_
        refine g_aload_n hC 0 dX12_dives_236 rfl ?_
        replace h := ob h; obtain ⟨v50, ev50, h⟩ := h
        refine g_getI hC ev50 fk_X12_24 rfl dX12_dives_237 ?_
        refine g_imul hC dX12_dives_240 ?_
        refine g_aload_n hC 0 dX12_dives_241 rfl ?_
        replace h := ob h; obtain ⟨v51, ev51, h⟩ := h
        refine g_getI hC ev51 fk_X12_27 rfl dX12_dives_242 ?_
        refine g_iadd hC dX12_dives_245 ?_
        exact g_iret hC h ⟨(Nat.le_of_ble_eq_true rfl), (Nat.le_of_ble_eq_true rfl)⟩ dX12_dives_246
      refine g_icmp_ne hC 225 dX12_dives_182 (by decide) (fun c53 => ?_) (fun c53 => ?_)
      · replace h := it_f c53 h
        refine g_sub [0, 2, 3, 4] rfl ?_
        exact J52  M37 h
      · replace h := it_t c53 h
        refine g_aload_n hC 0 dX12_dives_185 rfl ?_
        replace h := ob h; obtain ⟨v54, ev54, h⟩ := h
        refine g_getR hC ev54 fk_X12_13 rfl dX12_dives_186 ?_
        refine g_sipush hC 2194 dX12_dives_189 (by decide) ?_
        refine g_iload_n hC 1 dX12_dives_192 rfl ?_
        refine g_iadd hC dX12_dives_193 ?_
        refine g_aload_n hC 0 dX12_dives_194 rfl ?_
        replace h := ob h; obtain ⟨v55, ev55, h⟩ := h
        refine g_getR hC ev55 fk_X12_13 rfl dX12_dives_195 ?_
        refine g_sipush hC 2194 dX12_dives_198 (by decide) ?_
        refine g_iload_n hC 1 dX12_dives_201 rfl ?_
        refine g_iadd hC dX12_dives_202 ?_
        replace h := ob h; obtain ⟨a57, ea57, h⟩ := h
        subst ea57
        replace h := ob h; obtain ⟨v56, ev56, h⟩ := h
        refine g_iald hC ev56 dX12_dives_203 ?_
        refine g_iconst hC 5 dX12_dives_204 (by decide) ?_
        refine g_icmp_le hC 223 dX12_dives_205 (by decide) (fun c58 => ?_) (fun c58 => ?_)
        · replace h := it_t c58 h
          refine g_iconst hC 0 dX12_dives_223 (by decide) ?_
          replace h := ob h; obtain ⟨a60, ea60, h⟩ := h
          subst ea60
          replace h := ob h; obtain ⟨M59, eM59, h⟩ := h
          refine g_iast hC eM59 dX12_dives_224 ?_
          refine g_sub [0, 2, 3, 4] rfl ?_
          exact J52  M59 h
        · replace h := it_f c58 h
          refine g_aload_n hC 0 dX12_dives_208 rfl ?_
          replace h := ob h; obtain ⟨v61, ev61, h⟩ := h
          refine g_getR hC ev61 fk_X12_13 rfl dX12_dives_209 ?_
          refine g_sipush hC 2194 dX12_dives_212 (by decide) ?_
          refine g_iload_n hC 1 dX12_dives_215 rfl ?_
          refine g_iadd hC dX12_dives_216 ?_
          replace h := ob h; obtain ⟨a63, ea63, h⟩ := h
          subst ea63
          replace h := ob h; obtain ⟨v62, ev62, h⟩ := h
          refine g_iald hC ev62 dX12_dives_217 ?_
          refine g_iconst hC 5 dX12_dives_218 (by decide) ?_
          refine g_isub hC dX12_dives_219 ?_
          refine g_goto hC 224 dX12_dives_220 (by decide) ?_
          replace h := ob h; obtain ⟨a65, ea65, h⟩ := h
          subst ea65
          replace h := ob h; obtain ⟨M64, eM64, h⟩ := h
          refine g_iast hC eM64 dX12_dives_224 ?_
          refine g_sub [0, 2, 3, 4] rfl ?_
          exact J52  M64 h
    · replace h := it_f c40 h
      refine g_aload_n hC 0 dX12_dives_147 rfl ?_
      replace h := ob h; obtain ⟨v66, ev66, h⟩ := h
      refine g_getR hC ev66 fk_X12_13 rfl dX12_dives_148 ?_
      refine g_sipush hC 2202 dX12_dives_151 (by decide) ?_
      refine g_iload_n hC 1 dX12_dives_154 rfl ?_
      refine g_iadd hC dX12_dives_155 ?_
      refine g_iconst hC 2 dX12_dives_156 (by decide) ?_
      replace h := ob h; obtain ⟨a68, ea68, h⟩ := h
      subst ea68
      replace h := ob h; obtain ⟨M67, eM67, h⟩ := h
      refine g_iast hC eM67 dX12_dives_157 ?_
      refine g_bipush hC (-5) dX12_dives_158 (by decide) ?_
      exact g_iret hC h ⟨(Nat.le_of_ble_eq_true rfl), (Nat.le_of_ble_eq_true rfl)⟩ dX12_dives_160
  refine g_if_ne hC 112 dX12_dives_97 (by decide) (fun c70 => ?_) (fun c70 => ?_)
  · replace h := it_f c70 h
    refine g_sub [1, 2, 4, 5, 0] rfl ?_
    exact J69  M26 h
  · replace h := it_t c70 h
    refine g_aload_n hC 1 dX12_dives_100 rfl ?_
    refine g_iload_n hC 4 dX12_dives_101 rfl ?_
    refine g_iload hC 5 dX12_dives_102 rfl ?_
    replace h := ob h; obtain ⟨_, eu72, h⟩ := h
    replace h := ob h; obtain ⟨M71, eM71, h⟩ := h
    refine g_callv hC (r_V hC (As := [.int p3, .int p4]) (c_X12_steps _ Γ this p3 p4 M26 M71 eM71) yk_X12_steps lk_X12_159 eu72 ⟨_, rfl, rfl⟩ rfl rfl (Nat.le_of_ble_eq_true rfl) hR ⟨(Nat.le_of_ble_eq_true rfl), (Nat.le_of_ble_eq_true rfl)⟩ ⟨(Nat.le_of_ble_eq_true rfl), (Nat.le_of_ble_eq_true rfl)⟩ dX12_dives_104) ?_
    refine g_aload_n hC 1 dX12_dives_107 rfl ?_
    refine g_iload_n hC 2 dX12_dives_108 rfl ?_
    replace h := ob h; obtain ⟨_, eu74, h⟩ := h
    replace h := ob h; obtain ⟨M73, eM73, h⟩ := h
    refine g_callv hC (r_V hC (As := [.int p1]) (c_X12_measure _ Γ this p1 M71 M73 eM73) yk_X12_measure lk_X12_176 eu74 ⟨_, rfl, rfl⟩ rfl rfl (Nat.le_of_ble_eq_true rfl) hR ⟨(Nat.le_of_ble_eq_true rfl), (Nat.le_of_ble_eq_true rfl)⟩ ⟨(Nat.le_of_ble_eq_true rfl), (Nat.le_of_ble_eq_true rfl)⟩ dX12_dives_109) ?_
    refine g_sub [1, 2, 4, 5, 0] rfl ?_
    exact J69  M73 h

set_option maxHeartbeats 4000000 in
set_option maxRecDepth 100000 in
theorem c_X12_dive (l : Launch) (Γ : Gm) (this : Nat) (p1 : Int32) (p2 : Int32) (p3 : Int32) (p4 : Int32) (M M' : Mm) (r : Int32) (h : F_X12_dive this p1 p2 p3 p4 M = some (r, M')) : Met l yX12_dive (wz yX12_dive cX12_dive 5 (some .int)) ({ frames := 7, cells := 0, slots := 0, locals := 167 } : Room) (Pq Γ M [.ref this, .int p1, .int p2, .int p3, .int p4]) (Qi Γ r M') 0 0 (fr Γ) := by
  refine met_of (own := RX12) (by decide +kernel) rfl (Nat.le_of_ble_eq_true rfl) ?_
  intro X hC hR hnm hXl
  unfold F_X12_dive at h
  show G Γ X 5 M 0 0 _ 0 ([(0, .ref this), (1, .int p1), (2, .int p2), (3, .int p3), (4, .int p4)]) []
  refine g_aload_n hC 0 dX12_dive_0 rfl ?_
  refine g_iload_n hC 1 dX12_dive_1 rfl ?_
  replace h := ob h; obtain ⟨_, eu2, h⟩ := h
  replace h := ob h; obtain ⟨⟨v3, M1⟩, eM1, h⟩ := h
  refine g_calli hC (r_V hC (As := [.int p1]) (c_X12_isGlider _ Γ this p1 M M1 v3 eM1) yk_X12_isGlider lk_X12_142 eu2 ⟨_, rfl, rfl⟩ rfl rfl (Nat.le_of_ble_eq_true rfl) hR ⟨(Nat.le_of_ble_eq_true rfl), (Nat.le_of_ble_eq_true rfl)⟩ ⟨(Nat.le_of_ble_eq_true rfl), (Nat.le_of_ble_eq_true rfl)⟩ dX12_dive_2) ?_
  refine g_if_eq hC 33 dX12_dive_5 (by decide) (fun c4 => ?_) (fun c4 => ?_)
  · replace h := it_t c4 h
    refine g_iconst hC (-1) dX12_dive_33 (by decide) ?_
    exact g_iret hC h ⟨(Nat.le_of_ble_eq_true rfl), (Nat.le_of_ble_eq_true rfl)⟩ dX12_dive_34
  · replace h := it_f c4 h
    refine g_aload_n hC 0 dX12_dive_8 rfl ?_
    refine g_iload_n hC 2 dX12_dive_9 rfl ?_
    refine g_iconst hC 0 dX12_dive_10 (by decide) ?_
    refine g_aload_n hC 0 dX12_dive_11 rfl ?_
    refine g_iload_n hC 1 dX12_dive_12 rfl ?_
    replace h := ob h; obtain ⟨_, eu6, h⟩ := h
    replace h := ob h; obtain ⟨⟨v7, M5⟩, eM5, h⟩ := h
    refine g_calli hC (r_V hC (As := [.int p1]) (c_X12_sinks _ Γ this p1 M1 M5 v7 eM5) yk_X12_sinks lk_X12_135 eu6 ⟨_, rfl, rfl⟩ rfl rfl (Nat.le_of_ble_eq_true rfl) hR ⟨(Nat.le_of_ble_eq_true rfl), (Nat.le_of_ble_eq_true rfl)⟩ ⟨(Nat.le_of_ble_eq_true rfl), (Nat.le_of_ble_eq_true rfl)⟩ dX12_dive_13) ?_
    replace h := ob h; obtain ⟨_, eu9, h⟩ := h
    replace h := ob h; obtain ⟨⟨v10, M8⟩, eM8, h⟩ := h
    refine g_calli hC (r_V hC (As := [.int p2, .int 0, .int v7]) (c_X12_is _ Γ this p2 0 v7 M5 M8 v10 eM8) yk_X12_is lk_X12_123 eu9 ⟨_, rfl, rfl⟩ rfl rfl (Nat.le_of_ble_eq_true rfl) hR ⟨(Nat.le_of_ble_eq_true rfl), (Nat.le_of_ble_eq_true rfl)⟩ ⟨(Nat.le_of_ble_eq_true rfl), (Nat.le_of_ble_eq_true rfl)⟩ dX12_dive_16) ?_
    refine g_if_eq hC 33 dX12_dive_19 (by decide) (fun c11 => ?_) (fun c11 => ?_)
    · replace h := it_t c11 h
      refine g_iconst hC (-1) dX12_dive_33 (by decide) ?_
      exact g_iret hC h ⟨(Nat.le_of_ble_eq_true rfl), (Nat.le_of_ble_eq_true rfl)⟩ dX12_dive_34
    · replace h := it_f c11 h
      refine g_aload_n hC 0 dX12_dive_22 rfl ?_
      refine g_iload_n hC 1 dX12_dive_23 rfl ?_
      refine g_iload_n hC 3 dX12_dive_24 rfl ?_
      refine g_iload hC 4 dX12_dive_25 rfl ?_
      replace h := ob h; obtain ⟨_, eu13, h⟩ := h
      replace h := ob h; obtain ⟨⟨v14, M12⟩, eM12, h⟩ := h
      refine g_calli hC (r_V hC (As := [.int p1, .int p3, .int p4]) (c_X12_isHeading _ Γ this p1 p3 p4 M8 M12 v14 eM12) yk_X12_isHeading lk_X12_184 eu13 ⟨_, rfl, rfl⟩ rfl rfl (Nat.le_of_ble_eq_true rfl) hR ⟨(Nat.le_of_ble_eq_true rfl), (Nat.le_of_ble_eq_true rfl)⟩ ⟨(Nat.le_of_ble_eq_true rfl), (Nat.le_of_ble_eq_true rfl)⟩ dX12_dive_27) ?_
      refine g_if_ne hC 35 dX12_dive_30 (by decide) (fun c15 => ?_) (fun c15 => ?_)
      · replace h := it_f c15 h
        refine g_aload_n hC 0 dX12_dive_35 rfl ?_
        refine g_iload_n hC 1 dX12_dive_36 rfl ?_
        replace h := ob h; obtain ⟨_, eu17, h⟩ := h
        replace h := ob h; obtain ⟨⟨v18, M16⟩, eM16, h⟩ := h
        refine g_calli hC (r_V hC (As := [.int p1]) (c_X12_isUp _ Γ this p1 M12 M16 v18 eM16) yk_X12_isUp lk_X12_187 eu17 ⟨_, rfl, rfl⟩ rfl rfl (Nat.le_of_ble_eq_true rfl) hR ⟨(Nat.le_of_ble_eq_true rfl), (Nat.le_of_ble_eq_true rfl)⟩ ⟨(Nat.le_of_ble_eq_true rfl), (Nat.le_of_ble_eq_true rfl)⟩ dX12_dive_37) ?_
        refine g_if_eq hC 62 dX12_dive_40 (by decide) (fun c19 => ?_) (fun c19 => ?_)
        · replace h := it_t c19 h
          refine g_bipush hC (-3) dX12_dive_62 (by decide) ?_
          exact g_iret hC h ⟨(Nat.le_of_ble_eq_true rfl), (Nat.le_of_ble_eq_true rfl)⟩ dX12_dive_64
        · replace h := it_f c19 h
          refine g_aload_n hC 0 dX12_dive_43 rfl ?_
          replace h := ob h; obtain ⟨v20, ev20, h⟩ := h
          refine g_getR hC ev20 fk_X12_13 rfl dX12_dive_44 ?_
          refine g_sipush hC 2194 dX12_dive_47 (by decide) ?_
          refine g_iload_n hC 1 dX12_dive_50 rfl ?_
          refine g_iadd hC dX12_dive_51 ?_
          replace h := ob h; obtain ⟨a22, ea22, h⟩ := h
          subst ea22
          replace h := ob h; obtain ⟨v21, ev21, h⟩ := h
          refine g_iald hC ev21 dX12_dive_52 ?_
          refine g_aload_n hC 0 dX12_dive_53 rfl ?_
          refine g_iload_n hC 1 dX12_dive_54 rfl ?_
          refine g_iload_n hC 2 dX12_dive_55 rfl ?_
          replace h := ob h; obtain ⟨_, eu24, h⟩ := h
          replace h := ob h; obtain ⟨⟨v25, M23⟩, eM23, h⟩ := h
          refine g_calli hC (r_V hC (As := [.int p1, .int p2]) (c_X12_cost _ Γ this p1 p2 M16 M23 v25 eM23) yk_X12_cost lk_X12_149 eu24 ⟨_, rfl, rfl⟩ rfl rfl (Nat.le_of_ble_eq_true rfl) hR ⟨(Nat.le_of_ble_eq_true rfl), (Nat.le_of_ble_eq_true rfl)⟩ ⟨(Nat.le_of_ble_eq_true rfl), (Nat.le_of_ble_eq_true rfl)⟩ dX12_dive_56) ?_
          refine g_icmp_ge hC 65 dX12_dive_59 (by decide) (fun c26 => ?_) (fun c26 => ?_)
          · replace h := it_t c26 h
            refine g_aload_n hC 0 dX12_dive_65 rfl ?_
            refine g_iload_n hC 1 dX12_dive_66 rfl ?_
            refine g_iload_n hC 2 dX12_dive_67 rfl ?_
            refine g_iload_n hC 3 dX12_dive_68 rfl ?_
            refine g_iload hC 4 dX12_dive_69 rfl ?_
            replace h := ob h; obtain ⟨_, eu28, h⟩ := h
            replace h := ob h; obtain ⟨⟨v29, M27⟩, eM27, h⟩ := h
            refine g_calli hC (r_V hC (As := [.int p1, .int p2, .int p3, .int p4]) (c_X12_dives _ Γ this p1 p2 p3 p4 M23 M27 v29 eM27) yk_X12_dives lk_X12_190 eu28 ⟨_, rfl, rfl⟩ rfl rfl (Nat.le_of_ble_eq_true rfl) hR ⟨(Nat.le_of_ble_eq_true rfl), (Nat.le_of_ble_eq_true rfl)⟩ ⟨(Nat.le_of_ble_eq_true rfl), (Nat.le_of_ble_eq_true rfl)⟩ dX12_dive_71) ?_
            exact g_iret hC h ⟨(Nat.le_of_ble_eq_true rfl), (Nat.le_of_ble_eq_true rfl)⟩ dX12_dive_74
          · replace h := it_f c26 h
            refine g_bipush hC (-3) dX12_dive_62 (by decide) ?_
            exact g_iret hC h ⟨(Nat.le_of_ble_eq_true rfl), (Nat.le_of_ble_eq_true rfl)⟩ dX12_dive_64
      · replace h := it_t c15 h
        refine g_iconst hC (-1) dX12_dive_33 (by decide) ?_
        exact g_iret hC h ⟨(Nat.le_of_ble_eq_true rfl), (Nat.le_of_ble_eq_true rfl)⟩ dX12_dive_34

set_option maxHeartbeats 4000000 in
set_option maxRecDepth 100000 in
theorem c_X12_at (l : Launch) (Γ : Gm) (this : Nat) (M M' : Mm) (r : Int32) (h : F_X12_at this M = some (r, M')) : Met l yX12_at (wz yX12_at cX12_at 1 (some .int)) ({ frames := 0, cells := 0, slots := 0, locals := 0 } : Room) (Pq Γ M [.ref this]) (Qi Γ r M') 0 0 (fr Γ) := by
  refine met_of (own := RX12) (by decide +kernel) rfl (Nat.le_of_ble_eq_true rfl) ?_
  intro X hC hR hnm hXl
  unfold F_X12_at at h
  show G Γ X 1 M 0 0 _ 0 ([(0, .ref this)]) []
  refine g_aload_n hC 0 dX12_at_0 rfl ?_
  replace h := ob h; obtain ⟨v1, ev1, h⟩ := h
  refine g_getI hC ev1 fk_X12_48 rfl dX12_at_1 ?_
  refine g_aload_n hC 0 dX12_at_4 rfl ?_
  replace h := ob h; obtain ⟨v2, ev2, h⟩ := h
  refine g_getI hC ev2 fk_X12_45 rfl dX12_at_5 ?_
  refine g_icmp_lt hC 15 dX12_at_8 (by decide) (fun c3 => ?_) (fun c3 => ?_)
  · replace h := it_t c3 h
    refine g_aload_n hC 0 dX12_at_15 rfl ?_
    replace h := ob h; obtain ⟨v4, ev4, h⟩ := h
    refine g_getI hC ev4 fk_X12_51 rfl dX12_at_16 ?_
    refine g_if_eq hC 34 dX12_at_19 (by decide) (fun c5 => ?_) (fun c5 => ?_)
    · replace h := it_t c5 h
      refine g_aload_n hC 0 dX12_at_34 rfl ?_
      replace h := ob h; obtain ⟨v6, ev6, h⟩ := h
      refine g_getR hC ev6 fk_X12_13 rfl dX12_at_35 ?_
      refine g_aload_n hC 0 dX12_at_38 rfl ?_
      replace h := ob h; obtain ⟨v7, ev7, h⟩ := h
      refine g_getI hC ev7 fk_X12_42 rfl dX12_at_39 ?_
      refine g_aload_n hC 0 dX12_at_42 rfl ?_
      replace h := ob h; obtain ⟨v8, ev8, h⟩ := h
      refine g_getI hC ev8 fk_X12_48 rfl dX12_at_43 ?_
      refine g_iadd hC dX12_at_46 ?_
      replace h := ob h; obtain ⟨a10, ea10, h⟩ := h
      subst ea10
      replace h := ob h; obtain ⟨v9, ev9, h⟩ := h
      refine g_iald hC ev9 dX12_at_47 ?_
      exact g_iret hC h ⟨(Nat.le_of_ble_eq_true rfl), (Nat.le_of_ble_eq_true rfl)⟩ dX12_at_48
    · replace h := it_f c5 h
      refine g_aload_n hC 0 dX12_at_22 rfl ?_
      replace h := ob h; obtain ⟨v11, ev11, h⟩ := h
      refine g_getR hC ev11 fk_X12_36 rfl dX12_at_23 ?_
      refine g_aload_n hC 0 dX12_at_26 rfl ?_
      replace h := ob h; obtain ⟨v12, ev12, h⟩ := h
      refine g_getI hC ev12 fk_X12_48 rfl dX12_at_27 ?_
      replace h := ob h; obtain ⟨a14, ea14, h⟩ := h
      subst ea14
      replace h := ob h; obtain ⟨v13, ev13, h⟩ := h
      refine g_iald hC ev13 dX12_at_30 ?_
      refine g_goto hC 48 dX12_at_31 (by decide) ?_
      exact g_iret hC h ⟨(Nat.le_of_ble_eq_true rfl), (Nat.le_of_ble_eq_true rfl)⟩ dX12_at_48
  · replace h := it_f c3 h
    refine g_iconst hC (-1) dX12_at_11 (by decide) ?_
    refine g_goto hC 48 dX12_at_12 (by decide) ?_
    exact g_iret hC h ⟨(Nat.le_of_ble_eq_true rfl), (Nat.le_of_ble_eq_true rfl)⟩ dX12_at_48

set_option maxHeartbeats 4000000 in
set_option maxRecDepth 100000 in
theorem c_X12_takes (l : Launch) (Γ : Gm) (this : Nat) (p1 : Int32) (p2 : Int32) (M M' : Mm) (r : Int32) (h : F_X12_takes this p1 p2 M = some (r, M')) : Met l yX12_takes (wz yX12_takes cX12_takes 3 (some .boolean)) ({ frames := 1, cells := 0, slots := 0, locals := 23 } : Room) (Pq Γ M [.ref this, .int p1, .int p2]) (Qi Γ r M') 0 0 (fr Γ) := by
  refine met_of (own := RX12) (by decide +kernel) rfl (Nat.le_of_ble_eq_true rfl) ?_
  intro X hC hR hnm hXl
  unfold F_X12_takes at h
  show G Γ X 3 M 0 0 _ 0 ([(0, .ref this), (1, .int p1), (2, .int p2)]) []
  refine g_aload_n hC 0 dX12_takes_0 rfl ?_
  refine g_aload_n hC 0 dX12_takes_1 rfl ?_
  replace h := ob h; obtain ⟨_, eu2, h⟩ := h
  replace h := ob h; obtain ⟨⟨v3, M1⟩, eM1, h⟩ := h
  refine g_calli hC (r_V hC (As := []) (c_X12_at _ Γ this M M1 v3 eM1) yk_X12_at lk_X12_194 eu2 ⟨_, rfl, rfl⟩ rfl rfl (Nat.le_of_ble_eq_true rfl) hR ⟨(Nat.le_of_ble_eq_true rfl), (Nat.le_of_ble_eq_true rfl)⟩ ⟨(Nat.le_of_ble_eq_true rfl), (Nat.le_of_ble_eq_true rfl)⟩ dX12_takes_2) ?_
  refine g_bipush hC 48 dX12_takes_5 (by decide) ?_
  refine g_iload_n hC 1 dX12_takes_7 rfl ?_
  refine g_iadd hC dX12_takes_8 ?_
  refine g_bipush hC 48 dX12_takes_9 (by decide) ?_
  refine g_iload_n hC 2 dX12_takes_11 rfl ?_
  refine g_iadd hC dX12_takes_12 ?_
  replace h := ob h; obtain ⟨_, eu5, h⟩ := h
  replace h := ob h; obtain ⟨⟨v6, M4⟩, eM4, h⟩ := h
  refine g_calli hC (r_V hC (As := [.int v3, .int (48 + p1), .int (48 + p2)]) (c_X12_is _ Γ this v3 (48 + p1) (48 + p2) M1 M4 v6 eM4) yk_X12_is lk_X12_123 eu5 ⟨_, rfl, rfl⟩ rfl rfl (Nat.le_of_ble_eq_true rfl) hR ⟨(Nat.le_of_ble_eq_true rfl), (Nat.le_of_ble_eq_true rfl)⟩ ⟨(Nat.le_of_ble_eq_true rfl), (Nat.le_of_ble_eq_true rfl)⟩ dX12_takes_13) ?_
  refine g_if_ne hC 21 dX12_takes_16 (by decide) (fun c7 => ?_) (fun c7 => ?_)
  · replace h := it_f c7 h
    refine g_aload_n hC 0 dX12_takes_21 rfl ?_
    refine g_aload_n hC 0 dX12_takes_22 rfl ?_
    replace h := ob h; obtain ⟨_, eu9, h⟩ := h
    replace h := ob h; obtain ⟨⟨v10, M8⟩, eM8, h⟩ := h
    refine g_calli hC (r_V hC (As := []) (c_X12_at _ Γ this M4 M8 v10 eM8) yk_X12_at lk_X12_194 eu9 ⟨_, rfl, rfl⟩ rfl rfl (Nat.le_of_ble_eq_true rfl) hR ⟨(Nat.le_of_ble_eq_true rfl), (Nat.le_of_ble_eq_true rfl)⟩ ⟨(Nat.le_of_ble_eq_true rfl), (Nat.le_of_ble_eq_true rfl)⟩ dX12_takes_23) ?_
    refine g_bipush hC 48 dX12_takes_26 (by decide) ?_
    refine g_isub hC dX12_takes_28 ?_
    replace h := ob h; obtain ⟨M11, eM11, h⟩ := h
    refine g_putI hC eM11 fk_X12_54 rfl dX12_takes_29 ?_
    refine g_aload_n hC 0 dX12_takes_32 rfl ?_
    refine g_dup hC dX12_takes_33 rfl ?_
    replace h := ob h; obtain ⟨v12, ev12, h⟩ := h
    refine g_getI hC ev12 fk_X12_48 rfl dX12_takes_34 ?_
    refine g_iconst hC 1 dX12_takes_37 (by decide) ?_
    refine g_iadd hC dX12_takes_38 ?_
    replace h := ob h; obtain ⟨M13, eM13, h⟩ := h
    refine g_putI hC eM13 fk_X12_48 rfl dX12_takes_39 ?_
    refine g_iconst hC 1 dX12_takes_42 (by decide) ?_
    exact g_zret hC (by decide) h ⟨(Nat.le_of_ble_eq_true rfl), (Nat.le_of_ble_eq_true rfl)⟩ dX12_takes_43
  · replace h := it_t c7 h
    refine g_iconst hC 0 dX12_takes_19 (by decide) ?_
    exact g_zret hC (by decide) h ⟨(Nat.le_of_ble_eq_true rfl), (Nat.le_of_ble_eq_true rfl)⟩ dX12_takes_20

set_option maxHeartbeats 4000000 in
set_option maxRecDepth 100000 in
theorem c_X12_isField (l : Launch) (Γ : Gm) (this : Nat) (p1 : Int32) (M M' : Mm) (r : Int32) (h : F_X12_isField this p1 M = some (r, M')) : Met l yX12_isField (wz yX12_isField cX12_isField 2 (some .boolean)) ({ frames := 0, cells := 0, slots := 0, locals := 0 } : Room) (Pq Γ M [.ref this, .int p1]) (Qi Γ r M') 0 0 (fr Γ) := by
  refine met_of (own := RX12) (by decide +kernel) rfl (Nat.le_of_ble_eq_true rfl) ?_
  intro X hC hR hnm hXl
  unfold F_X12_isField at h
  show G Γ X 2 M 0 0 _ 0 ([(0, .ref this), (1, .int p1)]) []
  refine g_iload_n hC 1 dX12_isField_0 rfl ?_
  refine g_bipush hC 112 dX12_isField_1 (by decide) ?_
  refine g_icmp_eq hC 54 dX12_isField_3 (by decide) (fun c1 => ?_) (fun c1 => ?_)
  · replace h := it_t c1 h
    refine g_iconst hC 1 dX12_isField_54 (by decide) ?_
    refine g_goto hC 59 dX12_isField_55 (by decide) ?_
    exact g_zret hC (by decide) h ⟨(Nat.le_of_ble_eq_true rfl), (Nat.le_of_ble_eq_true rfl)⟩ dX12_isField_59
  · replace h := it_f c1 h
    refine g_iload_n hC 1 dX12_isField_6 rfl ?_
    refine g_bipush hC 120 dX12_isField_7 (by decide) ?_
    refine g_icmp_eq hC 54 dX12_isField_9 (by decide) (fun c2 => ?_) (fun c2 => ?_)
    · replace h := it_t c2 h
      refine g_iconst hC 1 dX12_isField_54 (by decide) ?_
      refine g_goto hC 59 dX12_isField_55 (by decide) ?_
      exact g_zret hC (by decide) h ⟨(Nat.le_of_ble_eq_true rfl), (Nat.le_of_ble_eq_true rfl)⟩ dX12_isField_59
    · replace h := it_f c2 h
      refine g_iload_n hC 1 dX12_isField_12 rfl ?_
      refine g_bipush hC 121 dX12_isField_13 (by decide) ?_
      refine g_icmp_eq hC 54 dX12_isField_15 (by decide) (fun c3 => ?_) (fun c3 => ?_)
      · replace h := it_t c3 h
        refine g_iconst hC 1 dX12_isField_54 (by decide) ?_
        refine g_goto hC 59 dX12_isField_55 (by decide) ?_
        exact g_zret hC (by decide) h ⟨(Nat.le_of_ble_eq_true rfl), (Nat.le_of_ble_eq_true rfl)⟩ dX12_isField_59
      · replace h := it_f c3 h
        refine g_iload_n hC 1 dX12_isField_18 rfl ?_
        refine g_bipush hC 108 dX12_isField_19 (by decide) ?_
        refine g_icmp_eq hC 54 dX12_isField_21 (by decide) (fun c4 => ?_) (fun c4 => ?_)
        · replace h := it_t c4 h
          refine g_iconst hC 1 dX12_isField_54 (by decide) ?_
          refine g_goto hC 59 dX12_isField_55 (by decide) ?_
          exact g_zret hC (by decide) h ⟨(Nat.le_of_ble_eq_true rfl), (Nat.le_of_ble_eq_true rfl)⟩ dX12_isField_59
        · replace h := it_f c4 h
          refine g_iload_n hC 1 dX12_isField_24 rfl ?_
          refine g_bipush hC 102 dX12_isField_25 (by decide) ?_
          refine g_icmp_eq hC 54 dX12_isField_27 (by decide) (fun c5 => ?_) (fun c5 => ?_)
          · replace h := it_t c5 h
            refine g_iconst hC 1 dX12_isField_54 (by decide) ?_
            refine g_goto hC 59 dX12_isField_55 (by decide) ?_
            exact g_zret hC (by decide) h ⟨(Nat.le_of_ble_eq_true rfl), (Nat.le_of_ble_eq_true rfl)⟩ dX12_isField_59
          · replace h := it_f c5 h
            refine g_iload_n hC 1 dX12_isField_30 rfl ?_
            refine g_bipush hC 104 dX12_isField_31 (by decide) ?_
            refine g_icmp_eq hC 54 dX12_isField_33 (by decide) (fun c6 => ?_) (fun c6 => ?_)
            · replace h := it_t c6 h
              refine g_iconst hC 1 dX12_isField_54 (by decide) ?_
              refine g_goto hC 59 dX12_isField_55 (by decide) ?_
              exact g_zret hC (by decide) h ⟨(Nat.le_of_ble_eq_true rfl), (Nat.le_of_ble_eq_true rfl)⟩ dX12_isField_59
            · replace h := it_f c6 h
              refine g_iload_n hC 1 dX12_isField_36 rfl ?_
              refine g_bipush hC 116 dX12_isField_37 (by decide) ?_
              refine g_icmp_eq hC 54 dX12_isField_39 (by decide) (fun c7 => ?_) (fun c7 => ?_)
              · replace h := it_t c7 h
                refine g_iconst hC 1 dX12_isField_54 (by decide) ?_
                refine g_goto hC 59 dX12_isField_55 (by decide) ?_
                exact g_zret hC (by decide) h ⟨(Nat.le_of_ble_eq_true rfl), (Nat.le_of_ble_eq_true rfl)⟩ dX12_isField_59
              · replace h := it_f c7 h
                refine g_iload_n hC 1 dX12_isField_42 rfl ?_
                refine g_bipush hC 115 dX12_isField_43 (by decide) ?_
                refine g_icmp_eq hC 54 dX12_isField_45 (by decide) (fun c8 => ?_) (fun c8 => ?_)
                · replace h := it_t c8 h
                  refine g_iconst hC 1 dX12_isField_54 (by decide) ?_
                  refine g_goto hC 59 dX12_isField_55 (by decide) ?_
                  exact g_zret hC (by decide) h ⟨(Nat.le_of_ble_eq_true rfl), (Nat.le_of_ble_eq_true rfl)⟩ dX12_isField_59
                · replace h := it_f c8 h
                  refine g_iload_n hC 1 dX12_isField_48 rfl ?_
                  refine g_bipush hC 100 dX12_isField_49 (by decide) ?_
                  refine g_icmp_ne hC 58 dX12_isField_51 (by decide) (fun c9 => ?_) (fun c9 => ?_)
                  · replace h := it_f c9 h
                    refine g_iconst hC 0 dX12_isField_58 (by decide) ?_
                    exact g_zret hC (by decide) h ⟨(Nat.le_of_ble_eq_true rfl), (Nat.le_of_ble_eq_true rfl)⟩ dX12_isField_59
                  · replace h := it_t c9 h
                    refine g_iconst hC 1 dX12_isField_54 (by decide) ?_
                    refine g_goto hC 59 dX12_isField_55 (by decide) ?_
                    exact g_zret hC (by decide) h ⟨(Nat.le_of_ble_eq_true rfl), (Nat.le_of_ble_eq_true rfl)⟩ dX12_isField_59

set_option maxHeartbeats 4000000 in
set_option maxRecDepth 100000 in
theorem c_X12_fieldOf (l : Launch) (Γ : Gm) (this : Nat) (p1 : Int32) (p2 : Int32) (M M' : Mm) (r : Int32) (h : F_X12_fieldOf this p1 p2 M = some (r, M')) : Met l yX12_fieldOf (wz yX12_fieldOf cX12_fieldOf 3 (some .int)) ({ frames := 0, cells := 0, slots := 0, locals := 0 } : Room) (Pq Γ M [.ref this, .int p1, .int p2]) (Qi Γ r M') 0 0 (fr Γ) := by
  refine met_of (own := RX12) (by decide +kernel) rfl (Nat.le_of_ble_eq_true rfl) ?_
  intro X hC hR hnm hXl
  unfold F_X12_fieldOf at h
  show G Γ X 3 M 0 0 _ 0 ([(0, .ref this), (1, .int p1), (2, .int p2)]) []
  refine g_iload_n hC 2 dX12_fieldOf_0 rfl ?_
  refine g_if_ge hC 6 dX12_fieldOf_1 (by decide) (fun c1 => ?_) (fun c1 => ?_)
  · replace h := it_t c1 h
    refine g_iload_n hC 1 dX12_fieldOf_6 rfl ?_
    by_cases c2 : p1 = 102
    · replace h := it_t c2 h
      refine g_tbl (off := 137) hC 144 c2 dX12_fieldOf_7 (by decide) ?_
      refine g_aload_n hC 0 dX12_fieldOf_144 rfl ?_
      replace h := ob h; obtain ⟨v3, ev3, h⟩ := h
      refine g_getR hC ev3 fk_X12_13 rfl dX12_fieldOf_145 ?_
      refine g_sipush hC 2218 dX12_fieldOf_148 (by decide) ?_
      refine g_iload_n hC 2 dX12_fieldOf_151 rfl ?_
      refine g_iadd hC dX12_fieldOf_152 ?_
      replace h := ob h; obtain ⟨a5, ea5, h⟩ := h
      subst ea5
      replace h := ob h; obtain ⟨v4, ev4, h⟩ := h
      refine g_iald hC ev4 dX12_fieldOf_153 ?_
      exact g_iret hC h ⟨(Nat.le_of_ble_eq_true rfl), (Nat.le_of_ble_eq_true rfl)⟩ dX12_fieldOf_154
    replace h := it_f c2 h
    by_cases c6 : p1 = 104
    · replace h := it_t c6 h
      refine g_tbl (off := 148) hC 155 c6 dX12_fieldOf_7 (by decide) ?_
      refine g_aload_n hC 0 dX12_fieldOf_155 rfl ?_
      replace h := ob h; obtain ⟨v7, ev7, h⟩ := h
      refine g_getR hC ev7 fk_X12_13 rfl dX12_fieldOf_156 ?_
      refine g_sipush hC 2234 dX12_fieldOf_159 (by decide) ?_
      refine g_iload_n hC 2 dX12_fieldOf_162 rfl ?_
      refine g_iadd hC dX12_fieldOf_163 ?_
      replace h := ob h; obtain ⟨a9, ea9, h⟩ := h
      subst ea9
      replace h := ob h; obtain ⟨v8, ev8, h⟩ := h
      refine g_iald hC ev8 dX12_fieldOf_164 ?_
      refine g_if_ge hC 177 dX12_fieldOf_165 (by decide) (fun c10 => ?_) (fun c10 => ?_)
      · replace h := it_t c10 h
        refine g_aload_n hC 0 dX12_fieldOf_177 rfl ?_
        replace h := ob h; obtain ⟨v11, ev11, h⟩ := h
        refine g_getR hC ev11 fk_X12_13 rfl dX12_fieldOf_178 ?_
        refine g_iconst hC 1 dX12_fieldOf_181 (by decide) ?_
        replace h := ob h; obtain ⟨a13, ea13, h⟩ := h
        subst ea13
        replace h := ob h; obtain ⟨v12, ev12, h⟩ := h
        refine g_iald hC ev12 dX12_fieldOf_182 ?_
        refine g_aload_n hC 0 dX12_fieldOf_183 rfl ?_
        replace h := ob h; obtain ⟨v14, ev14, h⟩ := h
        refine g_getR hC ev14 fk_X12_13 rfl dX12_fieldOf_184 ?_
        refine g_sipush hC 2234 dX12_fieldOf_187 (by decide) ?_
        refine g_iload_n hC 2 dX12_fieldOf_190 rfl ?_
        refine g_iadd hC dX12_fieldOf_191 ?_
        replace h := ob h; obtain ⟨a16, ea16, h⟩ := h
        subst ea16
        replace h := ob h; obtain ⟨v15, ev15, h⟩ := h
        refine g_iald hC ev15 dX12_fieldOf_192 ?_
        refine g_isub hC dX12_fieldOf_193 ?_
        exact g_iret hC h ⟨(Nat.le_of_ble_eq_true rfl), (Nat.le_of_ble_eq_true rfl)⟩ dX12_fieldOf_194
      · replace h := it_f c10 h
        refine g_aload_n hC 0 dX12_fieldOf_168 rfl ?_
        replace h := ob h; obtain ⟨v17, ev17, h⟩ := h
        refine g_getR hC ev17 fk_X12_13 rfl dX12_fieldOf_169 ?_
        refine g_iconst hC 1 dX12_fieldOf_172 (by decide) ?_
        replace h := ob h; obtain ⟨a19, ea19, h⟩ := h
        subst ea19
        replace h := ob h; obtain ⟨v18, ev18, h⟩ := h
        refine g_iald hC ev18 dX12_fieldOf_173 ?_
        refine g_goto hC 194 dX12_fieldOf_174 (by decide) ?_
        exact g_iret hC h ⟨(Nat.le_of_ble_eq_true rfl), (Nat.le_of_ble_eq_true rfl)⟩ dX12_fieldOf_194
    replace h := it_f c6 h
    by_cases c20 : p1 = 108
    · replace h := it_t c20 h
      refine g_tbl (off := 126) hC 133 c20 dX12_fieldOf_7 (by decide) ?_
      refine g_aload_n hC 0 dX12_fieldOf_133 rfl ?_
      replace h := ob h; obtain ⟨v21, ev21, h⟩ := h
      refine g_getR hC ev21 fk_X12_13 rfl dX12_fieldOf_134 ?_
      refine g_sipush hC 2210 dX12_fieldOf_137 (by decide) ?_
      refine g_iload_n hC 2 dX12_fieldOf_140 rfl ?_
      refine g_iadd hC dX12_fieldOf_141 ?_
      replace h := ob h; obtain ⟨a23, ea23, h⟩ := h
      subst ea23
      replace h := ob h; obtain ⟨v22, ev22, h⟩ := h
      refine g_iald hC ev22 dX12_fieldOf_142 ?_
      exact g_iret hC h ⟨(Nat.le_of_ble_eq_true rfl), (Nat.le_of_ble_eq_true rfl)⟩ dX12_fieldOf_143
    replace h := it_f c20 h
    by_cases c24 : p1 = 112
    · replace h := it_t c24 h
      refine g_tbl (off := 93) hC 100 c24 dX12_fieldOf_7 (by decide) ?_
      refine g_aload_n hC 0 dX12_fieldOf_100 rfl ?_
      replace h := ob h; obtain ⟨v25, ev25, h⟩ := h
      refine g_getR hC ev25 fk_X12_13 rfl dX12_fieldOf_101 ?_
      refine g_sipush hC 2194 dX12_fieldOf_104 (by decide) ?_
      refine g_iload_n hC 2 dX12_fieldOf_107 rfl ?_
      refine g_iadd hC dX12_fieldOf_108 ?_
      replace h := ob h; obtain ⟨a27, ea27, h⟩ := h
      subst ea27
      replace h := ob h; obtain ⟨v26, ev26, h⟩ := h
      refine g_iald hC ev26 dX12_fieldOf_109 ?_
      exact g_iret hC h ⟨(Nat.le_of_ble_eq_true rfl), (Nat.le_of_ble_eq_true rfl)⟩ dX12_fieldOf_110
    replace h := it_f c24 h
    by_cases c28 : p1 = 115
    · replace h := it_t c28 h
      refine g_tbl (off := 198) hC 205 c28 dX12_fieldOf_7 (by decide) ?_
      refine g_aload_n hC 0 dX12_fieldOf_205 rfl ?_
      replace h := ob h; obtain ⟨v29, ev29, h⟩ := h
      refine g_getR hC ev29 fk_X12_13 rfl dX12_fieldOf_206 ?_
      refine g_sipush hC 2250 dX12_fieldOf_209 (by decide) ?_
      refine g_iload_n hC 2 dX12_fieldOf_212 rfl ?_
      refine g_iadd hC dX12_fieldOf_213 ?_
      replace h := ob h; obtain ⟨a31, ea31, h⟩ := h
      subst ea31
      replace h := ob h; obtain ⟨v30, ev30, h⟩ := h
      refine g_iald hC ev30 dX12_fieldOf_214 ?_
      refine g_if_ge hC 222 dX12_fieldOf_215 (by decide) (fun c32 => ?_) (fun c32 => ?_)
      · replace h := it_t c32 h
        refine g_aload_n hC 0 dX12_fieldOf_222 rfl ?_
        replace h := ob h; obtain ⟨v33, ev33, h⟩ := h
        refine g_getR hC ev33 fk_X12_13 rfl dX12_fieldOf_223 ?_
        refine g_sipush hC 2250 dX12_fieldOf_226 (by decide) ?_
        refine g_iload_n hC 2 dX12_fieldOf_229 rfl ?_
        refine g_iadd hC dX12_fieldOf_230 ?_
        replace h := ob h; obtain ⟨a35, ea35, h⟩ := h
        subst ea35
        replace h := ob h; obtain ⟨v34, ev34, h⟩ := h
        refine g_iald hC ev34 dX12_fieldOf_231 ?_
        exact g_iret hC h ⟨(Nat.le_of_ble_eq_true rfl), (Nat.le_of_ble_eq_true rfl)⟩ dX12_fieldOf_232
      · replace h := it_f c32 h
        refine g_iconst hC 0 dX12_fieldOf_218 (by decide) ?_
        refine g_goto hC 232 dX12_fieldOf_219 (by decide) ?_
        exact g_iret hC h ⟨(Nat.le_of_ble_eq_true rfl), (Nat.le_of_ble_eq_true rfl)⟩ dX12_fieldOf_232
    replace h := it_f c28 h
    by_cases c36 : p1 = 116
    · replace h := it_t c36 h
      refine g_tbl (off := 188) hC 195 c36 dX12_fieldOf_7 (by decide) ?_
      refine g_aload_n hC 0 dX12_fieldOf_195 rfl ?_
      replace h := ob h; obtain ⟨v37, ev37, h⟩ := h
      refine g_getR hC ev37 fk_X12_13 rfl dX12_fieldOf_196 ?_
      refine g_iconst hC 1 dX12_fieldOf_199 (by decide) ?_
      replace h := ob h; obtain ⟨a39, ea39, h⟩ := h
      subst ea39
      replace h := ob h; obtain ⟨v38, ev38, h⟩ := h
      refine g_iald hC ev38 dX12_fieldOf_200 ?_
      refine g_bipush hC 10 dX12_fieldOf_201 (by decide) ?_
      replace h := ob h; obtain ⟨v40, ev40, h⟩ := h
      refine g_irem hC ev40 dX12_fieldOf_203 ?_
      exact g_iret hC h ⟨(Nat.le_of_ble_eq_true rfl), (Nat.le_of_ble_eq_true rfl)⟩ dX12_fieldOf_204
    replace h := it_f c36 h
    by_cases c41 : p1 = 120
    · replace h := it_t c41 h
      refine g_tbl (off := 104) hC 111 c41 dX12_fieldOf_7 (by decide) ?_
      refine g_aload_n hC 0 dX12_fieldOf_111 rfl ?_
      replace h := ob h; obtain ⟨v42, ev42, h⟩ := h
      refine g_getR hC ev42 fk_X12_13 rfl dX12_fieldOf_112 ?_
      refine g_sipush hC 2178 dX12_fieldOf_115 (by decide) ?_
      refine g_iload_n hC 2 dX12_fieldOf_118 rfl ?_
      refine g_iadd hC dX12_fieldOf_119 ?_
      replace h := ob h; obtain ⟨a44, ea44, h⟩ := h
      subst ea44
      replace h := ob h; obtain ⟨v43, ev43, h⟩ := h
      refine g_iald hC ev43 dX12_fieldOf_120 ?_
      exact g_iret hC h ⟨(Nat.le_of_ble_eq_true rfl), (Nat.le_of_ble_eq_true rfl)⟩ dX12_fieldOf_121
    replace h := it_f c41 h
    by_cases c45 : p1 = 121
    · replace h := it_t c45 h
      refine g_tbl (off := 115) hC 122 c45 dX12_fieldOf_7 (by decide) ?_
      refine g_aload_n hC 0 dX12_fieldOf_122 rfl ?_
      replace h := ob h; obtain ⟨v46, ev46, h⟩ := h
      refine g_getR hC ev46 fk_X12_13 rfl dX12_fieldOf_123 ?_
      refine g_sipush hC 2186 dX12_fieldOf_126 (by decide) ?_
      refine g_iload_n hC 2 dX12_fieldOf_129 rfl ?_
      refine g_iadd hC dX12_fieldOf_130 ?_
      replace h := ob h; obtain ⟨a48, ea48, h⟩ := h
      subst ea48
      replace h := ob h; obtain ⟨v47, ev47, h⟩ := h
      refine g_iald hC ev47 dX12_fieldOf_131 ?_
      exact g_iret hC h ⟨(Nat.le_of_ble_eq_true rfl), (Nat.le_of_ble_eq_true rfl)⟩ dX12_fieldOf_132
    replace h := it_f c45 h
    by_cases c58 : p1 = 103
    · refine g_tbl (off := 226) hC 233 c58 dX12_fieldOf_7 (by decide) ?_
      refine g_aload_n hC 0 dX12_fieldOf_233 rfl ?_
      replace h := ob h; obtain ⟨v49, ev49, h⟩ := h
      refine g_getR hC ev49 fk_X12_13 rfl dX12_fieldOf_234 ?_
      refine g_bipush hC 10 dX12_fieldOf_237 (by decide) ?_
      refine g_bipush hC 8 dX12_fieldOf_239 (by decide) ?_
      refine g_aload_n hC 0 dX12_fieldOf_241 rfl ?_
      replace h := ob h; obtain ⟨v50, ev50, h⟩ := h
      refine g_getR hC ev50 fk_X12_13 rfl dX12_fieldOf_242 ?_
      refine g_sipush hC 2178 dX12_fieldOf_245 (by decide) ?_
      refine g_iload_n hC 2 dX12_fieldOf_248 rfl ?_
      refine g_iadd hC dX12_fieldOf_249 ?_
      replace h := ob h; obtain ⟨a52, ea52, h⟩ := h
      subst ea52
      replace h := ob h; obtain ⟨v51, ev51, h⟩ := h
      refine g_iald hC ev51 dX12_fieldOf_250 ?_
      refine g_imul hC dX12_fieldOf_251 ?_
      refine g_iadd hC dX12_fieldOf_252 ?_
      refine g_aload_n hC 0 dX12_fieldOf_253 rfl ?_
      replace h := ob h; obtain ⟨v53, ev53, h⟩ := h
      refine g_getR hC ev53 fk_X12_13 rfl dX12_fieldOf_254 ?_
      refine g_sipush hC 2186 dX12_fieldOf_257 (by decide) ?_
      refine g_iload_n hC 2 dX12_fieldOf_260 rfl ?_
      refine g_iadd hC dX12_fieldOf_261 ?_
      replace h := ob h; obtain ⟨a55, ea55, h⟩ := h
      subst ea55
      replace h := ob h; obtain ⟨v54, ev54, h⟩ := h
      refine g_iald hC ev54 dX12_fieldOf_262 ?_
      refine g_iadd hC dX12_fieldOf_263 ?_
      replace h := ob h; obtain ⟨a57, ea57, h⟩ := h
      subst ea57
      replace h := ob h; obtain ⟨v56, ev56, h⟩ := h
      refine g_iald hC ev56 dX12_fieldOf_264 ?_
      exact g_iret hC h ⟨(Nat.le_of_ble_eq_true rfl), (Nat.le_of_ble_eq_true rfl)⟩ dX12_fieldOf_265
    by_cases c60 : p1 = 105
    · refine g_tbl (off := 226) hC 233 c60 dX12_fieldOf_7 (by decide) ?_
      refine g_aload_n hC 0 dX12_fieldOf_233 rfl ?_
      replace h := ob h; obtain ⟨v49, ev49, h⟩ := h
      refine g_getR hC ev49 fk_X12_13 rfl dX12_fieldOf_234 ?_
      refine g_bipush hC 10 dX12_fieldOf_237 (by decide) ?_
      refine g_bipush hC 8 dX12_fieldOf_239 (by decide) ?_
      refine g_aload_n hC 0 dX12_fieldOf_241 rfl ?_
      replace h := ob h; obtain ⟨v50, ev50, h⟩ := h
      refine g_getR hC ev50 fk_X12_13 rfl dX12_fieldOf_242 ?_
      refine g_sipush hC 2178 dX12_fieldOf_245 (by decide) ?_
      refine g_iload_n hC 2 dX12_fieldOf_248 rfl ?_
      refine g_iadd hC dX12_fieldOf_249 ?_
      replace h := ob h; obtain ⟨a52, ea52, h⟩ := h
      subst ea52
      replace h := ob h; obtain ⟨v51, ev51, h⟩ := h
      refine g_iald hC ev51 dX12_fieldOf_250 ?_
      refine g_imul hC dX12_fieldOf_251 ?_
      refine g_iadd hC dX12_fieldOf_252 ?_
      refine g_aload_n hC 0 dX12_fieldOf_253 rfl ?_
      replace h := ob h; obtain ⟨v53, ev53, h⟩ := h
      refine g_getR hC ev53 fk_X12_13 rfl dX12_fieldOf_254 ?_
      refine g_sipush hC 2186 dX12_fieldOf_257 (by decide) ?_
      refine g_iload_n hC 2 dX12_fieldOf_260 rfl ?_
      refine g_iadd hC dX12_fieldOf_261 ?_
      replace h := ob h; obtain ⟨a55, ea55, h⟩ := h
      subst ea55
      replace h := ob h; obtain ⟨v54, ev54, h⟩ := h
      refine g_iald hC ev54 dX12_fieldOf_262 ?_
      refine g_iadd hC dX12_fieldOf_263 ?_
      replace h := ob h; obtain ⟨a57, ea57, h⟩ := h
      subst ea57
      replace h := ob h; obtain ⟨v56, ev56, h⟩ := h
      refine g_iald hC ev56 dX12_fieldOf_264 ?_
      exact g_iret hC h ⟨(Nat.le_of_ble_eq_true rfl), (Nat.le_of_ble_eq_true rfl)⟩ dX12_fieldOf_265
    by_cases c62 : p1 = 106
    · refine g_tbl (off := 226) hC 233 c62 dX12_fieldOf_7 (by decide) ?_
      refine g_aload_n hC 0 dX12_fieldOf_233 rfl ?_
      replace h := ob h; obtain ⟨v49, ev49, h⟩ := h
      refine g_getR hC ev49 fk_X12_13 rfl dX12_fieldOf_234 ?_
      refine g_bipush hC 10 dX12_fieldOf_237 (by decide) ?_
      refine g_bipush hC 8 dX12_fieldOf_239 (by decide) ?_
      refine g_aload_n hC 0 dX12_fieldOf_241 rfl ?_
      replace h := ob h; obtain ⟨v50, ev50, h⟩ := h
      refine g_getR hC ev50 fk_X12_13 rfl dX12_fieldOf_242 ?_
      refine g_sipush hC 2178 dX12_fieldOf_245 (by decide) ?_
      refine g_iload_n hC 2 dX12_fieldOf_248 rfl ?_
      refine g_iadd hC dX12_fieldOf_249 ?_
      replace h := ob h; obtain ⟨a52, ea52, h⟩ := h
      subst ea52
      replace h := ob h; obtain ⟨v51, ev51, h⟩ := h
      refine g_iald hC ev51 dX12_fieldOf_250 ?_
      refine g_imul hC dX12_fieldOf_251 ?_
      refine g_iadd hC dX12_fieldOf_252 ?_
      refine g_aload_n hC 0 dX12_fieldOf_253 rfl ?_
      replace h := ob h; obtain ⟨v53, ev53, h⟩ := h
      refine g_getR hC ev53 fk_X12_13 rfl dX12_fieldOf_254 ?_
      refine g_sipush hC 2186 dX12_fieldOf_257 (by decide) ?_
      refine g_iload_n hC 2 dX12_fieldOf_260 rfl ?_
      refine g_iadd hC dX12_fieldOf_261 ?_
      replace h := ob h; obtain ⟨a55, ea55, h⟩ := h
      subst ea55
      replace h := ob h; obtain ⟨v54, ev54, h⟩ := h
      refine g_iald hC ev54 dX12_fieldOf_262 ?_
      refine g_iadd hC dX12_fieldOf_263 ?_
      replace h := ob h; obtain ⟨a57, ea57, h⟩ := h
      subst ea57
      replace h := ob h; obtain ⟨v56, ev56, h⟩ := h
      refine g_iald hC ev56 dX12_fieldOf_264 ?_
      exact g_iret hC h ⟨(Nat.le_of_ble_eq_true rfl), (Nat.le_of_ble_eq_true rfl)⟩ dX12_fieldOf_265
    by_cases c64 : p1 = 107
    · refine g_tbl (off := 226) hC 233 c64 dX12_fieldOf_7 (by decide) ?_
      refine g_aload_n hC 0 dX12_fieldOf_233 rfl ?_
      replace h := ob h; obtain ⟨v49, ev49, h⟩ := h
      refine g_getR hC ev49 fk_X12_13 rfl dX12_fieldOf_234 ?_
      refine g_bipush hC 10 dX12_fieldOf_237 (by decide) ?_
      refine g_bipush hC 8 dX12_fieldOf_239 (by decide) ?_
      refine g_aload_n hC 0 dX12_fieldOf_241 rfl ?_
      replace h := ob h; obtain ⟨v50, ev50, h⟩ := h
      refine g_getR hC ev50 fk_X12_13 rfl dX12_fieldOf_242 ?_
      refine g_sipush hC 2178 dX12_fieldOf_245 (by decide) ?_
      refine g_iload_n hC 2 dX12_fieldOf_248 rfl ?_
      refine g_iadd hC dX12_fieldOf_249 ?_
      replace h := ob h; obtain ⟨a52, ea52, h⟩ := h
      subst ea52
      replace h := ob h; obtain ⟨v51, ev51, h⟩ := h
      refine g_iald hC ev51 dX12_fieldOf_250 ?_
      refine g_imul hC dX12_fieldOf_251 ?_
      refine g_iadd hC dX12_fieldOf_252 ?_
      refine g_aload_n hC 0 dX12_fieldOf_253 rfl ?_
      replace h := ob h; obtain ⟨v53, ev53, h⟩ := h
      refine g_getR hC ev53 fk_X12_13 rfl dX12_fieldOf_254 ?_
      refine g_sipush hC 2186 dX12_fieldOf_257 (by decide) ?_
      refine g_iload_n hC 2 dX12_fieldOf_260 rfl ?_
      refine g_iadd hC dX12_fieldOf_261 ?_
      replace h := ob h; obtain ⟨a55, ea55, h⟩ := h
      subst ea55
      replace h := ob h; obtain ⟨v54, ev54, h⟩ := h
      refine g_iald hC ev54 dX12_fieldOf_262 ?_
      refine g_iadd hC dX12_fieldOf_263 ?_
      replace h := ob h; obtain ⟨a57, ea57, h⟩ := h
      subst ea57
      replace h := ob h; obtain ⟨v56, ev56, h⟩ := h
      refine g_iald hC ev56 dX12_fieldOf_264 ?_
      exact g_iret hC h ⟨(Nat.le_of_ble_eq_true rfl), (Nat.le_of_ble_eq_true rfl)⟩ dX12_fieldOf_265
    by_cases c66 : p1 = 109
    · refine g_tbl (off := 226) hC 233 c66 dX12_fieldOf_7 (by decide) ?_
      refine g_aload_n hC 0 dX12_fieldOf_233 rfl ?_
      replace h := ob h; obtain ⟨v49, ev49, h⟩ := h
      refine g_getR hC ev49 fk_X12_13 rfl dX12_fieldOf_234 ?_
      refine g_bipush hC 10 dX12_fieldOf_237 (by decide) ?_
      refine g_bipush hC 8 dX12_fieldOf_239 (by decide) ?_
      refine g_aload_n hC 0 dX12_fieldOf_241 rfl ?_
      replace h := ob h; obtain ⟨v50, ev50, h⟩ := h
      refine g_getR hC ev50 fk_X12_13 rfl dX12_fieldOf_242 ?_
      refine g_sipush hC 2178 dX12_fieldOf_245 (by decide) ?_
      refine g_iload_n hC 2 dX12_fieldOf_248 rfl ?_
      refine g_iadd hC dX12_fieldOf_249 ?_
      replace h := ob h; obtain ⟨a52, ea52, h⟩ := h
      subst ea52
      replace h := ob h; obtain ⟨v51, ev51, h⟩ := h
      refine g_iald hC ev51 dX12_fieldOf_250 ?_
      refine g_imul hC dX12_fieldOf_251 ?_
      refine g_iadd hC dX12_fieldOf_252 ?_
      refine g_aload_n hC 0 dX12_fieldOf_253 rfl ?_
      replace h := ob h; obtain ⟨v53, ev53, h⟩ := h
      refine g_getR hC ev53 fk_X12_13 rfl dX12_fieldOf_254 ?_
      refine g_sipush hC 2186 dX12_fieldOf_257 (by decide) ?_
      refine g_iload_n hC 2 dX12_fieldOf_260 rfl ?_
      refine g_iadd hC dX12_fieldOf_261 ?_
      replace h := ob h; obtain ⟨a55, ea55, h⟩ := h
      subst ea55
      replace h := ob h; obtain ⟨v54, ev54, h⟩ := h
      refine g_iald hC ev54 dX12_fieldOf_262 ?_
      refine g_iadd hC dX12_fieldOf_263 ?_
      replace h := ob h; obtain ⟨a57, ea57, h⟩ := h
      subst ea57
      replace h := ob h; obtain ⟨v56, ev56, h⟩ := h
      refine g_iald hC ev56 dX12_fieldOf_264 ?_
      exact g_iret hC h ⟨(Nat.le_of_ble_eq_true rfl), (Nat.le_of_ble_eq_true rfl)⟩ dX12_fieldOf_265
    by_cases c68 : p1 = 110
    · refine g_tbl (off := 226) hC 233 c68 dX12_fieldOf_7 (by decide) ?_
      refine g_aload_n hC 0 dX12_fieldOf_233 rfl ?_
      replace h := ob h; obtain ⟨v49, ev49, h⟩ := h
      refine g_getR hC ev49 fk_X12_13 rfl dX12_fieldOf_234 ?_
      refine g_bipush hC 10 dX12_fieldOf_237 (by decide) ?_
      refine g_bipush hC 8 dX12_fieldOf_239 (by decide) ?_
      refine g_aload_n hC 0 dX12_fieldOf_241 rfl ?_
      replace h := ob h; obtain ⟨v50, ev50, h⟩ := h
      refine g_getR hC ev50 fk_X12_13 rfl dX12_fieldOf_242 ?_
      refine g_sipush hC 2178 dX12_fieldOf_245 (by decide) ?_
      refine g_iload_n hC 2 dX12_fieldOf_248 rfl ?_
      refine g_iadd hC dX12_fieldOf_249 ?_
      replace h := ob h; obtain ⟨a52, ea52, h⟩ := h
      subst ea52
      replace h := ob h; obtain ⟨v51, ev51, h⟩ := h
      refine g_iald hC ev51 dX12_fieldOf_250 ?_
      refine g_imul hC dX12_fieldOf_251 ?_
      refine g_iadd hC dX12_fieldOf_252 ?_
      refine g_aload_n hC 0 dX12_fieldOf_253 rfl ?_
      replace h := ob h; obtain ⟨v53, ev53, h⟩ := h
      refine g_getR hC ev53 fk_X12_13 rfl dX12_fieldOf_254 ?_
      refine g_sipush hC 2186 dX12_fieldOf_257 (by decide) ?_
      refine g_iload_n hC 2 dX12_fieldOf_260 rfl ?_
      refine g_iadd hC dX12_fieldOf_261 ?_
      replace h := ob h; obtain ⟨a55, ea55, h⟩ := h
      subst ea55
      replace h := ob h; obtain ⟨v54, ev54, h⟩ := h
      refine g_iald hC ev54 dX12_fieldOf_262 ?_
      refine g_iadd hC dX12_fieldOf_263 ?_
      replace h := ob h; obtain ⟨a57, ea57, h⟩ := h
      subst ea57
      replace h := ob h; obtain ⟨v56, ev56, h⟩ := h
      refine g_iald hC ev56 dX12_fieldOf_264 ?_
      exact g_iret hC h ⟨(Nat.le_of_ble_eq_true rfl), (Nat.le_of_ble_eq_true rfl)⟩ dX12_fieldOf_265
    by_cases c70 : p1 = 111
    · refine g_tbl (off := 226) hC 233 c70 dX12_fieldOf_7 (by decide) ?_
      refine g_aload_n hC 0 dX12_fieldOf_233 rfl ?_
      replace h := ob h; obtain ⟨v49, ev49, h⟩ := h
      refine g_getR hC ev49 fk_X12_13 rfl dX12_fieldOf_234 ?_
      refine g_bipush hC 10 dX12_fieldOf_237 (by decide) ?_
      refine g_bipush hC 8 dX12_fieldOf_239 (by decide) ?_
      refine g_aload_n hC 0 dX12_fieldOf_241 rfl ?_
      replace h := ob h; obtain ⟨v50, ev50, h⟩ := h
      refine g_getR hC ev50 fk_X12_13 rfl dX12_fieldOf_242 ?_
      refine g_sipush hC 2178 dX12_fieldOf_245 (by decide) ?_
      refine g_iload_n hC 2 dX12_fieldOf_248 rfl ?_
      refine g_iadd hC dX12_fieldOf_249 ?_
      replace h := ob h; obtain ⟨a52, ea52, h⟩ := h
      subst ea52
      replace h := ob h; obtain ⟨v51, ev51, h⟩ := h
      refine g_iald hC ev51 dX12_fieldOf_250 ?_
      refine g_imul hC dX12_fieldOf_251 ?_
      refine g_iadd hC dX12_fieldOf_252 ?_
      refine g_aload_n hC 0 dX12_fieldOf_253 rfl ?_
      replace h := ob h; obtain ⟨v53, ev53, h⟩ := h
      refine g_getR hC ev53 fk_X12_13 rfl dX12_fieldOf_254 ?_
      refine g_sipush hC 2186 dX12_fieldOf_257 (by decide) ?_
      refine g_iload_n hC 2 dX12_fieldOf_260 rfl ?_
      refine g_iadd hC dX12_fieldOf_261 ?_
      replace h := ob h; obtain ⟨a55, ea55, h⟩ := h
      subst ea55
      replace h := ob h; obtain ⟨v54, ev54, h⟩ := h
      refine g_iald hC ev54 dX12_fieldOf_262 ?_
      refine g_iadd hC dX12_fieldOf_263 ?_
      replace h := ob h; obtain ⟨a57, ea57, h⟩ := h
      subst ea57
      replace h := ob h; obtain ⟨v56, ev56, h⟩ := h
      refine g_iald hC ev56 dX12_fieldOf_264 ?_
      exact g_iret hC h ⟨(Nat.le_of_ble_eq_true rfl), (Nat.le_of_ble_eq_true rfl)⟩ dX12_fieldOf_265
    by_cases c72 : p1 = 113
    · refine g_tbl (off := 226) hC 233 c72 dX12_fieldOf_7 (by decide) ?_
      refine g_aload_n hC 0 dX12_fieldOf_233 rfl ?_
      replace h := ob h; obtain ⟨v49, ev49, h⟩ := h
      refine g_getR hC ev49 fk_X12_13 rfl dX12_fieldOf_234 ?_
      refine g_bipush hC 10 dX12_fieldOf_237 (by decide) ?_
      refine g_bipush hC 8 dX12_fieldOf_239 (by decide) ?_
      refine g_aload_n hC 0 dX12_fieldOf_241 rfl ?_
      replace h := ob h; obtain ⟨v50, ev50, h⟩ := h
      refine g_getR hC ev50 fk_X12_13 rfl dX12_fieldOf_242 ?_
      refine g_sipush hC 2178 dX12_fieldOf_245 (by decide) ?_
      refine g_iload_n hC 2 dX12_fieldOf_248 rfl ?_
      refine g_iadd hC dX12_fieldOf_249 ?_
      replace h := ob h; obtain ⟨a52, ea52, h⟩ := h
      subst ea52
      replace h := ob h; obtain ⟨v51, ev51, h⟩ := h
      refine g_iald hC ev51 dX12_fieldOf_250 ?_
      refine g_imul hC dX12_fieldOf_251 ?_
      refine g_iadd hC dX12_fieldOf_252 ?_
      refine g_aload_n hC 0 dX12_fieldOf_253 rfl ?_
      replace h := ob h; obtain ⟨v53, ev53, h⟩ := h
      refine g_getR hC ev53 fk_X12_13 rfl dX12_fieldOf_254 ?_
      refine g_sipush hC 2186 dX12_fieldOf_257 (by decide) ?_
      refine g_iload_n hC 2 dX12_fieldOf_260 rfl ?_
      refine g_iadd hC dX12_fieldOf_261 ?_
      replace h := ob h; obtain ⟨a55, ea55, h⟩ := h
      subst ea55
      replace h := ob h; obtain ⟨v54, ev54, h⟩ := h
      refine g_iald hC ev54 dX12_fieldOf_262 ?_
      refine g_iadd hC dX12_fieldOf_263 ?_
      replace h := ob h; obtain ⟨a57, ea57, h⟩ := h
      subst ea57
      replace h := ob h; obtain ⟨v56, ev56, h⟩ := h
      refine g_iald hC ev56 dX12_fieldOf_264 ?_
      exact g_iret hC h ⟨(Nat.le_of_ble_eq_true rfl), (Nat.le_of_ble_eq_true rfl)⟩ dX12_fieldOf_265
    by_cases c74 : p1 = 114
    · refine g_tbl (off := 226) hC 233 c74 dX12_fieldOf_7 (by decide) ?_
      refine g_aload_n hC 0 dX12_fieldOf_233 rfl ?_
      replace h := ob h; obtain ⟨v49, ev49, h⟩ := h
      refine g_getR hC ev49 fk_X12_13 rfl dX12_fieldOf_234 ?_
      refine g_bipush hC 10 dX12_fieldOf_237 (by decide) ?_
      refine g_bipush hC 8 dX12_fieldOf_239 (by decide) ?_
      refine g_aload_n hC 0 dX12_fieldOf_241 rfl ?_
      replace h := ob h; obtain ⟨v50, ev50, h⟩ := h
      refine g_getR hC ev50 fk_X12_13 rfl dX12_fieldOf_242 ?_
      refine g_sipush hC 2178 dX12_fieldOf_245 (by decide) ?_
      refine g_iload_n hC 2 dX12_fieldOf_248 rfl ?_
      refine g_iadd hC dX12_fieldOf_249 ?_
      replace h := ob h; obtain ⟨a52, ea52, h⟩ := h
      subst ea52
      replace h := ob h; obtain ⟨v51, ev51, h⟩ := h
      refine g_iald hC ev51 dX12_fieldOf_250 ?_
      refine g_imul hC dX12_fieldOf_251 ?_
      refine g_iadd hC dX12_fieldOf_252 ?_
      refine g_aload_n hC 0 dX12_fieldOf_253 rfl ?_
      replace h := ob h; obtain ⟨v53, ev53, h⟩ := h
      refine g_getR hC ev53 fk_X12_13 rfl dX12_fieldOf_254 ?_
      refine g_sipush hC 2186 dX12_fieldOf_257 (by decide) ?_
      refine g_iload_n hC 2 dX12_fieldOf_260 rfl ?_
      refine g_iadd hC dX12_fieldOf_261 ?_
      replace h := ob h; obtain ⟨a55, ea55, h⟩ := h
      subst ea55
      replace h := ob h; obtain ⟨v54, ev54, h⟩ := h
      refine g_iald hC ev54 dX12_fieldOf_262 ?_
      refine g_iadd hC dX12_fieldOf_263 ?_
      replace h := ob h; obtain ⟨a57, ea57, h⟩ := h
      subst ea57
      replace h := ob h; obtain ⟨v56, ev56, h⟩ := h
      refine g_iald hC ev56 dX12_fieldOf_264 ?_
      exact g_iret hC h ⟨(Nat.le_of_ble_eq_true rfl), (Nat.le_of_ble_eq_true rfl)⟩ dX12_fieldOf_265
    by_cases c76 : p1 = 117
    · refine g_tbl (off := 226) hC 233 c76 dX12_fieldOf_7 (by decide) ?_
      refine g_aload_n hC 0 dX12_fieldOf_233 rfl ?_
      replace h := ob h; obtain ⟨v49, ev49, h⟩ := h
      refine g_getR hC ev49 fk_X12_13 rfl dX12_fieldOf_234 ?_
      refine g_bipush hC 10 dX12_fieldOf_237 (by decide) ?_
      refine g_bipush hC 8 dX12_fieldOf_239 (by decide) ?_
      refine g_aload_n hC 0 dX12_fieldOf_241 rfl ?_
      replace h := ob h; obtain ⟨v50, ev50, h⟩ := h
      refine g_getR hC ev50 fk_X12_13 rfl dX12_fieldOf_242 ?_
      refine g_sipush hC 2178 dX12_fieldOf_245 (by decide) ?_
      refine g_iload_n hC 2 dX12_fieldOf_248 rfl ?_
      refine g_iadd hC dX12_fieldOf_249 ?_
      replace h := ob h; obtain ⟨a52, ea52, h⟩ := h
      subst ea52
      replace h := ob h; obtain ⟨v51, ev51, h⟩ := h
      refine g_iald hC ev51 dX12_fieldOf_250 ?_
      refine g_imul hC dX12_fieldOf_251 ?_
      refine g_iadd hC dX12_fieldOf_252 ?_
      refine g_aload_n hC 0 dX12_fieldOf_253 rfl ?_
      replace h := ob h; obtain ⟨v53, ev53, h⟩ := h
      refine g_getR hC ev53 fk_X12_13 rfl dX12_fieldOf_254 ?_
      refine g_sipush hC 2186 dX12_fieldOf_257 (by decide) ?_
      refine g_iload_n hC 2 dX12_fieldOf_260 rfl ?_
      refine g_iadd hC dX12_fieldOf_261 ?_
      replace h := ob h; obtain ⟨a55, ea55, h⟩ := h
      subst ea55
      replace h := ob h; obtain ⟨v54, ev54, h⟩ := h
      refine g_iald hC ev54 dX12_fieldOf_262 ?_
      refine g_iadd hC dX12_fieldOf_263 ?_
      replace h := ob h; obtain ⟨a57, ea57, h⟩ := h
      subst ea57
      replace h := ob h; obtain ⟨v56, ev56, h⟩ := h
      refine g_iald hC ev56 dX12_fieldOf_264 ?_
      exact g_iret hC h ⟨(Nat.le_of_ble_eq_true rfl), (Nat.le_of_ble_eq_true rfl)⟩ dX12_fieldOf_265
    by_cases c78 : p1 = 118
    · refine g_tbl (off := 226) hC 233 c78 dX12_fieldOf_7 (by decide) ?_
      refine g_aload_n hC 0 dX12_fieldOf_233 rfl ?_
      replace h := ob h; obtain ⟨v49, ev49, h⟩ := h
      refine g_getR hC ev49 fk_X12_13 rfl dX12_fieldOf_234 ?_
      refine g_bipush hC 10 dX12_fieldOf_237 (by decide) ?_
      refine g_bipush hC 8 dX12_fieldOf_239 (by decide) ?_
      refine g_aload_n hC 0 dX12_fieldOf_241 rfl ?_
      replace h := ob h; obtain ⟨v50, ev50, h⟩ := h
      refine g_getR hC ev50 fk_X12_13 rfl dX12_fieldOf_242 ?_
      refine g_sipush hC 2178 dX12_fieldOf_245 (by decide) ?_
      refine g_iload_n hC 2 dX12_fieldOf_248 rfl ?_
      refine g_iadd hC dX12_fieldOf_249 ?_
      replace h := ob h; obtain ⟨a52, ea52, h⟩ := h
      subst ea52
      replace h := ob h; obtain ⟨v51, ev51, h⟩ := h
      refine g_iald hC ev51 dX12_fieldOf_250 ?_
      refine g_imul hC dX12_fieldOf_251 ?_
      refine g_iadd hC dX12_fieldOf_252 ?_
      refine g_aload_n hC 0 dX12_fieldOf_253 rfl ?_
      replace h := ob h; obtain ⟨v53, ev53, h⟩ := h
      refine g_getR hC ev53 fk_X12_13 rfl dX12_fieldOf_254 ?_
      refine g_sipush hC 2186 dX12_fieldOf_257 (by decide) ?_
      refine g_iload_n hC 2 dX12_fieldOf_260 rfl ?_
      refine g_iadd hC dX12_fieldOf_261 ?_
      replace h := ob h; obtain ⟨a55, ea55, h⟩ := h
      subst ea55
      replace h := ob h; obtain ⟨v54, ev54, h⟩ := h
      refine g_iald hC ev54 dX12_fieldOf_262 ?_
      refine g_iadd hC dX12_fieldOf_263 ?_
      replace h := ob h; obtain ⟨a57, ea57, h⟩ := h
      subst ea57
      replace h := ob h; obtain ⟨v56, ev56, h⟩ := h
      refine g_iald hC ev56 dX12_fieldOf_264 ?_
      exact g_iret hC h ⟨(Nat.le_of_ble_eq_true rfl), (Nat.le_of_ble_eq_true rfl)⟩ dX12_fieldOf_265
    by_cases c80 : p1 = 119
    · refine g_tbl (off := 226) hC 233 c80 dX12_fieldOf_7 (by decide) ?_
      refine g_aload_n hC 0 dX12_fieldOf_233 rfl ?_
      replace h := ob h; obtain ⟨v49, ev49, h⟩ := h
      refine g_getR hC ev49 fk_X12_13 rfl dX12_fieldOf_234 ?_
      refine g_bipush hC 10 dX12_fieldOf_237 (by decide) ?_
      refine g_bipush hC 8 dX12_fieldOf_239 (by decide) ?_
      refine g_aload_n hC 0 dX12_fieldOf_241 rfl ?_
      replace h := ob h; obtain ⟨v50, ev50, h⟩ := h
      refine g_getR hC ev50 fk_X12_13 rfl dX12_fieldOf_242 ?_
      refine g_sipush hC 2178 dX12_fieldOf_245 (by decide) ?_
      refine g_iload_n hC 2 dX12_fieldOf_248 rfl ?_
      refine g_iadd hC dX12_fieldOf_249 ?_
      replace h := ob h; obtain ⟨a52, ea52, h⟩ := h
      subst ea52
      replace h := ob h; obtain ⟨v51, ev51, h⟩ := h
      refine g_iald hC ev51 dX12_fieldOf_250 ?_
      refine g_imul hC dX12_fieldOf_251 ?_
      refine g_iadd hC dX12_fieldOf_252 ?_
      refine g_aload_n hC 0 dX12_fieldOf_253 rfl ?_
      replace h := ob h; obtain ⟨v53, ev53, h⟩ := h
      refine g_getR hC ev53 fk_X12_13 rfl dX12_fieldOf_254 ?_
      refine g_sipush hC 2186 dX12_fieldOf_257 (by decide) ?_
      refine g_iload_n hC 2 dX12_fieldOf_260 rfl ?_
      refine g_iadd hC dX12_fieldOf_261 ?_
      replace h := ob h; obtain ⟨a55, ea55, h⟩ := h
      subst ea55
      replace h := ob h; obtain ⟨v54, ev54, h⟩ := h
      refine g_iald hC ev54 dX12_fieldOf_262 ?_
      refine g_iadd hC dX12_fieldOf_263 ?_
      replace h := ob h; obtain ⟨a57, ea57, h⟩ := h
      subst ea57
      replace h := ob h; obtain ⟨v56, ev56, h⟩ := h
      refine g_iald hC ev56 dX12_fieldOf_264 ?_
      exact g_iret hC h ⟨(Nat.le_of_ble_eq_true rfl), (Nat.le_of_ble_eq_true rfl)⟩ dX12_fieldOf_265
    refine g_tbd (n := 20) hC 233 (fun j hj => ?_) (by decide) dX12_fieldOf_7 (by decide) ?_
    · match j, hj with
      | 0, _ => exact c2
      | 1, _ => exact c58
      | 2, _ => exact c6
      | 3, _ => exact c60
      | 4, _ => exact c62
      | 5, _ => exact c64
      | 6, _ => exact c20
      | 7, _ => exact c66
      | 8, _ => exact c68
      | 9, _ => exact c70
      | 10, _ => exact c24
      | 11, _ => exact c72
      | 12, _ => exact c74
      | 13, _ => exact c28
      | 14, _ => exact c36
      | 15, _ => exact c76
      | 16, _ => exact c78
      | 17, _ => exact c80
      | 18, _ => exact c41
      | 19, _ => exact c45
      | j + 20, hj => exact absurd hj (by omega)
    refine g_aload_n hC 0 dX12_fieldOf_233 rfl ?_
    replace h := ob h; obtain ⟨v49, ev49, h⟩ := h
    refine g_getR hC ev49 fk_X12_13 rfl dX12_fieldOf_234 ?_
    refine g_bipush hC 10 dX12_fieldOf_237 (by decide) ?_
    refine g_bipush hC 8 dX12_fieldOf_239 (by decide) ?_
    refine g_aload_n hC 0 dX12_fieldOf_241 rfl ?_
    replace h := ob h; obtain ⟨v50, ev50, h⟩ := h
    refine g_getR hC ev50 fk_X12_13 rfl dX12_fieldOf_242 ?_
    refine g_sipush hC 2178 dX12_fieldOf_245 (by decide) ?_
    refine g_iload_n hC 2 dX12_fieldOf_248 rfl ?_
    refine g_iadd hC dX12_fieldOf_249 ?_
    replace h := ob h; obtain ⟨a52, ea52, h⟩ := h
    subst ea52
    replace h := ob h; obtain ⟨v51, ev51, h⟩ := h
    refine g_iald hC ev51 dX12_fieldOf_250 ?_
    refine g_imul hC dX12_fieldOf_251 ?_
    refine g_iadd hC dX12_fieldOf_252 ?_
    refine g_aload_n hC 0 dX12_fieldOf_253 rfl ?_
    replace h := ob h; obtain ⟨v53, ev53, h⟩ := h
    refine g_getR hC ev53 fk_X12_13 rfl dX12_fieldOf_254 ?_
    refine g_sipush hC 2186 dX12_fieldOf_257 (by decide) ?_
    refine g_iload_n hC 2 dX12_fieldOf_260 rfl ?_
    refine g_iadd hC dX12_fieldOf_261 ?_
    replace h := ob h; obtain ⟨a55, ea55, h⟩ := h
    subst ea55
    replace h := ob h; obtain ⟨v54, ev54, h⟩ := h
    refine g_iald hC ev54 dX12_fieldOf_262 ?_
    refine g_iadd hC dX12_fieldOf_263 ?_
    replace h := ob h; obtain ⟨a57, ea57, h⟩ := h
    subst ea57
    replace h := ob h; obtain ⟨v56, ev56, h⟩ := h
    refine g_iald hC ev56 dX12_fieldOf_264 ?_
    exact g_iret hC h ⟨(Nat.le_of_ble_eq_true rfl), (Nat.le_of_ble_eq_true rfl)⟩ dX12_fieldOf_265
  · replace h := it_f c1 h
    refine g_iconst hC 0 dX12_fieldOf_4 (by decide) ?_
    exact g_iret hC h ⟨(Nat.le_of_ble_eq_true rfl), (Nat.le_of_ble_eq_true rfl)⟩ dX12_fieldOf_5

set_option maxHeartbeats 4000000 in
set_option maxRecDepth 100000 in
theorem l_X12_takesCheck_L2 {Γ : Gm} {X : Ct} (hC : Cx Γ X cX12_takesCheck RX12 (some .boolean) 8) (hR : X.2.2.2.1 = ({ frames := 2, cells := 0, slots := 0, locals := 45 } : Room)) (r : Int32) (M' : Mm) (k34 : Int32 → Mm → Option (Int32 × Mm)) (x0 : Nat) (x1 : Int32) (hk34 : ∀ (y2 : Int32) (M1 : Mm), k34 y2 M1 = some (r, M') → G Γ X 8 M1 0 0 (Fin Γ X (Qi Γ r M') 0 0) 34 ([(0, .ref x0), (1, .int x1), (2, .int y2)]) []) : ∀ (fu : Nat) (x2 : Int32) (M0 : Mm), F_X12_takesCheck_L2 k34 x0 x1 fu x2 M0 = some (r, M') → G Γ X 8 M0 0 0 (Fin Γ X (Qi Γ r M') 0 0) 2 ([(0, .ref x0), (1, .int x1), (2, .int x2)]) [] := by
  intro fu
  induction fu with
  | zero =>
    intro x2 M0 h
    rw [F_X12_takesCheck_L2] at h
    cases h
  | succ n1 ih =>
    intro x2 M0 h
    rw [F_X12_takesCheck_L2] at h
    refine g_aload_n hC 0 dX12_takesCheck_2 rfl ?_
    replace h := ob h; obtain ⟨_, eu3, h⟩ := h
    replace h := ob h; obtain ⟨⟨v4, M2⟩, eM2, h⟩ := h
    refine g_calli hC (r_V hC (As := []) (c_X12_at _ Γ x0 M0 M2 v4 eM2) yk_X12_at lk_X12_194 eu3 ⟨_, rfl, rfl⟩ rfl rfl (Nat.le_of_ble_eq_true rfl) hR ⟨(Nat.le_of_ble_eq_true rfl), (Nat.le_of_ble_eq_true rfl)⟩ ⟨(Nat.le_of_ble_eq_true rfl), (Nat.le_of_ble_eq_true rfl)⟩ dX12_takesCheck_3) ?_
    refine g_bipush hC 33 dX12_takesCheck_6 (by decide) ?_
    refine g_icmp_ne hC 34 dX12_takesCheck_8 (by decide) (fun c5 => ?_) (fun c5 => ?_)
    · replace h := it_f c5 h
      refine g_sub [0, 1, 2] rfl ?_
      exact hk34 x2 M2 h
    · replace h := it_t c5 h
      refine g_iload_n hC 2 dX12_takesCheck_11 rfl ?_
      replace h := nv_e h; obtain ⟨v6, ev6, h⟩ := h
      have J7 : G Γ X 8 M2 0 0 (Fin Γ X (Qi Γ r M') 0 0) 20 ([(0, .ref x0), (1, .int x1), (2, .int x2)]) ([.int v6]) := by
        refine g_istore_n hC ([(2, .int v6), (0, .ref x0), (1, .int x1)]) dX12_takesCheck_20 (by decide) rfl ?_
        refine g_aload_n hC 1 dX12_takesCheck_21 rfl ?_
        refine g_dup hC dX12_takesCheck_22 rfl ?_
        replace h := ob h; obtain ⟨v8, ev8, h⟩ := h
        refine g_getI hC ev8 fk_X12_48 rfl dX12_takesCheck_23 ?_
        refine g_iconst hC 1 dX12_takesCheck_26 (by decide) ?_
        refine g_iadd hC dX12_takesCheck_27 ?_
        replace h := ob h; obtain ⟨M9, eM9, h⟩ := h
        refine g_putI hC eM9 fk_X12_48 rfl dX12_takesCheck_28 ?_
        refine g_goto hC 2 dX12_takesCheck_31 (by decide) ?_
        refine g_sub [1, 2, 0] rfl ?_
        exact ih v6 M9 h
      refine g_if_ne hC 19 dX12_takesCheck_12 (by decide) (fun c10 => ?_) (fun c10 => ?_)
      · refine g_iconst hC 0 dX12_takesCheck_19 (by decide) ?_
        rw [show v6 = _ from ev6.trans (if_neg c10)] at J7
        exact J7
      · refine g_iconst hC 1 dX12_takesCheck_15 (by decide) ?_
        refine g_goto hC 20 dX12_takesCheck_16 (by decide) ?_
        rw [show v6 = _ from ev6.trans (if_pos c10)] at J7
        exact J7
set_option maxHeartbeats 4000000 in
set_option maxRecDepth 100000 in
theorem l_X12_takesCheck_L127 {Γ : Gm} {X : Ct} (hC : Cx Γ X cX12_takesCheck RX12 (some .boolean) 8) (hR : X.2.2.2.1 = ({ frames := 2, cells := 0, slots := 0, locals := 45 } : Room)) (r : Int32) (M' : Mm) (k184 : Int32 → Mm → Option (Int32 × Mm)) (x0 : Nat) (x2 : Int32) (x4 : Int32) (x5 : Int32) (hk184 : ∀ (y6 : Int32) (M1 : Mm), k184 y6 M1 = some (r, M') → G Γ X 8 M1 0 0 (Fin Γ X (Qi Γ r M') 0 0) 184 ([(0, .ref x0), (2, .int x2), (4, .int x4), (5, .int x5), (6, .int y6)]) []) : ∀ (fu : Nat) (x6 : Int32) (x7 : Int32) (M0 : Mm), F_X12_takesCheck_L127 k184 x0 x2 x4 x5 fu x6 x7 M0 = some (r, M') → G Γ X 8 M0 0 0 (Fin Γ X (Qi Γ r M') 0 0) 127 ([(0, .ref x0), (2, .int x2), (4, .int x4), (5, .int x5), (6, .int x6), (7, .int x7)]) [] := by
  intro fu
  induction fu with
  | zero =>
    intro x6 x7 M0 h
    rw [F_X12_takesCheck_L127] at h
    cases h
  | succ n37 ih =>
    intro x6 x7 M0 h
    rw [F_X12_takesCheck_L127] at h
    refine g_iload hC 5 dX12_takesCheck_127 rfl ?_
    refine g_iconst hC 3 dX12_takesCheck_129 (by decide) ?_
    refine g_icmp_ge hC 184 dX12_takesCheck_130 (by decide) (fun c38 => ?_) (fun c38 => ?_)
    · replace h := it_t c38 h
      refine g_sub [0, 1, 2, 3, 4] rfl ?_
      exact hk184 x6 M0 h
    · replace h := it_f c38 h
      refine g_iload hC 4 dX12_takesCheck_133 rfl ?_
      refine g_if_le hC 184 dX12_takesCheck_135 (by decide) (fun c39 => ?_) (fun c39 => ?_)
      · replace h := it_t c39 h
        refine g_sub [0, 1, 2, 3, 4] rfl ?_
        exact hk184 x6 M0 h
      · replace h := it_f c39 h
        refine g_aload_n hC 0 dX12_takesCheck_138 rfl ?_
        refine g_aload_n hC 0 dX12_takesCheck_139 rfl ?_
        replace h := ob h; obtain ⟨_, eu41, h⟩ := h
        replace h := ob h; obtain ⟨⟨v42, M40⟩, eM40, h⟩ := h
        refine g_calli hC (r_V hC (As := []) (c_X12_at _ Γ x0 M0 M40 v42 eM40) yk_X12_at lk_X12_194 eu41 ⟨_, rfl, rfl⟩ rfl rfl (Nat.le_of_ble_eq_true rfl) hR ⟨(Nat.le_of_ble_eq_true rfl), (Nat.le_of_ble_eq_true rfl)⟩ ⟨(Nat.le_of_ble_eq_true rfl), (Nat.le_of_ble_eq_true rfl)⟩ dX12_takesCheck_140) ?_
        refine g_bipush hC 48 dX12_takesCheck_143 (by decide) ?_
        refine g_bipush hC 57 dX12_takesCheck_145 (by decide) ?_
        replace h := ob h; obtain ⟨_, eu44, h⟩ := h
        replace h := ob h; obtain ⟨⟨v45, M43⟩, eM43, h⟩ := h
        refine g_calli hC (r_V hC (As := [.int v42, .int 48, .int 57]) (c_X12_is _ Γ x0 v42 48 57 M40 M43 v45 eM43) yk_X12_is lk_X12_123 eu44 ⟨_, rfl, rfl⟩ rfl rfl (Nat.le_of_ble_eq_true rfl) hR ⟨(Nat.le_of_ble_eq_true rfl), (Nat.le_of_ble_eq_true rfl)⟩ ⟨(Nat.le_of_ble_eq_true rfl), (Nat.le_of_ble_eq_true rfl)⟩ dX12_takesCheck_147) ?_
        refine g_if_eq hC 184 dX12_takesCheck_150 (by decide) (fun c46 => ?_) (fun c46 => ?_)
        · replace h := it_t c46 h
          refine g_sub [0, 1, 2, 3, 4] rfl ?_
          exact hk184 x6 M43 h
        · replace h := it_f c46 h
          refine g_bipush hC 10 dX12_takesCheck_153 (by decide) ?_
          refine g_iload hC 4 dX12_takesCheck_155 rfl ?_
          refine g_imul hC dX12_takesCheck_157 ?_
          refine g_aload_n hC 0 dX12_takesCheck_158 rfl ?_
          replace h := ob h; obtain ⟨_, eu48, h⟩ := h
          replace h := ob h; obtain ⟨⟨v49, M47⟩, eM47, h⟩ := h
          refine g_calli hC (r_V hC (As := []) (c_X12_at _ Γ x0 M43 M47 v49 eM47) yk_X12_at lk_X12_194 eu48 ⟨_, rfl, rfl⟩ rfl rfl (Nat.le_of_ble_eq_true rfl) hR ⟨(Nat.le_of_ble_eq_true rfl), (Nat.le_of_ble_eq_true rfl)⟩ ⟨(Nat.le_of_ble_eq_true rfl), (Nat.le_of_ble_eq_true rfl)⟩ dX12_takesCheck_159) ?_
          refine g_iadd hC dX12_takesCheck_162 ?_
          refine g_bipush hC 48 dX12_takesCheck_163 (by decide) ?_
          refine g_isub hC dX12_takesCheck_165 ?_
          refine g_istore hC ([(6, .int (((10 * x6) + v49) - 48)), (0, .ref x0), (2, .int x2), (4, .int x4), (5, .int x5), (7, .int x7)]) dX12_takesCheck_166 (by decide) rfl ?_
          refine g_aload_n hC 1 dX12_takesCheck_168 rfl ?_
          refine g_dup hC dX12_takesCheck_169 rfl ?_
          replace h := ob h; obtain ⟨v50, ev50, h⟩ := h
          refine g_getI hC ev50 fk_X12_48 rfl dX12_takesCheck_170 ?_
          refine g_iconst hC 1 dX12_takesCheck_173 (by decide) ?_
          refine g_iadd hC dX12_takesCheck_174 ?_
          replace h := ob h; obtain ⟨M51, eM51, h⟩ := h
          refine g_putI hC eM51 fk_X12_48 rfl dX12_takesCheck_175 ?_
          refine g_iinc hC 5 (x7 + 1) ([(7, .int (x7 + 1)), (6, .int (((10 * x6) + v49) - 48)), (0, .ref x0), (2, .int x2), (4, .int x4), (5, .int x5)]) dX12_takesCheck_178 rfl rfl (by decide) rfl ?_
          refine g_goto hC 127 dX12_takesCheck_181 (by decide) ?_
          refine g_sub [2, 3, 4, 5, 1, 0] rfl ?_
          exact ih (((10 * x6) + v49) - 48) (x7 + 1) M51 h
set_option maxHeartbeats 4000000 in
set_option maxRecDepth 100000 in
theorem c_X12_takesCheck (l : Launch) (Γ : Gm) (this : Nat) (p1 : Int32) (M M' : Mm) (r : Int32) (h : F_X12_takesCheck this p1 M = some (r, M')) : Met l yX12_takesCheck (wz yX12_takesCheck cX12_takesCheck 8 (some .boolean)) ({ frames := 2, cells := 0, slots := 0, locals := 45 } : Room) (Pq Γ M [.ref this, .int p1]) (Qi Γ r M') 0 0 (fr Γ) := by
  refine met_of (own := RX12) (by decide +kernel) rfl (Nat.le_of_ble_eq_true rfl) ?_
  intro X hC hR hnm hXl
  unfold F_X12_takesCheck at h
  show G Γ X 8 M 0 0 _ 0 ([(0, .ref this), (1, .int p1)]) []
  refine g_iconst hC 0 dX12_takesCheck_0 (by decide) ?_
  refine g_istore_n hC ([(2, .int 0), (0, .ref this), (1, .int p1)]) dX12_takesCheck_1 (by decide) rfl ?_
  refine g_sub [1, 2, 0] rfl ?_
  refine l_X12_takesCheck_L2 hC hR r M' _ _ _ ?_ _ _ _ h
  intro y11 M12 h
  refine g_aload_n hC 0 dX12_takesCheck_34 rfl ?_
  replace h := ob h; obtain ⟨_, eu14, h⟩ := h
  replace h := ob h; obtain ⟨⟨v15, M13⟩, eM13, h⟩ := h
  refine g_calli hC (r_V hC (As := []) (c_X12_at _ Γ this M12 M13 v15 eM13) yk_X12_at lk_X12_194 eu14 ⟨_, rfl, rfl⟩ rfl rfl (Nat.le_of_ble_eq_true rfl) hR ⟨(Nat.le_of_ble_eq_true rfl), (Nat.le_of_ble_eq_true rfl)⟩ ⟨(Nat.le_of_ble_eq_true rfl), (Nat.le_of_ble_eq_true rfl)⟩ dX12_takesCheck_35) ?_
  refine g_istore_n hC ([(3, .int v15), (0, .ref this), (1, .int p1), (2, .int y11)]) dX12_takesCheck_38 (by decide) rfl ?_
  refine g_aload_n hC 1 dX12_takesCheck_39 rfl ?_
  refine g_iload_n hC 0 dX12_takesCheck_40 rfl ?_
  replace h := ob h; obtain ⟨_, eu17, h⟩ := h
  replace h := ob h; obtain ⟨⟨v18, M16⟩, eM16, h⟩ := h
  refine g_calli hC (r_V hC (As := [.int v15]) (c_X12_isField _ Γ this v15 M13 M16 v18 eM16) yk_X12_isField lk_X12_198 eu17 ⟨_, rfl, rfl⟩ rfl rfl (Nat.le_of_ble_eq_true rfl) hR ⟨(Nat.le_of_ble_eq_true rfl), (Nat.le_of_ble_eq_true rfl)⟩ ⟨(Nat.le_of_ble_eq_true rfl), (Nat.le_of_ble_eq_true rfl)⟩ dX12_takesCheck_41) ?_
  refine g_if_ne hC 49 dX12_takesCheck_44 (by decide) (fun c19 => ?_) (fun c19 => ?_)
  · replace h := it_f c19 h
    refine g_aload_n hC 1 dX12_takesCheck_49 rfl ?_
    refine g_iload_n hC 0 dX12_takesCheck_50 rfl ?_
    refine g_iload_n hC 2 dX12_takesCheck_51 rfl ?_
    replace h := ob h; obtain ⟨_, eu21, h⟩ := h
    replace h := ob h; obtain ⟨⟨v22, M20⟩, eM20, h⟩ := h
    refine g_calli hC (r_V hC (As := [.int v15, .int p1]) (c_X12_fieldOf _ Γ this v15 p1 M16 M20 v22 eM20) yk_X12_fieldOf lk_X12_201 eu21 ⟨_, rfl, rfl⟩ rfl rfl (Nat.le_of_ble_eq_true rfl) hR ⟨(Nat.le_of_ble_eq_true rfl), (Nat.le_of_ble_eq_true rfl)⟩ ⟨(Nat.le_of_ble_eq_true rfl), (Nat.le_of_ble_eq_true rfl)⟩ dX12_takesCheck_52) ?_
    refine g_istore hC ([(4, .int v22), (3, .int v15), (0, .ref this), (1, .int p1), (2, .int y11)]) dX12_takesCheck_55 (by decide) rfl ?_
    refine g_aload_n hC 2 dX12_takesCheck_57 rfl ?_
    refine g_dup hC dX12_takesCheck_58 rfl ?_
    replace h := ob h; obtain ⟨v23, ev23, h⟩ := h
    refine g_getI hC ev23 fk_X12_48 rfl dX12_takesCheck_59 ?_
    refine g_iconst hC 1 dX12_takesCheck_62 (by decide) ?_
    refine g_iadd hC dX12_takesCheck_63 ?_
    replace h := ob h; obtain ⟨M24, eM24, h⟩ := h
    refine g_putI hC eM24 fk_X12_48 rfl dX12_takesCheck_64 ?_
    refine g_aload_n hC 2 dX12_takesCheck_67 rfl ?_
    replace h := ob h; obtain ⟨_, eu26, h⟩ := h
    replace h := ob h; obtain ⟨⟨v27, M25⟩, eM25, h⟩ := h
    refine g_calli hC (r_V hC (As := []) (c_X12_at _ Γ this M24 M25 v27 eM25) yk_X12_at lk_X12_194 eu26 ⟨_, rfl, rfl⟩ rfl rfl (Nat.le_of_ble_eq_true rfl) hR ⟨(Nat.le_of_ble_eq_true rfl), (Nat.le_of_ble_eq_true rfl)⟩ ⟨(Nat.le_of_ble_eq_true rfl), (Nat.le_of_ble_eq_true rfl)⟩ dX12_takesCheck_68) ?_
    refine g_istore hC ([(5, .int v27), (4, .int v22), (3, .int v15), (0, .ref this), (1, .int p1), (2, .int y11)]) dX12_takesCheck_71 (by decide) rfl ?_
    refine g_iload hC 0 dX12_takesCheck_73 rfl ?_
    refine g_bipush hC 60 dX12_takesCheck_75 (by decide) ?_
    replace h := jp_e h; obtain ⟨k28, ek28, h⟩ := h
    have J67 : ∀  (M29 : Mm), k28  M29 = some (r, M') → G Γ X 8 M29 0 0 (Fin Γ X (Qi Γ r M') 0 0) 96 ([(0, .ref this), (2, .int y11), (4, .int v22), (5, .int v27)]) ([]) := by
      intro  M29 h
      rw [ek28] at h
      refine g_aload_n hC 0 dX12_takesCheck_96 rfl ?_
      refine g_dup hC dX12_takesCheck_97 rfl ?_
      replace h := ob h; obtain ⟨v30, ev30, h⟩ := h
      refine g_getI hC ev30 fk_X12_48 rfl dX12_takesCheck_98 ?_
      refine g_iconst hC 1 dX12_takesCheck_101 (by decide) ?_
      refine g_iadd hC dX12_takesCheck_102 ?_
      replace h := ob h; obtain ⟨M31, eM31, h⟩ := h
      refine g_putI hC eM31 fk_X12_48 rfl dX12_takesCheck_103 ?_
      refine g_aload_n hC 0 dX12_takesCheck_106 rfl ?_
      refine g_iconst hC 0 dX12_takesCheck_107 (by decide) ?_
      refine g_bipush hC 9 dX12_takesCheck_108 (by decide) ?_
      replace h := ob h; obtain ⟨_, eu33, h⟩ := h
      replace h := ob h; obtain ⟨⟨v34, M32⟩, eM32, h⟩ := h
      refine g_calli hC (r_V hC (As := [.int 0, .int 9]) (c_X12_takes _ Γ this 0 9 M31 M32 v34 eM32) yk_X12_takes lk_X12_204 eu33 ⟨_, rfl, rfl⟩ rfl rfl (Nat.le_of_ble_eq_true rfl) hR ⟨(Nat.le_of_ble_eq_true rfl), (Nat.le_of_ble_eq_true rfl)⟩ ⟨(Nat.le_of_ble_eq_true rfl), (Nat.le_of_ble_eq_true rfl)⟩ dX12_takesCheck_110) ?_
      refine g_if_ne hC 118 dX12_takesCheck_113 (by decide) (fun c35 => ?_) (fun c35 => ?_)
      · replace h := it_f c35 h
        refine g_aload_n hC 0 dX12_takesCheck_118 rfl ?_
        replace h := ob h; obtain ⟨v36, ev36, h⟩ := h
        refine g_getI hC ev36 fk_X12_54 rfl dX12_takesCheck_119 ?_
        refine g_istore hC ([(6, .int v36), (0, .ref this), (2, .int y11), (4, .int v22), (5, .int v27)]) dX12_takesCheck_122 (by decide) rfl ?_
        refine g_iconst hC 1 dX12_takesCheck_124 (by decide) ?_
        refine g_istore hC ([(7, .int 1), (6, .int v36), (0, .ref this), (2, .int y11), (4, .int v22), (5, .int v27)]) dX12_takesCheck_125 (by decide) rfl ?_
        refine g_sub [2, 3, 4, 5, 1, 0] rfl ?_
        refine l_X12_takesCheck_L127 hC hR r M' _ _ _ _ _ ?_ _ _ _ _ h
        intro y52 M53 h
        refine g_iload hC 3 dX12_takesCheck_184 rfl ?_
        refine g_bipush hC 60 dX12_takesCheck_186 (by decide) ?_
        replace h := nv_e h; obtain ⟨v54, ev54, h⟩ := h
        have J55 : G Γ X 8 M53 0 0 (Fin Γ X (Qi Γ r M') 0 0) 240 ([(0, .ref this), (2, .int y11), (4, .int v22), (5, .int v27), (6, .int y52)]) ([.int v54]) := by
          refine g_istore hC ([(7, .int v54), (0, .ref this), (2, .int y11), (4, .int v22), (5, .int v27), (6, .int y52)]) dX12_takesCheck_240 (by decide) rfl ?_
          refine g_aload_n hC 1 dX12_takesCheck_242 rfl ?_
          refine g_aload_n hC 1 dX12_takesCheck_243 rfl ?_
          replace h := ob h; obtain ⟨v56, ev56, h⟩ := h
          refine g_getI hC ev56 fk_X12_57 rfl dX12_takesCheck_244 ?_
          replace h := nv_e h; obtain ⟨v57, ev57, h⟩ := h
          have J58 : G Γ X 8 M53 0 0 (Fin Γ X (Qi Γ r M') 0 0) 261 ([(7, .int v54), (0, .ref this), (2, .int y11), (4, .int v22), (5, .int v27), (6, .int y52)]) ([.int v57, .ref this]) := by
            replace h := ob h; obtain ⟨M59, eM59, h⟩ := h
            refine g_putZ hC eM59 fk_X12_57 rfl dX12_takesCheck_261 ?_
            refine g_iconst hC 1 dX12_takesCheck_264 (by decide) ?_
            exact g_zret hC (by decide) h ⟨(Nat.le_of_ble_eq_true rfl), (Nat.le_of_ble_eq_true rfl)⟩ dX12_takesCheck_265
          refine g_if_eq hC 260 dX12_takesCheck_247 (by decide) (fun c60 => ?_) (fun c60 => ?_)
          · refine g_iconst hC 0 dX12_takesCheck_260 (by decide) ?_
            rw [show v57 = _ from ev57.trans (if_pos c60)] at J58
            exact J58
          · refine g_iload hC 0 dX12_takesCheck_250 rfl ?_
            refine g_iload_n hC 2 dX12_takesCheck_252 rfl ?_
            refine g_icmp_eq hC 260 dX12_takesCheck_253 (by decide) (fun c61 => ?_) (fun c61 => ?_)
            · refine g_iconst hC 0 dX12_takesCheck_260 (by decide) ?_
              rw [show v57 = _ from ev57.trans ((if_neg c60).trans (if_pos c61))] at J58
              exact J58
            · refine g_iconst hC 1 dX12_takesCheck_256 (by decide) ?_
              refine g_goto hC 261 dX12_takesCheck_257 (by decide) ?_
              rw [show v57 = _ from ev57.trans ((if_neg c60).trans (if_neg c61))] at J58
              exact J58
        refine g_icmp_ne hC 206 dX12_takesCheck_188 (by decide) (fun c62 => ?_) (fun c62 => ?_)
        · refine g_iload hC 3 dX12_takesCheck_206 rfl ?_
          refine g_bipush hC 61 dX12_takesCheck_208 (by decide) ?_
          refine g_icmp_ne hC 228 dX12_takesCheck_210 (by decide) (fun c63 => ?_) (fun c63 => ?_)
          · refine g_iload hC 2 dX12_takesCheck_228 rfl ?_
            refine g_iload hC 4 dX12_takesCheck_230 rfl ?_
            refine g_icmp_le hC 239 dX12_takesCheck_232 (by decide) (fun c64 => ?_) (fun c64 => ?_)
            · refine g_iconst hC 0 dX12_takesCheck_239 (by decide) ?_
              rw [show v54 = _ from ev54.trans ((if_neg c62).trans ((if_neg c63).trans (if_pos c64)))] at J55
              exact J55
            · refine g_iconst hC 1 dX12_takesCheck_235 (by decide) ?_
              refine g_goto hC 240 dX12_takesCheck_236 (by decide) ?_
              rw [show v54 = _ from ev54.trans ((if_neg c62).trans ((if_neg c63).trans (if_neg c64)))] at J55
              exact J55
          · refine g_iload hC 2 dX12_takesCheck_213 rfl ?_
            refine g_iload hC 4 dX12_takesCheck_215 rfl ?_
            refine g_icmp_ne hC 224 dX12_takesCheck_217 (by decide) (fun c65 => ?_) (fun c65 => ?_)
            · refine g_iconst hC 0 dX12_takesCheck_224 (by decide) ?_
              refine g_goto hC 240 dX12_takesCheck_225 (by decide) ?_
              rw [show v54 = _ from ev54.trans ((if_neg c62).trans ((if_pos c63).trans (if_neg c65)))] at J55
              exact J55
            · refine g_iconst hC 1 dX12_takesCheck_220 (by decide) ?_
              refine g_goto hC 240 dX12_takesCheck_221 (by decide) ?_
              rw [show v54 = _ from ev54.trans ((if_neg c62).trans ((if_pos c63).trans (if_pos c65)))] at J55
              exact J55
        · refine g_iload hC 2 dX12_takesCheck_191 rfl ?_
          refine g_iload hC 4 dX12_takesCheck_193 rfl ?_
          refine g_icmp_ge hC 202 dX12_takesCheck_195 (by decide) (fun c66 => ?_) (fun c66 => ?_)
          · refine g_iconst hC 0 dX12_takesCheck_202 (by decide) ?_
            refine g_goto hC 240 dX12_takesCheck_203 (by decide) ?_
            rw [show v54 = _ from ev54.trans ((if_pos c62).trans (if_pos c66))] at J55
            exact J55
          · refine g_iconst hC 1 dX12_takesCheck_198 (by decide) ?_
            refine g_goto hC 240 dX12_takesCheck_199 (by decide) ?_
            rw [show v54 = _ from ev54.trans ((if_pos c62).trans (if_neg c66))] at J55
            exact J55
      · replace h := it_t c35 h
        refine g_iconst hC 0 dX12_takesCheck_116 (by decide) ?_
        exact g_zret hC (by decide) h ⟨(Nat.le_of_ble_eq_true rfl), (Nat.le_of_ble_eq_true rfl)⟩ dX12_takesCheck_117
    refine g_icmp_eq hC 96 dX12_takesCheck_77 (by decide) (fun c68 => ?_) (fun c68 => ?_)
    · replace h := it_t c68 h
      refine g_sub [3, 5, 1, 0] rfl ?_
      exact J67  M25 h
    · replace h := it_f c68 h
      refine g_iload hC 0 dX12_takesCheck_80 rfl ?_
      refine g_bipush hC 61 dX12_takesCheck_82 (by decide) ?_
      refine g_icmp_eq hC 96 dX12_takesCheck_84 (by decide) (fun c69 => ?_) (fun c69 => ?_)
      · replace h := it_t c69 h
        refine g_sub [3, 5, 1, 0] rfl ?_
        exact J67  M25 h
      · replace h := it_f c69 h
        refine g_iload hC 0 dX12_takesCheck_87 rfl ?_
        refine g_bipush hC 62 dX12_takesCheck_89 (by decide) ?_
        refine g_icmp_eq hC 96 dX12_takesCheck_91 (by decide) (fun c70 => ?_) (fun c70 => ?_)
        · replace h := it_t c70 h
          refine g_sub [3, 5, 1, 0] rfl ?_
          exact J67  M25 h
        · replace h := it_f c70 h
          refine g_iconst hC 0 dX12_takesCheck_94 (by decide) ?_
          exact g_zret hC (by decide) h ⟨(Nat.le_of_ble_eq_true rfl), (Nat.le_of_ble_eq_true rfl)⟩ dX12_takesCheck_95
  · replace h := it_t c19 h
    refine g_iconst hC 0 dX12_takesCheck_47 (by decide) ?_
    exact g_zret hC (by decide) h ⟨(Nat.le_of_ble_eq_true rfl), (Nat.le_of_ble_eq_true rfl)⟩ dX12_takesCheck_48

set_option maxHeartbeats 4000000 in
set_option maxRecDepth 100000 in
theorem l_X12_takesTest_L15 {Γ : Gm} {X : Ct} (hC : Cx Γ X cX12_takesTest RX12 (some .boolean) 2) (hR : X.2.2.2.1 = ({ frames := 3, cells := 0, slots := 0, locals := 72 } : Room)) (r : Int32) (M' : Mm)  (x0 : Nat) (x1 : Int32) : ∀ (fu : Nat)  (M0 : Mm), F_X12_takesTest_L15 x0 x1 fu  M0 = some (r, M') → G Γ X 2 M0 0 0 (Fin Γ X (Qi Γ r M') 0 0) 15 ([(0, .ref x0), (1, .int x1)]) [] := by
  intro fu
  induction fu with
  | zero =>
    intro M0 h
    rw [F_X12_takesTest_L15] at h
    cases h
  | succ n6 ih =>
    intro M0 h
    rw [F_X12_takesTest_L15] at h
    refine g_aload_n hC 0 dX12_takesTest_15 rfl ?_
    replace h := ob h; obtain ⟨_, eu8, h⟩ := h
    replace h := ob h; obtain ⟨⟨v9, M7⟩, eM7, h⟩ := h
    refine g_calli hC (r_V hC (As := []) (c_X12_at _ Γ x0 M0 M7 v9 eM7) yk_X12_at lk_X12_194 eu8 ⟨_, rfl, rfl⟩ rfl rfl (Nat.le_of_ble_eq_true rfl) hR ⟨(Nat.le_of_ble_eq_true rfl), (Nat.le_of_ble_eq_true rfl)⟩ ⟨(Nat.le_of_ble_eq_true rfl), (Nat.le_of_ble_eq_true rfl)⟩ dX12_takesTest_16) ?_
    refine g_bipush hC 38 dX12_takesTest_19 (by decide) ?_
    refine g_icmp_ne hC 44 dX12_takesTest_21 (by decide) (fun c10 => ?_) (fun c10 => ?_)
    · replace h := it_f c10 h
      refine g_iconst hC 1 dX12_takesTest_44 (by decide) ?_
      exact g_zret hC (by decide) h ⟨(Nat.le_of_ble_eq_true rfl), (Nat.le_of_ble_eq_true rfl)⟩ dX12_takesTest_45
    · replace h := it_t c10 h
      refine g_aload_n hC 0 dX12_takesTest_24 rfl ?_
      refine g_dup hC dX12_takesTest_25 rfl ?_
      replace h := ob h; obtain ⟨v11, ev11, h⟩ := h
      refine g_getI hC ev11 fk_X12_48 rfl dX12_takesTest_26 ?_
      refine g_iconst hC 1 dX12_takesTest_29 (by decide) ?_
      refine g_iadd hC dX12_takesTest_30 ?_
      replace h := ob h; obtain ⟨M12, eM12, h⟩ := h
      refine g_putI hC eM12 fk_X12_48 rfl dX12_takesTest_31 ?_
      refine g_aload_n hC 0 dX12_takesTest_34 rfl ?_
      refine g_iload_n hC 1 dX12_takesTest_35 rfl ?_
      replace h := ob h; obtain ⟨_, eu14, h⟩ := h
      replace h := ob h; obtain ⟨⟨v15, M13⟩, eM13, h⟩ := h
      refine g_calli hC (r_V hC (As := [.int x1]) (c_X12_takesCheck _ Γ x0 x1 M12 M13 v15 eM13) yk_X12_takesCheck lk_X12_207 eu14 ⟨_, rfl, rfl⟩ rfl rfl (Nat.le_of_ble_eq_true rfl) hR ⟨(Nat.le_of_ble_eq_true rfl), (Nat.le_of_ble_eq_true rfl)⟩ ⟨(Nat.le_of_ble_eq_true rfl), (Nat.le_of_ble_eq_true rfl)⟩ dX12_takesTest_36) ?_
      refine g_if_ne hC 15 dX12_takesTest_39 (by decide) (fun c16 => ?_) (fun c16 => ?_)
      · replace h := it_f c16 h
        refine g_sub [0, 1] rfl ?_
        exact ih  M13 h
      · replace h := it_t c16 h
        refine g_iconst hC 0 dX12_takesTest_42 (by decide) ?_
        exact g_zret hC (by decide) h ⟨(Nat.le_of_ble_eq_true rfl), (Nat.le_of_ble_eq_true rfl)⟩ dX12_takesTest_43
set_option maxHeartbeats 4000000 in
set_option maxRecDepth 100000 in
theorem c_X12_takesTest (l : Launch) (Γ : Gm) (this : Nat) (p1 : Int32) (M M' : Mm) (r : Int32) (h : F_X12_takesTest this p1 M = some (r, M')) : Met l yX12_takesTest (wz yX12_takesTest cX12_takesTest 2 (some .boolean)) ({ frames := 3, cells := 0, slots := 0, locals := 72 } : Room) (Pq Γ M [.ref this, .int p1]) (Qi Γ r M') 0 0 (fr Γ) := by
  refine met_of (own := RX12) (by decide +kernel) rfl (Nat.le_of_ble_eq_true rfl) ?_
  intro X hC hR hnm hXl
  unfold F_X12_takesTest at h
  show G Γ X 2 M 0 0 _ 0 ([(0, .ref this), (1, .int p1)]) []
  refine g_aload_n hC 0 dX12_takesTest_0 rfl ?_
  refine g_iconst hC 1 dX12_takesTest_1 (by decide) ?_
  replace h := ob h; obtain ⟨M1, eM1, h⟩ := h
  refine g_putZ hC eM1 fk_X12_57 rfl dX12_takesTest_2 ?_
  refine g_aload_n hC 0 dX12_takesTest_5 rfl ?_
  refine g_iload_n hC 1 dX12_takesTest_6 rfl ?_
  replace h := ob h; obtain ⟨_, eu3, h⟩ := h
  replace h := ob h; obtain ⟨⟨v4, M2⟩, eM2, h⟩ := h
  refine g_calli hC (r_V hC (As := [.int p1]) (c_X12_takesCheck _ Γ this p1 M1 M2 v4 eM2) yk_X12_takesCheck lk_X12_207 eu3 ⟨_, rfl, rfl⟩ rfl rfl (Nat.le_of_ble_eq_true rfl) hR ⟨(Nat.le_of_ble_eq_true rfl), (Nat.le_of_ble_eq_true rfl)⟩ ⟨(Nat.le_of_ble_eq_true rfl), (Nat.le_of_ble_eq_true rfl)⟩ dX12_takesTest_7) ?_
  refine g_if_ne hC 15 dX12_takesTest_10 (by decide) (fun c5 => ?_) (fun c5 => ?_)
  · replace h := it_f c5 h
    refine g_sub [0, 1] rfl ?_
    refine l_X12_takesTest_L15 hC hR r M'  _ _  _  _ h
  · replace h := it_t c5 h
    refine g_iconst hC 0 dX12_takesTest_13 (by decide) ?_
    exact g_zret hC (by decide) h ⟨(Nat.le_of_ble_eq_true rfl), (Nat.le_of_ble_eq_true rfl)⟩ dX12_takesTest_14

set_option maxHeartbeats 4000000 in
set_option maxRecDepth 100000 in
theorem c_X12_takesAct (l : Launch) (Γ : Gm) (this : Nat) (p1 : Int32) (M M' : Mm) (r : Int32) (h : F_X12_takesAct this p1 M = some (r, M')) : Met l yX12_takesAct (wz yX12_takesAct cX12_takesAct 6 (some .boolean)) ({ frames := 2, cells := 0, slots := 0, locals := 45 } : Room) (Pq Γ M [.ref this, .int p1]) (Qi Γ r M') 0 0 (fr Γ) := by
  refine met_of (own := RX12) (by decide +kernel) rfl (Nat.le_of_ble_eq_true rfl) ?_
  intro X hC hR hnm hXl
  unfold F_X12_takesAct at h
  show G Γ X 6 M 0 0 _ 0 ([(0, .ref this), (1, .int p1)]) []
  refine g_aload_n hC 0 dX12_takesAct_0 rfl ?_
  replace h := ob h; obtain ⟨_, eu2, h⟩ := h
  replace h := ob h; obtain ⟨⟨v3, M1⟩, eM1, h⟩ := h
  refine g_calli hC (r_V hC (As := []) (c_X12_at _ Γ this M M1 v3 eM1) yk_X12_at lk_X12_194 eu2 ⟨_, rfl, rfl⟩ rfl rfl (Nat.le_of_ble_eq_true rfl) hR ⟨(Nat.le_of_ble_eq_true rfl), (Nat.le_of_ble_eq_true rfl)⟩ ⟨(Nat.le_of_ble_eq_true rfl), (Nat.le_of_ble_eq_true rfl)⟩ dX12_takesAct_1) ?_
  refine g_istore_n hC ([(2, .int v3), (0, .ref this), (1, .int p1)]) dX12_takesAct_4 (by decide) rfl ?_
  refine g_iload_n hC 0 dX12_takesAct_5 rfl ?_
  refine g_bipush hC 115 dX12_takesAct_6 (by decide) ?_
  replace h := jp_e h; obtain ⟨k4, ek4, h⟩ := h
  have J43 : ∀  (M5 : Mm), k4  M5 = some (r, M') → G Γ X 6 M5 0 0 (Fin Γ X (Qi Γ r M') 0 0) 25 ([(0, .ref this), (1, .int p1), (2, .int v3)]) ([]) := by
    intro  M5 h
    rw [ek4] at h
    refine g_aload_n hC 0 dX12_takesAct_25 rfl ?_
    refine g_dup hC dX12_takesAct_26 rfl ?_
    replace h := ob h; obtain ⟨v6, ev6, h⟩ := h
    refine g_getI hC ev6 fk_X12_48 rfl dX12_takesAct_27 ?_
    refine g_iconst hC 1 dX12_takesAct_30 (by decide) ?_
    refine g_iadd hC dX12_takesAct_31 ?_
    replace h := ob h; obtain ⟨M7, eM7, h⟩ := h
    refine g_putI hC eM7 fk_X12_48 rfl dX12_takesAct_32 ?_
    refine g_iconst hC 0 dX12_takesAct_35 (by decide) ?_
    refine g_istore_n hC ([(3, .int 0), (0, .ref this), (1, .int p1), (2, .int v3)]) dX12_takesAct_36 (by decide) rfl ?_
    refine g_iconst hC 0 dX12_takesAct_37 (by decide) ?_
    refine g_istore hC ([(4, .int 0), (3, .int 0), (0, .ref this), (1, .int p1), (2, .int v3)]) dX12_takesAct_38 (by decide) rfl ?_
    refine g_iconst hC 0 dX12_takesAct_40 (by decide) ?_
    refine g_istore hC ([(5, .int 0), (4, .int 0), (3, .int 0), (0, .ref this), (1, .int p1), (2, .int v3)]) dX12_takesAct_41 (by decide) rfl ?_
    refine g_iload_n hC 5 dX12_takesAct_43 rfl ?_
    refine g_bipush hC 103 dX12_takesAct_44 (by decide) ?_
    replace h := jp_e h; obtain ⟨k8, ek8, h⟩ := h
    have J31 : ∀ (x9 : Int32) (x10 : Int32) (M11 : Mm), k8 x9 x10 M11 = some (r, M') → G Γ X 6 M11 0 0 (Fin Γ X (Qi Γ r M') 0 0) 84 ([(0, .ref this), (1, .int p1), (2, .int v3), (3, .int x9), (4, .int x10), (5, .int 0)]) ([]) := by
      intro x9 x10 M11 h
      rw [ek8] at h
      refine g_iload_n hC 2 dX12_takesAct_84 rfl ?_
      refine g_bipush hC 117 dX12_takesAct_85 (by decide) ?_
      replace h := jp_e h; obtain ⟨k12, ek12, h⟩ := h
      have J24 : ∀ (x13 : Int32) (M14 : Mm), k12 x13 M14 = some (r, M') → G Γ X 6 M14 0 0 (Fin Γ X (Qi Γ r M') 0 0) 107 ([(0, .ref this), (1, .int p1), (2, .int v3), (3, .int x9), (4, .int x10), (5, .int x13)]) ([]) := by
        intro x13 M14 h
        rw [ek12] at h
        refine g_aload_n hC 0 dX12_takesAct_107 rfl ?_
        replace h := ob h; obtain ⟨v15, ev15, h⟩ := h
        refine g_getI hC ev15 fk_X12_57 rfl dX12_takesAct_108 ?_
        refine g_if_eq hC 121 dX12_takesAct_111 (by decide) (fun c16 => ?_) (fun c16 => ?_)
        · replace h := it_t c16 h
          refine g_iconst hC 1 dX12_takesAct_121 (by decide) ?_
          exact g_zret hC (by decide) h ⟨(Nat.le_of_ble_eq_true rfl), (Nat.le_of_ble_eq_true rfl)⟩ dX12_takesAct_122
        · replace h := it_f c16 h
          refine g_aload_n hC 0 dX12_takesAct_114 rfl ?_
          replace h := ob h; obtain ⟨v17, ev17, h⟩ := h
          refine g_getI hC ev17 fk_X12_60 rfl dX12_takesAct_115 ?_
          refine g_if_lt hC 123 dX12_takesAct_118 (by decide) (fun c18 => ?_) (fun c18 => ?_)
          · replace h := it_t c18 h
            refine g_aload_n hC 0 dX12_takesAct_123 rfl ?_
            refine g_iload_n hC 1 dX12_takesAct_124 rfl ?_
            replace h := ob h; obtain ⟨M19, eM19, h⟩ := h
            refine g_putI hC eM19 fk_X12_60 rfl dX12_takesAct_125 ?_
            refine g_aload_n hC 0 dX12_takesAct_128 rfl ?_
            refine g_iload_n hC 2 dX12_takesAct_129 rfl ?_
            replace h := ob h; obtain ⟨M20, eM20, h⟩ := h
            refine g_putI hC eM20 fk_X12_63 rfl dX12_takesAct_130 ?_
            refine g_aload_n hC 0 dX12_takesAct_133 rfl ?_
            refine g_iload_n hC 3 dX12_takesAct_134 rfl ?_
            replace h := ob h; obtain ⟨M21, eM21, h⟩ := h
            refine g_putI hC eM21 fk_X12_66 rfl dX12_takesAct_135 ?_
            refine g_aload_n hC 0 dX12_takesAct_138 rfl ?_
            refine g_iload hC 4 dX12_takesAct_139 rfl ?_
            replace h := ob h; obtain ⟨M22, eM22, h⟩ := h
            refine g_putI hC eM22 fk_X12_69 rfl dX12_takesAct_141 ?_
            refine g_aload_n hC 0 dX12_takesAct_144 rfl ?_
            refine g_iload hC 5 dX12_takesAct_145 rfl ?_
            replace h := ob h; obtain ⟨M23, eM23, h⟩ := h
            refine g_putI hC eM23 fk_X12_72 rfl dX12_takesAct_147 ?_
            refine g_iconst hC 1 dX12_takesAct_150 (by decide) ?_
            exact g_zret hC (by decide) h ⟨(Nat.le_of_ble_eq_true rfl), (Nat.le_of_ble_eq_true rfl)⟩ dX12_takesAct_151
          · replace h := it_f c18 h
            refine g_iconst hC 1 dX12_takesAct_121 (by decide) ?_
            exact g_zret hC (by decide) h ⟨(Nat.le_of_ble_eq_true rfl), (Nat.le_of_ble_eq_true rfl)⟩ dX12_takesAct_122
      refine g_icmp_eq hC 107 dX12_takesAct_87 (by decide) (fun c25 => ?_) (fun c25 => ?_)
      · replace h := it_t c25 h
        refine g_sub [0, 1, 2, 3, 4, 5] rfl ?_
        exact J24 0 M11 h
      · replace h := it_f c25 h
        refine g_aload_n hC 0 dX12_takesAct_90 rfl ?_
        refine g_iconst hC 0 dX12_takesAct_91 (by decide) ?_
        refine g_iconst hC 3 dX12_takesAct_92 (by decide) ?_
        replace h := ob h; obtain ⟨_, eu27, h⟩ := h
        replace h := ob h; obtain ⟨⟨v28, M26⟩, eM26, h⟩ := h
        refine g_calli hC (r_V hC (As := [.int 0, .int 3]) (c_X12_takes _ Γ this 0 3 M11 M26 v28 eM26) yk_X12_takes lk_X12_204 eu27 ⟨_, rfl, rfl⟩ rfl rfl (Nat.le_of_ble_eq_true rfl) hR ⟨(Nat.le_of_ble_eq_true rfl), (Nat.le_of_ble_eq_true rfl)⟩ ⟨(Nat.le_of_ble_eq_true rfl), (Nat.le_of_ble_eq_true rfl)⟩ dX12_takesAct_93) ?_
        refine g_if_ne hC 101 dX12_takesAct_96 (by decide) (fun c29 => ?_) (fun c29 => ?_)
        · replace h := it_f c29 h
          refine g_aload_n hC 0 dX12_takesAct_101 rfl ?_
          replace h := ob h; obtain ⟨v30, ev30, h⟩ := h
          refine g_getI hC ev30 fk_X12_54 rfl dX12_takesAct_102 ?_
          refine g_istore hC ([(5, .int v30), (0, .ref this), (1, .int p1), (2, .int v3), (3, .int x9), (4, .int x10)]) dX12_takesAct_105 (by decide) rfl ?_
          refine g_sub [1, 2, 3, 4, 5, 0] rfl ?_
          exact J24 v30 M26 h
        · replace h := it_t c29 h
          refine g_iconst hC 0 dX12_takesAct_99 (by decide) ?_
          exact g_zret hC (by decide) h ⟨(Nat.le_of_ble_eq_true rfl), (Nat.le_of_ble_eq_true rfl)⟩ dX12_takesAct_100
    refine g_icmp_ne hC 84 dX12_takesAct_46 (by decide) (fun c32 => ?_) (fun c32 => ?_)
    · replace h := it_f c32 h
      refine g_sub [3, 4, 5, 2, 1, 0] rfl ?_
      exact J31 0 0 M7 h
    · replace h := it_t c32 h
      refine g_aload_n hC 3 dX12_takesAct_49 rfl ?_
      refine g_iconst hC 0 dX12_takesAct_50 (by decide) ?_
      refine g_bipush hC 9 dX12_takesAct_51 (by decide) ?_
      replace h := ob h; obtain ⟨_, eu34, h⟩ := h
      replace h := ob h; obtain ⟨⟨v35, M33⟩, eM33, h⟩ := h
      refine g_calli hC (r_V hC (As := [.int 0, .int 9]) (c_X12_takes _ Γ this 0 9 M7 M33 v35 eM33) yk_X12_takes lk_X12_204 eu34 ⟨_, rfl, rfl⟩ rfl rfl (Nat.le_of_ble_eq_true rfl) hR ⟨(Nat.le_of_ble_eq_true rfl), (Nat.le_of_ble_eq_true rfl)⟩ ⟨(Nat.le_of_ble_eq_true rfl), (Nat.le_of_ble_eq_true rfl)⟩ dX12_takesAct_53) ?_
      refine g_if_ne hC 61 dX12_takesAct_56 (by decide) (fun c36 => ?_) (fun c36 => ?_)
      · replace h := it_f c36 h
        refine g_aload_n hC 3 dX12_takesAct_61 rfl ?_
        replace h := ob h; obtain ⟨v37, ev37, h⟩ := h
        refine g_getI hC ev37 fk_X12_54 rfl dX12_takesAct_62 ?_
        refine g_istore_n hC ([(3, .int v37), (5, .int 0), (4, .int 0), (0, .ref this), (1, .int p1), (2, .int v3)]) dX12_takesAct_65 (by decide) rfl ?_
        refine g_aload_n hC 3 dX12_takesAct_66 rfl ?_
        refine g_iconst hC 0 dX12_takesAct_67 (by decide) ?_
        refine g_bipush hC 7 dX12_takesAct_68 (by decide) ?_
        replace h := ob h; obtain ⟨_, eu39, h⟩ := h
        replace h := ob h; obtain ⟨⟨v40, M38⟩, eM38, h⟩ := h
        refine g_calli hC (r_V hC (As := [.int 0, .int 7]) (c_X12_takes _ Γ this 0 7 M33 M38 v40 eM38) yk_X12_takes lk_X12_204 eu39 ⟨_, rfl, rfl⟩ rfl rfl (Nat.le_of_ble_eq_true rfl) hR ⟨(Nat.le_of_ble_eq_true rfl), (Nat.le_of_ble_eq_true rfl)⟩ ⟨(Nat.le_of_ble_eq_true rfl), (Nat.le_of_ble_eq_true rfl)⟩ dX12_takesAct_70) ?_
        refine g_if_ne hC 78 dX12_takesAct_73 (by decide) (fun c41 => ?_) (fun c41 => ?_)
        · replace h := it_f c41 h
          refine g_aload_n hC 3 dX12_takesAct_78 rfl ?_
          replace h := ob h; obtain ⟨v42, ev42, h⟩ := h
          refine g_getI hC ev42 fk_X12_54 rfl dX12_takesAct_79 ?_
          refine g_istore hC ([(4, .int v42), (3, .int v37), (5, .int 0), (0, .ref this), (1, .int p1), (2, .int v3)]) dX12_takesAct_82 (by decide) rfl ?_
          refine g_sub [3, 4, 5, 1, 0, 2] rfl ?_
          exact J31 v37 v42 M38 h
        · replace h := it_t c41 h
          refine g_iconst hC 0 dX12_takesAct_76 (by decide) ?_
          exact g_zret hC (by decide) h ⟨(Nat.le_of_ble_eq_true rfl), (Nat.le_of_ble_eq_true rfl)⟩ dX12_takesAct_77
      · replace h := it_t c36 h
        refine g_iconst hC 0 dX12_takesAct_59 (by decide) ?_
        exact g_zret hC (by decide) h ⟨(Nat.le_of_ble_eq_true rfl), (Nat.le_of_ble_eq_true rfl)⟩ dX12_takesAct_60
  refine g_icmp_eq hC 25 dX12_takesAct_8 (by decide) (fun c44 => ?_) (fun c44 => ?_)
  · replace h := it_t c44 h
    refine g_sub [1, 2, 0] rfl ?_
    exact J43  M1 h
  · replace h := it_f c44 h
    refine g_iload_n hC 0 dX12_takesAct_11 rfl ?_
    refine g_bipush hC 103 dX12_takesAct_12 (by decide) ?_
    refine g_icmp_eq hC 25 dX12_takesAct_14 (by decide) (fun c45 => ?_) (fun c45 => ?_)
    · replace h := it_t c45 h
      refine g_sub [1, 2, 0] rfl ?_
      exact J43  M1 h
    · replace h := it_f c45 h
      refine g_iload_n hC 0 dX12_takesAct_17 rfl ?_
      refine g_bipush hC 117 dX12_takesAct_18 (by decide) ?_
      refine g_icmp_eq hC 25 dX12_takesAct_20 (by decide) (fun c46 => ?_) (fun c46 => ?_)
      · replace h := it_t c46 h
        refine g_sub [1, 2, 0] rfl ?_
        exact J43  M1 h
      · replace h := it_f c46 h
        refine g_iconst hC 0 dX12_takesAct_23 (by decide) ?_
        exact g_zret hC (by decide) h ⟨(Nat.le_of_ble_eq_true rfl), (Nat.le_of_ble_eq_true rfl)⟩ dX12_takesAct_24

set_option maxHeartbeats 4000000 in
set_option maxRecDepth 100000 in
theorem l_X12_goesOrder_L77 {Γ : Gm} {X : Ct} (hC : Cx Γ X cX12_goesOrder RX12 (some .boolean) 4) (hR : X.2.2.2.1 = ({ frames := 4, cells := 0, slots := 0, locals := 93 } : Room)) (r : Int32) (M' : Mm) (k158 : Int32 → Mm → Option (Int32 × Mm)) (x0 : Nat) (x2 : Int32) (hk158 : ∀ (y3 : Int32) (M1 : Mm), k158 y3 M1 = some (r, M') → G Γ X 4 M1 0 0 (Fin Γ X (Qi Γ r M') 0 0) 158 ([(3, .int y3)]) []) : ∀ (fu : Nat) (x3 : Int32) (M0 : Mm), F_X12_goesOrder_L77 k158 x0 x2 fu x3 M0 = some (r, M') → G Γ X 4 M0 0 0 (Fin Γ X (Qi Γ r M') 0 0) 77 ([(0, .ref x0), (2, .int x2), (3, .int x3)]) [] := by
  intro fu
  induction fu with
  | zero =>
    intro x3 M0 h
    rw [F_X12_goesOrder_L77] at h
    cases h
  | succ n15 ih =>
    intro x3 M0 h
    rw [F_X12_goesOrder_L77] at h
    refine g_aload_n hC 0 dX12_goesOrder_77 rfl ?_
    replace h := ob h; obtain ⟨v16, ev16, h⟩ := h
    refine g_getI hC ev16 fk_X12_48 rfl dX12_goesOrder_78 ?_
    refine g_aload_n hC 0 dX12_goesOrder_81 rfl ?_
    replace h := ob h; obtain ⟨v17, ev17, h⟩ := h
    refine g_getI hC ev17 fk_X12_45 rfl dX12_goesOrder_82 ?_
    refine g_icmp_ge hC 158 dX12_goesOrder_85 (by decide) (fun c18 => ?_) (fun c18 => ?_)
    · replace h := it_t c18 h
      refine g_sub [2] rfl ?_
      exact hk158 x3 M0 h
    · replace h := it_f c18 h
      refine g_iload_n hC 2 dX12_goesOrder_88 rfl ?_
      refine g_bipush hC 6 dX12_goesOrder_89 (by decide) ?_
      refine g_icmp_eq hC 111 dX12_goesOrder_91 (by decide) (fun c19 => ?_) (fun c19 => ?_)
      · replace h := it_t c19 h
        refine g_iconst hC 0 dX12_goesOrder_111 (by decide) ?_
        exact g_zret hC (by decide) h ⟨(Nat.le_of_ble_eq_true rfl), (Nat.le_of_ble_eq_true rfl)⟩ dX12_goesOrder_112
      · replace h := it_f c19 h
        refine g_aload_n hC 0 dX12_goesOrder_94 rfl ?_
        refine g_iload_n hC 1 dX12_goesOrder_95 rfl ?_
        replace h := ob h; obtain ⟨_, eu21, h⟩ := h
        replace h := ob h; obtain ⟨⟨v22, M20⟩, eM20, h⟩ := h
        refine g_calli hC (r_V hC (As := [.int x2]) (c_X12_takesTest _ Γ x0 x2 M0 M20 v22 eM20) yk_X12_takesTest lk_X12_210 eu21 ⟨_, rfl, rfl⟩ rfl rfl (Nat.le_of_ble_eq_true rfl) hR ⟨(Nat.le_of_ble_eq_true rfl), (Nat.le_of_ble_eq_true rfl)⟩ ⟨(Nat.le_of_ble_eq_true rfl), (Nat.le_of_ble_eq_true rfl)⟩ dX12_goesOrder_96) ?_
        refine g_if_eq hC 111 dX12_goesOrder_99 (by decide) (fun c23 => ?_) (fun c23 => ?_)
        · replace h := it_t c23 h
          refine g_iconst hC 0 dX12_goesOrder_111 (by decide) ?_
          exact g_zret hC (by decide) h ⟨(Nat.le_of_ble_eq_true rfl), (Nat.le_of_ble_eq_true rfl)⟩ dX12_goesOrder_112
        · replace h := it_f c23 h
          refine g_aload_n hC 0 dX12_goesOrder_102 rfl ?_
          replace h := ob h; obtain ⟨_, eu25, h⟩ := h
          replace h := ob h; obtain ⟨⟨v26, M24⟩, eM24, h⟩ := h
          refine g_calli hC (r_V hC (As := []) (c_X12_at _ Γ x0 M20 M24 v26 eM24) yk_X12_at lk_X12_194 eu25 ⟨_, rfl, rfl⟩ rfl rfl (Nat.le_of_ble_eq_true rfl) hR ⟨(Nat.le_of_ble_eq_true rfl), (Nat.le_of_ble_eq_true rfl)⟩ ⟨(Nat.le_of_ble_eq_true rfl), (Nat.le_of_ble_eq_true rfl)⟩ dX12_goesOrder_103) ?_
          refine g_bipush hC 63 dX12_goesOrder_106 (by decide) ?_
          refine g_icmp_eq hC 113 dX12_goesOrder_108 (by decide) (fun c27 => ?_) (fun c27 => ?_)
          · replace h := it_t c27 h
            refine g_aload_n hC 0 dX12_goesOrder_113 rfl ?_
            refine g_dup hC dX12_goesOrder_114 rfl ?_
            replace h := ob h; obtain ⟨v28, ev28, h⟩ := h
            refine g_getI hC ev28 fk_X12_48 rfl dX12_goesOrder_115 ?_
            refine g_iconst hC 1 dX12_goesOrder_118 (by decide) ?_
            refine g_iadd hC dX12_goesOrder_119 ?_
            replace h := ob h; obtain ⟨M29, eM29, h⟩ := h
            refine g_putI hC eM29 fk_X12_48 rfl dX12_goesOrder_120 ?_
            refine g_aload_n hC 0 dX12_goesOrder_123 rfl ?_
            refine g_iload_n hC 2 dX12_goesOrder_124 rfl ?_
            replace h := ob h; obtain ⟨_, eu31, h⟩ := h
            replace h := ob h; obtain ⟨⟨v32, M30⟩, eM30, h⟩ := h
            refine g_calli hC (r_V hC (As := [.int x3]) (c_X12_takesAct _ Γ x0 x3 M29 M30 v32 eM30) yk_X12_takesAct lk_X12_213 eu31 ⟨_, rfl, rfl⟩ rfl rfl (Nat.le_of_ble_eq_true rfl) hR ⟨(Nat.le_of_ble_eq_true rfl), (Nat.le_of_ble_eq_true rfl)⟩ ⟨(Nat.le_of_ble_eq_true rfl), (Nat.le_of_ble_eq_true rfl)⟩ dX12_goesOrder_125) ?_
            refine g_if_eq hC 140 dX12_goesOrder_128 (by decide) (fun c33 => ?_) (fun c33 => ?_)
            · replace h := it_t c33 h
              refine g_iconst hC 0 dX12_goesOrder_140 (by decide) ?_
              exact g_zret hC (by decide) h ⟨(Nat.le_of_ble_eq_true rfl), (Nat.le_of_ble_eq_true rfl)⟩ dX12_goesOrder_141
            · replace h := it_f c33 h
              refine g_aload_n hC 0 dX12_goesOrder_131 rfl ?_
              replace h := ob h; obtain ⟨_, eu35, h⟩ := h
              replace h := ob h; obtain ⟨⟨v36, M34⟩, eM34, h⟩ := h
              refine g_calli hC (r_V hC (As := []) (c_X12_at _ Γ x0 M30 M34 v36 eM34) yk_X12_at lk_X12_194 eu35 ⟨_, rfl, rfl⟩ rfl rfl (Nat.le_of_ble_eq_true rfl) hR ⟨(Nat.le_of_ble_eq_true rfl), (Nat.le_of_ble_eq_true rfl)⟩ ⟨(Nat.le_of_ble_eq_true rfl), (Nat.le_of_ble_eq_true rfl)⟩ dX12_goesOrder_132) ?_
              refine g_bipush hC 59 dX12_goesOrder_135 (by decide) ?_
              refine g_icmp_eq hC 142 dX12_goesOrder_137 (by decide) (fun c37 => ?_) (fun c37 => ?_)
              · replace h := it_t c37 h
                refine g_aload_n hC 0 dX12_goesOrder_142 rfl ?_
                refine g_dup hC dX12_goesOrder_143 rfl ?_
                replace h := ob h; obtain ⟨v38, ev38, h⟩ := h
                refine g_getI hC ev38 fk_X12_48 rfl dX12_goesOrder_144 ?_
                refine g_iconst hC 1 dX12_goesOrder_147 (by decide) ?_
                refine g_iadd hC dX12_goesOrder_148 ?_
                replace h := ob h; obtain ⟨M39, eM39, h⟩ := h
                refine g_putI hC eM39 fk_X12_48 rfl dX12_goesOrder_149 ?_
                refine g_iinc hC 2 (x3 + 1) ([(3, .int (x3 + 1)), (0, .ref x0), (2, .int x2)]) dX12_goesOrder_152 rfl rfl (by decide) rfl ?_
                refine g_goto hC 77 dX12_goesOrder_155 (by decide) ?_
                refine g_sub [1, 2, 0] rfl ?_
                exact ih (x3 + 1) M39 h
              · replace h := it_f c37 h
                refine g_iconst hC 0 dX12_goesOrder_140 (by decide) ?_
                exact g_zret hC (by decide) h ⟨(Nat.le_of_ble_eq_true rfl), (Nat.le_of_ble_eq_true rfl)⟩ dX12_goesOrder_141
          · replace h := it_f c27 h
            refine g_iconst hC 0 dX12_goesOrder_111 (by decide) ?_
            exact g_zret hC (by decide) h ⟨(Nat.le_of_ble_eq_true rfl), (Nat.le_of_ble_eq_true rfl)⟩ dX12_goesOrder_112
set_option maxHeartbeats 4000000 in
set_option maxRecDepth 100000 in
theorem c_X12_goesOrder (l : Launch) (Γ : Gm) (this : Nat) (p1 : Int32) (p2 : Int32) (M M' : Mm) (r : Int32) (h : F_X12_goesOrder this p1 p2 M = some (r, M')) : Met l yX12_goesOrder (wz yX12_goesOrder cX12_goesOrder 4 (some .boolean)) ({ frames := 4, cells := 0, slots := 0, locals := 93 } : Room) (Pq Γ M [.ref this, .int p1, .int p2]) (Qi Γ r M') 0 0 (fr Γ) := by
  refine met_of (own := RX12) (by decide +kernel) rfl (Nat.le_of_ble_eq_true rfl) ?_
  intro X hC hR hnm hXl
  unfold F_X12_goesOrder at h
  show G Γ X 4 M 0 0 _ 0 ([(0, .ref this), (1, .int p1), (2, .int p2)]) []
  refine g_aload_n hC 0 dX12_goesOrder_0 rfl ?_
  refine g_iload_n hC 1 dX12_goesOrder_1 rfl ?_
  replace h := nv_e h; obtain ⟨v1, ev1, h⟩ := h
  have J2 : G Γ X 4 M 0 0 (Fin Γ X (Qi Γ r M') 0 0) 10 ([(0, .ref this), (1, .int p1), (2, .int p2)]) ([.int v1, .ref this]) := by
    replace h := ob h; obtain ⟨M3, eM3, h⟩ := h
    refine g_putZ hC eM3 fk_X12_51 rfl dX12_goesOrder_10 ?_
    refine g_aload_n hC 0 dX12_goesOrder_13 rfl ?_
    refine g_aload_n hC 0 dX12_goesOrder_14 rfl ?_
    replace h := ob h; obtain ⟨v4, ev4, h⟩ := h
    refine g_getI hC ev4 fk_X12_51 rfl dX12_goesOrder_15 ?_
    replace h := nv_e h; obtain ⟨v5, ev5, h⟩ := h
    have J6 : G Γ X 4 M3 0 0 (Fin Γ X (Qi Γ r M') 0 0) 33 ([(0, .ref this), (1, .int p1), (2, .int p2)]) ([.int v5, .ref this]) := by
      replace h := ob h; obtain ⟨M7, eM7, h⟩ := h
      refine g_putI hC eM7 fk_X12_42 rfl dX12_goesOrder_33 ?_
      refine g_aload_n hC 0 dX12_goesOrder_36 rfl ?_
      refine g_aload_n hC 0 dX12_goesOrder_37 rfl ?_
      replace h := ob h; obtain ⟨v8, ev8, h⟩ := h
      refine g_getI hC ev8 fk_X12_51 rfl dX12_goesOrder_38 ?_
      replace h := jp_e h; obtain ⟨k9, ek9, h⟩ := h
      have J43 : ∀ (s10 : Int32) (M11 : Mm), k9 s10 M11 = some (r, M') → G Γ X 4 M11 0 0 (Fin Γ X (Qi Γ r M') 0 0) 61 ([(0, .ref this), (2, .int p2)]) ([.int s10, .ref this]) := by
        intro s10 M11 h
        rw [ek9] at h
        replace h := ob h; obtain ⟨M12, eM12, h⟩ := h
        refine g_putI hC eM12 fk_X12_45 rfl dX12_goesOrder_61 ?_
        refine g_aload_n hC 0 dX12_goesOrder_64 rfl ?_
        refine g_iconst hC 0 dX12_goesOrder_65 (by decide) ?_
        replace h := ob h; obtain ⟨M13, eM13, h⟩ := h
        refine g_putI hC eM13 fk_X12_48 rfl dX12_goesOrder_66 ?_
        refine g_aload_n hC 0 dX12_goesOrder_69 rfl ?_
        refine g_bipush hC (-4) dX12_goesOrder_70 (by decide) ?_
        replace h := ob h; obtain ⟨M14, eM14, h⟩ := h
        refine g_putI hC eM14 fk_X12_60 rfl dX12_goesOrder_72 ?_
        refine g_iconst hC 0 dX12_goesOrder_75 (by decide) ?_
        refine g_istore_n hC ([(3, .int 0), (0, .ref this), (2, .int p2)]) dX12_goesOrder_76 (by decide) rfl ?_
        refine g_sub [1, 2, 0] rfl ?_
        refine l_X12_goesOrder_L77 hC hR r M' _ _ _ ?_ _ _ _ h
        intro y40 M41 h
        refine g_iload_n hC 0 dX12_goesOrder_158 rfl ?_
        refine g_if_le hC 166 dX12_goesOrder_159 (by decide) (fun c42 => ?_) (fun c42 => ?_)
        · replace h := it_t c42 h
          refine g_iconst hC 0 dX12_goesOrder_166 (by decide) ?_
          exact g_zret hC (by decide) h ⟨(Nat.le_of_ble_eq_true rfl), (Nat.le_of_ble_eq_true rfl)⟩ dX12_goesOrder_167
        · replace h := it_f c42 h
          refine g_iconst hC 1 dX12_goesOrder_162 (by decide) ?_
          refine g_goto hC 167 dX12_goesOrder_163 (by decide) ?_
          exact g_zret hC (by decide) h ⟨(Nat.le_of_ble_eq_true rfl), (Nat.le_of_ble_eq_true rfl)⟩ dX12_goesOrder_167
      refine g_if_eq hC 51 dX12_goesOrder_41 (by decide) (fun c44 => ?_) (fun c44 => ?_)
      · replace h := it_t c44 h
        refine g_aload_n hC 0 dX12_goesOrder_51 rfl ?_
        replace h := ob h; obtain ⟨v45, ev45, h⟩ := h
        refine g_getR hC ev45 fk_X12_13 rfl dX12_goesOrder_52 ?_
        refine g_sipush hC 8359 dX12_goesOrder_55 (by decide) ?_
        refine g_iload_n hC 1 dX12_goesOrder_58 rfl ?_
        refine g_iadd hC dX12_goesOrder_59 ?_
        replace h := ob h; obtain ⟨a47, ea47, h⟩ := h
        subst ea47
        replace h := ob h; obtain ⟨v46, ev46, h⟩ := h
        refine g_iald hC ev46 dX12_goesOrder_60 ?_
        refine g_sub [0, 2] rfl ?_
        exact J43 v46 M7 h
      · replace h := it_f c44 h
        refine g_aload_n hC 0 dX12_goesOrder_44 rfl ?_
        replace h := ob h; obtain ⟨v48, ev48, h⟩ := h
        refine g_getI hC ev48 fk_X12_39 rfl dX12_goesOrder_45 ?_
        refine g_goto hC 61 dX12_goesOrder_48 (by decide) ?_
        refine g_sub [0, 2] rfl ?_
        exact J43 v48 M7 h
    refine g_if_eq hC 25 dX12_goesOrder_18 (by decide) (fun c49 => ?_) (fun c49 => ?_)
    · refine g_sipush hC 7559 dX12_goesOrder_25 (by decide) ?_
      refine g_bipush hC 80 dX12_goesOrder_28 (by decide) ?_
      refine g_iload_n hC 1 dX12_goesOrder_30 rfl ?_
      refine g_imul hC dX12_goesOrder_31 ?_
      refine g_iadd hC dX12_goesOrder_32 ?_
      rw [show v5 = _ from ev5.trans (if_pos c49)] at J6
      exact J6
    · refine g_iconst hC 0 dX12_goesOrder_21 (by decide) ?_
      refine g_goto hC 33 dX12_goesOrder_22 (by decide) ?_
      rw [show v5 = _ from ev5.trans (if_neg c49)] at J6
      exact J6
  refine g_if_ge hC 9 dX12_goesOrder_2 (by decide) (fun c50 => ?_) (fun c50 => ?_)
  · refine g_iconst hC 0 dX12_goesOrder_9 (by decide) ?_
    rw [show v1 = _ from ev1.trans (if_pos c50)] at J2
    exact J2
  · refine g_iconst hC 1 dX12_goesOrder_5 (by decide) ?_
    refine g_goto hC 10 dX12_goesOrder_6 (by decide) ?_
    rw [show v1 = _ from ev1.trans (if_neg c50)] at J2
    exact J2

set_option maxHeartbeats 4000000 in
set_option maxRecDepth 100000 in
theorem c_X12_lacksText (l : Launch) (Γ : Gm) (this : Nat) (p1 : Int32) (M M' : Mm) (r : Int32) (h : F_X12_lacksText this p1 M = some (r, M')) : Met l yX12_lacksText (wz yX12_lacksText cX12_lacksText 2 (some .int)) ({ frames := 1, cells := 0, slots := 0, locals := 23 } : Room) (Pq Γ M [.ref this, .int p1]) (Qi Γ r M') 0 0 (fr Γ) := by
  refine met_of (own := RX12) (by decide +kernel) rfl (Nat.le_of_ble_eq_true rfl) ?_
  intro X hC hR hnm hXl
  unfold F_X12_lacksText at h
  show G Γ X 2 M 0 0 _ 0 ([(0, .ref this), (1, .int p1)]) []
  refine g_aload_n hC 0 dX12_lacksText_0 rfl ?_
  refine g_iload_n hC 1 dX12_lacksText_1 rfl ?_
  refine g_iconst hC 0 dX12_lacksText_2 (by decide) ?_
  refine g_bipush hC 7 dX12_lacksText_3 (by decide) ?_
  replace h := ob h; obtain ⟨_, eu2, h⟩ := h
  replace h := ob h; obtain ⟨⟨v3, M1⟩, eM1, h⟩ := h
  refine g_calli hC (r_V hC (As := [.int p1, .int 0, .int 7]) (c_X12_is _ Γ this p1 0 7 M M1 v3 eM1) yk_X12_is lk_X12_123 eu2 ⟨_, rfl, rfl⟩ rfl rfl (Nat.le_of_ble_eq_true rfl) hR ⟨(Nat.le_of_ble_eq_true rfl), (Nat.le_of_ble_eq_true rfl)⟩ ⟨(Nat.le_of_ble_eq_true rfl), (Nat.le_of_ble_eq_true rfl)⟩ dX12_lacksText_5) ?_
  refine g_if_ne hC 15 dX12_lacksText_8 (by decide) (fun c4 => ?_) (fun c4 => ?_)
  · replace h := it_f c4 h
    refine g_aload_n hC 0 dX12_lacksText_15 rfl ?_
    replace h := ob h; obtain ⟨v5, ev5, h⟩ := h
    refine g_getR hC ev5 fk_X12_96 rfl dX12_lacksText_16 ?_
    refine g_iload_n hC 1 dX12_lacksText_19 rfl ?_
    replace h := ob h; obtain ⟨a7, ea7, h⟩ := h
    subst ea7
    replace h := ob h; obtain ⟨v6, ev6, h⟩ := h
    refine g_iald hC ev6 dX12_lacksText_20 ?_
    refine g_if_ne hC 29 dX12_lacksText_21 (by decide) (fun c8 => ?_) (fun c8 => ?_)
    · replace h := it_f c8 h
      refine g_aload_n hC 0 dX12_lacksText_29 rfl ?_
      replace h := ob h; obtain ⟨v9, ev9, h⟩ := h
      refine g_getR hC ev9 fk_X12_96 rfl dX12_lacksText_30 ?_
      refine g_iload_n hC 1 dX12_lacksText_33 rfl ?_
      replace h := ob h; obtain ⟨a11, ea11, h⟩ := h
      subst ea11
      replace h := ob h; obtain ⟨v10, ev10, h⟩ := h
      refine g_iald hC ev10 dX12_lacksText_34 ?_
      refine g_iconst hC 2 dX12_lacksText_35 (by decide) ?_
      refine g_icmp_ne hC 48 dX12_lacksText_36 (by decide) (fun c12 => ?_) (fun c12 => ?_)
      · replace h := it_f c12 h
        refine g_bipush hC (-12) dX12_lacksText_48 (by decide) ?_
        refine g_goto hC 54 dX12_lacksText_50 (by decide) ?_
        exact g_iret hC h ⟨(Nat.le_of_ble_eq_true rfl), (Nat.le_of_ble_eq_true rfl)⟩ dX12_lacksText_54
      · replace h := it_t c12 h
        refine g_aload_n hC 0 dX12_lacksText_39 rfl ?_
        replace h := ob h; obtain ⟨v13, ev13, h⟩ := h
        refine g_getR hC ev13 fk_X12_111 rfl dX12_lacksText_40 ?_
        refine g_iload_n hC 1 dX12_lacksText_43 rfl ?_
        replace h := ob h; obtain ⟨a15, ea15, h⟩ := h
        subst ea15
        replace h := ob h; obtain ⟨v14, ev14, h⟩ := h
        refine g_iald hC ev14 dX12_lacksText_44 ?_
        refine g_if_eq hC 53 dX12_lacksText_45 (by decide) (fun c16 => ?_) (fun c16 => ?_)
        · replace h := it_t c16 h
          refine g_iconst hC 0 dX12_lacksText_53 (by decide) ?_
          exact g_iret hC h ⟨(Nat.le_of_ble_eq_true rfl), (Nat.le_of_ble_eq_true rfl)⟩ dX12_lacksText_54
        · replace h := it_f c16 h
          refine g_bipush hC (-12) dX12_lacksText_48 (by decide) ?_
          refine g_goto hC 54 dX12_lacksText_50 (by decide) ?_
          exact g_iret hC h ⟨(Nat.le_of_ble_eq_true rfl), (Nat.le_of_ble_eq_true rfl)⟩ dX12_lacksText_54
    · replace h := it_t c8 h
      refine g_bipush hC (-11) dX12_lacksText_24 (by decide) ?_
      refine g_goto hC 54 dX12_lacksText_26 (by decide) ?_
      exact g_iret hC h ⟨(Nat.le_of_ble_eq_true rfl), (Nat.le_of_ble_eq_true rfl)⟩ dX12_lacksText_54
  · replace h := it_t c4 h
    refine g_iconst hC (-1) dX12_lacksText_11 (by decide) ?_
    refine g_goto hC 54 dX12_lacksText_12 (by decide) ?_
    exact g_iret hC h ⟨(Nat.le_of_ble_eq_true rfl), (Nat.le_of_ble_eq_true rfl)⟩ dX12_lacksText_54

set_option maxHeartbeats 4000000 in
set_option maxRecDepth 100000 in
theorem l_X12_bring_L12 {Γ : Gm} {X : Ct} (hC : Cx Γ X cX12_bring RX12 none 3) (hR : X.2.2.2.1 = ({ frames := 0, cells := 0, slots := 0, locals := 0 } : Room)) (M' : Mm)  (x0 : Nat) (x1 : Int32) : ∀ (fu : Nat) (x2 : Int32) (M0 : Mm), F_X12_bring_L12 x0 x1 fu x2 M0 = some M' → G Γ X 3 M0 0 0 (Fin Γ X (Qv Γ M') 0 0) 12 ([(0, .ref x0), (1, .int x1), (2, .int x2)]) [] := by
  intro fu
  induction fu with
  | zero =>
    intro x2 M0 h
    rw [F_X12_bring_L12] at h
    cases h
  | succ n5 ih =>
    intro x2 M0 h
    rw [F_X12_bring_L12] at h
    refine g_iload_n hC 2 dX12_bring_12 rfl ?_
    refine g_aload_n hC 0 dX12_bring_13 rfl ?_
    replace h := ob h; obtain ⟨v6, ev6, h⟩ := h
    refine g_getR hC ev6 fk_X12_114 rfl dX12_bring_14 ?_
    refine g_iload_n hC 1 dX12_bring_17 rfl ?_
    replace h := ob h; obtain ⟨a8, ea8, h⟩ := h
    subst ea8
    replace h := ob h; obtain ⟨v7, ev7, h⟩ := h
    refine g_iald hC ev7 dX12_bring_18 ?_
    refine g_icmp_ge hC 45 dX12_bring_19 (by decide) (fun c9 => ?_) (fun c9 => ?_)
    · replace h := it_t c9 h
      exact g_vret hC h ⟨(Nat.le_of_ble_eq_true rfl), (Nat.le_of_ble_eq_true rfl)⟩ dX12_bring_45
    · replace h := it_f c9 h
      refine g_aload_n hC 0 dX12_bring_22 rfl ?_
      replace h := ob h; obtain ⟨v10, ev10, h⟩ := h
      refine g_getR hC ev10 fk_X12_36 rfl dX12_bring_23 ?_
      refine g_iload_n hC 2 dX12_bring_26 rfl ?_
      refine g_aload_n hC 0 dX12_bring_27 rfl ?_
      replace h := ob h; obtain ⟨v11, ev11, h⟩ := h
      refine g_getR hC ev11 fk_X12_117 rfl dX12_bring_28 ?_
      refine g_bipush hC 80 dX12_bring_31 (by decide) ?_
      refine g_iload_n hC 1 dX12_bring_33 rfl ?_
      refine g_imul hC dX12_bring_34 ?_
      refine g_iload_n hC 2 dX12_bring_35 rfl ?_
      refine g_iadd hC dX12_bring_36 ?_
      replace h := ob h; obtain ⟨a13, ea13, h⟩ := h
      subst ea13
      replace h := ob h; obtain ⟨v12, ev12, h⟩ := h
      refine g_iald hC ev12 dX12_bring_37 ?_
      replace h := ob h; obtain ⟨a15, ea15, h⟩ := h
      subst ea15
      replace h := ob h; obtain ⟨M14, eM14, h⟩ := h
      refine g_iast hC eM14 dX12_bring_38 ?_
      refine g_iinc hC 2 (x2 + 1) ([(2, .int (x2 + 1)), (0, .ref x0), (1, .int x1)]) dX12_bring_39 rfl rfl (by decide) rfl ?_
      refine g_goto hC 12 dX12_bring_42 (by decide) ?_
      refine g_sub [1, 2, 0] rfl ?_
      exact ih (x2 + 1) M14 h
set_option maxHeartbeats 4000000 in
set_option maxRecDepth 100000 in
theorem c_X12_bring (l : Launch) (Γ : Gm) (this : Nat) (p1 : Int32) (M M' : Mm) (h : F_X12_bring this p1 M = some M') : Met l yX12_bring (wz yX12_bring cX12_bring 3 none) ({ frames := 0, cells := 0, slots := 0, locals := 0 } : Room) (Pq Γ M [.ref this, .int p1]) (Qv Γ M') 0 0 (fr Γ) := by
  refine met_of (own := RX12) (by decide +kernel) rfl (Nat.le_of_ble_eq_true rfl) ?_
  intro X hC hR hnm hXl
  unfold F_X12_bring at h
  show G Γ X 3 M 0 0 _ 0 ([(0, .ref this), (1, .int p1)]) []
  refine g_aload_n hC 0 dX12_bring_0 rfl ?_
  refine g_aload_n hC 0 dX12_bring_1 rfl ?_
  replace h := ob h; obtain ⟨v1, ev1, h⟩ := h
  refine g_getR hC ev1 fk_X12_114 rfl dX12_bring_2 ?_
  refine g_iload_n hC 1 dX12_bring_5 rfl ?_
  replace h := ob h; obtain ⟨a3, ea3, h⟩ := h
  subst ea3
  replace h := ob h; obtain ⟨v2, ev2, h⟩ := h
  refine g_iald hC ev2 dX12_bring_6 ?_
  replace h := ob h; obtain ⟨M4, eM4, h⟩ := h
  refine g_putI hC eM4 fk_X12_39 rfl dX12_bring_7 ?_
  refine g_iconst hC 0 dX12_bring_10 (by decide) ?_
  refine g_istore_n hC ([(2, .int 0), (0, .ref this), (1, .int p1)]) dX12_bring_11 (by decide) rfl ?_
  refine g_sub [1, 2, 0] rfl ?_
  refine l_X12_bring_L12 hC hR M'  _ _  _ _ _ h

set_option maxHeartbeats 4000000 in
set_option maxRecDepth 100000 in
theorem c_X12_fault (l : Launch) (Γ : Gm) (this : Nat) (p1 : Int32) (M M' : Mm) (r : Int32) (h : F_X12_fault this p1 M = some (r, M')) : Met l yX12_fault (wz yX12_fault cX12_fault 2 (some .int)) ({ frames := 5, cells := 0, slots := 0, locals := 116 } : Room) (Pq Γ M [.ref this, .int p1]) (Qi Γ r M') 0 0 (fr Γ) := by
  refine met_of (own := RX12) (by decide +kernel) rfl (Nat.le_of_ble_eq_true rfl) ?_
  intro X hC hR hnm hXl
  unfold F_X12_fault at h
  show G Γ X 2 M 0 0 _ 0 ([(0, .ref this), (1, .int p1)]) []
  refine g_aload_n hC 0 dX12_fault_0 rfl ?_
  refine g_iload_n hC 1 dX12_fault_1 rfl ?_
  replace h := ob h; obtain ⟨_, eu2, h⟩ := h
  replace h := ob h; obtain ⟨⟨v3, M1⟩, eM1, h⟩ := h
  refine g_calli hC (r_V hC (As := [.int p1]) (c_X12_lacksText _ Γ this p1 M M1 v3 eM1) yk_X12_lacksText lk_X12_216 eu2 ⟨_, rfl, rfl⟩ rfl rfl (Nat.le_of_ble_eq_true rfl) hR ⟨(Nat.le_of_ble_eq_true rfl), (Nat.le_of_ble_eq_true rfl)⟩ ⟨(Nat.le_of_ble_eq_true rfl), (Nat.le_of_ble_eq_true rfl)⟩ dX12_fault_2) ?_
  refine g_if_eq hC 14 dX12_fault_5 (by decide) (fun c4 => ?_) (fun c4 => ?_)
  · replace h := it_t c4 h
    refine g_aload_n hC 0 dX12_fault_14 rfl ?_
    refine g_iload_n hC 1 dX12_fault_15 rfl ?_
    replace h := ob h; obtain ⟨_, eu6, h⟩ := h
    replace h := ob h; obtain ⟨M5, eM5, h⟩ := h
    refine g_callv hC (r_V hC (As := [.int p1]) (c_X12_bring _ Γ this p1 M1 M5 eM5) yk_X12_bring lk_X12_219 eu6 ⟨_, rfl, rfl⟩ rfl rfl (Nat.le_of_ble_eq_true rfl) hR ⟨(Nat.le_of_ble_eq_true rfl), (Nat.le_of_ble_eq_true rfl)⟩ ⟨(Nat.le_of_ble_eq_true rfl), (Nat.le_of_ble_eq_true rfl)⟩ dX12_fault_16) ?_
    refine g_aload_n hC 0 dX12_fault_19 rfl ?_
    refine g_iconst hC (-1) dX12_fault_20 (by decide) ?_
    refine g_iconst hC (-1) dX12_fault_21 (by decide) ?_
    replace h := ob h; obtain ⟨_, eu8, h⟩ := h
    replace h := ob h; obtain ⟨⟨v9, M7⟩, eM7, h⟩ := h
    refine g_calli hC (r_V hC (As := [.int (-1), .int (-1)]) (c_X12_goesOrder _ Γ this (-1) (-1) M5 M7 v9 eM7) yk_X12_goesOrder lk_X12_222 eu8 ⟨_, rfl, rfl⟩ rfl rfl (Nat.le_of_ble_eq_true rfl) hR ⟨(Nat.le_of_ble_eq_true rfl), (Nat.le_of_ble_eq_true rfl)⟩ ⟨(Nat.le_of_ble_eq_true rfl), (Nat.le_of_ble_eq_true rfl)⟩ dX12_fault_22) ?_
    refine g_if_eq hC 33 dX12_fault_25 (by decide) (fun c10 => ?_) (fun c10 => ?_)
    · replace h := it_t c10 h
      refine g_aload_n hC 0 dX12_fault_33 rfl ?_
      replace h := ob h; obtain ⟨v11, ev11, h⟩ := h
      refine g_getI hC ev11 fk_X12_48 rfl dX12_fault_34 ?_
      exact g_iret hC h ⟨(Nat.le_of_ble_eq_true rfl), (Nat.le_of_ble_eq_true rfl)⟩ dX12_fault_37
    · replace h := it_f c10 h
      refine g_bipush hC (-4) dX12_fault_28 (by decide) ?_
      refine g_goto hC 37 dX12_fault_30 (by decide) ?_
      exact g_iret hC h ⟨(Nat.le_of_ble_eq_true rfl), (Nat.le_of_ble_eq_true rfl)⟩ dX12_fault_37
  · replace h := it_f c4 h
    refine g_aload_n hC 0 dX12_fault_8 rfl ?_
    refine g_iload_n hC 1 dX12_fault_9 rfl ?_
    replace h := ob h; obtain ⟨_, eu13, h⟩ := h
    replace h := ob h; obtain ⟨⟨v14, M12⟩, eM12, h⟩ := h
    refine g_calli hC (r_V hC (As := [.int p1]) (c_X12_lacksText _ Γ this p1 M1 M12 v14 eM12) yk_X12_lacksText lk_X12_216 eu13 ⟨_, rfl, rfl⟩ rfl rfl (Nat.le_of_ble_eq_true rfl) hR ⟨(Nat.le_of_ble_eq_true rfl), (Nat.le_of_ble_eq_true rfl)⟩ ⟨(Nat.le_of_ble_eq_true rfl), (Nat.le_of_ble_eq_true rfl)⟩ dX12_fault_10) ?_
    exact g_iret hC h ⟨(Nat.le_of_ble_eq_true rfl), (Nat.le_of_ble_eq_true rfl)⟩ dX12_fault_13

set_option maxHeartbeats 4000000 in
set_option maxRecDepth 100000 in
theorem l_X12_order_L81 {Γ : Gm} {X : Ct} (hC : Cx Γ X cX12_order RX12 (some .int) 4) (hR : X.2.2.2.1 = ({ frames := 5, cells := 0, slots := 0, locals := 116 } : Room)) (r : Int32) (M' : Mm)  (x0 : Nat) (x2 : Int32) : ∀ (fu : Nat) (x3 : Int32) (M0 : Mm), F_X12_order_L81 x0 x2 fu x3 M0 = some (r, M') → G Γ X 4 M0 0 0 (Fin Γ X (Qi Γ r M') 0 0) 81 ([(0, .ref x0), (2, .int x2), (3, .int x3)]) [] := by
  intro fu
  induction fu with
  | zero =>
    intro x3 M0 h
    rw [F_X12_order_L81] at h
    cases h
  | succ n23 ih =>
    intro x3 M0 h
    rw [F_X12_order_L81] at h
    refine g_iload_n hC 2 dX12_order_81 rfl ?_
    refine g_aload_n hC 0 dX12_order_82 rfl ?_
    replace h := ob h; obtain ⟨v24, ev24, h⟩ := h
    refine g_getI hC ev24 fk_X12_39 rfl dX12_order_83 ?_
    refine g_icmp_ge hC 116 dX12_order_86 (by decide) (fun c25 => ?_) (fun c25 => ?_)
    · replace h := it_t c25 h
      refine g_aload_n hC 0 dX12_order_116 rfl ?_
      replace h := ob h; obtain ⟨v26, ev26, h⟩ := h
      refine g_getR hC ev26 fk_X12_13 rfl dX12_order_117 ?_
      refine g_iconst hC 4 dX12_order_120 (by decide) ?_
      refine g_dup2 hC dX12_order_121 rfl (cat_rf _) ?_
      replace h := ob h; obtain ⟨a28, ea28, h⟩ := h
      subst ea28
      replace h := ob h; obtain ⟨v27, ev27, h⟩ := h
      refine g_iald hC ev27 dX12_order_122 ?_
      refine g_iconst hC 1 dX12_order_123 (by decide) ?_
      refine g_iadd hC dX12_order_124 ?_
      replace h := ob h; obtain ⟨M29, eM29, h⟩ := h
      refine g_iast hC eM29 dX12_order_125 ?_
      refine g_iload_n hC 1 dX12_order_126 rfl ?_
      exact g_iret hC h ⟨(Nat.le_of_ble_eq_true rfl), (Nat.le_of_ble_eq_true rfl)⟩ dX12_order_127
    · replace h := it_f c25 h
      refine g_aload_n hC 0 dX12_order_89 rfl ?_
      replace h := ob h; obtain ⟨v30, ev30, h⟩ := h
      refine g_getR hC ev30 fk_X12_13 rfl dX12_order_90 ?_
      refine g_sipush hC 7559 dX12_order_93 (by decide) ?_
      refine g_bipush hC 80 dX12_order_96 (by decide) ?_
      refine g_iload_n hC 1 dX12_order_98 rfl ?_
      refine g_imul hC dX12_order_99 ?_
      refine g_iadd hC dX12_order_100 ?_
      refine g_iload_n hC 2 dX12_order_101 rfl ?_
      refine g_iadd hC dX12_order_102 ?_
      refine g_aload_n hC 0 dX12_order_103 rfl ?_
      replace h := ob h; obtain ⟨v31, ev31, h⟩ := h
      refine g_getR hC ev31 fk_X12_36 rfl dX12_order_104 ?_
      refine g_iload_n hC 2 dX12_order_107 rfl ?_
      replace h := ob h; obtain ⟨a33, ea33, h⟩ := h
      subst ea33
      replace h := ob h; obtain ⟨v32, ev32, h⟩ := h
      refine g_iald hC ev32 dX12_order_108 ?_
      replace h := ob h; obtain ⟨a35, ea35, h⟩ := h
      subst ea35
      replace h := ob h; obtain ⟨M34, eM34, h⟩ := h
      refine g_iast hC eM34 dX12_order_109 ?_
      refine g_iinc hC 2 (x3 + 1) ([(3, .int (x3 + 1)), (0, .ref x0), (2, .int x2)]) dX12_order_110 rfl rfl (by decide) rfl ?_
      refine g_goto hC 81 dX12_order_113 (by decide) ?_
      refine g_sub [1, 2, 0] rfl ?_
      exact ih (x3 + 1) M34 h
set_option maxHeartbeats 4000000 in
set_option maxRecDepth 100000 in
theorem c_X12_order (l : Launch) (Γ : Gm) (this : Nat) (p1 : Int32) (M M' : Mm) (r : Int32) (h : F_X12_order this p1 M = some (r, M')) : Met l yX12_order (wz yX12_order cX12_order 4 (some .int)) ({ frames := 5, cells := 0, slots := 0, locals := 116 } : Room) (Pq Γ M [.ref this, .int p1]) (Qi Γ r M') 0 0 (fr Γ) := by
  refine met_of (own := RX12) (by decide +kernel) rfl (Nat.le_of_ble_eq_true rfl) ?_
  intro X hC hR hnm hXl
  unfold F_X12_order at h
  show G Γ X 4 M 0 0 _ 0 ([(0, .ref this), (1, .int p1)]) []
  refine g_aload_n hC 0 dX12_order_0 rfl ?_
  refine g_iload_n hC 1 dX12_order_1 rfl ?_
  refine g_iconst hC 0 dX12_order_2 (by decide) ?_
  refine g_bipush hC 7 dX12_order_3 (by decide) ?_
  replace h := ob h; obtain ⟨_, eu2, h⟩ := h
  replace h := ob h; obtain ⟨⟨v3, M1⟩, eM1, h⟩ := h
  refine g_calli hC (r_V hC (As := [.int p1, .int 0, .int 7]) (c_X12_is _ Γ this p1 0 7 M M1 v3 eM1) yk_X12_is lk_X12_123 eu2 ⟨_, rfl, rfl⟩ rfl rfl (Nat.le_of_ble_eq_true rfl) hR ⟨(Nat.le_of_ble_eq_true rfl), (Nat.le_of_ble_eq_true rfl)⟩ ⟨(Nat.le_of_ble_eq_true rfl), (Nat.le_of_ble_eq_true rfl)⟩ dX12_order_5) ?_
  refine g_if_ne hC 13 dX12_order_8 (by decide) (fun c4 => ?_) (fun c4 => ?_)
  · replace h := it_f c4 h
    refine g_aload_n hC 0 dX12_order_13 rfl ?_
    replace h := ob h; obtain ⟨v5, ev5, h⟩ := h
    refine g_getR hC ev5 fk_X12_13 rfl dX12_order_14 ?_
    refine g_iconst hC 4 dX12_order_17 (by decide) ?_
    replace h := ob h; obtain ⟨a7, ea7, h⟩ := h
    subst ea7
    replace h := ob h; obtain ⟨v6, ev6, h⟩ := h
    refine g_iald hC ev6 dX12_order_18 ?_
    refine g_istore_n hC ([(2, .int v6), (0, .ref this), (1, .int p1)]) dX12_order_19 (by decide) rfl ?_
    refine g_iload_n hC 0 dX12_order_20 rfl ?_
    refine g_bipush hC 10 dX12_order_21 (by decide) ?_
    refine g_icmp_ne hC 29 dX12_order_23 (by decide) (fun c8 => ?_) (fun c8 => ?_)
    · replace h := it_f c8 h
      refine g_aload_n hC 1 dX12_order_29 rfl ?_
      refine g_iload_n hC 2 dX12_order_30 rfl ?_
      replace h := ob h; obtain ⟨_, eu10, h⟩ := h
      replace h := ob h; obtain ⟨⟨v11, M9⟩, eM9, h⟩ := h
      refine g_calli hC (r_V hC (As := [.int p1]) (c_X12_lacksText _ Γ this p1 M1 M9 v11 eM9) yk_X12_lacksText lk_X12_216 eu10 ⟨_, rfl, rfl⟩ rfl rfl (Nat.le_of_ble_eq_true rfl) hR ⟨(Nat.le_of_ble_eq_true rfl), (Nat.le_of_ble_eq_true rfl)⟩ ⟨(Nat.le_of_ble_eq_true rfl), (Nat.le_of_ble_eq_true rfl)⟩ dX12_order_31) ?_
      refine g_if_eq hC 43 dX12_order_34 (by decide) (fun c12 => ?_) (fun c12 => ?_)
      · replace h := it_t c12 h
        refine g_aload_n hC 1 dX12_order_43 rfl ?_
        refine g_iload_n hC 2 dX12_order_44 rfl ?_
        replace h := ob h; obtain ⟨_, eu14, h⟩ := h
        replace h := ob h; obtain ⟨M13, eM13, h⟩ := h
        refine g_callv hC (r_V hC (As := [.int p1]) (c_X12_bring _ Γ this p1 M9 M13 eM13) yk_X12_bring lk_X12_219 eu14 ⟨_, rfl, rfl⟩ rfl rfl (Nat.le_of_ble_eq_true rfl) hR ⟨(Nat.le_of_ble_eq_true rfl), (Nat.le_of_ble_eq_true rfl)⟩ ⟨(Nat.le_of_ble_eq_true rfl), (Nat.le_of_ble_eq_true rfl)⟩ dX12_order_45) ?_
        refine g_aload_n hC 1 dX12_order_48 rfl ?_
        refine g_iconst hC (-1) dX12_order_49 (by decide) ?_
        refine g_iconst hC (-1) dX12_order_50 (by decide) ?_
        replace h := ob h; obtain ⟨_, eu16, h⟩ := h
        replace h := ob h; obtain ⟨⟨v17, M15⟩, eM15, h⟩ := h
        refine g_calli hC (r_V hC (As := [.int (-1), .int (-1)]) (c_X12_goesOrder _ Γ this (-1) (-1) M13 M15 v17 eM15) yk_X12_goesOrder lk_X12_222 eu16 ⟨_, rfl, rfl⟩ rfl rfl (Nat.le_of_ble_eq_true rfl) hR ⟨(Nat.le_of_ble_eq_true rfl), (Nat.le_of_ble_eq_true rfl)⟩ ⟨(Nat.le_of_ble_eq_true rfl), (Nat.le_of_ble_eq_true rfl)⟩ dX12_order_51) ?_
        refine g_if_ne hC 65 dX12_order_54 (by decide) (fun c18 => ?_) (fun c18 => ?_)
        · replace h := it_f c18 h
          refine g_aload_n hC 1 dX12_order_65 rfl ?_
          replace h := ob h; obtain ⟨v19, ev19, h⟩ := h
          refine g_getR hC ev19 fk_X12_13 rfl dX12_order_66 ?_
          refine g_sipush hC 8359 dX12_order_69 (by decide) ?_
          refine g_iload_n hC 0 dX12_order_72 rfl ?_
          refine g_iadd hC dX12_order_73 ?_
          refine g_aload_n hC 1 dX12_order_74 rfl ?_
          replace h := ob h; obtain ⟨v20, ev20, h⟩ := h
          refine g_getI hC ev20 fk_X12_39 rfl dX12_order_75 ?_
          replace h := ob h; obtain ⟨a22, ea22, h⟩ := h
          subst ea22
          replace h := ob h; obtain ⟨M21, eM21, h⟩ := h
          refine g_iast hC eM21 dX12_order_78 ?_
          refine g_iconst hC 0 dX12_order_79 (by decide) ?_
          refine g_istore_n hC ([(3, .int 0), (2, .int v6), (0, .ref this), (1, .int p1)]) dX12_order_80 (by decide) rfl ?_
          refine g_sub [2, 1, 0] rfl ?_
          refine l_X12_order_L81 hC hR r M'  _ _  _ _ _ h
        · replace h := it_t c18 h
          refine g_bipush hC (-100) dX12_order_57 (by decide) ?_
          refine g_aload_n hC 1 dX12_order_59 rfl ?_
          replace h := ob h; obtain ⟨v36, ev36, h⟩ := h
          refine g_getI hC ev36 fk_X12_48 rfl dX12_order_60 ?_
          refine g_isub hC dX12_order_63 ?_
          exact g_iret hC h ⟨(Nat.le_of_ble_eq_true rfl), (Nat.le_of_ble_eq_true rfl)⟩ dX12_order_64
      · replace h := it_f c12 h
        refine g_aload_n hC 1 dX12_order_37 rfl ?_
        refine g_iload_n hC 2 dX12_order_38 rfl ?_
        replace h := ob h; obtain ⟨_, eu38, h⟩ := h
        replace h := ob h; obtain ⟨⟨v39, M37⟩, eM37, h⟩ := h
        refine g_calli hC (r_V hC (As := [.int p1]) (c_X12_lacksText _ Γ this p1 M9 M37 v39 eM37) yk_X12_lacksText lk_X12_216 eu38 ⟨_, rfl, rfl⟩ rfl rfl (Nat.le_of_ble_eq_true rfl) hR ⟨(Nat.le_of_ble_eq_true rfl), (Nat.le_of_ble_eq_true rfl)⟩ ⟨(Nat.le_of_ble_eq_true rfl), (Nat.le_of_ble_eq_true rfl)⟩ dX12_order_39) ?_
        exact g_iret hC h ⟨(Nat.le_of_ble_eq_true rfl), (Nat.le_of_ble_eq_true rfl)⟩ dX12_order_42
    · replace h := it_t c8 h
      refine g_bipush hC (-2) dX12_order_26 (by decide) ?_
      exact g_iret hC h ⟨(Nat.le_of_ble_eq_true rfl), (Nat.le_of_ble_eq_true rfl)⟩ dX12_order_28
  · replace h := it_t c4 h
    refine g_iconst hC (-1) dX12_order_11 (by decide) ?_
    exact g_iret hC h ⟨(Nat.le_of_ble_eq_true rfl), (Nat.le_of_ble_eq_true rfl)⟩ dX12_order_12

set_option maxHeartbeats 4000000 in
set_option maxRecDepth 100000 in
theorem c_X12_letter (l : Launch) (Γ : Gm) (this : Nat) (p1 : Int32) (p2 : Int32) (M M' : Mm) (r : Int32) (h : F_X12_letter this p1 p2 M = some (r, M')) : Met l yX12_letter (wz yX12_letter cX12_letter 4 (some .int)) ({ frames := 2, cells := 0, slots := 0, locals := 44 } : Room) (Pq Γ M [.ref this, .int p1, .int p2]) (Qi Γ r M') 0 0 (fr Γ) := by
  refine met_of (own := RX12) (by decide +kernel) rfl (Nat.le_of_ble_eq_true rfl) ?_
  intro X hC hR hnm hXl
  unfold F_X12_letter at h
  show G Γ X 4 M 0 0 _ 0 ([(0, .ref this), (1, .int p1), (2, .int p2)]) []
  refine g_aload_n hC 0 dX12_letter_0 rfl ?_
  refine g_iload_n hC 1 dX12_letter_1 rfl ?_
  replace h := ob h; obtain ⟨_, eu2, h⟩ := h
  replace h := ob h; obtain ⟨⟨v3, M1⟩, eM1, h⟩ := h
  refine g_calli hC (r_V hC (As := [.int p1]) (c_X12_isGlider _ Γ this p1 M M1 v3 eM1) yk_X12_isGlider lk_X12_142 eu2 ⟨_, rfl, rfl⟩ rfl rfl (Nat.le_of_ble_eq_true rfl) hR ⟨(Nat.le_of_ble_eq_true rfl), (Nat.le_of_ble_eq_true rfl)⟩ ⟨(Nat.le_of_ble_eq_true rfl), (Nat.le_of_ble_eq_true rfl)⟩ dX12_letter_2) ?_
  refine g_if_eq hC 25 dX12_letter_5 (by decide) (fun c4 => ?_) (fun c4 => ?_)
  · replace h := it_t c4 h
    refine g_iconst hC (-1) dX12_letter_25 (by decide) ?_
    exact g_iret hC h ⟨(Nat.le_of_ble_eq_true rfl), (Nat.le_of_ble_eq_true rfl)⟩ dX12_letter_26
  · replace h := it_f c4 h
    refine g_aload_n hC 0 dX12_letter_8 rfl ?_
    refine g_iload_n hC 2 dX12_letter_9 rfl ?_
    refine g_iconst hC 0 dX12_letter_10 (by decide) ?_
    refine g_aload_n hC 0 dX12_letter_11 rfl ?_
    replace h := ob h; obtain ⟨v5, ev5, h⟩ := h
    refine g_getR hC ev5 fk_X12_13 rfl dX12_letter_12 ?_
    refine g_iconst hC 4 dX12_letter_15 (by decide) ?_
    replace h := ob h; obtain ⟨a7, ea7, h⟩ := h
    subst ea7
    replace h := ob h; obtain ⟨v6, ev6, h⟩ := h
    refine g_iald hC ev6 dX12_letter_16 ?_
    refine g_iconst hC 1 dX12_letter_17 (by decide) ?_
    refine g_isub hC dX12_letter_18 ?_
    replace h := ob h; obtain ⟨_, eu9, h⟩ := h
    replace h := ob h; obtain ⟨⟨v10, M8⟩, eM8, h⟩ := h
    refine g_calli hC (r_V hC (As := [.int p2, .int 0, .int (v6 - 1)]) (c_X12_is _ Γ this p2 0 (v6 - 1) M1 M8 v10 eM8) yk_X12_is lk_X12_123 eu9 ⟨_, rfl, rfl⟩ rfl rfl (Nat.le_of_ble_eq_true rfl) hR ⟨(Nat.le_of_ble_eq_true rfl), (Nat.le_of_ble_eq_true rfl)⟩ ⟨(Nat.le_of_ble_eq_true rfl), (Nat.le_of_ble_eq_true rfl)⟩ dX12_letter_19) ?_
    refine g_if_ne hC 27 dX12_letter_22 (by decide) (fun c11 => ?_) (fun c11 => ?_)
    · replace h := it_f c11 h
      refine g_aload_n hC 0 dX12_letter_27 rfl ?_
      replace h := ob h; obtain ⟨v12, ev12, h⟩ := h
      refine g_getR hC ev12 fk_X12_13 rfl dX12_letter_28 ?_
      refine g_iconst hC 3 dX12_letter_31 (by decide) ?_
      replace h := ob h; obtain ⟨a14, ea14, h⟩ := h
      subst ea14
      replace h := ob h; obtain ⟨v13, ev13, h⟩ := h
      refine g_iald hC ev13 dX12_letter_32 ?_
      refine g_istore_n hC ([(3, .int v13), (0, .ref this), (1, .int p1), (2, .int p2)]) dX12_letter_33 (by decide) rfl ?_
      refine g_iload_n hC 0 dX12_letter_34 rfl ?_
      refine g_bipush hC 60 dX12_letter_35 (by decide) ?_
      refine g_icmp_ne hC 43 dX12_letter_37 (by decide) (fun c15 => ?_) (fun c15 => ?_)
      · replace h := it_f c15 h
        refine g_aload_n hC 1 dX12_letter_43 rfl ?_
        replace h := ob h; obtain ⟨v16, ev16, h⟩ := h
        refine g_getR hC ev16 fk_X12_13 rfl dX12_letter_44 ?_
        refine g_sipush hC 3710 dX12_letter_47 (by decide) ?_
        refine g_iload_n hC 0 dX12_letter_50 rfl ?_
        refine g_iadd hC dX12_letter_51 ?_
        refine g_iload_n hC 2 dX12_letter_52 rfl ?_
        replace h := ob h; obtain ⟨a18, ea18, h⟩ := h
        subst ea18
        replace h := ob h; obtain ⟨M17, eM17, h⟩ := h
        refine g_iast hC eM17 dX12_letter_53 ?_
        refine g_aload_n hC 1 dX12_letter_54 rfl ?_
        replace h := ob h; obtain ⟨v19, ev19, h⟩ := h
        refine g_getR hC ev19 fk_X12_13 rfl dX12_letter_55 ?_
        refine g_sipush hC 3770 dX12_letter_58 (by decide) ?_
        refine g_iload_n hC 0 dX12_letter_61 rfl ?_
        refine g_iadd hC dX12_letter_62 ?_
        refine g_iload_n hC 3 dX12_letter_63 rfl ?_
        replace h := ob h; obtain ⟨a21, ea21, h⟩ := h
        subst ea21
        replace h := ob h; obtain ⟨M20, eM20, h⟩ := h
        refine g_iast hC eM20 dX12_letter_64 ?_
        refine g_aload_n hC 1 dX12_letter_65 rfl ?_
        replace h := ob h; obtain ⟨v22, ev22, h⟩ := h
        refine g_getR hC ev22 fk_X12_13 rfl dX12_letter_66 ?_
        refine g_sipush hC 3830 dX12_letter_69 (by decide) ?_
        refine g_iload_n hC 0 dX12_letter_72 rfl ?_
        refine g_iadd hC dX12_letter_73 ?_
        refine g_aload_n hC 1 dX12_letter_74 rfl ?_
        replace h := ob h; obtain ⟨v23, ev23, h⟩ := h
        refine g_getR hC ev23 fk_X12_13 rfl dX12_letter_75 ?_
        refine g_iconst hC 1 dX12_letter_78 (by decide) ?_
        replace h := ob h; obtain ⟨a25, ea25, h⟩ := h
        subst ea25
        replace h := ob h; obtain ⟨v24, ev24, h⟩ := h
        refine g_iald hC ev24 dX12_letter_79 ?_
        replace h := ob h; obtain ⟨a27, ea27, h⟩ := h
        subst ea27
        replace h := ob h; obtain ⟨M26, eM26, h⟩ := h
        refine g_iast hC eM26 dX12_letter_80 ?_
        refine g_aload_n hC 1 dX12_letter_81 rfl ?_
        replace h := ob h; obtain ⟨v28, ev28, h⟩ := h
        refine g_getR hC ev28 fk_X12_13 rfl dX12_letter_82 ?_
        refine g_sipush hC 3890 dX12_letter_85 (by decide) ?_
        refine g_iload_n hC 0 dX12_letter_88 rfl ?_
        refine g_iadd hC dX12_letter_89 ?_
        refine g_iconst hC 0 dX12_letter_90 (by decide) ?_
        replace h := ob h; obtain ⟨a30, ea30, h⟩ := h
        subst ea30
        replace h := ob h; obtain ⟨M29, eM29, h⟩ := h
        refine g_iast hC eM29 dX12_letter_91 ?_
        refine g_aload_n hC 1 dX12_letter_92 rfl ?_
        replace h := ob h; obtain ⟨v31, ev31, h⟩ := h
        refine g_getR hC ev31 fk_X12_13 rfl dX12_letter_93 ?_
        refine g_iconst hC 3 dX12_letter_96 (by decide) ?_
        refine g_dup2 hC dX12_letter_97 rfl (cat_rf _) ?_
        replace h := ob h; obtain ⟨a33, ea33, h⟩ := h
        subst ea33
        replace h := ob h; obtain ⟨v32, ev32, h⟩ := h
        refine g_iald hC ev32 dX12_letter_98 ?_
        refine g_iconst hC 1 dX12_letter_99 (by decide) ?_
        refine g_iadd hC dX12_letter_100 ?_
        replace h := ob h; obtain ⟨M34, eM34, h⟩ := h
        refine g_iast hC eM34 dX12_letter_101 ?_
        refine g_aload_n hC 1 dX12_letter_102 rfl ?_
        replace h := ob h; obtain ⟨v35, ev35, h⟩ := h
        refine g_getR hC ev35 fk_X12_13 rfl dX12_letter_103 ?_
        refine g_iconst hC 3 dX12_letter_106 (by decide) ?_
        replace h := ob h; obtain ⟨a37, ea37, h⟩ := h
        subst ea37
        replace h := ob h; obtain ⟨v36, ev36, h⟩ := h
        refine g_iald hC ev36 dX12_letter_107 ?_
        exact g_iret hC h ⟨(Nat.le_of_ble_eq_true rfl), (Nat.le_of_ble_eq_true rfl)⟩ dX12_letter_108
      · replace h := it_t c15 h
        refine g_bipush hC (-2) dX12_letter_40 (by decide) ?_
        exact g_iret hC h ⟨(Nat.le_of_ble_eq_true rfl), (Nat.le_of_ble_eq_true rfl)⟩ dX12_letter_42
    · replace h := it_t c11 h
      refine g_iconst hC (-1) dX12_letter_25 (by decide) ?_
      exact g_iret hC h ⟨(Nat.le_of_ble_eq_true rfl), (Nat.le_of_ble_eq_true rfl)⟩ dX12_letter_26

set_option maxHeartbeats 4000000 in
set_option maxRecDepth 100000 in
theorem l_X12_waiting_L14 {Γ : Gm} {X : Ct} (hC : Cx Γ X cX12_waiting RX12 (some .int) 4) (hR : X.2.2.2.1 = ({ frames := 2, cells := 0, slots := 0, locals := 44 } : Room)) (r : Int32) (M' : Mm)  (x0 : Nat) (x1 : Int32) : ∀ (fu : Nat) (x2 : Int32) (x3 : Int32) (M0 : Mm), F_X12_waiting_L14 x0 x1 fu x2 x3 M0 = some (r, M') → G Γ X 4 M0 0 0 (Fin Γ X (Qi Γ r M') 0 0) 14 ([(0, .ref x0), (1, .int x1), (2, .int x2), (3, .int x3)]) [] := by
  intro fu
  induction fu with
  | zero =>
    intro x2 x3 M0 h
    rw [F_X12_waiting_L14] at h
    cases h
  | succ n5 ih =>
    intro x2 x3 M0 h
    rw [F_X12_waiting_L14] at h
    refine g_iload_n hC 3 dX12_waiting_14 rfl ?_
    refine g_aload_n hC 0 dX12_waiting_15 rfl ?_
    replace h := ob h; obtain ⟨v6, ev6, h⟩ := h
    refine g_getR hC ev6 fk_X12_13 rfl dX12_waiting_16 ?_
    refine g_iconst hC 3 dX12_waiting_19 (by decide) ?_
    replace h := ob h; obtain ⟨a8, ea8, h⟩ := h
    subst ea8
    replace h := ob h; obtain ⟨v7, ev7, h⟩ := h
    refine g_iald hC ev7 dX12_waiting_20 ?_
    refine g_icmp_ge hC 65 dX12_waiting_21 (by decide) (fun c9 => ?_) (fun c9 => ?_)
    · replace h := it_t c9 h
      refine g_iload_n hC 2 dX12_waiting_65 rfl ?_
      exact g_iret hC h ⟨(Nat.le_of_ble_eq_true rfl), (Nat.le_of_ble_eq_true rfl)⟩ dX12_waiting_66
    · replace h := it_f c9 h
      refine g_iload_n hC 2 dX12_waiting_24 rfl ?_
      refine g_aload_n hC 0 dX12_waiting_25 rfl ?_
      replace h := ob h; obtain ⟨v10, ev10, h⟩ := h
      refine g_getR hC ev10 fk_X12_13 rfl dX12_waiting_26 ?_
      refine g_sipush hC 3710 dX12_waiting_29 (by decide) ?_
      refine g_iload_n hC 3 dX12_waiting_32 rfl ?_
      refine g_iadd hC dX12_waiting_33 ?_
      replace h := ob h; obtain ⟨a12, ea12, h⟩ := h
      subst ea12
      replace h := ob h; obtain ⟨v11, ev11, h⟩ := h
      refine g_iald hC ev11 dX12_waiting_34 ?_
      refine g_iload_n hC 1 dX12_waiting_35 rfl ?_
      refine g_icmp_ne hC 56 dX12_waiting_36 (by decide) (fun c13 => ?_) (fun c13 => ?_)
      · replace h := it_f c13 h
        refine g_iconst hC 0 dX12_waiting_56 (by decide) ?_
        refine g_iadd hC dX12_waiting_57 ?_
        refine g_istore_n hC ([(2, .int (x2 + 0)), (0, .ref x0), (1, .int x1), (3, .int x3)]) dX12_waiting_58 (by decide) rfl ?_
        refine g_iinc hC 3 (x3 + 1) ([(3, .int (x3 + 1)), (2, .int (x2 + 0)), (0, .ref x0), (1, .int x1)]) dX12_waiting_59 rfl rfl (by decide) rfl ?_
        refine g_goto hC 14 dX12_waiting_62 (by decide) ?_
        refine g_sub [2, 3, 1, 0] rfl ?_
        exact ih (x2 + 0) (x3 + 1) M0 h
      · replace h := it_t c13 h
        refine g_aload_n hC 0 dX12_waiting_39 rfl ?_
        replace h := ob h; obtain ⟨v14, ev14, h⟩ := h
        refine g_getR hC ev14 fk_X12_13 rfl dX12_waiting_40 ?_
        refine g_sipush hC 3890 dX12_waiting_43 (by decide) ?_
        refine g_iload_n hC 3 dX12_waiting_46 rfl ?_
        refine g_iadd hC dX12_waiting_47 ?_
        replace h := ob h; obtain ⟨a16, ea16, h⟩ := h
        subst ea16
        replace h := ob h; obtain ⟨v15, ev15, h⟩ := h
        refine g_iald hC ev15 dX12_waiting_48 ?_
        replace h := nv_e h; obtain ⟨v17, ev17, h⟩ := h
        have J18 : G Γ X 4 M0 0 0 (Fin Γ X (Qi Γ r M') 0 0) 57 ([(0, .ref x0), (1, .int x1), (2, .int x2), (3, .int x3)]) ([.int v17, .int x2]) := by
          refine g_iadd hC dX12_waiting_57 ?_
          refine g_istore_n hC ([(2, .int (x2 + v17)), (0, .ref x0), (1, .int x1), (3, .int x3)]) dX12_waiting_58 (by decide) rfl ?_
          refine g_iinc hC 3 (x3 + 1) ([(3, .int (x3 + 1)), (2, .int (x2 + v17)), (0, .ref x0), (1, .int x1)]) dX12_waiting_59 rfl rfl (by decide) rfl ?_
          refine g_goto hC 14 dX12_waiting_62 (by decide) ?_
          refine g_sub [2, 3, 1, 0] rfl ?_
          exact ih (x2 + v17) (x3 + 1) M0 h
        refine g_if_ne hC 56 dX12_waiting_49 (by decide) (fun c19 => ?_) (fun c19 => ?_)
        · refine g_iconst hC 0 dX12_waiting_56 (by decide) ?_
          rw [show v17 = _ from ev17.trans (if_neg c19)] at J18
          exact J18
        · refine g_iconst hC 1 dX12_waiting_52 (by decide) ?_
          refine g_goto hC 57 dX12_waiting_53 (by decide) ?_
          rw [show v17 = _ from ev17.trans (if_pos c19)] at J18
          exact J18
set_option maxHeartbeats 4000000 in
set_option maxRecDepth 100000 in
theorem c_X12_waiting (l : Launch) (Γ : Gm) (this : Nat) (p1 : Int32) (M M' : Mm) (r : Int32) (h : F_X12_waiting this p1 M = some (r, M')) : Met l yX12_waiting (wz yX12_waiting cX12_waiting 4 (some .int)) ({ frames := 2, cells := 0, slots := 0, locals := 44 } : Room) (Pq Γ M [.ref this, .int p1]) (Qi Γ r M') 0 0 (fr Γ) := by
  refine met_of (own := RX12) (by decide +kernel) rfl (Nat.le_of_ble_eq_true rfl) ?_
  intro X hC hR hnm hXl
  unfold F_X12_waiting at h
  show G Γ X 4 M 0 0 _ 0 ([(0, .ref this), (1, .int p1)]) []
  refine g_aload_n hC 0 dX12_waiting_0 rfl ?_
  refine g_iload_n hC 1 dX12_waiting_1 rfl ?_
  replace h := ob h; obtain ⟨_, eu2, h⟩ := h
  replace h := ob h; obtain ⟨⟨v3, M1⟩, eM1, h⟩ := h
  refine g_calli hC (r_V hC (As := [.int p1]) (c_X12_isGlider _ Γ this p1 M M1 v3 eM1) yk_X12_isGlider lk_X12_142 eu2 ⟨_, rfl, rfl⟩ rfl rfl (Nat.le_of_ble_eq_true rfl) hR ⟨(Nat.le_of_ble_eq_true rfl), (Nat.le_of_ble_eq_true rfl)⟩ ⟨(Nat.le_of_ble_eq_true rfl), (Nat.le_of_ble_eq_true rfl)⟩ dX12_waiting_2) ?_
  refine g_if_ne hC 10 dX12_waiting_5 (by decide) (fun c4 => ?_) (fun c4 => ?_)
  · replace h := it_f c4 h
    refine g_iconst hC 0 dX12_waiting_10 (by decide) ?_
    refine g_istore_n hC ([(2, .int 0), (0, .ref this), (1, .int p1)]) dX12_waiting_11 (by decide) rfl ?_
    refine g_iconst hC 0 dX12_waiting_12 (by decide) ?_
    refine g_istore_n hC ([(3, .int 0), (2, .int 0), (0, .ref this), (1, .int p1)]) dX12_waiting_13 (by decide) rfl ?_
    refine g_sub [2, 3, 1, 0] rfl ?_
    refine l_X12_waiting_L14 hC hR r M'  _ _  _ _ _ _ h
  · replace h := it_t c4 h
    refine g_iconst hC (-1) dX12_waiting_8 (by decide) ?_
    exact g_iret hC h ⟨(Nat.le_of_ble_eq_true rfl), (Nat.le_of_ble_eq_true rfl)⟩ dX12_waiting_9

set_option maxHeartbeats 4000000 in
set_option maxRecDepth 100000 in
theorem c_X12_deaf (l : Launch) (Γ : Gm) (this : Nat) (p1 : Int32) (p2 : Int32) (M M' : Mm) (r : Int32) (h : F_X12_deaf this p1 p2 M = some (r, M')) : Met l yX12_deaf (wz yX12_deaf cX12_deaf 4 (some .int)) ({ frames := 1, cells := 0, slots := 0, locals := 23 } : Room) (Pq Γ M [.ref this, .int p1, .int p2]) (Qi Γ r M') 0 0 (fr Γ) := by
  refine met_of (own := RX12) (by decide +kernel) rfl (Nat.le_of_ble_eq_true rfl) ?_
  intro X hC hR hnm hXl
  unfold F_X12_deaf at h
  show G Γ X 4 M 0 0 _ 0 ([(0, .ref this), (1, .int p1), (2, .int p2)]) []
  refine g_aload_n hC 0 dX12_deaf_0 rfl ?_
  refine g_iload_n hC 1 dX12_deaf_1 rfl ?_
  refine g_iconst hC 0 dX12_deaf_2 (by decide) ?_
  refine g_sipush hC 400 dX12_deaf_3 (by decide) ?_
  replace h := ob h; obtain ⟨_, eu2, h⟩ := h
  replace h := ob h; obtain ⟨⟨v3, M1⟩, eM1, h⟩ := h
  refine g_calli hC (r_V hC (As := [.int p1, .int 0, .int 400]) (c_X12_is _ Γ this p1 0 400 M M1 v3 eM1) yk_X12_is lk_X12_123 eu2 ⟨_, rfl, rfl⟩ rfl rfl (Nat.le_of_ble_eq_true rfl) hR ⟨(Nat.le_of_ble_eq_true rfl), (Nat.le_of_ble_eq_true rfl)⟩ ⟨(Nat.le_of_ble_eq_true rfl), (Nat.le_of_ble_eq_true rfl)⟩ dX12_deaf_6) ?_
  refine g_if_ne hC 14 dX12_deaf_9 (by decide) (fun c4 => ?_) (fun c4 => ?_)
  · replace h := it_f c4 h
    refine g_aload_n hC 0 dX12_deaf_14 rfl ?_
    replace h := ob h; obtain ⟨v5, ev5, h⟩ := h
    refine g_getR hC ev5 fk_X12_13 rfl dX12_deaf_15 ?_
    refine g_sipush hC 3950 dX12_deaf_18 (by decide) ?_
    refine g_iload_n hC 1 dX12_deaf_21 rfl ?_
    refine g_iadd hC dX12_deaf_22 ?_
    replace h := ob h; obtain ⟨a7, ea7, h⟩ := h
    subst ea7
    replace h := ob h; obtain ⟨v6, ev6, h⟩ := h
    refine g_iald hC ev6 dX12_deaf_23 ?_
    refine g_istore_n hC ([(3, .int v6), (0, .ref this), (1, .int p1), (2, .int p2)]) dX12_deaf_24 (by decide) rfl ?_
    refine g_aload_n hC 1 dX12_deaf_25 rfl ?_
    replace h := ob h; obtain ⟨v8, ev8, h⟩ := h
    refine g_getR hC ev8 fk_X12_13 rfl dX12_deaf_26 ?_
    refine g_sipush hC 3950 dX12_deaf_29 (by decide) ?_
    refine g_iload_n hC 2 dX12_deaf_32 rfl ?_
    refine g_iadd hC dX12_deaf_33 ?_
    refine g_iload_n hC 3 dX12_deaf_34 rfl ?_
    replace h := nv_e h; obtain ⟨v9, ev9, h⟩ := h
    have J10 : G Γ X 4 M1 0 0 (Fin Γ X (Qi Γ r M') 0 0) 43 ([(3, .int v6), (0, .ref this), (1, .int p1), (2, .int p2)]) ([.int v9, .int (3950 + p1), va_rf v8]) := by
      replace h := ob h; obtain ⟨a12, ea12, h⟩ := h
      subst ea12
      replace h := ob h; obtain ⟨M11, eM11, h⟩ := h
      refine g_iast hC eM11 dX12_deaf_43 ?_
      refine g_iload_n hC 0 dX12_deaf_44 rfl ?_
      refine g_aload_n hC 1 dX12_deaf_45 rfl ?_
      replace h := ob h; obtain ⟨v13, ev13, h⟩ := h
      refine g_getR hC ev13 fk_X12_13 rfl dX12_deaf_46 ?_
      refine g_sipush hC 3950 dX12_deaf_49 (by decide) ?_
      refine g_iload_n hC 2 dX12_deaf_52 rfl ?_
      refine g_iadd hC dX12_deaf_53 ?_
      replace h := ob h; obtain ⟨a15, ea15, h⟩ := h
      subst ea15
      replace h := ob h; obtain ⟨v14, ev14, h⟩ := h
      refine g_iald hC ev14 dX12_deaf_54 ?_
      refine g_icmp_ne hC 62 dX12_deaf_55 (by decide) (fun c16 => ?_) (fun c16 => ?_)
      · replace h := it_f c16 h
        refine g_iconst hC 1 dX12_deaf_62 (by decide) ?_
        exact g_iret hC h ⟨(Nat.le_of_ble_eq_true rfl), (Nat.le_of_ble_eq_true rfl)⟩ dX12_deaf_63
      · replace h := it_t c16 h
        refine g_iconst hC 0 dX12_deaf_58 (by decide) ?_
        refine g_goto hC 63 dX12_deaf_59 (by decide) ?_
        exact g_iret hC h ⟨(Nat.le_of_ble_eq_true rfl), (Nat.le_of_ble_eq_true rfl)⟩ dX12_deaf_63
    refine g_if_eq hC 42 dX12_deaf_35 (by decide) (fun c17 => ?_) (fun c17 => ?_)
    · refine g_iconst hC 0 dX12_deaf_42 (by decide) ?_
      rw [show v9 = _ from ev9.trans (if_pos c17)] at J10
      exact J10
    · refine g_iconst hC 1 dX12_deaf_38 (by decide) ?_
      refine g_goto hC 43 dX12_deaf_39 (by decide) ?_
      rw [show v9 = _ from ev9.trans (if_neg c17)] at J10
      exact J10
  · replace h := it_t c4 h
    refine g_iconst hC (-1) dX12_deaf_12 (by decide) ?_
    exact g_iret hC h ⟨(Nat.le_of_ble_eq_true rfl), (Nat.le_of_ble_eq_true rfl)⟩ dX12_deaf_13
