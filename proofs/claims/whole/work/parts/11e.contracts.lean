set_option maxHeartbeats 4000000 in
set_option maxRecDepth 100000 in
theorem l_X12_sea_L104 {Γ : Gm} {X : Ct} (hC : Cx Γ X cX12_sea RX12 (some .int) 8) (hR : X.2.2.2.1 = ({ frames := 2, cells := 0, slots := 0, locals := 45 } : Room)) (r : Int32) (M' : Mm) (k199 : Mm → Option (Int32 × Mm)) (x0 : Nat) (x1 : Int32) (x2 : Int32) (x3 : Int32) (x4 : Int32) (hk199 : ∀  (M1 : Mm), k199  M1 = some (r, M') → G Γ X 8 M1 0 0 (Fin Γ X (Qi Γ r M') 0 0) 199 ([(0, .ref x0), (1, .int x1), (2, .int x2), (3, .int x3), (4, .int x4)]) []) : ∀ (fu : Nat) (x5 : Int32) (M0 : Mm), F_X12_sea_L104 k199 x0 x1 x2 x3 x4 fu x5 M0 = some (r, M') → G Γ X 8 M0 0 0 (Fin Γ X (Qi Γ r M') 0 0) 104 ([(0, .ref x0), (1, .int x1), (2, .int x2), (3, .int x3), (4, .int x4), (5, .int x5)]) [] := by
  intro fu
  induction fu with
  | zero =>
    intro x5 M0 h
    rw [F_X12_sea_L104] at h
    cases h
  | succ n31 ih =>
    intro x5 M0 h
    rw [F_X12_sea_L104] at h
    refine g_iload hC 5 dX12_sea_104 rfl ?_
    refine g_aload_n hC 0 dX12_sea_106 rfl ?_
    replace h := ob h; obtain ⟨v32, ev32, h⟩ := h
    refine g_getR hC ev32 fk_X12_13 rfl dX12_sea_107 ?_
    refine g_iconst hC 0 dX12_sea_110 (by decide) ?_
    replace h := ob h; obtain ⟨a34, ea34, h⟩ := h
    subst ea34
    replace h := ob h; obtain ⟨v33, ev33, h⟩ := h
    refine g_iald hC ev33 dX12_sea_111 ?_
    refine g_icmp_ge hC 199 dX12_sea_112 (by decide) (fun c35 => ?_) (fun c35 => ?_)
    · replace h := it_t c35 h
      refine g_sub [0, 1, 2, 3, 4] rfl ?_
      exact hk199  M0 h
    · replace h := it_f c35 h
      refine g_iload_n hC 3 dX12_sea_115 rfl ?_
      refine g_if_ne hC 193 dX12_sea_116 (by decide) (fun c36 => ?_) (fun c36 => ?_)
      · replace h := it_f c36 h
        refine g_iinc hC 5 (x5 + 1) ([(5, .int (x5 + 1)), (0, .ref x0), (1, .int x1), (2, .int x2), (3, .int x3), (4, .int x4)]) dX12_sea_193 rfl rfl (by decide) rfl ?_
        refine g_goto hC 104 dX12_sea_196 (by decide) ?_
        refine g_sub [1, 2, 3, 4, 5, 0] rfl ?_
        exact ih (x5 + 1) M0 h
      · replace h := it_t c36 h
        refine g_iload hC 4 dX12_sea_119 rfl ?_
        refine g_if_ne hC 193 dX12_sea_121 (by decide) (fun c37 => ?_) (fun c37 => ?_)
        · replace h := it_f c37 h
          refine g_iinc hC 5 (x5 + 1) ([(5, .int (x5 + 1)), (0, .ref x0), (1, .int x1), (2, .int x2), (3, .int x3), (4, .int x4)]) dX12_sea_193 rfl rfl (by decide) rfl ?_
          refine g_goto hC 104 dX12_sea_196 (by decide) ?_
          refine g_sub [1, 2, 3, 4, 5, 0] rfl ?_
          exact ih (x5 + 1) M0 h
        · replace h := it_t c37 h
          refine g_aload_n hC 0 dX12_sea_124 rfl ?_
          replace h := ob h; obtain ⟨v38, ev38, h⟩ := h
          refine g_getR hC ev38 fk_X12_13 rfl dX12_sea_125 ?_
          refine g_sipush hC 2202 dX12_sea_128 (by decide) ?_
          refine g_iload hC 5 dX12_sea_131 rfl ?_
          refine g_iadd hC dX12_sea_133 ?_
          replace h := ob h; obtain ⟨a40, ea40, h⟩ := h
          subst ea40
          replace h := ob h; obtain ⟨v39, ev39, h⟩ := h
          refine g_iald hC ev39 dX12_sea_134 ?_
          refine g_if_ne hC 193 dX12_sea_135 (by decide) (fun c41 => ?_) (fun c41 => ?_)
          · replace h := it_f c41 h
            refine g_iinc hC 5 (x5 + 1) ([(5, .int (x5 + 1)), (0, .ref x0), (1, .int x1), (2, .int x2), (3, .int x3), (4, .int x4)]) dX12_sea_193 rfl rfl (by decide) rfl ?_
            refine g_goto hC 104 dX12_sea_196 (by decide) ?_
            refine g_sub [1, 2, 3, 4, 5, 0] rfl ?_
            exact ih (x5 + 1) M0 h
          · replace h := it_t c41 h
            refine g_aload_n hC 0 dX12_sea_138 rfl ?_
            refine g_aload_n hC 0 dX12_sea_139 rfl ?_
            replace h := ob h; obtain ⟨v42, ev42, h⟩ := h
            refine g_getR hC ev42 fk_X12_13 rfl dX12_sea_140 ?_
            refine g_sipush hC 2178 dX12_sea_143 (by decide) ?_
            refine g_iload hC 5 dX12_sea_146 rfl ?_
            refine g_iadd hC dX12_sea_148 ?_
            replace h := ob h; obtain ⟨a44, ea44, h⟩ := h
            subst ea44
            replace h := ob h; obtain ⟨v43, ev43, h⟩ := h
            refine g_iald hC ev43 dX12_sea_149 ?_
            refine g_iload_n hC 1 dX12_sea_150 rfl ?_
            refine g_bipush hC 10 dX12_sea_151 (by decide) ?_
            replace h := ob h; obtain ⟨v45, ev45, h⟩ := h
            refine g_idiv hC ev45 dX12_sea_153 ?_
            refine g_iload_n hC 1 dX12_sea_154 rfl ?_
            refine g_bipush hC 10 dX12_sea_155 (by decide) ?_
            replace h := ob h; obtain ⟨v46, ev46, h⟩ := h
            refine g_irem hC ev46 dX12_sea_157 ?_
            replace h := ob h; obtain ⟨_, eu48, h⟩ := h
            replace h := ob h; obtain ⟨⟨v49, M47⟩, eM47, h⟩ := h
            refine g_calli hC (r_V hC (As := [.int v43, .int v45, .int v46]) (c_X12_is _ Γ x0 v43 v45 v46 M0 M47 v49 eM47) yk_X12_is lk_X12_123 eu48 ⟨_, rfl, rfl⟩ rfl rfl (Nat.le_of_ble_eq_true rfl) hR ⟨(Nat.le_of_ble_eq_true rfl), (Nat.le_of_ble_eq_true rfl)⟩ ⟨(Nat.le_of_ble_eq_true rfl), (Nat.le_of_ble_eq_true rfl)⟩ dX12_sea_158) ?_
            refine g_if_eq hC 193 dX12_sea_161 (by decide) (fun c50 => ?_) (fun c50 => ?_)
            · replace h := it_t c50 h
              refine g_iinc hC 5 (x5 + 1) ([(5, .int (x5 + 1)), (0, .ref x0), (1, .int x1), (2, .int x2), (3, .int x3), (4, .int x4)]) dX12_sea_193 rfl rfl (by decide) rfl ?_
              refine g_goto hC 104 dX12_sea_196 (by decide) ?_
              refine g_sub [1, 2, 3, 4, 5, 0] rfl ?_
              exact ih (x5 + 1) M47 h
            · replace h := it_f c50 h
              refine g_aload_n hC 0 dX12_sea_164 rfl ?_
              refine g_aload_n hC 0 dX12_sea_165 rfl ?_
              replace h := ob h; obtain ⟨v51, ev51, h⟩ := h
              refine g_getR hC ev51 fk_X12_13 rfl dX12_sea_166 ?_
              refine g_sipush hC 2186 dX12_sea_169 (by decide) ?_
              refine g_iload hC 5 dX12_sea_172 rfl ?_
              refine g_iadd hC dX12_sea_174 ?_
              replace h := ob h; obtain ⟨a53, ea53, h⟩ := h
              subst ea53
              replace h := ob h; obtain ⟨v52, ev52, h⟩ := h
              refine g_iald hC ev52 dX12_sea_175 ?_
              refine g_iload_n hC 2 dX12_sea_176 rfl ?_
              refine g_bipush hC 10 dX12_sea_177 (by decide) ?_
              replace h := ob h; obtain ⟨v54, ev54, h⟩ := h
              refine g_idiv hC ev54 dX12_sea_179 ?_
              refine g_iload_n hC 2 dX12_sea_180 rfl ?_
              refine g_bipush hC 10 dX12_sea_181 (by decide) ?_
              replace h := ob h; obtain ⟨v55, ev55, h⟩ := h
              refine g_irem hC ev55 dX12_sea_183 ?_
              replace h := ob h; obtain ⟨_, eu57, h⟩ := h
              replace h := ob h; obtain ⟨⟨v58, M56⟩, eM56, h⟩ := h
              refine g_calli hC (r_V hC (As := [.int v52, .int v54, .int v55]) (c_X12_is _ Γ x0 v52 v54 v55 M47 M56 v58 eM56) yk_X12_is lk_X12_123 eu57 ⟨_, rfl, rfl⟩ rfl rfl (Nat.le_of_ble_eq_true rfl) hR ⟨(Nat.le_of_ble_eq_true rfl), (Nat.le_of_ble_eq_true rfl)⟩ ⟨(Nat.le_of_ble_eq_true rfl), (Nat.le_of_ble_eq_true rfl)⟩ dX12_sea_184) ?_
              refine g_if_eq hC 193 dX12_sea_187 (by decide) (fun c59 => ?_) (fun c59 => ?_)
              · replace h := it_t c59 h
                refine g_iinc hC 5 (x5 + 1) ([(5, .int (x5 + 1)), (0, .ref x0), (1, .int x1), (2, .int x2), (3, .int x3), (4, .int x4)]) dX12_sea_193 rfl rfl (by decide) rfl ?_
                refine g_goto hC 104 dX12_sea_196 (by decide) ?_
                refine g_sub [1, 2, 3, 4, 5, 0] rfl ?_
                exact ih (x5 + 1) M56 h
              · replace h := it_f c59 h
                refine g_bipush hC (-3) dX12_sea_190 (by decide) ?_
                exact g_iret hC h ⟨(Nat.le_of_ble_eq_true rfl), (Nat.le_of_ble_eq_true rfl)⟩ dX12_sea_192
set_option maxHeartbeats 4000000 in
set_option maxRecDepth 100000 in
theorem l_X12_sea_L205 {Γ : Gm} {X : Ct} (hC : Cx Γ X cX12_sea RX12 (some .int) 8) (hR : X.2.2.2.1 = ({ frames := 2, cells := 0, slots := 0, locals := 45 } : Room)) (r : Int32) (M' : Mm)  (x0 : Nat) (x1 : Int32) (x2 : Int32) (x3 : Int32) (x4 : Int32) : ∀ (fu : Nat) (x5 : Int32) (x6 : Int32) (M0 : Mm), F_X12_sea_L205 x0 x1 x2 x3 x4 fu x5 x6 M0 = some (r, M') → G Γ X 8 M0 0 0 (Fin Γ X (Qi Γ r M') 0 0) 205 ([(0, .ref x0), (1, .int x1), (2, .int x2), (3, .int x3), (4, .int x4), (5, .int x5), (6, .int x6)]) [] := by
  intro fu
  induction fu with
  | zero =>
    intro x5 x6 M0 h
    rw [F_X12_sea_L205] at h
    cases h
  | succ n61 ih =>
    intro x5 x6 M0 h
    rw [F_X12_sea_L205] at h
    refine g_iload hC 6 dX12_sea_205 rfl ?_
    refine g_bipush hC 80 dX12_sea_207 (by decide) ?_
    refine g_icmp_ge hC 362 dX12_sea_209 (by decide) (fun c62 => ?_) (fun c62 => ?_)
    · replace h := it_t c62 h
      refine g_iload hC 5 dX12_sea_362 rfl ?_
      exact g_iret hC h ⟨(Nat.le_of_ble_eq_true rfl), (Nat.le_of_ble_eq_true rfl)⟩ dX12_sea_364
    · replace h := it_f c62 h
      refine g_aload_n hC 0 dX12_sea_212 rfl ?_
      refine g_iload hC 6 dX12_sea_213 rfl ?_
      refine g_bipush hC 8 dX12_sea_215 (by decide) ?_
      replace h := ob h; obtain ⟨v63, ev63, h⟩ := h
      refine g_idiv hC ev63 dX12_sea_217 ?_
      refine g_iload_n hC 1 dX12_sea_218 rfl ?_
      refine g_bipush hC 10 dX12_sea_219 (by decide) ?_
      replace h := ob h; obtain ⟨v64, ev64, h⟩ := h
      refine g_idiv hC ev64 dX12_sea_221 ?_
      refine g_iload_n hC 1 dX12_sea_222 rfl ?_
      refine g_bipush hC 10 dX12_sea_223 (by decide) ?_
      replace h := ob h; obtain ⟨v65, ev65, h⟩ := h
      refine g_irem hC ev65 dX12_sea_225 ?_
      replace h := ob h; obtain ⟨_, eu67, h⟩ := h
      replace h := ob h; obtain ⟨⟨v68, M66⟩, eM66, h⟩ := h
      refine g_calli hC (r_V hC (As := [.int v63, .int v64, .int v65]) (c_X12_is _ Γ x0 v63 v64 v65 M0 M66 v68 eM66) yk_X12_is lk_X12_123 eu67 ⟨_, rfl, rfl⟩ rfl rfl (Nat.le_of_ble_eq_true rfl) hR ⟨(Nat.le_of_ble_eq_true rfl), (Nat.le_of_ble_eq_true rfl)⟩ ⟨(Nat.le_of_ble_eq_true rfl), (Nat.le_of_ble_eq_true rfl)⟩ dX12_sea_226) ?_
      refine g_if_eq hC 356 dX12_sea_229 (by decide) (fun c69 => ?_) (fun c69 => ?_)
      · replace h := it_t c69 h
        refine g_iinc hC 6 (x6 + 1) ([(6, .int (x6 + 1)), (0, .ref x0), (1, .int x1), (2, .int x2), (3, .int x3), (4, .int x4), (5, .int x5)]) dX12_sea_356 rfl rfl (by decide) rfl ?_
        refine g_goto hC 205 dX12_sea_359 (by decide) ?_
        refine g_sub [1, 2, 3, 4, 5, 6, 0] rfl ?_
        exact ih x5 (x6 + 1) M66 h
      · replace h := it_f c69 h
        refine g_aload_n hC 0 dX12_sea_232 rfl ?_
        refine g_iload hC 6 dX12_sea_233 rfl ?_
        refine g_bipush hC 8 dX12_sea_235 (by decide) ?_
        replace h := ob h; obtain ⟨v70, ev70, h⟩ := h
        refine g_irem hC ev70 dX12_sea_237 ?_
        refine g_iload_n hC 2 dX12_sea_238 rfl ?_
        refine g_bipush hC 10 dX12_sea_239 (by decide) ?_
        replace h := ob h; obtain ⟨v71, ev71, h⟩ := h
        refine g_idiv hC ev71 dX12_sea_241 ?_
        refine g_iload_n hC 2 dX12_sea_242 rfl ?_
        refine g_bipush hC 10 dX12_sea_243 (by decide) ?_
        replace h := ob h; obtain ⟨v72, ev72, h⟩ := h
        refine g_irem hC ev72 dX12_sea_245 ?_
        replace h := ob h; obtain ⟨_, eu74, h⟩ := h
        replace h := ob h; obtain ⟨⟨v75, M73⟩, eM73, h⟩ := h
        refine g_calli hC (r_V hC (As := [.int v70, .int v71, .int v72]) (c_X12_is _ Γ x0 v70 v71 v72 M66 M73 v75 eM73) yk_X12_is lk_X12_123 eu74 ⟨_, rfl, rfl⟩ rfl rfl (Nat.le_of_ble_eq_true rfl) hR ⟨(Nat.le_of_ble_eq_true rfl), (Nat.le_of_ble_eq_true rfl)⟩ ⟨(Nat.le_of_ble_eq_true rfl), (Nat.le_of_ble_eq_true rfl)⟩ dX12_sea_246) ?_
        refine g_if_eq hC 356 dX12_sea_249 (by decide) (fun c76 => ?_) (fun c76 => ?_)
        · replace h := it_t c76 h
          refine g_iinc hC 6 (x6 + 1) ([(6, .int (x6 + 1)), (0, .ref x0), (1, .int x1), (2, .int x2), (3, .int x3), (4, .int x4), (5, .int x5)]) dX12_sea_356 rfl rfl (by decide) rfl ?_
          refine g_goto hC 205 dX12_sea_359 (by decide) ?_
          refine g_sub [1, 2, 3, 4, 5, 6, 0] rfl ?_
          exact ih x5 (x6 + 1) M73 h
        · replace h := it_f c76 h
          refine g_iload_n hC 3 dX12_sea_252 rfl ?_
          refine g_iconst hC 2 dX12_sea_253 (by decide) ?_
          refine g_icmp_ne hC 273 dX12_sea_254 (by decide) (fun c77 => ?_) (fun c77 => ?_)
          · replace h := it_f c77 h
            refine g_iload_n hC 3 dX12_sea_273 rfl ?_
            replace h := nv_e h; obtain ⟨v78, ev78, h⟩ := h
            have J79 : G Γ X 8 M73 0 0 (Fin Γ X (Qi Γ r M') 0 0) 295 ([(0, .ref x0), (1, .int x1), (2, .int x2), (3, .int x3), (4, .int x4), (5, .int x5), (6, .int x6)]) ([.int v78]) := by
              refine g_iload hC 6 dX12_sea_295 rfl ?_
              refine g_iadd hC dX12_sea_297 ?_
              refine g_istore hC ([(7, .int (v78 + x6)), (0, .ref x0), (1, .int x1), (2, .int x2), (3, .int x3), (4, .int x4), (5, .int x5), (6, .int x6)]) dX12_sea_298 (by decide) rfl ?_
              refine g_iload hC 6 dX12_sea_300 rfl ?_
              refine g_aload_n hC 1 dX12_sea_302 rfl ?_
              replace h := ob h; obtain ⟨v80, ev80, h⟩ := h
              refine g_getR hC ev80 fk_X12_13 rfl dX12_sea_303 ?_
              refine g_iload hC 0 dX12_sea_306 rfl ?_
              replace h := ob h; obtain ⟨a82, ea82, h⟩ := h
              subst ea82
              replace h := ob h; obtain ⟨v81, ev81, h⟩ := h
              refine g_iald hC ev81 dX12_sea_308 ?_
              refine g_iload hC 5 dX12_sea_309 rfl ?_
              replace h := nv_e h; obtain ⟨v83, ev83, h⟩ := h
              have J84 : G Γ X 8 M73 0 0 (Fin Γ X (Qi Γ r M') 0 0) 319 ([(7, .int (v78 + x6)), (0, .ref x0), (1, .int x1), (2, .int x2), (3, .int x3), (4, .int x4), (5, .int x5), (6, .int x6)]) ([.int v83, .int x5]) := by
                refine g_iadd hC dX12_sea_319 ?_
                refine g_istore hC ([(5, .int (x5 + v83)), (7, .int (v78 + x6)), (0, .ref x0), (1, .int x1), (2, .int x2), (3, .int x3), (4, .int x4), (6, .int x6)]) dX12_sea_320 (by decide) rfl ?_
                refine g_aload_n hC 2 dX12_sea_322 rfl ?_
                replace h := ob h; obtain ⟨v85, ev85, h⟩ := h
                refine g_getR hC ev85 fk_X12_13 rfl dX12_sea_323 ?_
                refine g_iload hC 1 dX12_sea_326 rfl ?_
                refine g_iload hC 6 dX12_sea_328 rfl ?_
                replace h := ob h; obtain ⟨a87, ea87, h⟩ := h
                subst ea87
                replace h := ob h; obtain ⟨M86, eM86, h⟩ := h
                refine g_iast hC eM86 dX12_sea_330 ?_
                refine g_aload_n hC 2 dX12_sea_331 rfl ?_
                replace h := ob h; obtain ⟨v88, ev88, h⟩ := h
                refine g_getR hC ev88 fk_X12_13 rfl dX12_sea_332 ?_
                refine g_bipush hC 10 dX12_sea_335 (by decide) ?_
                refine g_iload hC 7 dX12_sea_337 rfl ?_
                refine g_iadd hC dX12_sea_339 ?_
                replace h := ob h; obtain ⟨a90, ea90, h⟩ := h
                subst ea90
                replace h := ob h; obtain ⟨v89, ev89, h⟩ := h
                refine g_iald hC ev89 dX12_sea_340 ?_
                refine g_if_ne hC 356 dX12_sea_341 (by decide) (fun c91 => ?_) (fun c91 => ?_)
                · replace h := it_f c91 h
                  refine g_iinc hC 7 (x6 + 1) ([(6, .int (x6 + 1)), (5, .int (x5 + v83)), (7, .int (v78 + x6)), (0, .ref x0), (1, .int x1), (2, .int x2), (3, .int x3), (4, .int x4)]) dX12_sea_356 rfl rfl (by decide) rfl ?_
                  refine g_goto hC 205 dX12_sea_359 (by decide) ?_
                  refine g_sub [3, 4, 5, 6, 7, 1, 0] rfl ?_
                  exact ih (x5 + v83) (x6 + 1) M86 h
                · replace h := it_t c91 h
                  refine g_aload_n hC 2 dX12_sea_344 rfl ?_
                  replace h := ob h; obtain ⟨v92, ev92, h⟩ := h
                  refine g_getR hC ev92 fk_X12_13 rfl dX12_sea_345 ?_
                  refine g_sipush hC 170 dX12_sea_348 (by decide) ?_
                  refine g_iload hC 7 dX12_sea_351 rfl ?_
                  refine g_iadd hC dX12_sea_353 ?_
                  refine g_iconst hC 0 dX12_sea_354 (by decide) ?_
                  replace h := ob h; obtain ⟨a94, ea94, h⟩ := h
                  subst ea94
                  replace h := ob h; obtain ⟨M93, eM93, h⟩ := h
                  refine g_iast hC eM93 dX12_sea_355 ?_
                  refine g_iinc hC 7 (x6 + 1) ([(6, .int (x6 + 1)), (5, .int (x5 + v83)), (7, .int (v78 + x6)), (0, .ref x0), (1, .int x1), (2, .int x2), (3, .int x3), (4, .int x4)]) dX12_sea_356 rfl rfl (by decide) rfl ?_
                  refine g_goto hC 205 dX12_sea_359 (by decide) ?_
                  refine g_sub [3, 4, 5, 6, 7, 1, 0] rfl ?_
                  exact ih (x5 + v83) (x6 + 1) M93 h
              refine g_icmp_ne hC 318 dX12_sea_311 (by decide) (fun c95 => ?_) (fun c95 => ?_)
              · refine g_iconst hC 1 dX12_sea_318 (by decide) ?_
                rw [show v83 = _ from ev83.trans (if_neg c95)] at J84
                exact J84
              · refine g_iconst hC 0 dX12_sea_314 (by decide) ?_
                refine g_goto hC 319 dX12_sea_315 (by decide) ?_
                rw [show v83 = _ from ev83.trans (if_pos c95)] at J84
                exact J84
            refine g_if_ne hC 282 dX12_sea_274 (by decide) (fun c96 => ?_) (fun c96 => ?_)
            · refine g_iload_n hC 3 dX12_sea_282 rfl ?_
              refine g_iconst hC 1 dX12_sea_283 (by decide) ?_
              refine g_icmp_ne hC 292 dX12_sea_284 (by decide) (fun c97 => ?_) (fun c97 => ?_)
              · refine g_sipush hC 170 dX12_sea_292 (by decide) ?_
                rw [show v78 = _ from ev78.trans ((if_neg c96).trans (if_neg c97))] at J79
                exact J79
              · refine g_bipush hC 90 dX12_sea_287 (by decide) ?_
                refine g_goto hC 295 dX12_sea_289 (by decide) ?_
                rw [show v78 = _ from ev78.trans ((if_neg c96).trans (if_pos c97))] at J79
                exact J79
            · refine g_bipush hC 10 dX12_sea_277 (by decide) ?_
              refine g_goto hC 295 dX12_sea_279 (by decide) ?_
              rw [show v78 = _ from ev78.trans (if_pos c96)] at J79
              exact J79
          · replace h := it_t c77 h
            refine g_aload_n hC 0 dX12_sea_257 rfl ?_
            replace h := ob h; obtain ⟨v98, ev98, h⟩ := h
            refine g_getR hC ev98 fk_X12_13 rfl dX12_sea_258 ?_
            refine g_bipush hC 10 dX12_sea_261 (by decide) ?_
            refine g_iload hC 6 dX12_sea_263 rfl ?_
            refine g_iadd hC dX12_sea_265 ?_
            replace h := ob h; obtain ⟨a100, ea100, h⟩ := h
            subst ea100
            replace h := ob h; obtain ⟨v99, ev99, h⟩ := h
            refine g_iald hC ev99 dX12_sea_266 ?_
            refine g_if_ne hC 273 dX12_sea_267 (by decide) (fun c101 => ?_) (fun c101 => ?_)
            · replace h := it_f c101 h
              refine g_iload_n hC 3 dX12_sea_273 rfl ?_
              replace h := nv_e h; obtain ⟨v102, ev102, h⟩ := h
              have J103 : G Γ X 8 M73 0 0 (Fin Γ X (Qi Γ r M') 0 0) 295 ([(0, .ref x0), (1, .int x1), (2, .int x2), (3, .int x3), (4, .int x4), (5, .int x5), (6, .int x6)]) ([.int v102]) := by
                refine g_iload hC 6 dX12_sea_295 rfl ?_
                refine g_iadd hC dX12_sea_297 ?_
                refine g_istore hC ([(7, .int (v102 + x6)), (0, .ref x0), (1, .int x1), (2, .int x2), (3, .int x3), (4, .int x4), (5, .int x5), (6, .int x6)]) dX12_sea_298 (by decide) rfl ?_
                refine g_iload hC 6 dX12_sea_300 rfl ?_
                refine g_aload_n hC 1 dX12_sea_302 rfl ?_
                replace h := ob h; obtain ⟨v104, ev104, h⟩ := h
                refine g_getR hC ev104 fk_X12_13 rfl dX12_sea_303 ?_
                refine g_iload hC 0 dX12_sea_306 rfl ?_
                replace h := ob h; obtain ⟨a106, ea106, h⟩ := h
                subst ea106
                replace h := ob h; obtain ⟨v105, ev105, h⟩ := h
                refine g_iald hC ev105 dX12_sea_308 ?_
                refine g_iload hC 5 dX12_sea_309 rfl ?_
                replace h := nv_e h; obtain ⟨v107, ev107, h⟩ := h
                have J108 : G Γ X 8 M73 0 0 (Fin Γ X (Qi Γ r M') 0 0) 319 ([(7, .int (v102 + x6)), (0, .ref x0), (1, .int x1), (2, .int x2), (3, .int x3), (4, .int x4), (5, .int x5), (6, .int x6)]) ([.int v107, .int x5]) := by
                  refine g_iadd hC dX12_sea_319 ?_
                  refine g_istore hC ([(5, .int (x5 + v107)), (7, .int (v102 + x6)), (0, .ref x0), (1, .int x1), (2, .int x2), (3, .int x3), (4, .int x4), (6, .int x6)]) dX12_sea_320 (by decide) rfl ?_
                  refine g_aload_n hC 2 dX12_sea_322 rfl ?_
                  replace h := ob h; obtain ⟨v109, ev109, h⟩ := h
                  refine g_getR hC ev109 fk_X12_13 rfl dX12_sea_323 ?_
                  refine g_iload hC 1 dX12_sea_326 rfl ?_
                  refine g_iload hC 6 dX12_sea_328 rfl ?_
                  replace h := ob h; obtain ⟨a111, ea111, h⟩ := h
                  subst ea111
                  replace h := ob h; obtain ⟨M110, eM110, h⟩ := h
                  refine g_iast hC eM110 dX12_sea_330 ?_
                  refine g_aload_n hC 2 dX12_sea_331 rfl ?_
                  replace h := ob h; obtain ⟨v112, ev112, h⟩ := h
                  refine g_getR hC ev112 fk_X12_13 rfl dX12_sea_332 ?_
                  refine g_bipush hC 10 dX12_sea_335 (by decide) ?_
                  refine g_iload hC 7 dX12_sea_337 rfl ?_
                  refine g_iadd hC dX12_sea_339 ?_
                  replace h := ob h; obtain ⟨a114, ea114, h⟩ := h
                  subst ea114
                  replace h := ob h; obtain ⟨v113, ev113, h⟩ := h
                  refine g_iald hC ev113 dX12_sea_340 ?_
                  refine g_if_ne hC 356 dX12_sea_341 (by decide) (fun c115 => ?_) (fun c115 => ?_)
                  · replace h := it_f c115 h
                    refine g_iinc hC 7 (x6 + 1) ([(6, .int (x6 + 1)), (5, .int (x5 + v107)), (7, .int (v102 + x6)), (0, .ref x0), (1, .int x1), (2, .int x2), (3, .int x3), (4, .int x4)]) dX12_sea_356 rfl rfl (by decide) rfl ?_
                    refine g_goto hC 205 dX12_sea_359 (by decide) ?_
                    refine g_sub [3, 4, 5, 6, 7, 1, 0] rfl ?_
                    exact ih (x5 + v107) (x6 + 1) M110 h
                  · replace h := it_t c115 h
                    refine g_aload_n hC 2 dX12_sea_344 rfl ?_
                    replace h := ob h; obtain ⟨v116, ev116, h⟩ := h
                    refine g_getR hC ev116 fk_X12_13 rfl dX12_sea_345 ?_
                    refine g_sipush hC 170 dX12_sea_348 (by decide) ?_
                    refine g_iload hC 7 dX12_sea_351 rfl ?_
                    refine g_iadd hC dX12_sea_353 ?_
                    refine g_iconst hC 0 dX12_sea_354 (by decide) ?_
                    replace h := ob h; obtain ⟨a118, ea118, h⟩ := h
                    subst ea118
                    replace h := ob h; obtain ⟨M117, eM117, h⟩ := h
                    refine g_iast hC eM117 dX12_sea_355 ?_
                    refine g_iinc hC 7 (x6 + 1) ([(6, .int (x6 + 1)), (5, .int (x5 + v107)), (7, .int (v102 + x6)), (0, .ref x0), (1, .int x1), (2, .int x2), (3, .int x3), (4, .int x4)]) dX12_sea_356 rfl rfl (by decide) rfl ?_
                    refine g_goto hC 205 dX12_sea_359 (by decide) ?_
                    refine g_sub [3, 4, 5, 6, 7, 1, 0] rfl ?_
                    exact ih (x5 + v107) (x6 + 1) M117 h
                refine g_icmp_ne hC 318 dX12_sea_311 (by decide) (fun c119 => ?_) (fun c119 => ?_)
                · refine g_iconst hC 1 dX12_sea_318 (by decide) ?_
                  rw [show v107 = _ from ev107.trans (if_neg c119)] at J108
                  exact J108
                · refine g_iconst hC 0 dX12_sea_314 (by decide) ?_
                  refine g_goto hC 319 dX12_sea_315 (by decide) ?_
                  rw [show v107 = _ from ev107.trans (if_pos c119)] at J108
                  exact J108
              refine g_if_ne hC 282 dX12_sea_274 (by decide) (fun c120 => ?_) (fun c120 => ?_)
              · refine g_iload_n hC 3 dX12_sea_282 rfl ?_
                refine g_iconst hC 1 dX12_sea_283 (by decide) ?_
                refine g_icmp_ne hC 292 dX12_sea_284 (by decide) (fun c121 => ?_) (fun c121 => ?_)
                · refine g_sipush hC 170 dX12_sea_292 (by decide) ?_
                  rw [show v102 = _ from ev102.trans ((if_neg c120).trans (if_neg c121))] at J103
                  exact J103
                · refine g_bipush hC 90 dX12_sea_287 (by decide) ?_
                  refine g_goto hC 295 dX12_sea_289 (by decide) ?_
                  rw [show v102 = _ from ev102.trans ((if_neg c120).trans (if_pos c121))] at J103
                  exact J103
              · refine g_bipush hC 10 dX12_sea_277 (by decide) ?_
                refine g_goto hC 295 dX12_sea_279 (by decide) ?_
                rw [show v102 = _ from ev102.trans (if_pos c120)] at J103
                exact J103
            · replace h := it_t c101 h
              refine g_goto hC 356 dX12_sea_270 (by decide) ?_
              refine g_iinc hC 6 (x6 + 1) ([(6, .int (x6 + 1)), (0, .ref x0), (1, .int x1), (2, .int x2), (3, .int x3), (4, .int x4), (5, .int x5)]) dX12_sea_356 rfl rfl (by decide) rfl ?_
              refine g_goto hC 205 dX12_sea_359 (by decide) ?_
              refine g_sub [1, 2, 3, 4, 5, 6, 0] rfl ?_
              exact ih x5 (x6 + 1) M73 h
set_option maxHeartbeats 4000000 in
set_option maxRecDepth 100000 in
theorem c_X12_sea (l : Launch) (Γ : Gm) (this : Nat) (p1 : Int32) (p2 : Int32) (p3 : Int32) (p4 : Int32) (M M' : Mm) (r : Int32) (h : F_X12_sea this p1 p2 p3 p4 M = some (r, M')) : Met l yX12_sea (wz yX12_sea cX12_sea 8 (some .int)) ({ frames := 2, cells := 0, slots := 0, locals := 45 } : Room) (Pq Γ M [.ref this, .int p1, .int p2, .int p3, .int p4]) (Qi Γ r M') 0 0 (fr Γ) := by
  refine met_of (own := RX12) (by decide +kernel) rfl (Nat.le_of_ble_eq_true rfl) ?_
  intro X hC hR hnm hXl
  unfold F_X12_sea at h
  show G Γ X 8 M 0 0 _ 0 ([(0, .ref this), (1, .int p1), (2, .int p2), (3, .int p3), (4, .int p4)]) []
  refine g_iload_n hC 1 dX12_sea_0 rfl ?_
  refine g_if_lt hC 99 dX12_sea_1 (by decide) (fun c1 => ?_) (fun c1 => ?_)
  · replace h := it_t c1 h
    refine g_iconst hC (-1) dX12_sea_99 (by decide) ?_
    exact g_iret hC h ⟨(Nat.le_of_ble_eq_true rfl), (Nat.le_of_ble_eq_true rfl)⟩ dX12_sea_100
  · replace h := it_f c1 h
    refine g_iload_n hC 2 dX12_sea_4 rfl ?_
    refine g_if_lt hC 99 dX12_sea_5 (by decide) (fun c2 => ?_) (fun c2 => ?_)
    · replace h := it_t c2 h
      refine g_iconst hC (-1) dX12_sea_99 (by decide) ?_
      exact g_iret hC h ⟨(Nat.le_of_ble_eq_true rfl), (Nat.le_of_ble_eq_true rfl)⟩ dX12_sea_100
    · replace h := it_f c2 h
      refine g_aload_n hC 0 dX12_sea_8 rfl ?_
      refine g_iload_n hC 1 dX12_sea_9 rfl ?_
      refine g_bipush hC 10 dX12_sea_10 (by decide) ?_
      replace h := ob h; obtain ⟨v3, ev3, h⟩ := h
      refine g_idiv hC ev3 dX12_sea_12 ?_
      refine g_iload_n hC 2 dX12_sea_13 rfl ?_
      refine g_bipush hC 10 dX12_sea_14 (by decide) ?_
      replace h := ob h; obtain ⟨v4, ev4, h⟩ := h
      refine g_idiv hC ev4 dX12_sea_16 ?_
      replace h := ob h; obtain ⟨_, eu6, h⟩ := h
      replace h := ob h; obtain ⟨⟨v7, M5⟩, eM5, h⟩ := h
      refine g_calli hC (r_V hC (As := [.int v3, .int v4]) (c_X12_isCell _ Γ this v3 v4 M M5 v7 eM5) yk_X12_isCell lk_X12_127 eu6 ⟨_, rfl, rfl⟩ rfl rfl (Nat.le_of_ble_eq_true rfl) hR ⟨(Nat.le_of_ble_eq_true rfl), (Nat.le_of_ble_eq_true rfl)⟩ ⟨(Nat.le_of_ble_eq_true rfl), (Nat.le_of_ble_eq_true rfl)⟩ dX12_sea_17) ?_
      refine g_if_eq hC 99 dX12_sea_20 (by decide) (fun c8 => ?_) (fun c8 => ?_)
      · replace h := it_t c8 h
        refine g_iconst hC (-1) dX12_sea_99 (by decide) ?_
        exact g_iret hC h ⟨(Nat.le_of_ble_eq_true rfl), (Nat.le_of_ble_eq_true rfl)⟩ dX12_sea_100
      · replace h := it_f c8 h
        refine g_aload_n hC 0 dX12_sea_23 rfl ?_
        refine g_iload_n hC 1 dX12_sea_24 rfl ?_
        refine g_bipush hC 10 dX12_sea_25 (by decide) ?_
        replace h := ob h; obtain ⟨v9, ev9, h⟩ := h
        refine g_irem hC ev9 dX12_sea_27 ?_
        refine g_iload_n hC 2 dX12_sea_28 rfl ?_
        refine g_bipush hC 10 dX12_sea_29 (by decide) ?_
        replace h := ob h; obtain ⟨v10, ev10, h⟩ := h
        refine g_irem hC ev10 dX12_sea_31 ?_
        replace h := ob h; obtain ⟨_, eu12, h⟩ := h
        replace h := ob h; obtain ⟨⟨v13, M11⟩, eM11, h⟩ := h
        refine g_calli hC (r_V hC (As := [.int v9, .int v10]) (c_X12_isCell _ Γ this v9 v10 M5 M11 v13 eM11) yk_X12_isCell lk_X12_127 eu12 ⟨_, rfl, rfl⟩ rfl rfl (Nat.le_of_ble_eq_true rfl) hR ⟨(Nat.le_of_ble_eq_true rfl), (Nat.le_of_ble_eq_true rfl)⟩ ⟨(Nat.le_of_ble_eq_true rfl), (Nat.le_of_ble_eq_true rfl)⟩ dX12_sea_32) ?_
        refine g_if_eq hC 99 dX12_sea_35 (by decide) (fun c14 => ?_) (fun c14 => ?_)
        · replace h := it_t c14 h
          refine g_iconst hC (-1) dX12_sea_99 (by decide) ?_
          exact g_iret hC h ⟨(Nat.le_of_ble_eq_true rfl), (Nat.le_of_ble_eq_true rfl)⟩ dX12_sea_100
        · replace h := it_f c14 h
          refine g_iload_n hC 1 dX12_sea_38 rfl ?_
          refine g_bipush hC 10 dX12_sea_39 (by decide) ?_
          replace h := ob h; obtain ⟨v15, ev15, h⟩ := h
          refine g_idiv hC ev15 dX12_sea_41 ?_
          refine g_iload_n hC 1 dX12_sea_42 rfl ?_
          refine g_bipush hC 10 dX12_sea_43 (by decide) ?_
          replace h := ob h; obtain ⟨v16, ev16, h⟩ := h
          refine g_irem hC ev16 dX12_sea_45 ?_
          refine g_icmp_gt hC 99 dX12_sea_46 (by decide) (fun c17 => ?_) (fun c17 => ?_)
          · replace h := it_t c17 h
            refine g_iconst hC (-1) dX12_sea_99 (by decide) ?_
            exact g_iret hC h ⟨(Nat.le_of_ble_eq_true rfl), (Nat.le_of_ble_eq_true rfl)⟩ dX12_sea_100
          · replace h := it_f c17 h
            refine g_iload_n hC 2 dX12_sea_49 rfl ?_
            refine g_bipush hC 10 dX12_sea_50 (by decide) ?_
            replace h := ob h; obtain ⟨v18, ev18, h⟩ := h
            refine g_idiv hC ev18 dX12_sea_52 ?_
            refine g_iload_n hC 2 dX12_sea_53 rfl ?_
            refine g_bipush hC 10 dX12_sea_54 (by decide) ?_
            replace h := ob h; obtain ⟨v19, ev19, h⟩ := h
            refine g_irem hC ev19 dX12_sea_56 ?_
            refine g_icmp_gt hC 99 dX12_sea_57 (by decide) (fun c20 => ?_) (fun c20 => ?_)
            · replace h := it_t c20 h
              refine g_iconst hC (-1) dX12_sea_99 (by decide) ?_
              exact g_iret hC h ⟨(Nat.le_of_ble_eq_true rfl), (Nat.le_of_ble_eq_true rfl)⟩ dX12_sea_100
            · replace h := it_f c20 h
              refine g_aload_n hC 0 dX12_sea_60 rfl ?_
              refine g_iload_n hC 3 dX12_sea_61 rfl ?_
              refine g_iconst hC 0 dX12_sea_62 (by decide) ?_
              refine g_iconst hC 2 dX12_sea_63 (by decide) ?_
              replace h := ob h; obtain ⟨_, eu22, h⟩ := h
              replace h := ob h; obtain ⟨⟨v23, M21⟩, eM21, h⟩ := h
              refine g_calli hC (r_V hC (As := [.int p3, .int 0, .int 2]) (c_X12_is _ Γ this p3 0 2 M11 M21 v23 eM21) yk_X12_is lk_X12_123 eu22 ⟨_, rfl, rfl⟩ rfl rfl (Nat.le_of_ble_eq_true rfl) hR ⟨(Nat.le_of_ble_eq_true rfl), (Nat.le_of_ble_eq_true rfl)⟩ ⟨(Nat.le_of_ble_eq_true rfl), (Nat.le_of_ble_eq_true rfl)⟩ dX12_sea_64) ?_
              refine g_if_eq hC 99 dX12_sea_67 (by decide) (fun c24 => ?_) (fun c24 => ?_)
              · replace h := it_t c24 h
                refine g_iconst hC (-1) dX12_sea_99 (by decide) ?_
                exact g_iret hC h ⟨(Nat.le_of_ble_eq_true rfl), (Nat.le_of_ble_eq_true rfl)⟩ dX12_sea_100
              · replace h := it_f c24 h
                refine g_aload_n hC 0 dX12_sea_70 rfl ?_
                refine g_iload hC 4 dX12_sea_71 rfl ?_
                refine g_iconst hC 0 dX12_sea_73 (by decide) ?_
                refine g_iload_n hC 3 dX12_sea_74 rfl ?_
                replace h := nv_e h; obtain ⟨v25, ev25, h⟩ := h
                have J26 : G Γ X 8 M21 0 0 (Fin Γ X (Qi Γ r M') 0 0) 93 ([(0, .ref this), (1, .int p1), (2, .int p2), (3, .int p3), (4, .int p4)]) ([.int v25, .int 0, .int p4, .ref this]) := by
                  replace h := ob h; obtain ⟨_, eu28, h⟩ := h
                  replace h := ob h; obtain ⟨⟨v29, M27⟩, eM27, h⟩ := h
                  refine g_calli hC (r_V hC (As := [.int p4, .int 0, .int v25]) (c_X12_is _ Γ this p4 0 v25 M21 M27 v29 eM27) yk_X12_is lk_X12_123 eu28 ⟨_, rfl, rfl⟩ rfl rfl (Nat.le_of_ble_eq_true rfl) hR ⟨(Nat.le_of_ble_eq_true rfl), (Nat.le_of_ble_eq_true rfl)⟩ ⟨(Nat.le_of_ble_eq_true rfl), (Nat.le_of_ble_eq_true rfl)⟩ dX12_sea_93) ?_
                  refine g_if_ne hC 101 dX12_sea_96 (by decide) (fun c30 => ?_) (fun c30 => ?_)
                  · replace h := it_f c30 h
                    refine g_iconst hC 0 dX12_sea_101 (by decide) ?_
                    refine g_istore hC ([(5, .int 0), (0, .ref this), (1, .int p1), (2, .int p2), (3, .int p3), (4, .int p4)]) dX12_sea_102 (by decide) rfl ?_
                    refine g_sub [1, 2, 3, 4, 5, 0] rfl ?_
                    refine l_X12_sea_L104 hC hR r M' _ _ _ _ _ _ ?_ _ _ _ h
                    intro  M60 h
                    refine g_iconst hC 0 dX12_sea_199 (by decide) ?_
                    refine g_istore hC ([(5, .int 0), (0, .ref this), (1, .int p1), (2, .int p2), (3, .int p3), (4, .int p4)]) dX12_sea_200 (by decide) rfl ?_
                    refine g_iconst hC 0 dX12_sea_202 (by decide) ?_
                    refine g_istore hC ([(6, .int 0), (5, .int 0), (0, .ref this), (1, .int p1), (2, .int p2), (3, .int p3), (4, .int p4)]) dX12_sea_203 (by decide) rfl ?_
                    refine g_sub [2, 3, 4, 5, 6, 1, 0] rfl ?_
                    refine l_X12_sea_L205 hC hR r M'  _ _ _ _ _  _ _ _ _ h
                  · replace h := it_t c30 h
                    refine g_iconst hC (-1) dX12_sea_99 (by decide) ?_
                    exact g_iret hC h ⟨(Nat.le_of_ble_eq_true rfl), (Nat.le_of_ble_eq_true rfl)⟩ dX12_sea_100
                refine g_if_ne hC 82 dX12_sea_75 (by decide) (fun c122 => ?_) (fun c122 => ?_)
                · refine g_iload_n hC 3 dX12_sea_82 rfl ?_
                  refine g_iconst hC 1 dX12_sea_83 (by decide) ?_
                  refine g_icmp_ne hC 91 dX12_sea_84 (by decide) (fun c123 => ?_) (fun c123 => ?_)
                  · refine g_bipush hC 99 dX12_sea_91 (by decide) ?_
                    rw [show v25 = _ from ev25.trans ((if_neg c122).trans (if_neg c123))] at J26
                    exact J26
                  · refine g_iconst hC 1 dX12_sea_87 (by decide) ?_
                    refine g_goto hC 93 dX12_sea_88 (by decide) ?_
                    rw [show v25 = _ from ev25.trans ((if_neg c122).trans (if_pos c123))] at J26
                    exact J26
                · refine g_iconst hC 4 dX12_sea_78 (by decide) ?_
                  refine g_goto hC 93 dX12_sea_79 (by decide) ?_
                  rw [show v25 = _ from ev25.trans (if_pos c122)] at J26
                  exact J26

set_option maxHeartbeats 4000000 in
set_option maxRecDepth 100000 in
theorem c_X12_stream (l : Launch) (Γ : Gm) (this : Nat) (p1 : Int32) (p2 : Int32) (p3 : Int32) (p4 : Int32) (p5 : Int32) (p6 : Int32) (M M' : Mm) (r : Int32) (h : F_X12_stream this p1 p2 p3 p4 p5 p6 M = some (r, M')) : Met l yX12_stream (wz yX12_stream cX12_stream 8 (some .int)) ({ frames := 2, cells := 0, slots := 0, locals := 45 } : Room) (Pq Γ M [.ref this, .int p1, .int p2, .int p3, .int p4, .int p5, .int p6]) (Qi Γ r M') 0 0 (fr Γ) := by
  refine met_of (own := RX12) (by decide +kernel) rfl (Nat.le_of_ble_eq_true rfl) ?_
  intro X hC hR hnm hXl
  unfold F_X12_stream at h
  show G Γ X 8 M 0 0 _ 0 ([(0, .ref this), (1, .int p1), (2, .int p2), (3, .int p3), (4, .int p4), (5, .int p5), (6, .int p6)]) []
  refine g_aload_n hC 0 dX12_stream_0 rfl ?_
  refine g_iload_n hC 1 dX12_stream_1 rfl ?_
  refine g_iload_n hC 2 dX12_stream_2 rfl ?_
  replace h := ob h; obtain ⟨_, eu2, h⟩ := h
  replace h := ob h; obtain ⟨⟨v3, M1⟩, eM1, h⟩ := h
  refine g_calli hC (r_V hC (As := [.int p1, .int p2]) (c_X12_isCell _ Γ this p1 p2 M M1 v3 eM1) yk_X12_isCell lk_X12_127 eu2 ⟨_, rfl, rfl⟩ rfl rfl (Nat.le_of_ble_eq_true rfl) hR ⟨(Nat.le_of_ble_eq_true rfl), (Nat.le_of_ble_eq_true rfl)⟩ ⟨(Nat.le_of_ble_eq_true rfl), (Nat.le_of_ble_eq_true rfl)⟩ dX12_stream_3) ?_
  refine g_if_eq hC 43 dX12_stream_6 (by decide) (fun c4 => ?_) (fun c4 => ?_)
  · replace h := it_t c4 h
    refine g_iconst hC (-1) dX12_stream_43 (by decide) ?_
    exact g_iret hC h ⟨(Nat.le_of_ble_eq_true rfl), (Nat.le_of_ble_eq_true rfl)⟩ dX12_stream_44
  · replace h := it_f c4 h
    refine g_aload_n hC 0 dX12_stream_9 rfl ?_
    refine g_iload_n hC 3 dX12_stream_10 rfl ?_
    refine g_iconst hC 0 dX12_stream_11 (by decide) ?_
    refine g_iconst hC 3 dX12_stream_12 (by decide) ?_
    replace h := ob h; obtain ⟨_, eu6, h⟩ := h
    replace h := ob h; obtain ⟨⟨v7, M5⟩, eM5, h⟩ := h
    refine g_calli hC (r_V hC (As := [.int p3, .int 0, .int 3]) (c_X12_is _ Γ this p3 0 3 M1 M5 v7 eM5) yk_X12_is lk_X12_123 eu6 ⟨_, rfl, rfl⟩ rfl rfl (Nat.le_of_ble_eq_true rfl) hR ⟨(Nat.le_of_ble_eq_true rfl), (Nat.le_of_ble_eq_true rfl)⟩ ⟨(Nat.le_of_ble_eq_true rfl), (Nat.le_of_ble_eq_true rfl)⟩ dX12_stream_13) ?_
    refine g_if_eq hC 43 dX12_stream_16 (by decide) (fun c8 => ?_) (fun c8 => ?_)
    · replace h := it_t c8 h
      refine g_iconst hC (-1) dX12_stream_43 (by decide) ?_
      exact g_iret hC h ⟨(Nat.le_of_ble_eq_true rfl), (Nat.le_of_ble_eq_true rfl)⟩ dX12_stream_44
    · replace h := it_f c8 h
      refine g_aload_n hC 0 dX12_stream_19 rfl ?_
      refine g_iload hC 4 dX12_stream_20 rfl ?_
      refine g_bipush hC (-2) dX12_stream_22 (by decide) ?_
      refine g_iconst hC 2 dX12_stream_24 (by decide) ?_
      replace h := ob h; obtain ⟨_, eu10, h⟩ := h
      replace h := ob h; obtain ⟨⟨v11, M9⟩, eM9, h⟩ := h
      refine g_calli hC (r_V hC (As := [.int p4, .int (-2), .int 2]) (c_X12_is _ Γ this p4 (-2) 2 M5 M9 v11 eM9) yk_X12_is lk_X12_123 eu10 ⟨_, rfl, rfl⟩ rfl rfl (Nat.le_of_ble_eq_true rfl) hR ⟨(Nat.le_of_ble_eq_true rfl), (Nat.le_of_ble_eq_true rfl)⟩ ⟨(Nat.le_of_ble_eq_true rfl), (Nat.le_of_ble_eq_true rfl)⟩ dX12_stream_25) ?_
      refine g_if_eq hC 43 dX12_stream_28 (by decide) (fun c12 => ?_) (fun c12 => ?_)
      · replace h := it_t c12 h
        refine g_iconst hC (-1) dX12_stream_43 (by decide) ?_
        exact g_iret hC h ⟨(Nat.le_of_ble_eq_true rfl), (Nat.le_of_ble_eq_true rfl)⟩ dX12_stream_44
      · replace h := it_f c12 h
        refine g_aload_n hC 0 dX12_stream_31 rfl ?_
        refine g_iload hC 5 dX12_stream_32 rfl ?_
        refine g_bipush hC (-2) dX12_stream_34 (by decide) ?_
        refine g_iconst hC 2 dX12_stream_36 (by decide) ?_
        replace h := ob h; obtain ⟨_, eu14, h⟩ := h
        replace h := ob h; obtain ⟨⟨v15, M13⟩, eM13, h⟩ := h
        refine g_calli hC (r_V hC (As := [.int p5, .int (-2), .int 2]) (c_X12_is _ Γ this p5 (-2) 2 M9 M13 v15 eM13) yk_X12_is lk_X12_123 eu14 ⟨_, rfl, rfl⟩ rfl rfl (Nat.le_of_ble_eq_true rfl) hR ⟨(Nat.le_of_ble_eq_true rfl), (Nat.le_of_ble_eq_true rfl)⟩ ⟨(Nat.le_of_ble_eq_true rfl), (Nat.le_of_ble_eq_true rfl)⟩ dX12_stream_37) ?_
        refine g_if_ne hC 45 dX12_stream_40 (by decide) (fun c16 => ?_) (fun c16 => ?_)
        · replace h := it_f c16 h
          refine g_iconst hC 4 dX12_stream_45 (by decide) ?_
          refine g_bipush hC 8 dX12_stream_46 (by decide) ?_
          refine g_iload_n hC 1 dX12_stream_48 rfl ?_
          refine g_imul hC dX12_stream_49 ?_
          refine g_iload_n hC 2 dX12_stream_50 rfl ?_
          refine g_iadd hC dX12_stream_51 ?_
          refine g_imul hC dX12_stream_52 ?_
          refine g_iload_n hC 3 dX12_stream_53 rfl ?_
          refine g_iadd hC dX12_stream_54 ?_
          refine g_istore hC ([(7, .int ((4 * ((8 * p1) + p2)) + p3)), (0, .ref this), (1, .int p1), (2, .int p2), (3, .int p3), (4, .int p4), (5, .int p5), (6, .int p6)]) dX12_stream_55 (by decide) rfl ?_
          refine g_aload_n hC 1 dX12_stream_57 rfl ?_
          replace h := ob h; obtain ⟨v17, ev17, h⟩ := h
          refine g_getR hC ev17 fk_X12_13 rfl dX12_stream_58 ?_
          refine g_iload hC 7 dX12_stream_61 rfl ?_
          replace h := nv_e h; obtain ⟨v18, ev18, h⟩ := h
          have J19 : G Γ X 8 M13 0 0 (Fin Γ X (Qi Γ r M') 0 0) 75 ([(7, .int ((4 * ((8 * p1) + p2)) + p3)), (0, .ref this), (1, .int p1), (2, .int p2), (3, .int p3), (4, .int p4), (5, .int p5), (6, .int p6)]) ([.int v18, va_rf v17]) := by
            refine g_iload hC 0 dX12_stream_75 rfl ?_
            refine g_iadd hC dX12_stream_77 ?_
            refine g_iload hC 5 dX12_stream_78 rfl ?_
            replace h := ob h; obtain ⟨a21, ea21, h⟩ := h
            subst ea21
            replace h := ob h; obtain ⟨M20, eM20, h⟩ := h
            refine g_iast hC eM20 dX12_stream_80 ?_
            refine g_aload_n hC 1 dX12_stream_81 rfl ?_
            replace h := ob h; obtain ⟨v22, ev22, h⟩ := h
            refine g_getR hC ev22 fk_X12_13 rfl dX12_stream_82 ?_
            refine g_iload hC 7 dX12_stream_85 rfl ?_
            replace h := nv_e h; obtain ⟨v23, ev23, h⟩ := h
            have J24 : G Γ X 8 M20 0 0 (Fin Γ X (Qi Γ r M') 0 0) 99 ([(7, .int ((4 * ((8 * p1) + p2)) + p3)), (0, .ref this), (1, .int p1), (2, .int p2), (3, .int p3), (4, .int p4), (5, .int p5), (6, .int p6)]) ([.int v23, va_rf v22]) := by
              refine g_iload hC 0 dX12_stream_99 rfl ?_
              refine g_iadd hC dX12_stream_101 ?_
              refine g_iload hC 6 dX12_stream_102 rfl ?_
              replace h := ob h; obtain ⟨a26, ea26, h⟩ := h
              subst ea26
              replace h := ob h; obtain ⟨M25, eM25, h⟩ := h
              refine g_iast hC eM25 dX12_stream_104 ?_
              refine g_iconst hC 0 dX12_stream_105 (by decide) ?_
              exact g_iret hC h ⟨(Nat.le_of_ble_eq_true rfl), (Nat.le_of_ble_eq_true rfl)⟩ dX12_stream_106
            refine g_if_eq hC 96 dX12_stream_87 (by decide) (fun c27 => ?_) (fun c27 => ?_)
            · refine g_sipush hC 570 dX12_stream_96 (by decide) ?_
              rw [show v23 = _ from ev23.trans (if_pos c27)] at J24
              exact J24
            · refine g_sipush hC 1210 dX12_stream_90 (by decide) ?_
              refine g_goto hC 99 dX12_stream_93 (by decide) ?_
              rw [show v23 = _ from ev23.trans (if_neg c27)] at J24
              exact J24
          refine g_if_eq hC 72 dX12_stream_63 (by decide) (fun c28 => ?_) (fun c28 => ?_)
          · refine g_sipush hC 250 dX12_stream_72 (by decide) ?_
            rw [show v18 = _ from ev18.trans (if_pos c28)] at J19
            exact J19
          · refine g_sipush hC 890 dX12_stream_66 (by decide) ?_
            refine g_goto hC 75 dX12_stream_69 (by decide) ?_
            rw [show v18 = _ from ev18.trans (if_neg c28)] at J19
            exact J19
        · replace h := it_t c16 h
          refine g_iconst hC (-1) dX12_stream_43 (by decide) ?_
          exact g_iret hC h ⟨(Nat.le_of_ble_eq_true rfl), (Nat.le_of_ble_eq_true rfl)⟩ dX12_stream_44

set_option maxHeartbeats 4000000 in
set_option maxRecDepth 100000 in
theorem c_X12_salt (l : Launch) (Γ : Gm) (this : Nat) (p1 : Int32) (p2 : Int32) (p3 : Int32) (p4 : Int32) (M M' : Mm) (r : Int32) (h : F_X12_salt this p1 p2 p3 p4 M = some (r, M')) : Met l yX12_salt (wz yX12_salt cX12_salt 8 (some .int)) ({ frames := 2, cells := 0, slots := 0, locals := 45 } : Room) (Pq Γ M [.ref this, .int p1, .int p2, .int p3, .int p4]) (Qi Γ r M') 0 0 (fr Γ) := by
  refine met_of (own := RX12) (by decide +kernel) rfl (Nat.le_of_ble_eq_true rfl) ?_
  intro X hC hR hnm hXl
  unfold F_X12_salt at h
  show G Γ X 8 M 0 0 _ 0 ([(0, .ref this), (1, .int p1), (2, .int p2), (3, .int p3), (4, .int p4)]) []
  refine g_aload_n hC 0 dX12_salt_0 rfl ?_
  refine g_iload_n hC 1 dX12_salt_1 rfl ?_
  refine g_iload_n hC 2 dX12_salt_2 rfl ?_
  replace h := ob h; obtain ⟨_, eu2, h⟩ := h
  replace h := ob h; obtain ⟨⟨v3, M1⟩, eM1, h⟩ := h
  refine g_calli hC (r_V hC (As := [.int p1, .int p2]) (c_X12_isCell _ Γ this p1 p2 M M1 v3 eM1) yk_X12_isCell lk_X12_127 eu2 ⟨_, rfl, rfl⟩ rfl rfl (Nat.le_of_ble_eq_true rfl) hR ⟨(Nat.le_of_ble_eq_true rfl), (Nat.le_of_ble_eq_true rfl)⟩ ⟨(Nat.le_of_ble_eq_true rfl), (Nat.le_of_ble_eq_true rfl)⟩ dX12_salt_3) ?_
  refine g_if_eq hC 32 dX12_salt_6 (by decide) (fun c4 => ?_) (fun c4 => ?_)
  · replace h := it_t c4 h
    refine g_iconst hC (-1) dX12_salt_32 (by decide) ?_
    exact g_iret hC h ⟨(Nat.le_of_ble_eq_true rfl), (Nat.le_of_ble_eq_true rfl)⟩ dX12_salt_33
  · replace h := it_f c4 h
    refine g_aload_n hC 0 dX12_salt_9 rfl ?_
    refine g_iload_n hC 3 dX12_salt_10 rfl ?_
    refine g_iconst hC 0 dX12_salt_11 (by decide) ?_
    refine g_iconst hC 3 dX12_salt_12 (by decide) ?_
    replace h := ob h; obtain ⟨_, eu6, h⟩ := h
    replace h := ob h; obtain ⟨⟨v7, M5⟩, eM5, h⟩ := h
    refine g_calli hC (r_V hC (As := [.int p3, .int 0, .int 3]) (c_X12_is _ Γ this p3 0 3 M1 M5 v7 eM5) yk_X12_is lk_X12_123 eu6 ⟨_, rfl, rfl⟩ rfl rfl (Nat.le_of_ble_eq_true rfl) hR ⟨(Nat.le_of_ble_eq_true rfl), (Nat.le_of_ble_eq_true rfl)⟩ ⟨(Nat.le_of_ble_eq_true rfl), (Nat.le_of_ble_eq_true rfl)⟩ dX12_salt_13) ?_
    refine g_if_eq hC 32 dX12_salt_16 (by decide) (fun c8 => ?_) (fun c8 => ?_)
    · replace h := it_t c8 h
      refine g_iconst hC (-1) dX12_salt_32 (by decide) ?_
      exact g_iret hC h ⟨(Nat.le_of_ble_eq_true rfl), (Nat.le_of_ble_eq_true rfl)⟩ dX12_salt_33
    · replace h := it_f c8 h
      refine g_aload_n hC 0 dX12_salt_19 rfl ?_
      refine g_iload hC 4 dX12_salt_20 rfl ?_
      refine g_iconst hC 0 dX12_salt_22 (by decide) ?_
      refine g_sipush hC 1001 dX12_salt_23 (by decide) ?_
      replace h := ob h; obtain ⟨_, eu10, h⟩ := h
      replace h := ob h; obtain ⟨⟨v11, M9⟩, eM9, h⟩ := h
      refine g_calli hC (r_V hC (As := [.int p4, .int 0, .int 1001]) (c_X12_is _ Γ this p4 0 1001 M5 M9 v11 eM9) yk_X12_is lk_X12_123 eu10 ⟨_, rfl, rfl⟩ rfl rfl (Nat.le_of_ble_eq_true rfl) hR ⟨(Nat.le_of_ble_eq_true rfl), (Nat.le_of_ble_eq_true rfl)⟩ ⟨(Nat.le_of_ble_eq_true rfl), (Nat.le_of_ble_eq_true rfl)⟩ dX12_salt_26) ?_
      refine g_if_ne hC 34 dX12_salt_29 (by decide) (fun c12 => ?_) (fun c12 => ?_)
      · replace h := it_f c12 h
        refine g_iload hC 4 dX12_salt_34 rfl ?_
        refine g_sipush hC 1000 dX12_salt_36 (by decide) ?_
        replace h := nv_e h; obtain ⟨v13, ev13, h⟩ := h
        have J14 : G Γ X 8 M9 0 0 (Fin Γ X (Qi Γ r M') 0 0) 51 ([(0, .ref this), (1, .int p1), (2, .int p2), (3, .int p3), (4, .int p4)]) ([.int v13]) := by
          refine g_iconst hC 4 dX12_salt_51 (by decide) ?_
          refine g_bipush hC 8 dX12_salt_52 (by decide) ?_
          refine g_iload_n hC 1 dX12_salt_54 rfl ?_
          refine g_imul hC dX12_salt_55 ?_
          refine g_iload_n hC 2 dX12_salt_56 rfl ?_
          refine g_iadd hC dX12_salt_57 ?_
          refine g_imul hC dX12_salt_58 ?_
          refine g_iadd hC dX12_salt_59 ?_
          refine g_iload_n hC 3 dX12_salt_60 rfl ?_
          refine g_iadd hC dX12_salt_61 ?_
          refine g_istore hC ([(5, .int ((v13 + (4 * ((8 * p1) + p2))) + p3)), (0, .ref this), (1, .int p1), (2, .int p2), (3, .int p3), (4, .int p4)]) dX12_salt_62 (by decide) rfl ?_
          refine g_iload hC 5 dX12_salt_64 rfl ?_
          refine g_sipush hC 1000 dX12_salt_66 (by decide) ?_
          replace h := nv_e h; obtain ⟨v15, ev15, h⟩ := h
          have J16 : G Γ X 8 M9 0 0 (Fin Γ X (Qi Γ r M') 0 0) 83 ([(5, .int ((v13 + (4 * ((8 * p1) + p2))) + p3)), (0, .ref this), (1, .int p1), (2, .int p2), (3, .int p3), (4, .int p4)]) ([.int v15]) := by
            refine g_istore hC ([(6, .int v15), (5, .int ((v13 + (4 * ((8 * p1) + p2))) + p3)), (0, .ref this), (1, .int p1), (2, .int p2), (3, .int p3), (4, .int p4)]) dX12_salt_83 (by decide) rfl ?_
            refine g_aload_n hC 2 dX12_salt_85 rfl ?_
            replace h := ob h; obtain ⟨v17, ev17, h⟩ := h
            refine g_getR hC ev17 fk_X12_13 rfl dX12_salt_86 ?_
            refine g_iload hC 1 dX12_salt_89 rfl ?_
            replace h := ob h; obtain ⟨a19, ea19, h⟩ := h
            subst ea19
            replace h := ob h; obtain ⟨v18, ev18, h⟩ := h
            refine g_iald hC ev18 dX12_salt_91 ?_
            refine g_istore hC ([(7, .int v18), (6, .int v15), (5, .int ((v13 + (4 * ((8 * p1) + p2))) + p3)), (0, .ref this), (1, .int p1), (2, .int p2), (3, .int p3), (4, .int p4)]) dX12_salt_92 (by decide) rfl ?_
            refine g_aload_n hC 3 dX12_salt_94 rfl ?_
            replace h := ob h; obtain ⟨v20, ev20, h⟩ := h
            refine g_getR hC ev20 fk_X12_13 rfl dX12_salt_95 ?_
            refine g_iload hC 2 dX12_salt_98 rfl ?_
            refine g_iload hC 1 dX12_salt_100 rfl ?_
            replace h := ob h; obtain ⟨a22, ea22, h⟩ := h
            subst ea22
            replace h := ob h; obtain ⟨M21, eM21, h⟩ := h
            refine g_iast hC eM21 dX12_salt_102 ?_
            refine g_iload hC 0 dX12_salt_103 rfl ?_
            refine g_iload hC 1 dX12_salt_105 rfl ?_
            refine g_icmp_ne hC 114 dX12_salt_107 (by decide) (fun c23 => ?_) (fun c23 => ?_)
            · replace h := it_f c23 h
              refine g_iconst hC 1 dX12_salt_114 (by decide) ?_
              exact g_iret hC h ⟨(Nat.le_of_ble_eq_true rfl), (Nat.le_of_ble_eq_true rfl)⟩ dX12_salt_115
            · replace h := it_t c23 h
              refine g_iconst hC 0 dX12_salt_110 (by decide) ?_
              refine g_goto hC 115 dX12_salt_111 (by decide) ?_
              exact g_iret hC h ⟨(Nat.le_of_ble_eq_true rfl), (Nat.le_of_ble_eq_true rfl)⟩ dX12_salt_115
          refine g_icmp_ge hC 77 dX12_salt_69 (by decide) (fun c24 => ?_) (fun c24 => ?_)
          · refine g_sipush hC 1001 dX12_salt_77 (by decide) ?_
            refine g_iload hC 5 dX12_salt_80 rfl ?_
            refine g_isub hC dX12_salt_82 ?_
            rw [show v15 = _ from ev15.trans (if_pos c24)] at J16
            exact J16
          · refine g_iload hC 5 dX12_salt_72 rfl ?_
            refine g_goto hC 83 dX12_salt_74 (by decide) ?_
            rw [show v15 = _ from ev15.trans (if_neg c24)] at J16
            exact J16
        refine g_icmp_ge hC 48 dX12_salt_39 (by decide) (fun c25 => ?_) (fun c25 => ?_)
        · refine g_sipush hC 1850 dX12_salt_48 (by decide) ?_
          rw [show v13 = _ from ev13.trans (if_pos c25)] at J14
          exact J14
        · refine g_sipush hC 1530 dX12_salt_42 (by decide) ?_
          refine g_goto hC 51 dX12_salt_45 (by decide) ?_
          rw [show v13 = _ from ev13.trans (if_neg c25)] at J14
          exact J14
      · replace h := it_t c12 h
        refine g_iconst hC (-1) dX12_salt_32 (by decide) ?_
        exact g_iret hC h ⟨(Nat.le_of_ble_eq_true rfl), (Nat.le_of_ble_eq_true rfl)⟩ dX12_salt_33

set_option maxHeartbeats 4000000 in
set_option maxRecDepth 100000 in
theorem c_X12_cell (l : Launch) (Γ : Gm) (this : Nat) (p1 : Int32) (p2 : Int32) (p3 : Int32) (p4 : Int32) (M M' : Mm) (r : Int32) (h : F_X12_cell this p1 p2 p3 p4 M = some (r, M')) : Met l yX12_cell (wz yX12_cell cX12_cell 6 (some .int)) ({ frames := 2, cells := 0, slots := 0, locals := 45 } : Room) (Pq Γ M [.ref this, .int p1, .int p2, .int p3, .int p4]) (Qi Γ r M') 0 0 (fr Γ) := by
  refine met_of (own := RX12) (by decide +kernel) rfl (Nat.le_of_ble_eq_true rfl) ?_
  intro X hC hR hnm hXl
  unfold F_X12_cell at h
  show G Γ X 6 M 0 0 _ 0 ([(0, .ref this), (1, .int p1), (2, .int p2), (3, .int p3), (4, .int p4)]) []
  refine g_aload_n hC 0 dX12_cell_0 rfl ?_
  refine g_iload_n hC 1 dX12_cell_1 rfl ?_
  refine g_iload_n hC 2 dX12_cell_2 rfl ?_
  replace h := ob h; obtain ⟨_, eu2, h⟩ := h
  replace h := ob h; obtain ⟨⟨v3, M1⟩, eM1, h⟩ := h
  refine g_calli hC (r_V hC (As := [.int p1, .int p2]) (c_X12_isCell _ Γ this p1 p2 M M1 v3 eM1) yk_X12_isCell lk_X12_127 eu2 ⟨_, rfl, rfl⟩ rfl rfl (Nat.le_of_ble_eq_true rfl) hR ⟨(Nat.le_of_ble_eq_true rfl), (Nat.le_of_ble_eq_true rfl)⟩ ⟨(Nat.le_of_ble_eq_true rfl), (Nat.le_of_ble_eq_true rfl)⟩ dX12_cell_3) ?_
  refine g_if_eq hC 37 dX12_cell_6 (by decide) (fun c4 => ?_) (fun c4 => ?_)
  · replace h := it_t c4 h
    refine g_iconst hC (-1) dX12_cell_37 (by decide) ?_
    exact g_iret hC h ⟨(Nat.le_of_ble_eq_true rfl), (Nat.le_of_ble_eq_true rfl)⟩ dX12_cell_38
  · replace h := it_f c4 h
    refine g_aload_n hC 0 dX12_cell_9 rfl ?_
    refine g_iload hC 4 dX12_cell_10 rfl ?_
    refine g_iconst hC 0 dX12_cell_12 (by decide) ?_
    refine g_bipush hC 8 dX12_cell_13 (by decide) ?_
    replace h := ob h; obtain ⟨_, eu6, h⟩ := h
    replace h := ob h; obtain ⟨⟨v7, M5⟩, eM5, h⟩ := h
    refine g_calli hC (r_V hC (As := [.int p4, .int 0, .int 8]) (c_X12_is _ Γ this p4 0 8 M1 M5 v7 eM5) yk_X12_is lk_X12_123 eu6 ⟨_, rfl, rfl⟩ rfl rfl (Nat.le_of_ble_eq_true rfl) hR ⟨(Nat.le_of_ble_eq_true rfl), (Nat.le_of_ble_eq_true rfl)⟩ ⟨(Nat.le_of_ble_eq_true rfl), (Nat.le_of_ble_eq_true rfl)⟩ dX12_cell_15) ?_
    refine g_if_eq hC 37 dX12_cell_18 (by decide) (fun c8 => ?_) (fun c8 => ?_)
    · replace h := it_t c8 h
      refine g_iconst hC (-1) dX12_cell_37 (by decide) ?_
      exact g_iret hC h ⟨(Nat.le_of_ble_eq_true rfl), (Nat.le_of_ble_eq_true rfl)⟩ dX12_cell_38
    · replace h := it_f c8 h
      refine g_iload hC 4 dX12_cell_21 rfl ?_
      refine g_iconst hC 2 dX12_cell_23 (by decide) ?_
      replace h := jp_e h; obtain ⟨k9, ek9, h⟩ := h
      have J46 : ∀  (M10 : Mm), k9  M10 = some (r, M') → G Γ X 6 M10 0 0 (Fin Γ X (Qi Γ r M') 0 0) 39 ([(0, .ref this), (1, .int p1), (2, .int p2), (3, .int p3), (4, .int p4)]) ([]) := by
        intro  M10 h
        rw [ek9] at h
        refine g_bipush hC 8 dX12_cell_39 (by decide) ?_
        refine g_iload_n hC 1 dX12_cell_41 rfl ?_
        refine g_imul hC dX12_cell_42 ?_
        refine g_iload_n hC 2 dX12_cell_43 rfl ?_
        refine g_iadd hC dX12_cell_44 ?_
        refine g_istore hC ([(5, .int ((8 * p1) + p2)), (0, .ref this), (1, .int p1), (2, .int p2), (3, .int p3), (4, .int p4)]) dX12_cell_45 (by decide) rfl ?_
        refine g_iload hC 5 dX12_cell_47 rfl ?_
        by_cases c11 : p4 = 0
        · replace h := it_t c11 h
          refine g_tbl (off := 47) hC 96 c11 dX12_cell_49 (by decide) ?_
          refine g_aload_n hC 1 dX12_cell_96 rfl ?_
          replace h := ob h; obtain ⟨v12, ev12, h⟩ := h
          refine g_getR hC ev12 fk_X12_13 rfl dX12_cell_97 ?_
          refine g_bipush hC 10 dX12_cell_100 (by decide) ?_
          refine g_iload hC 0 dX12_cell_102 rfl ?_
          refine g_iadd hC dX12_cell_104 ?_
          replace h := ob h; obtain ⟨a14, ea14, h⟩ := h
          subst ea14
          replace h := ob h; obtain ⟨v13, ev13, h⟩ := h
          refine g_iald hC ev13 dX12_cell_105 ?_
          exact g_iret hC h ⟨(Nat.le_of_ble_eq_true rfl), (Nat.le_of_ble_eq_true rfl)⟩ dX12_cell_106
        replace h := it_f c11 h
        by_cases c15 : p4 = 1
        · replace h := it_t c15 h
          refine g_tbl (off := 58) hC 107 c15 dX12_cell_49 (by decide) ?_
          refine g_aload_n hC 1 dX12_cell_107 rfl ?_
          replace h := ob h; obtain ⟨v16, ev16, h⟩ := h
          refine g_getR hC ev16 fk_X12_13 rfl dX12_cell_108 ?_
          refine g_bipush hC 90 dX12_cell_111 (by decide) ?_
          refine g_iload hC 0 dX12_cell_113 rfl ?_
          refine g_iadd hC dX12_cell_115 ?_
          replace h := ob h; obtain ⟨a18, ea18, h⟩ := h
          subst ea18
          replace h := ob h; obtain ⟨v17, ev17, h⟩ := h
          refine g_iald hC ev17 dX12_cell_116 ?_
          exact g_iret hC h ⟨(Nat.le_of_ble_eq_true rfl), (Nat.le_of_ble_eq_true rfl)⟩ dX12_cell_117
        replace h := it_f c15 h
        by_cases c19 : p4 = 2
        · replace h := it_t c19 h
          refine g_tbl (off := 69) hC 118 c19 dX12_cell_49 (by decide) ?_
          refine g_aload_n hC 1 dX12_cell_118 rfl ?_
          replace h := ob h; obtain ⟨v20, ev20, h⟩ := h
          refine g_getR hC ev20 fk_X12_13 rfl dX12_cell_119 ?_
          refine g_sipush hC 170 dX12_cell_122 (by decide) ?_
          refine g_iload hC 0 dX12_cell_125 rfl ?_
          refine g_iadd hC dX12_cell_127 ?_
          replace h := ob h; obtain ⟨a22, ea22, h⟩ := h
          subst ea22
          replace h := ob h; obtain ⟨v21, ev21, h⟩ := h
          refine g_iald hC ev21 dX12_cell_128 ?_
          exact g_iret hC h ⟨(Nat.le_of_ble_eq_true rfl), (Nat.le_of_ble_eq_true rfl)⟩ dX12_cell_129
        replace h := it_f c19 h
        by_cases c23 : p4 = 3
        · replace h := it_t c23 h
          refine g_tbl (off := 81) hC 130 c23 dX12_cell_49 (by decide) ?_
          refine g_aload_n hC 1 dX12_cell_130 rfl ?_
          replace h := ob h; obtain ⟨v24, ev24, h⟩ := h
          refine g_getR hC ev24 fk_X12_13 rfl dX12_cell_131 ?_
          refine g_sipush hC 250 dX12_cell_134 (by decide) ?_
          refine g_iconst hC 4 dX12_cell_137 (by decide) ?_
          refine g_iload hC 0 dX12_cell_138 rfl ?_
          refine g_imul hC dX12_cell_140 ?_
          refine g_iadd hC dX12_cell_141 ?_
          refine g_iload_n hC 4 dX12_cell_142 rfl ?_
          refine g_iadd hC dX12_cell_143 ?_
          replace h := ob h; obtain ⟨a26, ea26, h⟩ := h
          subst ea26
          replace h := ob h; obtain ⟨v25, ev25, h⟩ := h
          refine g_iald hC ev25 dX12_cell_144 ?_
          exact g_iret hC h ⟨(Nat.le_of_ble_eq_true rfl), (Nat.le_of_ble_eq_true rfl)⟩ dX12_cell_145
        replace h := it_f c23 h
        by_cases c27 : p4 = 4
        · replace h := it_t c27 h
          refine g_tbl (off := 97) hC 146 c27 dX12_cell_49 (by decide) ?_
          refine g_aload_n hC 1 dX12_cell_146 rfl ?_
          replace h := ob h; obtain ⟨v28, ev28, h⟩ := h
          refine g_getR hC ev28 fk_X12_13 rfl dX12_cell_147 ?_
          refine g_sipush hC 570 dX12_cell_150 (by decide) ?_
          refine g_iconst hC 4 dX12_cell_153 (by decide) ?_
          refine g_iload hC 0 dX12_cell_154 rfl ?_
          refine g_imul hC dX12_cell_156 ?_
          refine g_iadd hC dX12_cell_157 ?_
          refine g_iload_n hC 4 dX12_cell_158 rfl ?_
          refine g_iadd hC dX12_cell_159 ?_
          replace h := ob h; obtain ⟨a30, ea30, h⟩ := h
          subst ea30
          replace h := ob h; obtain ⟨v29, ev29, h⟩ := h
          refine g_iald hC ev29 dX12_cell_160 ?_
          exact g_iret hC h ⟨(Nat.le_of_ble_eq_true rfl), (Nat.le_of_ble_eq_true rfl)⟩ dX12_cell_161
        replace h := it_f c27 h
        by_cases c31 : p4 = 5
        · replace h := it_t c31 h
          refine g_tbl (off := 113) hC 162 c31 dX12_cell_49 (by decide) ?_
          refine g_aload_n hC 1 dX12_cell_162 rfl ?_
          replace h := ob h; obtain ⟨v32, ev32, h⟩ := h
          refine g_getR hC ev32 fk_X12_13 rfl dX12_cell_163 ?_
          refine g_sipush hC 890 dX12_cell_166 (by decide) ?_
          refine g_iconst hC 4 dX12_cell_169 (by decide) ?_
          refine g_iload hC 0 dX12_cell_170 rfl ?_
          refine g_imul hC dX12_cell_172 ?_
          refine g_iadd hC dX12_cell_173 ?_
          refine g_iload_n hC 4 dX12_cell_174 rfl ?_
          refine g_iadd hC dX12_cell_175 ?_
          replace h := ob h; obtain ⟨a34, ea34, h⟩ := h
          subst ea34
          replace h := ob h; obtain ⟨v33, ev33, h⟩ := h
          refine g_iald hC ev33 dX12_cell_176 ?_
          exact g_iret hC h ⟨(Nat.le_of_ble_eq_true rfl), (Nat.le_of_ble_eq_true rfl)⟩ dX12_cell_177
        replace h := it_f c31 h
        by_cases c35 : p4 = 6
        · replace h := it_t c35 h
          refine g_tbl (off := 129) hC 178 c35 dX12_cell_49 (by decide) ?_
          refine g_aload_n hC 1 dX12_cell_178 rfl ?_
          replace h := ob h; obtain ⟨v36, ev36, h⟩ := h
          refine g_getR hC ev36 fk_X12_13 rfl dX12_cell_179 ?_
          refine g_sipush hC 1210 dX12_cell_182 (by decide) ?_
          refine g_iconst hC 4 dX12_cell_185 (by decide) ?_
          refine g_iload hC 0 dX12_cell_186 rfl ?_
          refine g_imul hC dX12_cell_188 ?_
          refine g_iadd hC dX12_cell_189 ?_
          refine g_iload_n hC 4 dX12_cell_190 rfl ?_
          refine g_iadd hC dX12_cell_191 ?_
          replace h := ob h; obtain ⟨a38, ea38, h⟩ := h
          subst ea38
          replace h := ob h; obtain ⟨v37, ev37, h⟩ := h
          refine g_iald hC ev37 dX12_cell_192 ?_
          exact g_iret hC h ⟨(Nat.le_of_ble_eq_true rfl), (Nat.le_of_ble_eq_true rfl)⟩ dX12_cell_193
        replace h := it_f c35 h
        by_cases c39 : p4 = 7
        · replace h := it_t c39 h
          refine g_tbl (off := 145) hC 194 c39 dX12_cell_49 (by decide) ?_
          refine g_aload_n hC 1 dX12_cell_194 rfl ?_
          replace h := ob h; obtain ⟨v40, ev40, h⟩ := h
          refine g_getR hC ev40 fk_X12_13 rfl dX12_cell_195 ?_
          refine g_sipush hC 1530 dX12_cell_198 (by decide) ?_
          refine g_iconst hC 4 dX12_cell_201 (by decide) ?_
          refine g_iload hC 0 dX12_cell_202 rfl ?_
          refine g_imul hC dX12_cell_204 ?_
          refine g_iadd hC dX12_cell_205 ?_
          refine g_iload_n hC 4 dX12_cell_206 rfl ?_
          refine g_iadd hC dX12_cell_207 ?_
          replace h := ob h; obtain ⟨a42, ea42, h⟩ := h
          subst ea42
          replace h := ob h; obtain ⟨v41, ev41, h⟩ := h
          refine g_iald hC ev41 dX12_cell_208 ?_
          exact g_iret hC h ⟨(Nat.le_of_ble_eq_true rfl), (Nat.le_of_ble_eq_true rfl)⟩ dX12_cell_209
        replace h := it_f c39 h
        refine g_tbd (n := 8) hC 210 (fun j hj => ?_) (by decide) dX12_cell_49 (by decide) ?_
        · match j, hj with
          | 0, _ => exact c11
          | 1, _ => exact c15
          | 2, _ => exact c19
          | 3, _ => exact c23
          | 4, _ => exact c27
          | 5, _ => exact c31
          | 6, _ => exact c35
          | 7, _ => exact c39
          | j + 8, hj => exact absurd hj (by omega)
        refine g_aload_n hC 1 dX12_cell_210 rfl ?_
        replace h := ob h; obtain ⟨v43, ev43, h⟩ := h
        refine g_getR hC ev43 fk_X12_13 rfl dX12_cell_211 ?_
        refine g_sipush hC 1850 dX12_cell_214 (by decide) ?_
        refine g_iconst hC 4 dX12_cell_217 (by decide) ?_
        refine g_iload hC 0 dX12_cell_218 rfl ?_
        refine g_imul hC dX12_cell_220 ?_
        refine g_iadd hC dX12_cell_221 ?_
        refine g_iload_n hC 4 dX12_cell_222 rfl ?_
        refine g_iadd hC dX12_cell_223 ?_
        replace h := ob h; obtain ⟨a45, ea45, h⟩ := h
        subst ea45
        replace h := ob h; obtain ⟨v44, ev44, h⟩ := h
        refine g_iald hC ev44 dX12_cell_224 ?_
        exact g_iret hC h ⟨(Nat.le_of_ble_eq_true rfl), (Nat.le_of_ble_eq_true rfl)⟩ dX12_cell_225
      refine g_icmp_le hC 39 dX12_cell_24 (by decide) (fun c47 => ?_) (fun c47 => ?_)
      · replace h := it_t c47 h
        refine g_sub [0, 1, 2, 3, 4] rfl ?_
        exact J46  M5 h
      · replace h := it_f c47 h
        refine g_aload_n hC 0 dX12_cell_27 rfl ?_
        refine g_iload_n hC 3 dX12_cell_28 rfl ?_
        refine g_iconst hC 0 dX12_cell_29 (by decide) ?_
        refine g_iconst hC 3 dX12_cell_30 (by decide) ?_
        replace h := ob h; obtain ⟨_, eu49, h⟩ := h
        replace h := ob h; obtain ⟨⟨v50, M48⟩, eM48, h⟩ := h
        refine g_calli hC (r_V hC (As := [.int p3, .int 0, .int 3]) (c_X12_is _ Γ this p3 0 3 M5 M48 v50 eM48) yk_X12_is lk_X12_123 eu49 ⟨_, rfl, rfl⟩ rfl rfl (Nat.le_of_ble_eq_true rfl) hR ⟨(Nat.le_of_ble_eq_true rfl), (Nat.le_of_ble_eq_true rfl)⟩ ⟨(Nat.le_of_ble_eq_true rfl), (Nat.le_of_ble_eq_true rfl)⟩ dX12_cell_31) ?_
        refine g_if_ne hC 39 dX12_cell_34 (by decide) (fun c51 => ?_) (fun c51 => ?_)
        · replace h := it_f c51 h
          refine g_sub [0, 1, 2, 3, 4] rfl ?_
          exact J46  M48 h
        · replace h := it_t c51 h
          refine g_iconst hC (-1) dX12_cell_37 (by decide) ?_
          exact g_iret hC h ⟨(Nat.le_of_ble_eq_true rfl), (Nat.le_of_ble_eq_true rfl)⟩ dX12_cell_38

set_option maxHeartbeats 4000000 in
set_option maxRecDepth 100000 in
theorem c_X12_isGlider (l : Launch) (Γ : Gm) (this : Nat) (p1 : Int32) (M M' : Mm) (r : Int32) (h : F_X12_isGlider this p1 M = some (r, M')) : Met l yX12_isGlider (wz yX12_isGlider cX12_isGlider 2 (some .boolean)) ({ frames := 1, cells := 0, slots := 0, locals := 23 } : Room) (Pq Γ M [.ref this, .int p1]) (Qi Γ r M') 0 0 (fr Γ) := by
  refine met_of (own := RX12) (by decide +kernel) rfl (Nat.le_of_ble_eq_true rfl) ?_
  intro X hC hR hnm hXl
  unfold F_X12_isGlider at h
  show G Γ X 2 M 0 0 _ 0 ([(0, .ref this), (1, .int p1)]) []
  refine g_aload_n hC 0 dX12_isGlider_0 rfl ?_
  refine g_iload_n hC 1 dX12_isGlider_1 rfl ?_
  refine g_iconst hC 0 dX12_isGlider_2 (by decide) ?_
  refine g_aload_n hC 0 dX12_isGlider_3 rfl ?_
  replace h := ob h; obtain ⟨v1, ev1, h⟩ := h
  refine g_getR hC ev1 fk_X12_13 rfl dX12_isGlider_4 ?_
  refine g_iconst hC 0 dX12_isGlider_7 (by decide) ?_
  replace h := ob h; obtain ⟨a3, ea3, h⟩ := h
  subst ea3
  replace h := ob h; obtain ⟨v2, ev2, h⟩ := h
  refine g_iald hC ev2 dX12_isGlider_8 ?_
  refine g_iconst hC 1 dX12_isGlider_9 (by decide) ?_
  refine g_isub hC dX12_isGlider_10 ?_
  replace h := ob h; obtain ⟨_, eu5, h⟩ := h
  replace h := ob h; obtain ⟨⟨v6, M4⟩, eM4, h⟩ := h
  refine g_calli hC (r_V hC (As := [.int p1, .int 0, .int (v2 - 1)]) (c_X12_is _ Γ this p1 0 (v2 - 1) M M4 v6 eM4) yk_X12_is lk_X12_123 eu5 ⟨_, rfl, rfl⟩ rfl rfl (Nat.le_of_ble_eq_true rfl) hR ⟨(Nat.le_of_ble_eq_true rfl), (Nat.le_of_ble_eq_true rfl)⟩ ⟨(Nat.le_of_ble_eq_true rfl), (Nat.le_of_ble_eq_true rfl)⟩ dX12_isGlider_11) ?_
  replace h := ob h; obtain ⟨_, ez, h⟩ := h
  exact g_zret hC (ckZ_e ez) h ⟨(Nat.le_of_ble_eq_true rfl), (Nat.le_of_ble_eq_true rfl)⟩ dX12_isGlider_14

set_option maxHeartbeats 4000000 in
set_option maxRecDepth 100000 in
theorem c_X12_isUp (l : Launch) (Γ : Gm) (this : Nat) (p1 : Int32) (M M' : Mm) (r : Int32) (h : F_X12_isUp this p1 M = some (r, M')) : Met l yX12_isUp (wz yX12_isUp cX12_isUp 2 (some .boolean)) ({ frames := 0, cells := 0, slots := 0, locals := 0 } : Room) (Pq Γ M [.ref this, .int p1]) (Qi Γ r M') 0 0 (fr Γ) := by
  refine met_of (own := RX12) (by decide +kernel) rfl (Nat.le_of_ble_eq_true rfl) ?_
  intro X hC hR hnm hXl
  unfold F_X12_isUp at h
  show G Γ X 2 M 0 0 _ 0 ([(0, .ref this), (1, .int p1)]) []
  refine g_aload_n hC 0 dX12_isUp_0 rfl ?_
  replace h := ob h; obtain ⟨v1, ev1, h⟩ := h
  refine g_getR hC ev1 fk_X12_13 rfl dX12_isUp_1 ?_
  refine g_sipush hC 2202 dX12_isUp_4 (by decide) ?_
  refine g_iload_n hC 1 dX12_isUp_7 rfl ?_
  refine g_iadd hC dX12_isUp_8 ?_
  replace h := ob h; obtain ⟨a3, ea3, h⟩ := h
  subst ea3
  replace h := ob h; obtain ⟨v2, ev2, h⟩ := h
  refine g_iald hC ev2 dX12_isUp_9 ?_
  refine g_if_ne hC 17 dX12_isUp_10 (by decide) (fun c4 => ?_) (fun c4 => ?_)
  · replace h := it_f c4 h
    refine g_iconst hC 0 dX12_isUp_17 (by decide) ?_
    exact g_zret hC (by decide) h ⟨(Nat.le_of_ble_eq_true rfl), (Nat.le_of_ble_eq_true rfl)⟩ dX12_isUp_18
  · replace h := it_t c4 h
    refine g_iconst hC 1 dX12_isUp_13 (by decide) ?_
    refine g_goto hC 18 dX12_isUp_14 (by decide) ?_
    exact g_zret hC (by decide) h ⟨(Nat.le_of_ble_eq_true rfl), (Nat.le_of_ble_eq_true rfl)⟩ dX12_isUp_18

set_option maxHeartbeats 4000000 in
set_option maxRecDepth 100000 in
theorem c_X12_sinks (l : Launch) (Γ : Gm) (this : Nat) (p1 : Int32) (M M' : Mm) (r : Int32) (h : F_X12_sinks this p1 M = some (r, M')) : Met l yX12_sinks (wz yX12_sinks cX12_sinks 2 (some .int)) ({ frames := 0, cells := 0, slots := 0, locals := 0 } : Room) (Pq Γ M [.ref this, .int p1]) (Qi Γ r M') 0 0 (fr Γ) := by
  refine met_of (own := RX12) (by decide +kernel) rfl (Nat.le_of_ble_eq_true rfl) ?_
  intro X hC hR hnm hXl
  unfold F_X12_sinks at h
  show G Γ X 2 M 0 0 _ 0 ([(0, .ref this), (1, .int p1)]) []
  refine g_aload_n hC 0 dX12_sinks_0 rfl ?_
  replace h := ob h; obtain ⟨v1, ev1, h⟩ := h
  refine g_getR hC ev1 fk_X12_13 rfl dX12_sinks_1 ?_
  refine g_sipush hC 2170 dX12_sinks_4 (by decide) ?_
  refine g_iload_n hC 1 dX12_sinks_7 rfl ?_
  refine g_iadd hC dX12_sinks_8 ?_
  replace h := ob h; obtain ⟨a3, ea3, h⟩ := h
  subst ea3
  replace h := ob h; obtain ⟨v2, ev2, h⟩ := h
  refine g_iald hC ev2 dX12_sinks_9 ?_
  refine g_if_ne hC 17 dX12_sinks_10 (by decide) (fun c4 => ?_) (fun c4 => ?_)
  · replace h := it_f c4 h
    refine g_aload_n hC 0 dX12_sinks_17 rfl ?_
    replace h := ob h; obtain ⟨v5, ev5, h⟩ := h
    refine g_getR hC ev5 fk_X12_13 rfl dX12_sinks_18 ?_
    refine g_sipush hC 2170 dX12_sinks_21 (by decide) ?_
    refine g_iload_n hC 1 dX12_sinks_24 rfl ?_
    refine g_iadd hC dX12_sinks_25 ?_
    replace h := ob h; obtain ⟨a7, ea7, h⟩ := h
    subst ea7
    replace h := ob h; obtain ⟨v6, ev6, h⟩ := h
    refine g_iald hC ev6 dX12_sinks_26 ?_
    refine g_iconst hC 2 dX12_sinks_27 (by decide) ?_
    refine g_icmp_ne hC 35 dX12_sinks_28 (by decide) (fun c8 => ?_) (fun c8 => ?_)
    · replace h := it_f c8 h
      refine g_iconst hC 1 dX12_sinks_35 (by decide) ?_
      exact g_iret hC h ⟨(Nat.le_of_ble_eq_true rfl), (Nat.le_of_ble_eq_true rfl)⟩ dX12_sinks_36
    · replace h := it_t c8 h
      refine g_iconst hC 3 dX12_sinks_31 (by decide) ?_
      refine g_goto hC 36 dX12_sinks_32 (by decide) ?_
      exact g_iret hC h ⟨(Nat.le_of_ble_eq_true rfl), (Nat.le_of_ble_eq_true rfl)⟩ dX12_sinks_36
  · replace h := it_t c4 h
    refine g_iconst hC 2 dX12_sinks_13 (by decide) ?_
    refine g_goto hC 36 dX12_sinks_14 (by decide) ?_
    exact g_iret hC h ⟨(Nat.le_of_ble_eq_true rfl), (Nat.le_of_ble_eq_true rfl)⟩ dX12_sinks_36

set_option maxHeartbeats 4000000 in
set_option maxRecDepth 100000 in
theorem c_X12_goes (l : Launch) (Γ : Gm) (this : Nat) (p1 : Int32) (M M' : Mm) (r : Int32) (h : F_X12_goes this p1 M = some (r, M')) : Met l yX12_goes (wz yX12_goes cX12_goes 2 (some .int)) ({ frames := 0, cells := 0, slots := 0, locals := 0 } : Room) (Pq Γ M [.ref this, .int p1]) (Qi Γ r M') 0 0 (fr Γ) := by
  refine met_of (own := RX12) (by decide +kernel) rfl (Nat.le_of_ble_eq_true rfl) ?_
  intro X hC hR hnm hXl
  unfold F_X12_goes at h
  show G Γ X 2 M 0 0 _ 0 ([(0, .ref this), (1, .int p1)]) []
  refine g_aload_n hC 0 dX12_goes_0 rfl ?_
  replace h := ob h; obtain ⟨v1, ev1, h⟩ := h
  refine g_getR hC ev1 fk_X12_13 rfl dX12_goes_1 ?_
  refine g_sipush hC 2170 dX12_goes_4 (by decide) ?_
  refine g_iload_n hC 1 dX12_goes_7 rfl ?_
  refine g_iadd hC dX12_goes_8 ?_
  replace h := ob h; obtain ⟨a3, ea3, h⟩ := h
  subst ea3
  replace h := ob h; obtain ⟨v2, ev2, h⟩ := h
  refine g_iald hC ev2 dX12_goes_9 ?_
  refine g_if_ne hC 17 dX12_goes_10 (by decide) (fun c4 => ?_) (fun c4 => ?_)
  · replace h := it_f c4 h
    refine g_aload_n hC 0 dX12_goes_17 rfl ?_
    replace h := ob h; obtain ⟨v5, ev5, h⟩ := h
    refine g_getR hC ev5 fk_X12_13 rfl dX12_goes_18 ?_
    refine g_sipush hC 2170 dX12_goes_21 (by decide) ?_
    refine g_iload_n hC 1 dX12_goes_24 rfl ?_
    refine g_iadd hC dX12_goes_25 ?_
    replace h := ob h; obtain ⟨a7, ea7, h⟩ := h
    subst ea7
    replace h := ob h; obtain ⟨v6, ev6, h⟩ := h
    refine g_iald hC ev6 dX12_goes_26 ?_
    refine g_iconst hC 1 dX12_goes_27 (by decide) ?_
    refine g_icmp_ne hC 35 dX12_goes_28 (by decide) (fun c8 => ?_) (fun c8 => ?_)
    · replace h := it_f c8 h
      refine g_aload_n hC 0 dX12_goes_35 rfl ?_
      replace h := ob h; obtain ⟨v9, ev9, h⟩ := h
      refine g_getR hC ev9 fk_X12_13 rfl dX12_goes_36 ?_
      refine g_sipush hC 2170 dX12_goes_39 (by decide) ?_
      refine g_iload_n hC 1 dX12_goes_42 rfl ?_
      refine g_iadd hC dX12_goes_43 ?_
      replace h := ob h; obtain ⟨a11, ea11, h⟩ := h
      subst ea11
      replace h := ob h; obtain ⟨v10, ev10, h⟩ := h
      refine g_iald hC ev10 dX12_goes_44 ?_
      refine g_iconst hC 2 dX12_goes_45 (by decide) ?_
      refine g_icmp_ne hC 53 dX12_goes_46 (by decide) (fun c12 => ?_) (fun c12 => ?_)
      · replace h := it_f c12 h
        refine g_iconst hC 4 dX12_goes_53 (by decide) ?_
        exact g_iret hC h ⟨(Nat.le_of_ble_eq_true rfl), (Nat.le_of_ble_eq_true rfl)⟩ dX12_goes_54
      · replace h := it_t c12 h
        refine g_iconst hC 1 dX12_goes_49 (by decide) ?_
        refine g_goto hC 54 dX12_goes_50 (by decide) ?_
        exact g_iret hC h ⟨(Nat.le_of_ble_eq_true rfl), (Nat.le_of_ble_eq_true rfl)⟩ dX12_goes_54
    · replace h := it_t c8 h
      refine g_iconst hC 3 dX12_goes_31 (by decide) ?_
      refine g_goto hC 54 dX12_goes_32 (by decide) ?_
      exact g_iret hC h ⟨(Nat.le_of_ble_eq_true rfl), (Nat.le_of_ble_eq_true rfl)⟩ dX12_goes_54
  · replace h := it_t c4 h
    refine g_iconst hC 2 dX12_goes_13 (by decide) ?_
    refine g_goto hC 54 dX12_goes_14 (by decide) ?_
    exact g_iret hC h ⟨(Nat.le_of_ble_eq_true rfl), (Nat.le_of_ble_eq_true rfl)⟩ dX12_goes_54

set_option maxHeartbeats 4000000 in
set_option maxRecDepth 100000 in
theorem c_X12_dry (l : Launch) (Γ : Gm) (this : Nat) (p1 : Int32) (p2 : Int32) (M M' : Mm) (r : Int32) (h : F_X12_dry this p1 p2 M = some (r, M')) : Met l yX12_dry (wz yX12_dry cX12_dry 3 (some .int)) ({ frames := 0, cells := 0, slots := 0, locals := 0 } : Room) (Pq Γ M [.ref this, .int p1, .int p2]) (Qi Γ r M') 0 0 (fr Γ) := by
  refine met_of (own := RX12) (by decide +kernel) rfl (Nat.le_of_ble_eq_true rfl) ?_
  intro X hC hR hnm hXl
  unfold F_X12_dry at h
  show G Γ X 3 M 0 0 _ 0 ([(0, .ref this), (1, .int p1), (2, .int p2)]) []
  refine g_iload_n hC 1 dX12_dry_0 rfl ?_
  refine g_if_ne hC 12 dX12_dry_1 (by decide) (fun c1 => ?_) (fun c1 => ?_)
  · replace h := it_f c1 h
    refine g_iload_n hC 1 dX12_dry_12 rfl ?_
    refine g_iconst hC 1 dX12_dry_13 (by decide) ?_
    refine g_icmp_ne hC 23 dX12_dry_14 (by decide) (fun c2 => ?_) (fun c2 => ?_)
    · replace h := it_f c2 h
      refine g_iconst hC 3 dX12_dry_23 (by decide) ?_
      refine g_iload_n hC 1 dX12_dry_24 rfl ?_
      refine g_iconst hC 2 dX12_dry_25 (by decide) ?_
      replace h := nv_e h; obtain ⟨v3, ev3, h⟩ := h
      have J4 : G Γ X 3 M 0 0 (Fin Γ X (Qi Γ r M') 0 0) 36 ([(0, .ref this), (1, .int p1), (2, .int p2)]) ([.int v3, .int 3]) := by
        refine g_iadd hC dX12_dry_36 ?_
        exact g_iret hC h ⟨(Nat.le_of_ble_eq_true rfl), (Nat.le_of_ble_eq_true rfl)⟩ dX12_dry_37
      refine g_icmp_ne hC 35 dX12_dry_26 (by decide) (fun c5 => ?_) (fun c5 => ?_)
      · refine g_iload_n hC 2 dX12_dry_35 rfl ?_
        rw [show v3 = _ from ev3.trans (if_neg c5)] at J4
        exact J4
      · refine g_iconst hC 2 dX12_dry_29 (by decide) ?_
        refine g_iload_n hC 2 dX12_dry_30 rfl ?_
        refine g_imul hC dX12_dry_31 ?_
        refine g_goto hC 36 dX12_dry_32 (by decide) ?_
        rw [show v3 = _ from ev3.trans (if_pos c5)] at J4
        exact J4
    · replace h := it_t c2 h
      refine g_iconst hC 2 dX12_dry_17 (by decide) ?_
      refine g_iload_n hC 2 dX12_dry_18 rfl ?_
      refine g_iadd hC dX12_dry_19 ?_
      refine g_goto hC 37 dX12_dry_20 (by decide) ?_
      exact g_iret hC h ⟨(Nat.le_of_ble_eq_true rfl), (Nat.le_of_ble_eq_true rfl)⟩ dX12_dry_37
  · replace h := it_t c1 h
    refine g_iconst hC 4 dX12_dry_4 (by decide) ?_
    refine g_iconst hC 2 dX12_dry_5 (by decide) ?_
    refine g_iload_n hC 2 dX12_dry_6 rfl ?_
    refine g_imul hC dX12_dry_7 ?_
    refine g_iadd hC dX12_dry_8 ?_
    refine g_goto hC 37 dX12_dry_9 (by decide) ?_
    exact g_iret hC h ⟨(Nat.le_of_ble_eq_true rfl), (Nat.le_of_ble_eq_true rfl)⟩ dX12_dry_37

set_option maxHeartbeats 4000000 in
set_option maxRecDepth 100000 in
theorem c_X12_cost (l : Launch) (Γ : Gm) (this : Nat) (p1 : Int32) (p2 : Int32) (M M' : Mm) (r : Int32) (h : F_X12_cost this p1 p2 M = some (r, M')) : Met l yX12_cost (wz yX12_cost cX12_cost 3 (some .int)) ({ frames := 1, cells := 0, slots := 0, locals := 22 } : Room) (Pq Γ M [.ref this, .int p1, .int p2]) (Qi Γ r M') 0 0 (fr Γ) := by
  refine met_of (own := RX12) (by decide +kernel) rfl (Nat.le_of_ble_eq_true rfl) ?_
  intro X hC hR hnm hXl
  unfold F_X12_cost at h
  show G Γ X 3 M 0 0 _ 0 ([(0, .ref this), (1, .int p1), (2, .int p2)]) []
  refine g_aload_n hC 0 dX12_cost_0 rfl ?_
  refine g_aload_n hC 0 dX12_cost_1 rfl ?_
  replace h := ob h; obtain ⟨v1, ev1, h⟩ := h
  refine g_getR hC ev1 fk_X12_13 rfl dX12_cost_2 ?_
  refine g_sipush hC 2170 dX12_cost_5 (by decide) ?_
  refine g_iload_n hC 1 dX12_cost_8 rfl ?_
  refine g_iadd hC dX12_cost_9 ?_
  replace h := ob h; obtain ⟨a3, ea3, h⟩ := h
  subst ea3
  replace h := ob h; obtain ⟨v2, ev2, h⟩ := h
  refine g_iald hC ev2 dX12_cost_10 ?_
  refine g_iload_n hC 2 dX12_cost_11 rfl ?_
  replace h := ob h; obtain ⟨_, eu5, h⟩ := h
  replace h := ob h; obtain ⟨⟨v6, M4⟩, eM4, h⟩ := h
  refine g_calli hC (r_V hC (As := [.int v2, .int p2]) (c_X12_dry _ Γ this v2 p2 M M4 v6 eM4) yk_X12_dry lk_X12_131 eu5 ⟨_, rfl, rfl⟩ rfl rfl (Nat.le_of_ble_eq_true rfl) hR ⟨(Nat.le_of_ble_eq_true rfl), (Nat.le_of_ble_eq_true rfl)⟩ ⟨(Nat.le_of_ble_eq_true rfl), (Nat.le_of_ble_eq_true rfl)⟩ dX12_cost_12) ?_
  refine g_aload_n hC 0 dX12_cost_15 rfl ?_
  replace h := ob h; obtain ⟨v7, ev7, h⟩ := h
  refine g_getR hC ev7 fk_X12_13 rfl dX12_cost_16 ?_
  refine g_sipush hC 2210 dX12_cost_19 (by decide) ?_
  refine g_iload_n hC 1 dX12_cost_22 rfl ?_
  refine g_iadd hC dX12_cost_23 ?_
  replace h := ob h; obtain ⟨a9, ea9, h⟩ := h
  subst ea9
  replace h := ob h; obtain ⟨v8, ev8, h⟩ := h
  refine g_iald hC ev8 dX12_cost_24 ?_
  refine g_iconst hC 1 dX12_cost_25 (by decide) ?_
  replace h := nv_e h; obtain ⟨v10, ev10, h⟩ := h
  have J11 : G Γ X 3 M4 0 0 (Fin Γ X (Qi Γ r M') 0 0) 34 ([(0, .ref this), (1, .int p1), (2, .int p2)]) ([.int v10, .int v6]) := by
    refine g_iadd hC dX12_cost_34 ?_
    exact g_iret hC h ⟨(Nat.le_of_ble_eq_true rfl), (Nat.le_of_ble_eq_true rfl)⟩ dX12_cost_35
  refine g_icmp_ne hC 33 dX12_cost_26 (by decide) (fun c12 => ?_) (fun c12 => ?_)
  · refine g_iconst hC 0 dX12_cost_33 (by decide) ?_
    rw [show v10 = _ from ev10.trans (if_neg c12)] at J11
    exact J11
  · refine g_iconst hC 3 dX12_cost_29 (by decide) ?_
    refine g_goto hC 34 dX12_cost_30 (by decide) ?_
    rw [show v10 = _ from ev10.trans (if_pos c12)] at J11
    exact J11

set_option maxHeartbeats 4000000 in
set_option maxRecDepth 100000 in
theorem c_X12_layerFor (l : Launch) (Γ : Gm) (this : Nat) (p1 : Int32) (p2 : Int32) (M M' : Mm) (r : Int32) (h : F_X12_layerFor this p1 p2 M = some (r, M')) : Met l yX12_layerFor (wz yX12_layerFor cX12_layerFor 3 (some .int)) ({ frames := 1, cells := 0, slots := 0, locals := 21 } : Room) (Pq Γ M [.ref this, .int p1, .int p2]) (Qi Γ r M') 0 0 (fr Γ) := by
  refine met_of (own := RX12) (by decide +kernel) rfl (Nat.le_of_ble_eq_true rfl) ?_
  intro X hC hR hnm hXl
  unfold F_X12_layerFor at h
  show G Γ X 3 M 0 0 _ 0 ([(0, .ref this), (1, .int p1), (2, .int p2)]) []
  refine g_iload_n hC 2 dX12_layerFor_0 rfl ?_
  refine g_aload_n hC 0 dX12_layerFor_1 rfl ?_
  refine g_iload_n hC 1 dX12_layerFor_2 rfl ?_
  replace h := ob h; obtain ⟨_, eu2, h⟩ := h
  replace h := ob h; obtain ⟨⟨v3, M1⟩, eM1, h⟩ := h
  refine g_calli hC (r_V hC (As := [.int p1]) (c_X12_sinks _ Γ this p1 M M1 v3 eM1) yk_X12_sinks lk_X12_135 eu2 ⟨_, rfl, rfl⟩ rfl rfl (Nat.le_of_ble_eq_true rfl) hR ⟨(Nat.le_of_ble_eq_true rfl), (Nat.le_of_ble_eq_true rfl)⟩ ⟨(Nat.le_of_ble_eq_true rfl), (Nat.le_of_ble_eq_true rfl)⟩ dX12_layerFor_3) ?_
  refine g_icmp_ge hC 13 dX12_layerFor_6 (by decide) (fun c4 => ?_) (fun c4 => ?_)
  · replace h := it_t c4 h
    refine g_aload_n hC 0 dX12_layerFor_13 rfl ?_
    refine g_iload_n hC 1 dX12_layerFor_14 rfl ?_
    replace h := ob h; obtain ⟨_, eu6, h⟩ := h
    replace h := ob h; obtain ⟨⟨v7, M5⟩, eM5, h⟩ := h
    refine g_calli hC (r_V hC (As := [.int p1]) (c_X12_sinks _ Γ this p1 M1 M5 v7 eM5) yk_X12_sinks lk_X12_135 eu6 ⟨_, rfl, rfl⟩ rfl rfl (Nat.le_of_ble_eq_true rfl) hR ⟨(Nat.le_of_ble_eq_true rfl), (Nat.le_of_ble_eq_true rfl)⟩ ⟨(Nat.le_of_ble_eq_true rfl), (Nat.le_of_ble_eq_true rfl)⟩ dX12_layerFor_15) ?_
    exact g_iret hC h ⟨(Nat.le_of_ble_eq_true rfl), (Nat.le_of_ble_eq_true rfl)⟩ dX12_layerFor_18
  · replace h := it_f c4 h
    refine g_iload_n hC 2 dX12_layerFor_9 rfl ?_
    refine g_goto hC 18 dX12_layerFor_10 (by decide) ?_
    exact g_iret hC h ⟨(Nat.le_of_ble_eq_true rfl), (Nat.le_of_ble_eq_true rfl)⟩ dX12_layerFor_18

set_option maxHeartbeats 4000000 in
set_option maxRecDepth 100000 in
theorem c_X12_glider (l : Launch) (Γ : Gm) (this : Nat) (p1 : Int32) (p2 : Int32) (p3 : Int32) (p4 : Int32) (M M' : Mm) (r : Int32) (h : F_X12_glider this p1 p2 p3 p4 M = some (r, M')) : Met l yX12_glider (wz yX12_glider cX12_glider 6 (some .int)) ({ frames := 3, cells := 0, slots := 0, locals := 67 } : Room) (Pq Γ M [.ref this, .int p1, .int p2, .int p3, .int p4]) (Qi Γ r M') 0 0 (fr Γ) := by
  refine met_of (own := RX12) (by decide +kernel) rfl (Nat.le_of_ble_eq_true rfl) ?_
  intro X hC hR hnm hXl
  unfold F_X12_glider at h
  show G Γ X 6 M 0 0 _ 0 ([(0, .ref this), (1, .int p1), (2, .int p2), (3, .int p3), (4, .int p4)]) []
  refine g_aload_n hC 0 dX12_glider_0 rfl ?_
  refine g_iload_n hC 1 dX12_glider_1 rfl ?_
  refine g_iconst hC 0 dX12_glider_2 (by decide) ?_
  refine g_iconst hC 3 dX12_glider_3 (by decide) ?_
  replace h := ob h; obtain ⟨_, eu2, h⟩ := h
  replace h := ob h; obtain ⟨⟨v3, M1⟩, eM1, h⟩ := h
  refine g_calli hC (r_V hC (As := [.int p1, .int 0, .int 3]) (c_X12_is _ Γ this p1 0 3 M M1 v3 eM1) yk_X12_is lk_X12_123 eu2 ⟨_, rfl, rfl⟩ rfl rfl (Nat.le_of_ble_eq_true rfl) hR ⟨(Nat.le_of_ble_eq_true rfl), (Nat.le_of_ble_eq_true rfl)⟩ ⟨(Nat.le_of_ble_eq_true rfl), (Nat.le_of_ble_eq_true rfl)⟩ dX12_glider_4) ?_
  refine g_if_eq hC 32 dX12_glider_7 (by decide) (fun c4 => ?_) (fun c4 => ?_)
  · replace h := it_t c4 h
    refine g_iconst hC (-1) dX12_glider_32 (by decide) ?_
    exact g_iret hC h ⟨(Nat.le_of_ble_eq_true rfl), (Nat.le_of_ble_eq_true rfl)⟩ dX12_glider_33
  · replace h := it_f c4 h
    refine g_aload_n hC 0 dX12_glider_10 rfl ?_
    refine g_iload_n hC 2 dX12_glider_11 rfl ?_
    refine g_iload_n hC 3 dX12_glider_12 rfl ?_
    replace h := ob h; obtain ⟨_, eu6, h⟩ := h
    replace h := ob h; obtain ⟨⟨v7, M5⟩, eM5, h⟩ := h
    refine g_calli hC (r_V hC (As := [.int p2, .int p3]) (c_X12_isCell _ Γ this p2 p3 M1 M5 v7 eM5) yk_X12_isCell lk_X12_127 eu6 ⟨_, rfl, rfl⟩ rfl rfl (Nat.le_of_ble_eq_true rfl) hR ⟨(Nat.le_of_ble_eq_true rfl), (Nat.le_of_ble_eq_true rfl)⟩ ⟨(Nat.le_of_ble_eq_true rfl), (Nat.le_of_ble_eq_true rfl)⟩ dX12_glider_13) ?_
    refine g_if_eq hC 32 dX12_glider_16 (by decide) (fun c8 => ?_) (fun c8 => ?_)
    · replace h := it_t c8 h
      refine g_iconst hC (-1) dX12_glider_32 (by decide) ?_
      exact g_iret hC h ⟨(Nat.le_of_ble_eq_true rfl), (Nat.le_of_ble_eq_true rfl)⟩ dX12_glider_33
    · replace h := it_f c8 h
      refine g_aload_n hC 0 dX12_glider_19 rfl ?_
      refine g_iload hC 4 dX12_glider_20 rfl ?_
      refine g_iconst hC 0 dX12_glider_22 (by decide) ?_
      refine g_sipush hC 999 dX12_glider_23 (by decide) ?_
      replace h := ob h; obtain ⟨_, eu10, h⟩ := h
      replace h := ob h; obtain ⟨⟨v11, M9⟩, eM9, h⟩ := h
      refine g_calli hC (r_V hC (As := [.int p4, .int 0, .int 999]) (c_X12_is _ Γ this p4 0 999 M5 M9 v11 eM9) yk_X12_is lk_X12_123 eu10 ⟨_, rfl, rfl⟩ rfl rfl (Nat.le_of_ble_eq_true rfl) hR ⟨(Nat.le_of_ble_eq_true rfl), (Nat.le_of_ble_eq_true rfl)⟩ ⟨(Nat.le_of_ble_eq_true rfl), (Nat.le_of_ble_eq_true rfl)⟩ dX12_glider_26) ?_
      refine g_if_ne hC 34 dX12_glider_29 (by decide) (fun c12 => ?_) (fun c12 => ?_)
      · replace h := it_f c12 h
        refine g_aload_n hC 0 dX12_glider_34 rfl ?_
        replace h := ob h; obtain ⟨v13, ev13, h⟩ := h
        refine g_getR hC ev13 fk_X12_13 rfl dX12_glider_35 ?_
        refine g_iconst hC 0 dX12_glider_38 (by decide) ?_
        replace h := ob h; obtain ⟨a15, ea15, h⟩ := h
        subst ea15
        replace h := ob h; obtain ⟨v14, ev14, h⟩ := h
        refine g_iald hC ev14 dX12_glider_39 ?_
        refine g_istore hC ([(5, .int v14), (0, .ref this), (1, .int p1), (2, .int p2), (3, .int p3), (4, .int p4)]) dX12_glider_40 (by decide) rfl ?_
        refine g_iload hC 0 dX12_glider_42 rfl ?_
        refine g_bipush hC 8 dX12_glider_44 (by decide) ?_
        refine g_icmp_ne hC 52 dX12_glider_46 (by decide) (fun c16 => ?_) (fun c16 => ?_)
        · replace h := it_f c16 h
          refine g_aload_n hC 1 dX12_glider_52 rfl ?_
          refine g_iload_n hC 3 dX12_glider_53 rfl ?_
          refine g_iload_n hC 4 dX12_glider_54 rfl ?_
          replace h := ob h; obtain ⟨_, eu18, h⟩ := h
          replace h := ob h; obtain ⟨⟨v19, M17⟩, eM17, h⟩ := h
          refine g_calli hC (r_V hC (As := [.int p2, .int p3]) (c_X12_isWater _ Γ this p2 p3 M9 M17 v19 eM17) yk_X12_isWater lk_X12_139 eu18 ⟨_, rfl, rfl⟩ rfl rfl (Nat.le_of_ble_eq_true rfl) hR ⟨(Nat.le_of_ble_eq_true rfl), (Nat.le_of_ble_eq_true rfl)⟩ ⟨(Nat.le_of_ble_eq_true rfl), (Nat.le_of_ble_eq_true rfl)⟩ dX12_glider_55) ?_
          refine g_if_ne hC 64 dX12_glider_58 (by decide) (fun c20 => ?_) (fun c20 => ?_)
          · replace h := it_f c20 h
            refine g_aload_n hC 1 dX12_glider_64 rfl ?_
            replace h := ob h; obtain ⟨v21, ev21, h⟩ := h
            refine g_getR hC ev21 fk_X12_13 rfl dX12_glider_65 ?_
            refine g_sipush hC 2170 dX12_glider_68 (by decide) ?_
            refine g_iload hC 0 dX12_glider_71 rfl ?_
            refine g_iadd hC dX12_glider_73 ?_
            refine g_iload_n hC 2 dX12_glider_74 rfl ?_
            replace h := ob h; obtain ⟨a23, ea23, h⟩ := h
            subst ea23
            replace h := ob h; obtain ⟨M22, eM22, h⟩ := h
            refine g_iast hC eM22 dX12_glider_75 ?_
            refine g_aload_n hC 1 dX12_glider_76 rfl ?_
            replace h := ob h; obtain ⟨v24, ev24, h⟩ := h
            refine g_getR hC ev24 fk_X12_13 rfl dX12_glider_77 ?_
            refine g_sipush hC 2178 dX12_glider_80 (by decide) ?_
            refine g_iload hC 0 dX12_glider_83 rfl ?_
            refine g_iadd hC dX12_glider_85 ?_
            refine g_iload_n hC 3 dX12_glider_86 rfl ?_
            replace h := ob h; obtain ⟨a26, ea26, h⟩ := h
            subst ea26
            replace h := ob h; obtain ⟨M25, eM25, h⟩ := h
            refine g_iast hC eM25 dX12_glider_87 ?_
            refine g_aload_n hC 1 dX12_glider_88 rfl ?_
            replace h := ob h; obtain ⟨v27, ev27, h⟩ := h
            refine g_getR hC ev27 fk_X12_13 rfl dX12_glider_89 ?_
            refine g_sipush hC 2186 dX12_glider_92 (by decide) ?_
            refine g_iload hC 0 dX12_glider_95 rfl ?_
            refine g_iadd hC dX12_glider_97 ?_
            refine g_iload_n hC 4 dX12_glider_98 rfl ?_
            replace h := ob h; obtain ⟨a29, ea29, h⟩ := h
            subst ea29
            replace h := ob h; obtain ⟨M28, eM28, h⟩ := h
            refine g_iast hC eM28 dX12_glider_99 ?_
            refine g_aload_n hC 1 dX12_glider_100 rfl ?_
            replace h := ob h; obtain ⟨v30, ev30, h⟩ := h
            refine g_getR hC ev30 fk_X12_13 rfl dX12_glider_101 ?_
            refine g_sipush hC 2194 dX12_glider_104 (by decide) ?_
            refine g_iload hC 0 dX12_glider_107 rfl ?_
            refine g_iadd hC dX12_glider_109 ?_
            refine g_iload hC 5 dX12_glider_110 rfl ?_
            replace h := ob h; obtain ⟨a32, ea32, h⟩ := h
            subst ea32
            replace h := ob h; obtain ⟨M31, eM31, h⟩ := h
            refine g_iast hC eM31 dX12_glider_112 ?_
            refine g_aload_n hC 1 dX12_glider_113 rfl ?_
            replace h := ob h; obtain ⟨v33, ev33, h⟩ := h
            refine g_getR hC ev33 fk_X12_13 rfl dX12_glider_114 ?_
            refine g_sipush hC 2226 dX12_glider_117 (by decide) ?_
            refine g_iload hC 0 dX12_glider_120 rfl ?_
            refine g_iadd hC dX12_glider_122 ?_
            refine g_bipush hC (-4) dX12_glider_123 (by decide) ?_
            replace h := ob h; obtain ⟨a35, ea35, h⟩ := h
            subst ea35
            replace h := ob h; obtain ⟨M34, eM34, h⟩ := h
            refine g_iast hC eM34 dX12_glider_125 ?_
            refine g_aload_n hC 1 dX12_glider_126 rfl ?_
            replace h := ob h; obtain ⟨v36, ev36, h⟩ := h
            refine g_getR hC ev36 fk_X12_13 rfl dX12_glider_127 ?_
            refine g_sipush hC 2234 dX12_glider_130 (by decide) ?_
            refine g_iload hC 0 dX12_glider_133 rfl ?_
            refine g_iadd hC dX12_glider_135 ?_
            refine g_bipush hC (-4) dX12_glider_136 (by decide) ?_
            replace h := ob h; obtain ⟨a38, ea38, h⟩ := h
            subst ea38
            replace h := ob h; obtain ⟨M37, eM37, h⟩ := h
            refine g_iast hC eM37 dX12_glider_138 ?_
            refine g_aload_n hC 1 dX12_glider_139 rfl ?_
            replace h := ob h; obtain ⟨v39, ev39, h⟩ := h
            refine g_getR hC ev39 fk_X12_13 rfl dX12_glider_140 ?_
            refine g_sipush hC 2250 dX12_glider_143 (by decide) ?_
            refine g_iload hC 0 dX12_glider_146 rfl ?_
            refine g_iadd hC dX12_glider_148 ?_
            refine g_bipush hC (-4) dX12_glider_149 (by decide) ?_
            replace h := ob h; obtain ⟨a41, ea41, h⟩ := h
            subst ea41
            replace h := ob h; obtain ⟨M40, eM40, h⟩ := h
            refine g_iast hC eM40 dX12_glider_151 ?_
            refine g_aload_n hC 1 dX12_glider_152 rfl ?_
            replace h := ob h; obtain ⟨v42, ev42, h⟩ := h
            refine g_getR hC ev42 fk_X12_13 rfl dX12_glider_153 ?_
            refine g_iconst hC 0 dX12_glider_156 (by decide) ?_
            refine g_dup2 hC dX12_glider_157 rfl (cat_rf _) ?_
            replace h := ob h; obtain ⟨a44, ea44, h⟩ := h
            subst ea44
            replace h := ob h; obtain ⟨v43, ev43, h⟩ := h
            refine g_iald hC ev43 dX12_glider_158 ?_
            refine g_iconst hC 1 dX12_glider_159 (by decide) ?_
            refine g_iadd hC dX12_glider_160 ?_
            replace h := ob h; obtain ⟨M45, eM45, h⟩ := h
            refine g_iast hC eM45 dX12_glider_161 ?_
            refine g_iload hC 0 dX12_glider_162 rfl ?_
            exact g_iret hC h ⟨(Nat.le_of_ble_eq_true rfl), (Nat.le_of_ble_eq_true rfl)⟩ dX12_glider_164
          · replace h := it_t c20 h
            refine g_bipush hC (-3) dX12_glider_61 (by decide) ?_
            exact g_iret hC h ⟨(Nat.le_of_ble_eq_true rfl), (Nat.le_of_ble_eq_true rfl)⟩ dX12_glider_63
        · replace h := it_t c16 h
          refine g_bipush hC (-2) dX12_glider_49 (by decide) ?_
          exact g_iret hC h ⟨(Nat.le_of_ble_eq_true rfl), (Nat.le_of_ble_eq_true rfl)⟩ dX12_glider_51
      · replace h := it_t c12 h
        refine g_iconst hC (-1) dX12_glider_32 (by decide) ?_
        exact g_iret hC h ⟨(Nat.le_of_ble_eq_true rfl), (Nat.le_of_ble_eq_true rfl)⟩ dX12_glider_33

set_option maxHeartbeats 4000000 in
set_option maxRecDepth 100000 in
theorem c_X12_about (l : Launch) (Γ : Gm) (this : Nat) (p1 : Int32) (p2 : Int32) (M M' : Mm) (r : Int32) (h : F_X12_about this p1 p2 M = some (r, M')) : Met l yX12_about (wz yX12_about cX12_about 3 (some .int)) ({ frames := 2, cells := 0, slots := 0, locals := 44 } : Room) (Pq Γ M [.ref this, .int p1, .int p2]) (Qi Γ r M') 0 0 (fr Γ) := by
  refine met_of (own := RX12) (by decide +kernel) rfl (Nat.le_of_ble_eq_true rfl) ?_
  intro X hC hR hnm hXl
  unfold F_X12_about at h
  show G Γ X 3 M 0 0 _ 0 ([(0, .ref this), (1, .int p1), (2, .int p2)]) []
  refine g_aload_n hC 0 dX12_about_0 rfl ?_
  refine g_iload_n hC 1 dX12_about_1 rfl ?_
  replace h := ob h; obtain ⟨_, eu2, h⟩ := h
  replace h := ob h; obtain ⟨⟨v3, M1⟩, eM1, h⟩ := h
  refine g_calli hC (r_V hC (As := [.int p1]) (c_X12_isGlider _ Γ this p1 M M1 v3 eM1) yk_X12_isGlider lk_X12_142 eu2 ⟨_, rfl, rfl⟩ rfl rfl (Nat.le_of_ble_eq_true rfl) hR ⟨(Nat.le_of_ble_eq_true rfl), (Nat.le_of_ble_eq_true rfl)⟩ ⟨(Nat.le_of_ble_eq_true rfl), (Nat.le_of_ble_eq_true rfl)⟩ dX12_about_2) ?_
  refine g_if_ne hC 10 dX12_about_5 (by decide) (fun c4 => ?_) (fun c4 => ?_)
  · replace h := it_f c4 h
    refine g_iload_n hC 2 dX12_about_10 rfl ?_
    by_cases c5 : p2 = 0
    · replace h := it_t c5 h
      refine g_tbl (off := 57) hC 68 c5 dX12_about_11 (by decide) ?_
      refine g_aload_n hC 0 dX12_about_68 rfl ?_
      replace h := ob h; obtain ⟨v6, ev6, h⟩ := h
      refine g_getR hC ev6 fk_X12_13 rfl dX12_about_69 ?_
      refine g_sipush hC 2170 dX12_about_72 (by decide) ?_
      refine g_iload_n hC 1 dX12_about_75 rfl ?_
      refine g_iadd hC dX12_about_76 ?_
      replace h := ob h; obtain ⟨a8, ea8, h⟩ := h
      subst ea8
      replace h := ob h; obtain ⟨v7, ev7, h⟩ := h
      refine g_iald hC ev7 dX12_about_77 ?_
      exact g_iret hC h ⟨(Nat.le_of_ble_eq_true rfl), (Nat.le_of_ble_eq_true rfl)⟩ dX12_about_78
    replace h := it_f c5 h
    by_cases c9 : p2 = 1
    · replace h := it_t c9 h
      refine g_tbl (off := 68) hC 79 c9 dX12_about_11 (by decide) ?_
      refine g_aload_n hC 0 dX12_about_79 rfl ?_
      replace h := ob h; obtain ⟨v10, ev10, h⟩ := h
      refine g_getR hC ev10 fk_X12_13 rfl dX12_about_80 ?_
      refine g_sipush hC 2178 dX12_about_83 (by decide) ?_
      refine g_iload_n hC 1 dX12_about_86 rfl ?_
      refine g_iadd hC dX12_about_87 ?_
      replace h := ob h; obtain ⟨a12, ea12, h⟩ := h
      subst ea12
      replace h := ob h; obtain ⟨v11, ev11, h⟩ := h
      refine g_iald hC ev11 dX12_about_88 ?_
      exact g_iret hC h ⟨(Nat.le_of_ble_eq_true rfl), (Nat.le_of_ble_eq_true rfl)⟩ dX12_about_89
    replace h := it_f c9 h
    by_cases c13 : p2 = 2
    · replace h := it_t c13 h
      refine g_tbl (off := 79) hC 90 c13 dX12_about_11 (by decide) ?_
      refine g_aload_n hC 0 dX12_about_90 rfl ?_
      replace h := ob h; obtain ⟨v14, ev14, h⟩ := h
      refine g_getR hC ev14 fk_X12_13 rfl dX12_about_91 ?_
      refine g_sipush hC 2186 dX12_about_94 (by decide) ?_
      refine g_iload_n hC 1 dX12_about_97 rfl ?_
      refine g_iadd hC dX12_about_98 ?_
      replace h := ob h; obtain ⟨a16, ea16, h⟩ := h
      subst ea16
      replace h := ob h; obtain ⟨v15, ev15, h⟩ := h
      refine g_iald hC ev15 dX12_about_99 ?_
      exact g_iret hC h ⟨(Nat.le_of_ble_eq_true rfl), (Nat.le_of_ble_eq_true rfl)⟩ dX12_about_100
    replace h := it_f c13 h
    by_cases c17 : p2 = 3
    · replace h := it_t c17 h
      refine g_tbl (off := 90) hC 101 c17 dX12_about_11 (by decide) ?_
      refine g_aload_n hC 0 dX12_about_101 rfl ?_
      replace h := ob h; obtain ⟨v18, ev18, h⟩ := h
      refine g_getR hC ev18 fk_X12_13 rfl dX12_about_102 ?_
      refine g_sipush hC 2194 dX12_about_105 (by decide) ?_
      refine g_iload_n hC 1 dX12_about_108 rfl ?_
      refine g_iadd hC dX12_about_109 ?_
      replace h := ob h; obtain ⟨a20, ea20, h⟩ := h
      subst ea20
      replace h := ob h; obtain ⟨v19, ev19, h⟩ := h
      refine g_iald hC ev19 dX12_about_110 ?_
      exact g_iret hC h ⟨(Nat.le_of_ble_eq_true rfl), (Nat.le_of_ble_eq_true rfl)⟩ dX12_about_111
    replace h := it_f c17 h
    by_cases c21 : p2 = 4
    · replace h := it_t c21 h
      refine g_tbl (off := 101) hC 112 c21 dX12_about_11 (by decide) ?_
      refine g_aload_n hC 0 dX12_about_112 rfl ?_
      replace h := ob h; obtain ⟨v22, ev22, h⟩ := h
      refine g_getR hC ev22 fk_X12_13 rfl dX12_about_113 ?_
      refine g_sipush hC 2202 dX12_about_116 (by decide) ?_
      refine g_iload_n hC 1 dX12_about_119 rfl ?_
      refine g_iadd hC dX12_about_120 ?_
      replace h := ob h; obtain ⟨a24, ea24, h⟩ := h
      subst ea24
      replace h := ob h; obtain ⟨v23, ev23, h⟩ := h
      refine g_iald hC ev23 dX12_about_121 ?_
      exact g_iret hC h ⟨(Nat.le_of_ble_eq_true rfl), (Nat.le_of_ble_eq_true rfl)⟩ dX12_about_122
    replace h := it_f c21 h
    by_cases c25 : p2 = 5
    · replace h := it_t c25 h
      refine g_tbl (off := 112) hC 123 c25 dX12_about_11 (by decide) ?_
      refine g_aload_n hC 0 dX12_about_123 rfl ?_
      replace h := ob h; obtain ⟨v26, ev26, h⟩ := h
      refine g_getR hC ev26 fk_X12_13 rfl dX12_about_124 ?_
      refine g_sipush hC 2210 dX12_about_127 (by decide) ?_
      refine g_iload_n hC 1 dX12_about_130 rfl ?_
      refine g_iadd hC dX12_about_131 ?_
      replace h := ob h; obtain ⟨a28, ea28, h⟩ := h
      subst ea28
      replace h := ob h; obtain ⟨v27, ev27, h⟩ := h
      refine g_iald hC ev27 dX12_about_132 ?_
      exact g_iret hC h ⟨(Nat.le_of_ble_eq_true rfl), (Nat.le_of_ble_eq_true rfl)⟩ dX12_about_133
    replace h := it_f c25 h
    by_cases c29 : p2 = 6
    · replace h := it_t c29 h
      refine g_tbl (off := 123) hC 134 c29 dX12_about_11 (by decide) ?_
      refine g_aload_n hC 0 dX12_about_134 rfl ?_
      replace h := ob h; obtain ⟨v30, ev30, h⟩ := h
      refine g_getR hC ev30 fk_X12_13 rfl dX12_about_135 ?_
      refine g_sipush hC 2218 dX12_about_138 (by decide) ?_
      refine g_iload_n hC 1 dX12_about_141 rfl ?_
      refine g_iadd hC dX12_about_142 ?_
      replace h := ob h; obtain ⟨a32, ea32, h⟩ := h
      subst ea32
      replace h := ob h; obtain ⟨v31, ev31, h⟩ := h
      refine g_iald hC ev31 dX12_about_143 ?_
      exact g_iret hC h ⟨(Nat.le_of_ble_eq_true rfl), (Nat.le_of_ble_eq_true rfl)⟩ dX12_about_144
    replace h := it_f c29 h
    by_cases c33 : p2 = 7
    · replace h := it_t c33 h
      refine g_tbl (off := 134) hC 145 c33 dX12_about_11 (by decide) ?_
      refine g_aload_n hC 0 dX12_about_145 rfl ?_
      replace h := ob h; obtain ⟨v34, ev34, h⟩ := h
      refine g_getR hC ev34 fk_X12_13 rfl dX12_about_146 ?_
      refine g_sipush hC 2226 dX12_about_149 (by decide) ?_
      refine g_iload_n hC 1 dX12_about_152 rfl ?_
      refine g_iadd hC dX12_about_153 ?_
      replace h := ob h; obtain ⟨a36, ea36, h⟩ := h
      subst ea36
      replace h := ob h; obtain ⟨v35, ev35, h⟩ := h
      refine g_iald hC ev35 dX12_about_154 ?_
      exact g_iret hC h ⟨(Nat.le_of_ble_eq_true rfl), (Nat.le_of_ble_eq_true rfl)⟩ dX12_about_155
    replace h := it_f c33 h
    by_cases c37 : p2 = 8
    · replace h := it_t c37 h
      refine g_tbl (off := 145) hC 156 c37 dX12_about_11 (by decide) ?_
      refine g_aload_n hC 0 dX12_about_156 rfl ?_
      replace h := ob h; obtain ⟨v38, ev38, h⟩ := h
      refine g_getR hC ev38 fk_X12_13 rfl dX12_about_157 ?_
      refine g_sipush hC 2234 dX12_about_160 (by decide) ?_
      refine g_iload_n hC 1 dX12_about_163 rfl ?_
      refine g_iadd hC dX12_about_164 ?_
      replace h := ob h; obtain ⟨a40, ea40, h⟩ := h
      subst ea40
      replace h := ob h; obtain ⟨v39, ev39, h⟩ := h
      refine g_iald hC ev39 dX12_about_165 ?_
      exact g_iret hC h ⟨(Nat.le_of_ble_eq_true rfl), (Nat.le_of_ble_eq_true rfl)⟩ dX12_about_166
    replace h := it_f c37 h
    by_cases c41 : p2 = 9
    · replace h := it_t c41 h
      refine g_tbl (off := 156) hC 167 c41 dX12_about_11 (by decide) ?_
      refine g_aload_n hC 0 dX12_about_167 rfl ?_
      replace h := ob h; obtain ⟨v42, ev42, h⟩ := h
      refine g_getR hC ev42 fk_X12_13 rfl dX12_about_168 ?_
      refine g_sipush hC 2242 dX12_about_171 (by decide) ?_
      refine g_iload_n hC 1 dX12_about_174 rfl ?_
      refine g_iadd hC dX12_about_175 ?_
      replace h := ob h; obtain ⟨a44, ea44, h⟩ := h
      subst ea44
      replace h := ob h; obtain ⟨v43, ev43, h⟩ := h
      refine g_iald hC ev43 dX12_about_176 ?_
      exact g_iret hC h ⟨(Nat.le_of_ble_eq_true rfl), (Nat.le_of_ble_eq_true rfl)⟩ dX12_about_177
    replace h := it_f c41 h
    by_cases c45 : p2 = 10
    · replace h := it_t c45 h
      refine g_tbl (off := 167) hC 178 c45 dX12_about_11 (by decide) ?_
      refine g_aload_n hC 0 dX12_about_178 rfl ?_
      replace h := ob h; obtain ⟨v46, ev46, h⟩ := h
      refine g_getR hC ev46 fk_X12_13 rfl dX12_about_179 ?_
      refine g_sipush hC 2250 dX12_about_182 (by decide) ?_
      refine g_iload_n hC 1 dX12_about_185 rfl ?_
      refine g_iadd hC dX12_about_186 ?_
      replace h := ob h; obtain ⟨a48, ea48, h⟩ := h
      subst ea48
      replace h := ob h; obtain ⟨v47, ev47, h⟩ := h
      refine g_iald hC ev47 dX12_about_187 ?_
      exact g_iret hC h ⟨(Nat.le_of_ble_eq_true rfl), (Nat.le_of_ble_eq_true rfl)⟩ dX12_about_188
    replace h := it_f c45 h
    refine g_tbd (n := 11) hC 189 (fun j hj => ?_) (by decide) dX12_about_11 (by decide) ?_
    · match j, hj with
      | 0, _ => exact c5
      | 1, _ => exact c9
      | 2, _ => exact c13
      | 3, _ => exact c17
      | 4, _ => exact c21
      | 5, _ => exact c25
      | 6, _ => exact c29
      | 7, _ => exact c33
      | 8, _ => exact c37
      | 9, _ => exact c41
      | 10, _ => exact c45
      | j + 11, hj => exact absurd hj (by omega)
    refine g_iconst hC (-1) dX12_about_189 (by decide) ?_
    exact g_iret hC h ⟨(Nat.le_of_ble_eq_true rfl), (Nat.le_of_ble_eq_true rfl)⟩ dX12_about_190
  · replace h := it_t c4 h
    refine g_iconst hC (-1) dX12_about_8 (by decide) ?_
    exact g_iret hC h ⟨(Nat.le_of_ble_eq_true rfl), (Nat.le_of_ble_eq_true rfl)⟩ dX12_about_9

set_option maxHeartbeats 4000000 in
set_option maxRecDepth 100000 in
theorem c_X12_can (l : Launch) (Γ : Gm) (this : Nat) (p1 : Int32) (p2 : Int32) (M M' : Mm) (r : Int32) (h : F_X12_can this p1 p2 M = some (r, M')) : Met l yX12_can (wz yX12_can cX12_can 3 (some .int)) ({ frames := 2, cells := 0, slots := 0, locals := 44 } : Room) (Pq Γ M [.ref this, .int p1, .int p2]) (Qi Γ r M') 0 0 (fr Γ) := by
  refine met_of (own := RX12) (by decide +kernel) rfl (Nat.le_of_ble_eq_true rfl) ?_
  intro X hC hR hnm hXl
  unfold F_X12_can at h
  show G Γ X 3 M 0 0 _ 0 ([(0, .ref this), (1, .int p1), (2, .int p2)]) []
  refine g_aload_n hC 0 dX12_can_0 rfl ?_
  refine g_iload_n hC 1 dX12_can_1 rfl ?_
  replace h := ob h; obtain ⟨_, eu2, h⟩ := h
  replace h := ob h; obtain ⟨⟨v3, M1⟩, eM1, h⟩ := h
  refine g_calli hC (r_V hC (As := [.int p1]) (c_X12_isGlider _ Γ this p1 M M1 v3 eM1) yk_X12_isGlider lk_X12_142 eu2 ⟨_, rfl, rfl⟩ rfl rfl (Nat.le_of_ble_eq_true rfl) hR ⟨(Nat.le_of_ble_eq_true rfl), (Nat.le_of_ble_eq_true rfl)⟩ ⟨(Nat.le_of_ble_eq_true rfl), (Nat.le_of_ble_eq_true rfl)⟩ dX12_can_2) ?_
  refine g_if_eq hC 18 dX12_can_5 (by decide) (fun c4 => ?_) (fun c4 => ?_)
  · replace h := it_t c4 h
    refine g_iconst hC (-1) dX12_can_18 (by decide) ?_
    exact g_iret hC h ⟨(Nat.le_of_ble_eq_true rfl), (Nat.le_of_ble_eq_true rfl)⟩ dX12_can_19
  · replace h := it_f c4 h
    refine g_aload_n hC 0 dX12_can_8 rfl ?_
    refine g_iload_n hC 2 dX12_can_9 rfl ?_
    refine g_iconst hC 0 dX12_can_10 (by decide) ?_
    refine g_iconst hC 5 dX12_can_11 (by decide) ?_
    replace h := ob h; obtain ⟨_, eu6, h⟩ := h
    replace h := ob h; obtain ⟨⟨v7, M5⟩, eM5, h⟩ := h
    refine g_calli hC (r_V hC (As := [.int p2, .int 0, .int 5]) (c_X12_is _ Γ this p2 0 5 M1 M5 v7 eM5) yk_X12_is lk_X12_123 eu6 ⟨_, rfl, rfl⟩ rfl rfl (Nat.le_of_ble_eq_true rfl) hR ⟨(Nat.le_of_ble_eq_true rfl), (Nat.le_of_ble_eq_true rfl)⟩ ⟨(Nat.le_of_ble_eq_true rfl), (Nat.le_of_ble_eq_true rfl)⟩ dX12_can_12) ?_
    refine g_if_ne hC 20 dX12_can_15 (by decide) (fun c8 => ?_) (fun c8 => ?_)
    · replace h := it_f c8 h
      refine g_iload_n hC 2 dX12_can_20 rfl ?_
      refine g_if_ne hC 32 dX12_can_21 (by decide) (fun c9 => ?_) (fun c9 => ?_)
      · replace h := it_f c9 h
        refine g_iload_n hC 2 dX12_can_32 rfl ?_
        refine g_iconst hC 1 dX12_can_33 (by decide) ?_
        refine g_icmp_ne hC 45 dX12_can_34 (by decide) (fun c10 => ?_) (fun c10 => ?_)
        · replace h := it_f c10 h
          refine g_iload_n hC 2 dX12_can_45 rfl ?_
          refine g_iconst hC 2 dX12_can_46 (by decide) ?_
          refine g_isub hC dX12_can_47 ?_
          refine g_aload_n hC 0 dX12_can_48 rfl ?_
          refine g_iload_n hC 1 dX12_can_49 rfl ?_
          replace h := ob h; obtain ⟨_, eu12, h⟩ := h
          replace h := ob h; obtain ⟨⟨v13, M11⟩, eM11, h⟩ := h
          refine g_calli hC (r_V hC (As := [.int p1]) (c_X12_sinks _ Γ this p1 M5 M11 v13 eM11) yk_X12_sinks lk_X12_135 eu12 ⟨_, rfl, rfl⟩ rfl rfl (Nat.le_of_ble_eq_true rfl) hR ⟨(Nat.le_of_ble_eq_true rfl), (Nat.le_of_ble_eq_true rfl)⟩ ⟨(Nat.le_of_ble_eq_true rfl), (Nat.le_of_ble_eq_true rfl)⟩ dX12_can_50) ?_
          refine g_icmp_le hC 61 dX12_can_53 (by decide) (fun c14 => ?_) (fun c14 => ?_)
          · replace h := it_t c14 h
            refine g_aload_n hC 0 dX12_can_61 rfl ?_
            refine g_iload_n hC 1 dX12_can_62 rfl ?_
            refine g_iload_n hC 2 dX12_can_63 rfl ?_
            refine g_iconst hC 2 dX12_can_64 (by decide) ?_
            refine g_isub hC dX12_can_65 ?_
            replace h := ob h; obtain ⟨_, eu16, h⟩ := h
            replace h := ob h; obtain ⟨⟨v17, M15⟩, eM15, h⟩ := h
            refine g_calli hC (r_V hC (As := [.int p1, .int (p2 - 2)]) (c_X12_cost _ Γ this p1 (p2 - 2) M11 M15 v17 eM15) yk_X12_cost lk_X12_149 eu16 ⟨_, rfl, rfl⟩ rfl rfl (Nat.le_of_ble_eq_true rfl) hR ⟨(Nat.le_of_ble_eq_true rfl), (Nat.le_of_ble_eq_true rfl)⟩ ⟨(Nat.le_of_ble_eq_true rfl), (Nat.le_of_ble_eq_true rfl)⟩ dX12_can_66) ?_
            exact g_iret hC h ⟨(Nat.le_of_ble_eq_true rfl), (Nat.le_of_ble_eq_true rfl)⟩ dX12_can_69
          · replace h := it_f c14 h
            refine g_bipush hC (-3) dX12_can_56 (by decide) ?_
            refine g_goto hC 69 dX12_can_58 (by decide) ?_
            exact g_iret hC h ⟨(Nat.le_of_ble_eq_true rfl), (Nat.le_of_ble_eq_true rfl)⟩ dX12_can_69
        · replace h := it_t c10 h
          refine g_aload_n hC 0 dX12_can_37 rfl ?_
          refine g_iload_n hC 1 dX12_can_38 rfl ?_
          replace h := ob h; obtain ⟨_, eu19, h⟩ := h
          replace h := ob h; obtain ⟨⟨v20, M18⟩, eM18, h⟩ := h
          refine g_calli hC (r_V hC (As := [.int p1]) (c_X12_goes _ Γ this p1 M5 M18 v20 eM18) yk_X12_goes lk_X12_146 eu19 ⟨_, rfl, rfl⟩ rfl rfl (Nat.le_of_ble_eq_true rfl) hR ⟨(Nat.le_of_ble_eq_true rfl), (Nat.le_of_ble_eq_true rfl)⟩ ⟨(Nat.le_of_ble_eq_true rfl), (Nat.le_of_ble_eq_true rfl)⟩ dX12_can_39) ?_
          refine g_goto hC 69 dX12_can_42 (by decide) ?_
          exact g_iret hC h ⟨(Nat.le_of_ble_eq_true rfl), (Nat.le_of_ble_eq_true rfl)⟩ dX12_can_69
      · replace h := it_t c9 h
        refine g_aload_n hC 0 dX12_can_24 rfl ?_
        refine g_iload_n hC 1 dX12_can_25 rfl ?_
        replace h := ob h; obtain ⟨_, eu22, h⟩ := h
        replace h := ob h; obtain ⟨⟨v23, M21⟩, eM21, h⟩ := h
        refine g_calli hC (r_V hC (As := [.int p1]) (c_X12_sinks _ Γ this p1 M5 M21 v23 eM21) yk_X12_sinks lk_X12_135 eu22 ⟨_, rfl, rfl⟩ rfl rfl (Nat.le_of_ble_eq_true rfl) hR ⟨(Nat.le_of_ble_eq_true rfl), (Nat.le_of_ble_eq_true rfl)⟩ ⟨(Nat.le_of_ble_eq_true rfl), (Nat.le_of_ble_eq_true rfl)⟩ dX12_can_26) ?_
        refine g_goto hC 69 dX12_can_29 (by decide) ?_
        exact g_iret hC h ⟨(Nat.le_of_ble_eq_true rfl), (Nat.le_of_ble_eq_true rfl)⟩ dX12_can_69
    · replace h := it_t c8 h
      refine g_iconst hC (-1) dX12_can_18 (by decide) ?_
      exact g_iret hC h ⟨(Nat.le_of_ble_eq_true rfl), (Nat.le_of_ble_eq_true rfl)⟩ dX12_can_19

set_option maxHeartbeats 4000000 in
set_option maxRecDepth 100000 in
theorem c_X12_leak (l : Launch) (Γ : Gm) (this : Nat) (p1 : Int32) (p2 : Int32) (M M' : Mm) (r : Int32) (h : F_X12_leak this p1 p2 M = some (r, M')) : Met l yX12_leak (wz yX12_leak cX12_leak 4 (some .int)) ({ frames := 2, cells := 0, slots := 0, locals := 44 } : Room) (Pq Γ M [.ref this, .int p1, .int p2]) (Qi Γ r M') 0 0 (fr Γ) := by
  refine met_of (own := RX12) (by decide +kernel) rfl (Nat.le_of_ble_eq_true rfl) ?_
  intro X hC hR hnm hXl
  unfold F_X12_leak at h
  show G Γ X 4 M 0 0 _ 0 ([(0, .ref this), (1, .int p1), (2, .int p2)]) []
  refine g_aload_n hC 0 dX12_leak_0 rfl ?_
  refine g_iload_n hC 1 dX12_leak_1 rfl ?_
  replace h := ob h; obtain ⟨_, eu2, h⟩ := h
  replace h := ob h; obtain ⟨⟨v3, M1⟩, eM1, h⟩ := h
  refine g_calli hC (r_V hC (As := [.int p1]) (c_X12_isGlider _ Γ this p1 M M1 v3 eM1) yk_X12_isGlider lk_X12_142 eu2 ⟨_, rfl, rfl⟩ rfl rfl (Nat.le_of_ble_eq_true rfl) hR ⟨(Nat.le_of_ble_eq_true rfl), (Nat.le_of_ble_eq_true rfl)⟩ ⟨(Nat.le_of_ble_eq_true rfl), (Nat.le_of_ble_eq_true rfl)⟩ dX12_leak_2) ?_
  refine g_if_ne hC 10 dX12_leak_5 (by decide) (fun c4 => ?_) (fun c4 => ?_)
  · replace h := it_f c4 h
    refine g_aload_n hC 0 dX12_leak_10 rfl ?_
    replace h := ob h; obtain ⟨v5, ev5, h⟩ := h
    refine g_getR hC ev5 fk_X12_13 rfl dX12_leak_11 ?_
    refine g_sipush hC 2210 dX12_leak_14 (by decide) ?_
    refine g_iload_n hC 1 dX12_leak_17 rfl ?_
    refine g_iadd hC dX12_leak_18 ?_
    replace h := ob h; obtain ⟨a7, ea7, h⟩ := h
    subst ea7
    replace h := ob h; obtain ⟨v6, ev6, h⟩ := h
    refine g_iald hC ev6 dX12_leak_19 ?_
    refine g_istore_n hC ([(3, .int v6), (0, .ref this), (1, .int p1), (2, .int p2)]) dX12_leak_20 (by decide) rfl ?_
    refine g_aload_n hC 1 dX12_leak_21 rfl ?_
    replace h := ob h; obtain ⟨v8, ev8, h⟩ := h
    refine g_getR hC ev8 fk_X12_13 rfl dX12_leak_22 ?_
    refine g_sipush hC 2210 dX12_leak_25 (by decide) ?_
    refine g_iload_n hC 2 dX12_leak_28 rfl ?_
    refine g_iadd hC dX12_leak_29 ?_
    refine g_iload_n hC 3 dX12_leak_30 rfl ?_
    replace h := nv_e h; obtain ⟨v9, ev9, h⟩ := h
    have J10 : G Γ X 4 M1 0 0 (Fin Γ X (Qi Γ r M') 0 0) 39 ([(3, .int v6), (0, .ref this), (1, .int p1), (2, .int p2)]) ([.int v9, .int (2210 + p1), va_rf v8]) := by
      replace h := ob h; obtain ⟨a12, ea12, h⟩ := h
      subst ea12
      replace h := ob h; obtain ⟨M11, eM11, h⟩ := h
      refine g_iast hC eM11 dX12_leak_39 ?_
      refine g_iload_n hC 0 dX12_leak_40 rfl ?_
      refine g_aload_n hC 1 dX12_leak_41 rfl ?_
      replace h := ob h; obtain ⟨v13, ev13, h⟩ := h
      refine g_getR hC ev13 fk_X12_13 rfl dX12_leak_42 ?_
      refine g_sipush hC 2210 dX12_leak_45 (by decide) ?_
      refine g_iload_n hC 2 dX12_leak_48 rfl ?_
      refine g_iadd hC dX12_leak_49 ?_
      replace h := ob h; obtain ⟨a15, ea15, h⟩ := h
      subst ea15
      replace h := ob h; obtain ⟨v14, ev14, h⟩ := h
      refine g_iald hC ev14 dX12_leak_50 ?_
      refine g_icmp_ne hC 58 dX12_leak_51 (by decide) (fun c16 => ?_) (fun c16 => ?_)
      · replace h := it_f c16 h
        refine g_iconst hC 1 dX12_leak_58 (by decide) ?_
        exact g_iret hC h ⟨(Nat.le_of_ble_eq_true rfl), (Nat.le_of_ble_eq_true rfl)⟩ dX12_leak_59
      · replace h := it_t c16 h
        refine g_iconst hC 0 dX12_leak_54 (by decide) ?_
        refine g_goto hC 59 dX12_leak_55 (by decide) ?_
        exact g_iret hC h ⟨(Nat.le_of_ble_eq_true rfl), (Nat.le_of_ble_eq_true rfl)⟩ dX12_leak_59
    refine g_if_eq hC 38 dX12_leak_31 (by decide) (fun c17 => ?_) (fun c17 => ?_)
    · refine g_iconst hC 0 dX12_leak_38 (by decide) ?_
      rw [show v9 = _ from ev9.trans (if_pos c17)] at J10
      exact J10
    · refine g_iconst hC 1 dX12_leak_34 (by decide) ?_
      refine g_goto hC 39 dX12_leak_35 (by decide) ?_
      rw [show v9 = _ from ev9.trans (if_neg c17)] at J10
      exact J10
  · replace h := it_t c4 h
    refine g_iconst hC (-1) dX12_leak_8 (by decide) ?_
    exact g_iret hC h ⟨(Nat.le_of_ble_eq_true rfl), (Nat.le_of_ble_eq_true rfl)⟩ dX12_leak_9

set_option maxHeartbeats 4000000 in
set_option maxRecDepth 100000 in
theorem c_X12_abs (l : Launch) (Γ : Gm) (this : Nat) (p1 : Int32) (M M' : Mm) (r : Int32) (h : F_X12_abs this p1 M = some (r, M')) : Met l yX12_abs (wz yX12_abs cX12_abs 2 (some .int)) ({ frames := 0, cells := 0, slots := 0, locals := 0 } : Room) (Pq Γ M [.ref this, .int p1]) (Qi Γ r M') 0 0 (fr Γ) := by
  refine met_of (own := RX12) (by decide +kernel) rfl (Nat.le_of_ble_eq_true rfl) ?_
  intro X hC hR hnm hXl
  unfold F_X12_abs at h
  show G Γ X 2 M 0 0 _ 0 ([(0, .ref this), (1, .int p1)]) []
  refine g_iload_n hC 1 dX12_abs_0 rfl ?_
  refine g_if_ge hC 9 dX12_abs_1 (by decide) (fun c1 => ?_) (fun c1 => ?_)
  · replace h := it_t c1 h
    refine g_iload_n hC 1 dX12_abs_9 rfl ?_
    exact g_iret hC h ⟨(Nat.le_of_ble_eq_true rfl), (Nat.le_of_ble_eq_true rfl)⟩ dX12_abs_10
  · replace h := it_f c1 h
    refine g_iload_n hC 1 dX12_abs_4 rfl ?_
    refine g_ineg hC dX12_abs_5 ?_
    refine g_goto hC 10 dX12_abs_6 (by decide) ?_
    exact g_iret hC h ⟨(Nat.le_of_ble_eq_true rfl), (Nat.le_of_ble_eq_true rfl)⟩ dX12_abs_10

set_option maxHeartbeats 4000000 in
set_option maxRecDepth 100000 in
theorem c_X12_step (l : Launch) (Γ : Gm) (this : Nat) (p1 : Int32) (p2 : Int32) (M M' : Mm) (h : F_X12_step this p1 p2 M = some M') : Met l yX12_step (wz yX12_step cX12_step 3 none) ({ frames := 3, cells := 0, slots := 0, locals := 67 } : Room) (Pq Γ M [.ref this, .int p1, .int p2]) (Qv Γ M') 0 0 (fr Γ) := by
  refine met_of (own := RX12) (by decide +kernel) rfl (Nat.le_of_ble_eq_true rfl) ?_
  intro X hC hR hnm hXl
  unfold F_X12_step at h
  show G Γ X 3 M 0 0 _ 0 ([(0, .ref this), (1, .int p1), (2, .int p2)]) []
  refine g_aload_n hC 0 dX12_step_0 rfl ?_
  refine g_aload_n hC 0 dX12_step_1 rfl ?_
  replace h := ob h; obtain ⟨v1, ev1, h⟩ := h
  refine g_getI hC ev1 fk_X12_24 rfl dX12_step_2 ?_
  refine g_iload_n hC 1 dX12_step_5 rfl ?_
  refine g_iadd hC dX12_step_6 ?_
  refine g_aload_n hC 0 dX12_step_7 rfl ?_
  replace h := ob h; obtain ⟨v2, ev2, h⟩ := h
  refine g_getI hC ev2 fk_X12_27 rfl dX12_step_8 ?_
  refine g_iload_n hC 2 dX12_step_11 rfl ?_
  refine g_iadd hC dX12_step_12 ?_
  replace h := ob h; obtain ⟨_, eu4, h⟩ := h
  replace h := ob h; obtain ⟨⟨v5, M3⟩, eM3, h⟩ := h
  refine g_calli hC (r_V hC (As := [.int (v1 + p1), .int (v2 + p2)]) (c_X12_isWater _ Γ this (v1 + p1) (v2 + p2) M M3 v5 eM3) yk_X12_isWater lk_X12_139 eu4 ⟨_, rfl, rfl⟩ rfl rfl (Nat.le_of_ble_eq_true rfl) hR ⟨(Nat.le_of_ble_eq_true rfl), (Nat.le_of_ble_eq_true rfl)⟩ ⟨(Nat.le_of_ble_eq_true rfl), (Nat.le_of_ble_eq_true rfl)⟩ dX12_step_13) ?_
  refine g_if_ne hC 20 dX12_step_16 (by decide) (fun c6 => ?_) (fun c6 => ?_)
  · replace h := it_f c6 h
    refine g_aload_n hC 0 dX12_step_20 rfl ?_
    refine g_dup hC dX12_step_21 rfl ?_
    replace h := ob h; obtain ⟨v7, ev7, h⟩ := h
    refine g_getI hC ev7 fk_X12_24 rfl dX12_step_22 ?_
    refine g_iload_n hC 1 dX12_step_25 rfl ?_
    refine g_iadd hC dX12_step_26 ?_
    replace h := ob h; obtain ⟨M8, eM8, h⟩ := h
    refine g_putI hC eM8 fk_X12_24 rfl dX12_step_27 ?_
    refine g_aload_n hC 0 dX12_step_30 rfl ?_
    refine g_dup hC dX12_step_31 rfl ?_
    replace h := ob h; obtain ⟨v9, ev9, h⟩ := h
    refine g_getI hC ev9 fk_X12_27 rfl dX12_step_32 ?_
    refine g_iload_n hC 2 dX12_step_35 rfl ?_
    refine g_iadd hC dX12_step_36 ?_
    replace h := ob h; obtain ⟨M10, eM10, h⟩ := h
    refine g_putI hC eM10 fk_X12_27 rfl dX12_step_37 ?_
    exact g_vret hC h ⟨(Nat.le_of_ble_eq_true rfl), (Nat.le_of_ble_eq_true rfl)⟩ dX12_step_40
  · replace h := it_t c6 h
    exact g_vret hC h ⟨(Nat.le_of_ble_eq_true rfl), (Nat.le_of_ble_eq_true rfl)⟩ dX12_step_19

set_option maxHeartbeats 4000000 in
set_option maxRecDepth 100000 in
theorem l_X12_steps_L2 {Γ : Gm} {X : Ct} (hC : Cx Γ X cX12_steps RX12 none 4) (hR : X.2.2.2.1 = ({ frames := 4, cells := 0, slots := 0, locals := 89 } : Room)) (M' : Mm) (k31 : Mm → Option Mm) (x0 : Nat) (x1 : Int32) (x2 : Int32) (hk31 : ∀  (M1 : Mm), k31  M1 = some M' → G Γ X 4 M1 0 0 (Fin Γ X (Qv Γ M') 0 0) 31 ([(0, .ref x0), (2, .int x2)]) []) : ∀ (fu : Nat) (x3 : Int32) (M0 : Mm), F_X12_steps_L2 k31 x0 x1 x2 fu x3 M0 = some M' → G Γ X 4 M0 0 0 (Fin Γ X (Qv Γ M') 0 0) 2 ([(0, .ref x0), (1, .int x1), (2, .int x2), (3, .int x3)]) [] := by
  intro fu
  induction fu with
  | zero =>
    intro x3 M0 h
    rw [F_X12_steps_L2] at h
    cases h
  | succ n1 ih =>
    intro x3 M0 h
    rw [F_X12_steps_L2] at h
    refine g_iload_n hC 3 dX12_steps_2 rfl ?_
    refine g_aload_n hC 0 dX12_steps_3 rfl ?_
    refine g_iload_n hC 1 dX12_steps_4 rfl ?_
    replace h := ob h; obtain ⟨_, eu3, h⟩ := h
    replace h := ob h; obtain ⟨⟨v4, M2⟩, eM2, h⟩ := h
    refine g_calli hC (r_V hC (As := [.int x1]) (c_X12_abs _ Γ x0 x1 M0 M2 v4 eM2) yk_X12_abs lk_X12_152 eu3 ⟨_, rfl, rfl⟩ rfl rfl (Nat.le_of_ble_eq_true rfl) hR ⟨(Nat.le_of_ble_eq_true rfl), (Nat.le_of_ble_eq_true rfl)⟩ ⟨(Nat.le_of_ble_eq_true rfl), (Nat.le_of_ble_eq_true rfl)⟩ dX12_steps_5) ?_
    refine g_icmp_ge hC 31 dX12_steps_8 (by decide) (fun c5 => ?_) (fun c5 => ?_)
    · replace h := it_t c5 h
      refine g_sub [0, 2] rfl ?_
      exact hk31  M2 h
    · replace h := it_f c5 h
      refine g_aload_n hC 0 dX12_steps_11 rfl ?_
      refine g_iload_n hC 1 dX12_steps_12 rfl ?_
      replace h := nv_e h; obtain ⟨v6, ev6, h⟩ := h
      have J7 : G Γ X 4 M2 0 0 (Fin Γ X (Qv Γ M') 0 0) 21 ([(0, .ref x0), (1, .int x1), (2, .int x2), (3, .int x3)]) ([.int v6, .ref x0]) := by
        refine g_iconst hC 0 dX12_steps_21 (by decide) ?_
        replace h := ob h; obtain ⟨_, eu9, h⟩ := h
        replace h := ob h; obtain ⟨M8, eM8, h⟩ := h
        refine g_callv hC (r_V hC (As := [.int v6, .int 0]) (c_X12_step _ Γ x0 v6 0 M2 M8 eM8) yk_X12_step lk_X12_155 eu9 ⟨_, rfl, rfl⟩ rfl rfl (Nat.le_of_ble_eq_true rfl) hR ⟨(Nat.le_of_ble_eq_true rfl), (Nat.le_of_ble_eq_true rfl)⟩ ⟨(Nat.le_of_ble_eq_true rfl), (Nat.le_of_ble_eq_true rfl)⟩ dX12_steps_22) ?_
        refine g_iinc hC 3 (x3 + 1) ([(3, .int (x3 + 1)), (0, .ref x0), (1, .int x1), (2, .int x2)]) dX12_steps_25 rfl rfl (by decide) rfl ?_
        refine g_goto hC 2 dX12_steps_28 (by decide) ?_
        refine g_sub [1, 2, 3, 0] rfl ?_
        exact ih (x3 + 1) M8 h
      refine g_if_ge hC 20 dX12_steps_13 (by decide) (fun c10 => ?_) (fun c10 => ?_)
      · refine g_iconst hC 1 dX12_steps_20 (by decide) ?_
        rw [show v6 = _ from ev6.trans (if_pos c10)] at J7
        exact J7
      · refine g_iconst hC (-1) dX12_steps_16 (by decide) ?_
        refine g_goto hC 21 dX12_steps_17 (by decide) ?_
        rw [show v6 = _ from ev6.trans (if_neg c10)] at J7
        exact J7
set_option maxHeartbeats 4000000 in
set_option maxRecDepth 100000 in
theorem l_X12_steps_L33 {Γ : Gm} {X : Ct} (hC : Cx Γ X cX12_steps RX12 none 4) (hR : X.2.2.2.1 = ({ frames := 4, cells := 0, slots := 0, locals := 89 } : Room)) (M' : Mm)  (x0 : Nat) (x2 : Int32) : ∀ (fu : Nat) (x3 : Int32) (M0 : Mm), F_X12_steps_L33 x0 x2 fu x3 M0 = some M' → G Γ X 4 M0 0 0 (Fin Γ X (Qv Γ M') 0 0) 33 ([(0, .ref x0), (2, .int x2), (3, .int x3)]) [] := by
  intro fu
  induction fu with
  | zero =>
    intro x3 M0 h
    rw [F_X12_steps_L33] at h
    cases h
  | succ n12 ih =>
    intro x3 M0 h
    rw [F_X12_steps_L33] at h
    refine g_iload_n hC 2 dX12_steps_33 rfl ?_
    refine g_aload_n hC 0 dX12_steps_34 rfl ?_
    refine g_iload_n hC 1 dX12_steps_35 rfl ?_
    replace h := ob h; obtain ⟨_, eu14, h⟩ := h
    replace h := ob h; obtain ⟨⟨v15, M13⟩, eM13, h⟩ := h
    refine g_calli hC (r_V hC (As := [.int x2]) (c_X12_abs _ Γ x0 x2 M0 M13 v15 eM13) yk_X12_abs lk_X12_152 eu14 ⟨_, rfl, rfl⟩ rfl rfl (Nat.le_of_ble_eq_true rfl) hR ⟨(Nat.le_of_ble_eq_true rfl), (Nat.le_of_ble_eq_true rfl)⟩ ⟨(Nat.le_of_ble_eq_true rfl), (Nat.le_of_ble_eq_true rfl)⟩ dX12_steps_36) ?_
    refine g_icmp_ge hC 62 dX12_steps_39 (by decide) (fun c16 => ?_) (fun c16 => ?_)
    · replace h := it_t c16 h
      exact g_vret hC h ⟨(Nat.le_of_ble_eq_true rfl), (Nat.le_of_ble_eq_true rfl)⟩ dX12_steps_62
    · replace h := it_f c16 h
      refine g_aload_n hC 0 dX12_steps_42 rfl ?_
      refine g_iconst hC 0 dX12_steps_43 (by decide) ?_
      refine g_iload_n hC 1 dX12_steps_44 rfl ?_
      replace h := nv_e h; obtain ⟨v17, ev17, h⟩ := h
      have J18 : G Γ X 4 M13 0 0 (Fin Γ X (Qv Γ M') 0 0) 53 ([(0, .ref x0), (2, .int x2), (3, .int x3)]) ([.int v17, .int 0, .ref x0]) := by
        replace h := ob h; obtain ⟨_, eu20, h⟩ := h
        replace h := ob h; obtain ⟨M19, eM19, h⟩ := h
        refine g_callv hC (r_V hC (As := [.int 0, .int v17]) (c_X12_step _ Γ x0 0 v17 M13 M19 eM19) yk_X12_step lk_X12_155 eu20 ⟨_, rfl, rfl⟩ rfl rfl (Nat.le_of_ble_eq_true rfl) hR ⟨(Nat.le_of_ble_eq_true rfl), (Nat.le_of_ble_eq_true rfl)⟩ ⟨(Nat.le_of_ble_eq_true rfl), (Nat.le_of_ble_eq_true rfl)⟩ dX12_steps_53) ?_
        refine g_iinc hC 2 (x3 + 1) ([(3, .int (x3 + 1)), (0, .ref x0), (2, .int x2)]) dX12_steps_56 rfl rfl (by decide) rfl ?_
        refine g_goto hC 33 dX12_steps_59 (by decide) ?_
        refine g_sub [1, 2, 0] rfl ?_
        exact ih (x3 + 1) M19 h
      refine g_if_ge hC 52 dX12_steps_45 (by decide) (fun c21 => ?_) (fun c21 => ?_)
      · refine g_iconst hC 1 dX12_steps_52 (by decide) ?_
        rw [show v17 = _ from ev17.trans (if_pos c21)] at J18
        exact J18
      · refine g_iconst hC (-1) dX12_steps_48 (by decide) ?_
        refine g_goto hC 53 dX12_steps_49 (by decide) ?_
        rw [show v17 = _ from ev17.trans (if_neg c21)] at J18
        exact J18
set_option maxHeartbeats 4000000 in
set_option maxRecDepth 100000 in
theorem c_X12_steps (l : Launch) (Γ : Gm) (this : Nat) (p1 : Int32) (p2 : Int32) (M M' : Mm) (h : F_X12_steps this p1 p2 M = some M') : Met l yX12_steps (wz yX12_steps cX12_steps 4 none) ({ frames := 4, cells := 0, slots := 0, locals := 89 } : Room) (Pq Γ M [.ref this, .int p1, .int p2]) (Qv Γ M') 0 0 (fr Γ) := by
  refine met_of (own := RX12) (by decide +kernel) rfl (Nat.le_of_ble_eq_true rfl) ?_
  intro X hC hR hnm hXl
  unfold F_X12_steps at h
  show G Γ X 4 M 0 0 _ 0 ([(0, .ref this), (1, .int p1), (2, .int p2)]) []
  refine g_iconst hC 0 dX12_steps_0 (by decide) ?_
  refine g_istore_n hC ([(3, .int 0), (0, .ref this), (1, .int p1), (2, .int p2)]) dX12_steps_1 (by decide) rfl ?_
  refine g_sub [1, 2, 3, 0] rfl ?_
  refine l_X12_steps_L2 hC hR M' _ _ _ _ ?_ _ _ _ h
  intro  M11 h
  refine g_iconst hC 0 dX12_steps_31 (by decide) ?_
  refine g_istore_n hC ([(3, .int 0), (0, .ref this), (2, .int p2)]) dX12_steps_32 (by decide) rfl ?_
  refine g_sub [1, 2, 0] rfl ?_
  refine l_X12_steps_L33 hC hR M'  _ _  _ _ _ h

set_option maxHeartbeats 4000000 in
set_option maxRecDepth 100000 in
theorem c_X12_isNet (l : Launch) (Γ : Gm) (this : Nat) (p1 : Int32) (M M' : Mm) (r : Int32) (h : F_X12_isNet this p1 M = some (r, M')) : Met l yX12_isNet (wz yX12_isNet cX12_isNet 2 (some .boolean)) ({ frames := 0, cells := 0, slots := 0, locals := 0 } : Room) (Pq Γ M [.ref this, .int p1]) (Qi Γ r M') 0 0 (fr Γ) := by
  refine met_of (own := RX12) (by decide +kernel) rfl (Nat.le_of_ble_eq_true rfl) ?_
  intro X hC hR hnm hXl
  unfold F_X12_isNet at h
  show G Γ X 2 M 0 0 _ 0 ([(0, .ref this), (1, .int p1)]) []
  refine g_aload_n hC 0 dX12_isNet_0 rfl ?_
  replace h := ob h; obtain ⟨v1, ev1, h⟩ := h
  refine g_getR hC ev1 fk_X12_13 rfl dX12_isNet_1 ?_
  refine g_sipush hC 1850 dX12_isNet_4 (by decide) ?_
  refine g_iconst hC 4 dX12_isNet_7 (by decide) ?_
  refine g_bipush hC 8 dX12_isNet_8 (by decide) ?_
  refine g_aload_n hC 0 dX12_isNet_10 rfl ?_
  replace h := ob h; obtain ⟨v2, ev2, h⟩ := h
  refine g_getI hC ev2 fk_X12_24 rfl dX12_isNet_11 ?_
  refine g_imul hC dX12_isNet_14 ?_
  refine g_aload_n hC 0 dX12_isNet_15 rfl ?_
  replace h := ob h; obtain ⟨v3, ev3, h⟩ := h
  refine g_getI hC ev3 fk_X12_27 rfl dX12_isNet_16 ?_
  refine g_iadd hC dX12_isNet_19 ?_
  refine g_imul hC dX12_isNet_20 ?_
  refine g_iadd hC dX12_isNet_21 ?_
  refine g_iload_n hC 1 dX12_isNet_22 rfl ?_
  refine g_iadd hC dX12_isNet_23 ?_
  replace h := ob h; obtain ⟨a5, ea5, h⟩ := h
  subst ea5
  replace h := ob h; obtain ⟨v4, ev4, h⟩ := h
  refine g_iald hC ev4 dX12_isNet_24 ?_
  refine g_iconst hC 1 dX12_isNet_25 (by decide) ?_
  refine g_icmp_ne hC 57 dX12_isNet_26 (by decide) (fun c6 => ?_) (fun c6 => ?_)
  · replace h := it_f c6 h
    refine g_iconst hC 0 dX12_isNet_57 (by decide) ?_
    exact g_zret hC (by decide) h ⟨(Nat.le_of_ble_eq_true rfl), (Nat.le_of_ble_eq_true rfl)⟩ dX12_isNet_58
  · replace h := it_t c6 h
    refine g_aload_n hC 0 dX12_isNet_29 rfl ?_
    replace h := ob h; obtain ⟨v7, ev7, h⟩ := h
    refine g_getR hC ev7 fk_X12_13 rfl dX12_isNet_30 ?_
    refine g_bipush hC 10 dX12_isNet_33 (by decide) ?_
    refine g_bipush hC 8 dX12_isNet_35 (by decide) ?_
    refine g_aload_n hC 0 dX12_isNet_37 rfl ?_
    replace h := ob h; obtain ⟨v8, ev8, h⟩ := h
    refine g_getI hC ev8 fk_X12_24 rfl dX12_isNet_38 ?_
    refine g_imul hC dX12_isNet_41 ?_
    refine g_iadd hC dX12_isNet_42 ?_
    refine g_aload_n hC 0 dX12_isNet_43 rfl ?_
    replace h := ob h; obtain ⟨v9, ev9, h⟩ := h
    refine g_getI hC ev9 fk_X12_27 rfl dX12_isNet_44 ?_
    refine g_iadd hC dX12_isNet_47 ?_
    replace h := ob h; obtain ⟨a11, ea11, h⟩ := h
    subst ea11
    replace h := ob h; obtain ⟨v10, ev10, h⟩ := h
    refine g_iald hC ev10 dX12_isNet_48 ?_
    refine g_iload_n hC 1 dX12_isNet_49 rfl ?_
    refine g_icmp_le hC 57 dX12_isNet_50 (by decide) (fun c12 => ?_) (fun c12 => ?_)
    · replace h := it_t c12 h
      refine g_iconst hC 0 dX12_isNet_57 (by decide) ?_
      exact g_zret hC (by decide) h ⟨(Nat.le_of_ble_eq_true rfl), (Nat.le_of_ble_eq_true rfl)⟩ dX12_isNet_58
    · replace h := it_f c12 h
      refine g_iconst hC 1 dX12_isNet_53 (by decide) ?_
      refine g_goto hC 58 dX12_isNet_54 (by decide) ?_
      exact g_zret hC (by decide) h ⟨(Nat.le_of_ble_eq_true rfl), (Nat.le_of_ble_eq_true rfl)⟩ dX12_isNet_58

set_option maxHeartbeats 4000000 in
set_option maxRecDepth 100000 in
theorem l_X12_sink_L12 {Γ : Gm} {X : Ct} (hC : Cx Γ X cX12_sink RX12 none 5) (hR : X.2.2.2.1 = ({ frames := 5, cells := 0, slots := 0, locals := 112 } : Room)) (M' : Mm)  (x0 : Nat) (x1 : Int32) (x2 : Int32) : ∀ (fu : Nat) (x3 : Int32) (M0 : Mm), F_X12_sink_L12 x0 x1 x2 fu x3 M0 = some M' → G Γ X 5 M0 0 0 (Fin Γ X (Qv Γ M') 0 0) 12 ([(0, .ref x0), (1, .int x1), (2, .int x2), (3, .int x3)]) [] := by
  intro fu
  induction fu with
  | zero =>
    intro x3 M0 h
    rw [F_X12_sink_L12] at h
    cases h
  | succ n3 ih =>
    intro x3 M0 h
    rw [F_X12_sink_L12] at h
    refine g_iload_n hC 3 dX12_sink_12 rfl ?_
    refine g_iload_n hC 1 dX12_sink_13 rfl ?_
    refine g_icmp_gt hC 139 dX12_sink_14 (by decide) (fun c4 => ?_) (fun c4 => ?_)
    · replace h := it_t c4 h
      exact g_vret hC h ⟨(Nat.le_of_ble_eq_true rfl), (Nat.le_of_ble_eq_true rfl)⟩ dX12_sink_139
    · replace h := it_f c4 h
      refine g_aload_n hC 0 dX12_sink_17 rfl ?_
      replace h := ob h; obtain ⟨v5, ev5, h⟩ := h
      refine g_getI hC ev5 fk_X12_33 rfl dX12_sink_18 ?_
      refine g_if_ne hC 139 dX12_sink_21 (by decide) (fun c6 => ?_) (fun c6 => ?_)
      · replace h := it_f c6 h
        exact g_vret hC h ⟨(Nat.le_of_ble_eq_true rfl), (Nat.le_of_ble_eq_true rfl)⟩ dX12_sink_139
      · replace h := it_t c6 h
        refine g_bipush hC 8 dX12_sink_24 (by decide) ?_
        refine g_aload_n hC 0 dX12_sink_26 rfl ?_
        replace h := ob h; obtain ⟨v7, ev7, h⟩ := h
        refine g_getI hC ev7 fk_X12_24 rfl dX12_sink_27 ?_
        refine g_imul hC dX12_sink_30 ?_
        refine g_aload_n hC 0 dX12_sink_31 rfl ?_
        replace h := ob h; obtain ⟨v8, ev8, h⟩ := h
        refine g_getI hC ev8 fk_X12_27 rfl dX12_sink_32 ?_
        refine g_iadd hC dX12_sink_35 ?_
        refine g_istore hC ([(4, .int ((8 * v7) + v8)), (0, .ref x0), (1, .int x1), (2, .int x2), (3, .int x3)]) dX12_sink_36 (by decide) rfl ?_
        refine g_aload_n hC 1 dX12_sink_38 rfl ?_
        replace h := ob h; obtain ⟨v9, ev9, h⟩ := h
        refine g_getR hC ev9 fk_X12_13 rfl dX12_sink_39 ?_
        refine g_bipush hC 10 dX12_sink_42 (by decide) ?_
        refine g_iload hC 0 dX12_sink_44 rfl ?_
        refine g_iadd hC dX12_sink_46 ?_
        replace h := ob h; obtain ⟨a11, ea11, h⟩ := h
        subst ea11
        replace h := ob h; obtain ⟨v10, ev10, h⟩ := h
        refine g_iald hC ev10 dX12_sink_47 ?_
        refine g_iload_n hC 4 dX12_sink_48 rfl ?_
        refine g_icmp_gt hC 53 dX12_sink_49 (by decide) (fun c12 => ?_) (fun c12 => ?_)
        · replace h := it_t c12 h
          refine g_aload_n hC 1 dX12_sink_53 rfl ?_
          refine g_iload_n hC 4 dX12_sink_54 rfl ?_
          replace h := ob h; obtain ⟨M13, eM13, h⟩ := h
          refine g_putI hC eM13 fk_X12_30 rfl dX12_sink_55 ?_
          refine g_aload_n hC 1 dX12_sink_58 rfl ?_
          refine g_aload_n hC 1 dX12_sink_59 rfl ?_
          replace h := ob h; obtain ⟨v14, ev14, h⟩ := h
          refine g_getR hC ev14 fk_X12_13 rfl dX12_sink_60 ?_
          refine g_iload_n hC 3 dX12_sink_63 rfl ?_
          replace h := nv_e h; obtain ⟨v15, ev15, h⟩ := h
          have J16 : G Γ X 5 M13 0 0 (Fin Γ X (Qv Γ M') 0 0) 76 ([(4, .int ((8 * v7) + v8)), (0, .ref x0), (1, .int x1), (2, .int x2), (3, .int x3)]) ([.int v15, va_rf v14, .ref x0]) := by
            refine g_iconst hC 4 dX12_sink_76 (by decide) ?_
            refine g_iload hC 0 dX12_sink_77 rfl ?_
            refine g_imul hC dX12_sink_79 ?_
            refine g_iadd hC dX12_sink_80 ?_
            refine g_iload_n hC 4 dX12_sink_81 rfl ?_
            refine g_iadd hC dX12_sink_82 ?_
            replace h := ob h; obtain ⟨a18, ea18, h⟩ := h
            subst ea18
            replace h := ob h; obtain ⟨v17, ev17, h⟩ := h
            refine g_iald hC ev17 dX12_sink_83 ?_
            refine g_aload_n hC 1 dX12_sink_84 rfl ?_
            replace h := ob h; obtain ⟨v19, ev19, h⟩ := h
            refine g_getR hC ev19 fk_X12_13 rfl dX12_sink_85 ?_
            refine g_iload_n hC 3 dX12_sink_88 rfl ?_
            replace h := nv_e h; obtain ⟨v20, ev20, h⟩ := h
            have J21 : G Γ X 5 M13 0 0 (Fin Γ X (Qv Γ M') 0 0) 101 ([(4, .int ((8 * v7) + v8)), (0, .ref x0), (1, .int x1), (2, .int x2), (3, .int x3)]) ([.int v20, va_rf v19, .int v17, .ref x0]) := by
              refine g_iconst hC 4 dX12_sink_101 (by decide) ?_
              refine g_iload hC 0 dX12_sink_102 rfl ?_
              refine g_imul hC dX12_sink_104 ?_
              refine g_iadd hC dX12_sink_105 ?_
              refine g_iload_n hC 4 dX12_sink_106 rfl ?_
              refine g_iadd hC dX12_sink_107 ?_
              replace h := ob h; obtain ⟨a23, ea23, h⟩ := h
              subst ea23
              replace h := ob h; obtain ⟨v22, ev22, h⟩ := h
              refine g_iald hC ev22 dX12_sink_108 ?_
              replace h := ob h; obtain ⟨_, eu25, h⟩ := h
              replace h := ob h; obtain ⟨M24, eM24, h⟩ := h
              refine g_callv hC (r_V hC (As := [.int v17, .int v22]) (c_X12_steps _ Γ x0 v17 v22 M13 M24 eM24) yk_X12_steps lk_X12_159 eu25 ⟨_, rfl, rfl⟩ rfl rfl (Nat.le_of_ble_eq_true rfl) hR ⟨(Nat.le_of_ble_eq_true rfl), (Nat.le_of_ble_eq_true rfl)⟩ ⟨(Nat.le_of_ble_eq_true rfl), (Nat.le_of_ble_eq_true rfl)⟩ dX12_sink_109) ?_
              refine g_aload_n hC 1 dX12_sink_112 rfl ?_
              refine g_iload_n hC 3 dX12_sink_113 rfl ?_
              refine g_if_ne hC 129 dX12_sink_114 (by decide) (fun c26 => ?_) (fun c26 => ?_)
              · replace h := it_f c26 h
                refine g_iconst hC 0 dX12_sink_129 (by decide) ?_
                replace h := ob h; obtain ⟨M27, eM27, h⟩ := h
                refine g_putZ hC eM27 fk_X12_33 rfl dX12_sink_130 ?_
                refine g_iinc hC 4 (x3 + 1) ([(3, .int (x3 + 1)), (4, .int ((8 * v7) + v8)), (0, .ref x0), (1, .int x1), (2, .int x2)]) dX12_sink_133 rfl rfl (by decide) rfl ?_
                refine g_goto hC 12 dX12_sink_136 (by decide) ?_
                refine g_sub [2, 3, 4, 0] rfl ?_
                exact ih (x3 + 1) M27 h
              · replace h := it_t c26 h
                refine g_aload_n hC 1 dX12_sink_117 rfl ?_
                refine g_iload_n hC 4 dX12_sink_118 rfl ?_
                replace h := ob h; obtain ⟨_, eu29, h⟩ := h
                replace h := ob h; obtain ⟨⟨v30, M28⟩, eM28, h⟩ := h
                refine g_calli hC (r_V hC (As := [.int x3]) (c_X12_isNet _ Γ x0 x3 M24 M28 v30 eM28) yk_X12_isNet lk_X12_162 eu29 ⟨_, rfl, rfl⟩ rfl rfl (Nat.le_of_ble_eq_true rfl) hR ⟨(Nat.le_of_ble_eq_true rfl), (Nat.le_of_ble_eq_true rfl)⟩ ⟨(Nat.le_of_ble_eq_true rfl), (Nat.le_of_ble_eq_true rfl)⟩ dX12_sink_119) ?_
                replace h := nv_e h; obtain ⟨v31, ev31, h⟩ := h
                have J32 : G Γ X 5 M28 0 0 (Fin Γ X (Qv Γ M') 0 0) 130 ([(4, .int ((8 * v7) + v8)), (0, .ref x0), (1, .int x1), (2, .int x2), (3, .int x3)]) ([.int v31, .ref x0]) := by
                  replace h := ob h; obtain ⟨M33, eM33, h⟩ := h
                  refine g_putZ hC eM33 fk_X12_33 rfl dX12_sink_130 ?_
                  refine g_iinc hC 4 (x3 + 1) ([(3, .int (x3 + 1)), (4, .int ((8 * v7) + v8)), (0, .ref x0), (1, .int x1), (2, .int x2)]) dX12_sink_133 rfl rfl (by decide) rfl ?_
                  refine g_goto hC 12 dX12_sink_136 (by decide) ?_
                  refine g_sub [2, 3, 4, 0] rfl ?_
                  exact ih (x3 + 1) M33 h
                refine g_if_eq hC 129 dX12_sink_122 (by decide) (fun c34 => ?_) (fun c34 => ?_)
                · refine g_iconst hC 0 dX12_sink_129 (by decide) ?_
                  rw [show v31 = _ from ev31.trans (if_pos c34)] at J32
                  exact J32
                · refine g_iconst hC 1 dX12_sink_125 (by decide) ?_
                  refine g_goto hC 130 dX12_sink_126 (by decide) ?_
                  rw [show v31 = _ from ev31.trans (if_neg c34)] at J32
                  exact J32
            refine g_if_eq hC 98 dX12_sink_89 (by decide) (fun c35 => ?_) (fun c35 => ?_)
            · refine g_sipush hC 570 dX12_sink_98 (by decide) ?_
              rw [show v20 = _ from ev20.trans (if_pos c35)] at J21
              exact J21
            · refine g_sipush hC 1210 dX12_sink_92 (by decide) ?_
              refine g_goto hC 101 dX12_sink_95 (by decide) ?_
              rw [show v20 = _ from ev20.trans (if_neg c35)] at J21
              exact J21
          refine g_if_eq hC 73 dX12_sink_64 (by decide) (fun c36 => ?_) (fun c36 => ?_)
          · refine g_sipush hC 250 dX12_sink_73 (by decide) ?_
            rw [show v15 = _ from ev15.trans (if_pos c36)] at J16
            exact J16
          · refine g_sipush hC 890 dX12_sink_67 (by decide) ?_
            refine g_goto hC 76 dX12_sink_70 (by decide) ?_
            rw [show v15 = _ from ev15.trans (if_neg c36)] at J16
            exact J16
        · replace h := it_f c12 h
          exact g_vret hC h ⟨(Nat.le_of_ble_eq_true rfl), (Nat.le_of_ble_eq_true rfl)⟩ dX12_sink_52
set_option maxHeartbeats 4000000 in
set_option maxRecDepth 100000 in
theorem c_X12_sink (l : Launch) (Γ : Gm) (this : Nat) (p1 : Int32) (p2 : Int32) (M M' : Mm) (h : F_X12_sink this p1 p2 M = some M') : Met l yX12_sink (wz yX12_sink cX12_sink 5 none) ({ frames := 5, cells := 0, slots := 0, locals := 112 } : Room) (Pq Γ M [.ref this, .int p1, .int p2]) (Qv Γ M') 0 0 (fr Γ) := by
  refine met_of (own := RX12) (by decide +kernel) rfl (Nat.le_of_ble_eq_true rfl) ?_
  intro X hC hR hnm hXl
  unfold F_X12_sink at h
  show G Γ X 5 M 0 0 _ 0 ([(0, .ref this), (1, .int p1), (2, .int p2)]) []
  refine g_aload_n hC 0 dX12_sink_0 rfl ?_
  refine g_iconst hC 0 dX12_sink_1 (by decide) ?_
  replace h := ob h; obtain ⟨M1, eM1, h⟩ := h
  refine g_putI hC eM1 fk_X12_30 rfl dX12_sink_2 ?_
  refine g_aload_n hC 0 dX12_sink_5 rfl ?_
  refine g_iconst hC 0 dX12_sink_6 (by decide) ?_
  replace h := ob h; obtain ⟨M2, eM2, h⟩ := h
  refine g_putZ hC eM2 fk_X12_33 rfl dX12_sink_7 ?_
  refine g_iconst hC 0 dX12_sink_10 (by decide) ?_
  refine g_istore_n hC ([(3, .int 0), (0, .ref this), (1, .int p1), (2, .int p2)]) dX12_sink_11 (by decide) rfl ?_
  refine g_sub [1, 2, 3, 0] rfl ?_
  refine l_X12_sink_L12 hC hR M'  _ _ _  _ _ _ h

set_option maxHeartbeats 4000000 in
set_option maxRecDepth 100000 in
theorem c_X12_isHeading (l : Launch) (Γ : Gm) (this : Nat) (p1 : Int32) (p2 : Int32) (p3 : Int32) (M M' : Mm) (r : Int32) (h : F_X12_isHeading this p1 p2 p3 M = some (r, M')) : Met l yX12_isHeading (wz yX12_isHeading cX12_isHeading 4 (some .boolean)) ({ frames := 1, cells := 0, slots := 0, locals := 23 } : Room) (Pq Γ M [.ref this, .int p1, .int p2, .int p3]) (Qi Γ r M') 0 0 (fr Γ) := by
  refine met_of (own := RX12) (by decide +kernel) rfl (Nat.le_of_ble_eq_true rfl) ?_
  intro X hC hR hnm hXl
  unfold F_X12_isHeading at h
  show G Γ X 4 M 0 0 _ 0 ([(0, .ref this), (1, .int p1), (2, .int p2), (3, .int p3)]) []
  refine g_aload_n hC 0 dX12_isHeading_0 rfl ?_
  refine g_iload_n hC 2 dX12_isHeading_1 rfl ?_
  refine g_bipush hC (-4) dX12_isHeading_2 (by decide) ?_
  refine g_iconst hC 4 dX12_isHeading_4 (by decide) ?_
  replace h := ob h; obtain ⟨_, eu2, h⟩ := h
  replace h := ob h; obtain ⟨⟨v3, M1⟩, eM1, h⟩ := h
  refine g_calli hC (r_V hC (As := [.int p2, .int (-4), .int 4]) (c_X12_is _ Γ this p2 (-4) 4 M M1 v3 eM1) yk_X12_is lk_X12_123 eu2 ⟨_, rfl, rfl⟩ rfl rfl (Nat.le_of_ble_eq_true rfl) hR ⟨(Nat.le_of_ble_eq_true rfl), (Nat.le_of_ble_eq_true rfl)⟩ ⟨(Nat.le_of_ble_eq_true rfl), (Nat.le_of_ble_eq_true rfl)⟩ dX12_isHeading_5) ?_
  refine g_if_eq hC 45 dX12_isHeading_8 (by decide) (fun c4 => ?_) (fun c4 => ?_)
  · replace h := it_t c4 h
    refine g_iconst hC 0 dX12_isHeading_45 (by decide) ?_
    exact g_zret hC (by decide) h ⟨(Nat.le_of_ble_eq_true rfl), (Nat.le_of_ble_eq_true rfl)⟩ dX12_isHeading_46
  · replace h := it_f c4 h
    refine g_aload_n hC 0 dX12_isHeading_11 rfl ?_
    refine g_iload_n hC 3 dX12_isHeading_12 rfl ?_
    refine g_bipush hC (-4) dX12_isHeading_13 (by decide) ?_
    refine g_iconst hC 4 dX12_isHeading_15 (by decide) ?_
    replace h := ob h; obtain ⟨_, eu6, h⟩ := h
    replace h := ob h; obtain ⟨⟨v7, M5⟩, eM5, h⟩ := h
    refine g_calli hC (r_V hC (As := [.int p3, .int (-4), .int 4]) (c_X12_is _ Γ this p3 (-4) 4 M1 M5 v7 eM5) yk_X12_is lk_X12_123 eu6 ⟨_, rfl, rfl⟩ rfl rfl (Nat.le_of_ble_eq_true rfl) hR ⟨(Nat.le_of_ble_eq_true rfl), (Nat.le_of_ble_eq_true rfl)⟩ ⟨(Nat.le_of_ble_eq_true rfl), (Nat.le_of_ble_eq_true rfl)⟩ dX12_isHeading_16) ?_
    refine g_if_eq hC 45 dX12_isHeading_19 (by decide) (fun c8 => ?_) (fun c8 => ?_)
    · replace h := it_t c8 h
      refine g_iconst hC 0 dX12_isHeading_45 (by decide) ?_
      exact g_zret hC (by decide) h ⟨(Nat.le_of_ble_eq_true rfl), (Nat.le_of_ble_eq_true rfl)⟩ dX12_isHeading_46
    · replace h := it_f c8 h
      refine g_aload_n hC 0 dX12_isHeading_22 rfl ?_
      refine g_iload_n hC 2 dX12_isHeading_23 rfl ?_
      replace h := ob h; obtain ⟨_, eu10, h⟩ := h
      replace h := ob h; obtain ⟨⟨v11, M9⟩, eM9, h⟩ := h
      refine g_calli hC (r_V hC (As := [.int p2]) (c_X12_abs _ Γ this p2 M5 M9 v11 eM9) yk_X12_abs lk_X12_152 eu10 ⟨_, rfl, rfl⟩ rfl rfl (Nat.le_of_ble_eq_true rfl) hR ⟨(Nat.le_of_ble_eq_true rfl), (Nat.le_of_ble_eq_true rfl)⟩ ⟨(Nat.le_of_ble_eq_true rfl), (Nat.le_of_ble_eq_true rfl)⟩ dX12_isHeading_24) ?_
      refine g_aload_n hC 0 dX12_isHeading_27 rfl ?_
      refine g_iload_n hC 3 dX12_isHeading_28 rfl ?_
      replace h := ob h; obtain ⟨_, eu13, h⟩ := h
      replace h := ob h; obtain ⟨⟨v14, M12⟩, eM12, h⟩ := h
      refine g_calli hC (r_V hC (As := [.int p3]) (c_X12_abs _ Γ this p3 M9 M12 v14 eM12) yk_X12_abs lk_X12_152 eu13 ⟨_, rfl, rfl⟩ rfl rfl (Nat.le_of_ble_eq_true rfl) hR ⟨(Nat.le_of_ble_eq_true rfl), (Nat.le_of_ble_eq_true rfl)⟩ ⟨(Nat.le_of_ble_eq_true rfl), (Nat.le_of_ble_eq_true rfl)⟩ dX12_isHeading_29) ?_
      refine g_iadd hC dX12_isHeading_32 ?_
      refine g_aload_n hC 0 dX12_isHeading_33 rfl ?_
      refine g_iload_n hC 1 dX12_isHeading_34 rfl ?_
      replace h := ob h; obtain ⟨_, eu16, h⟩ := h
      replace h := ob h; obtain ⟨⟨v17, M15⟩, eM15, h⟩ := h
      refine g_calli hC (r_V hC (As := [.int p1]) (c_X12_goes _ Γ this p1 M12 M15 v17 eM15) yk_X12_goes lk_X12_146 eu16 ⟨_, rfl, rfl⟩ rfl rfl (Nat.le_of_ble_eq_true rfl) hR ⟨(Nat.le_of_ble_eq_true rfl), (Nat.le_of_ble_eq_true rfl)⟩ ⟨(Nat.le_of_ble_eq_true rfl), (Nat.le_of_ble_eq_true rfl)⟩ dX12_isHeading_35) ?_
      refine g_icmp_gt hC 45 dX12_isHeading_38 (by decide) (fun c18 => ?_) (fun c18 => ?_)
      · replace h := it_t c18 h
        refine g_iconst hC 0 dX12_isHeading_45 (by decide) ?_
        exact g_zret hC (by decide) h ⟨(Nat.le_of_ble_eq_true rfl), (Nat.le_of_ble_eq_true rfl)⟩ dX12_isHeading_46
      · replace h := it_f c18 h
        refine g_iconst hC 1 dX12_isHeading_41 (by decide) ?_
        refine g_goto hC 46 dX12_isHeading_42 (by decide) ?_
        exact g_zret hC (by decide) h ⟨(Nat.le_of_ble_eq_true rfl), (Nat.le_of_ble_eq_true rfl)⟩ dX12_isHeading_46

set_option maxHeartbeats 4000000 in
set_option maxRecDepth 100000 in
theorem c_X12_besideOf (l : Launch) (Γ : Gm) (this : Nat) (p1 : Int32) (p2 : Int32) (M M' : Mm) (r : Int32) (h : F_X12_besideOf this p1 p2 M = some (r, M')) : Met l yX12_besideOf (wz yX12_besideOf cX12_besideOf 5 (some .int)) ({ frames := 2, cells := 0, slots := 0, locals := 45 } : Room) (Pq Γ M [.ref this, .int p1, .int p2]) (Qi Γ r M') 0 0 (fr Γ) := by
  refine met_of (own := RX12) (by decide +kernel) rfl (Nat.le_of_ble_eq_true rfl) ?_
  intro X hC hR hnm hXl
  unfold F_X12_besideOf at h
  show G Γ X 5 M 0 0 _ 0 ([(0, .ref this), (1, .int p1), (2, .int p2)]) []
  refine g_iload_n hC 1 dX12_besideOf_0 rfl ?_
  refine g_bipush hC 8 dX12_besideOf_1 (by decide) ?_
  replace h := ob h; obtain ⟨v1, ev1, h⟩ := h
  refine g_idiv hC ev1 dX12_besideOf_3 ?_
  refine g_iload_n hC 2 dX12_besideOf_4 rfl ?_
  replace h := nv_e h; obtain ⟨v2, ev2, h⟩ := h
  have J3 : G Γ X 5 M 0 0 (Fin Γ X (Qi Γ r M') 0 0) 22 ([(0, .ref this), (1, .int p1), (2, .int p2)]) ([.int v2, .int v1]) := by
    refine g_iadd hC dX12_besideOf_22 ?_
    refine g_istore_n hC ([(3, .int (v1 + v2)), (0, .ref this), (1, .int p1), (2, .int p2)]) dX12_besideOf_23 (by decide) rfl ?_
    refine g_iload_n hC 2 dX12_besideOf_24 rfl ?_
    refine g_bipush hC 8 dX12_besideOf_25 (by decide) ?_
    replace h := ob h; obtain ⟨v4, ev4, h⟩ := h
    refine g_irem hC ev4 dX12_besideOf_27 ?_
    refine g_iload_n hC 3 dX12_besideOf_28 rfl ?_
    refine g_iconst hC 1 dX12_besideOf_29 (by decide) ?_
    replace h := nv_e h; obtain ⟨v5, ev5, h⟩ := h
    have J6 : G Γ X 5 M 0 0 (Fin Γ X (Qi Γ r M') 0 0) 47 ([(3, .int (v1 + v2)), (0, .ref this), (1, .int p1), (2, .int p2)]) ([.int v5, .int v4]) := by
      refine g_iadd hC dX12_besideOf_47 ?_
      refine g_istore hC ([(4, .int (v4 + v5)), (3, .int (v1 + v2)), (0, .ref this), (1, .int p1), (2, .int p2)]) dX12_besideOf_48 (by decide) rfl ?_
      refine g_aload_n hC 2 dX12_besideOf_50 rfl ?_
      refine g_iload_n hC 1 dX12_besideOf_51 rfl ?_
      refine g_iload hC 0 dX12_besideOf_52 rfl ?_
      replace h := ob h; obtain ⟨_, eu8, h⟩ := h
      replace h := ob h; obtain ⟨⟨v9, M7⟩, eM7, h⟩ := h
      refine g_calli hC (r_V hC (As := [.int (v1 + v2), .int (v4 + v5)]) (c_X12_isCell _ Γ this (v1 + v2) (v4 + v5) M M7 v9 eM7) yk_X12_isCell lk_X12_127 eu8 ⟨_, rfl, rfl⟩ rfl rfl (Nat.le_of_ble_eq_true rfl) hR ⟨(Nat.le_of_ble_eq_true rfl), (Nat.le_of_ble_eq_true rfl)⟩ ⟨(Nat.le_of_ble_eq_true rfl), (Nat.le_of_ble_eq_true rfl)⟩ dX12_besideOf_54) ?_
      refine g_if_eq hC 70 dX12_besideOf_57 (by decide) (fun c10 => ?_) (fun c10 => ?_)
      · replace h := it_t c10 h
        refine g_iconst hC (-1) dX12_besideOf_70 (by decide) ?_
        exact g_iret hC h ⟨(Nat.le_of_ble_eq_true rfl), (Nat.le_of_ble_eq_true rfl)⟩ dX12_besideOf_71
      · replace h := it_f c10 h
        refine g_bipush hC 8 dX12_besideOf_60 (by decide) ?_
        refine g_iload_n hC 1 dX12_besideOf_62 rfl ?_
        refine g_imul hC dX12_besideOf_63 ?_
        refine g_iload hC 0 dX12_besideOf_64 rfl ?_
        refine g_iadd hC dX12_besideOf_66 ?_
        refine g_goto hC 71 dX12_besideOf_67 (by decide) ?_
        exact g_iret hC h ⟨(Nat.le_of_ble_eq_true rfl), (Nat.le_of_ble_eq_true rfl)⟩ dX12_besideOf_71
    refine g_icmp_ne hC 37 dX12_besideOf_30 (by decide) (fun c11 => ?_) (fun c11 => ?_)
    · refine g_iload_n hC 3 dX12_besideOf_37 rfl ?_
      refine g_iconst hC 3 dX12_besideOf_38 (by decide) ?_
      refine g_icmp_ne hC 46 dX12_besideOf_39 (by decide) (fun c12 => ?_) (fun c12 => ?_)
      · refine g_iconst hC 0 dX12_besideOf_46 (by decide) ?_
        rw [show v5 = _ from ev5.trans ((if_neg c11).trans (if_neg c12))] at J6
        exact J6
      · refine g_iconst hC (-1) dX12_besideOf_42 (by decide) ?_
        refine g_goto hC 47 dX12_besideOf_43 (by decide) ?_
        rw [show v5 = _ from ev5.trans ((if_neg c11).trans (if_pos c12))] at J6
        exact J6
    · refine g_iconst hC 1 dX12_besideOf_33 (by decide) ?_
      refine g_goto hC 47 dX12_besideOf_34 (by decide) ?_
      rw [show v5 = _ from ev5.trans (if_pos c11)] at J6
      exact J6
  refine g_if_ne hC 12 dX12_besideOf_5 (by decide) (fun c13 => ?_) (fun c13 => ?_)
  · refine g_iload_n hC 2 dX12_besideOf_12 rfl ?_
    refine g_iconst hC 2 dX12_besideOf_13 (by decide) ?_
    refine g_icmp_ne hC 21 dX12_besideOf_14 (by decide) (fun c14 => ?_) (fun c14 => ?_)
    · refine g_iconst hC 0 dX12_besideOf_21 (by decide) ?_
      rw [show v2 = _ from ev2.trans ((if_neg c13).trans (if_neg c14))] at J3
      exact J3
    · refine g_iconst hC (-1) dX12_besideOf_17 (by decide) ?_
      refine g_goto hC 22 dX12_besideOf_18 (by decide) ?_
      rw [show v2 = _ from ev2.trans ((if_neg c13).trans (if_pos c14))] at J3
      exact J3
  · refine g_iconst hC 1 dX12_besideOf_8 (by decide) ?_
    refine g_goto hC 22 dX12_besideOf_9 (by decide) ?_
    rw [show v2 = _ from ev2.trans (if_pos c13)] at J3
    exact J3

set_option maxHeartbeats 4000000 in
set_option maxRecDepth 100000 in
theorem l_X12_measure_L230 {Γ : Gm} {X : Ct} (hC : Cx Γ X cX12_measure RX12 none 7) (hR : X.2.2.2.1 = ({ frames := 3, cells := 0, slots := 0, locals := 69 } : Room)) (M' : Mm)  (x0 : Nat) (x2 : Int32) : ∀ (fu : Nat) (x6 : Int32) (M0 : Mm), F_X12_measure_L230 x0 x2 fu x6 M0 = some M' → G Γ X 7 M0 0 0 (Fin Γ X (Qv Γ M') 0 0) 230 ([(0, .ref x0), (2, .int x2), (6, .int x6)]) [] := by
  intro fu
  induction fu with
  | zero =>
    intro x6 M0 h
    rw [F_X12_measure_L230] at h
    cases h
  | succ n31 ih =>
    intro x6 M0 h
    rw [F_X12_measure_L230] at h
    refine g_iload hC 2 dX12_measure_230 rfl ?_
    refine g_iconst hC 4 dX12_measure_232 (by decide) ?_
    refine g_icmp_ge hC 272 dX12_measure_233 (by decide) (fun c32 => ?_) (fun c32 => ?_)
    · replace h := it_t c32 h
      exact g_vret hC h ⟨(Nat.le_of_ble_eq_true rfl), (Nat.le_of_ble_eq_true rfl)⟩ dX12_measure_272
    · replace h := it_f c32 h
      refine g_aload_n hC 0 dX12_measure_236 rfl ?_
      refine g_iload_n hC 1 dX12_measure_237 rfl ?_
      refine g_iload hC 2 dX12_measure_238 rfl ?_
      replace h := ob h; obtain ⟨_, eu34, h⟩ := h
      replace h := ob h; obtain ⟨⟨v35, M33⟩, eM33, h⟩ := h
      refine g_calli hC (r_V hC (As := [.int x2, .int x6]) (c_X12_besideOf _ Γ x0 x2 x6 M0 M33 v35 eM33) yk_X12_besideOf lk_X12_165 eu34 ⟨_, rfl, rfl⟩ rfl rfl (Nat.le_of_ble_eq_true rfl) hR ⟨(Nat.le_of_ble_eq_true rfl), (Nat.le_of_ble_eq_true rfl)⟩ ⟨(Nat.le_of_ble_eq_true rfl), (Nat.le_of_ble_eq_true rfl)⟩ dX12_measure_240) ?_
      refine g_if_lt hC 266 dX12_measure_243 (by decide) (fun c36 => ?_) (fun c36 => ?_)
      · replace h := it_t c36 h
        refine g_iinc hC 2 (x6 + 1) ([(6, .int (x6 + 1)), (0, .ref x0), (2, .int x2)]) dX12_measure_266 rfl rfl (by decide) rfl ?_
        refine g_goto hC 230 dX12_measure_269 (by decide) ?_
        refine g_sub [1, 2, 0] rfl ?_
        exact ih (x6 + 1) M33 h
      · replace h := it_f c36 h
        refine g_aload_n hC 0 dX12_measure_246 rfl ?_
        replace h := ob h; obtain ⟨v37, ev37, h⟩ := h
        refine g_getR hC ev37 fk_X12_13 rfl dX12_measure_247 ?_
        refine g_sipush hC 170 dX12_measure_250 (by decide) ?_
        refine g_aload_n hC 0 dX12_measure_253 rfl ?_
        refine g_iload_n hC 1 dX12_measure_254 rfl ?_
        refine g_iload hC 2 dX12_measure_255 rfl ?_
        replace h := ob h; obtain ⟨_, eu39, h⟩ := h
        replace h := ob h; obtain ⟨⟨v40, M38⟩, eM38, h⟩ := h
        refine g_calli hC (r_V hC (As := [.int x2, .int x6]) (c_X12_besideOf _ Γ x0 x2 x6 M33 M38 v40 eM38) yk_X12_besideOf lk_X12_165 eu39 ⟨_, rfl, rfl⟩ rfl rfl (by simp only [List.map, cat_rf]; exact Nat.le_of_ble_eq_true rfl) hR ⟨(Nat.le_of_ble_eq_true rfl), (Nat.le_of_ble_eq_true rfl)⟩ ⟨(Nat.le_of_ble_eq_true rfl), (Nat.le_of_ble_eq_true rfl)⟩ dX12_measure_257) ?_
        refine g_iadd hC dX12_measure_260 ?_
        refine g_dup2 hC dX12_measure_261 rfl (cat_rf _) ?_
        replace h := ob h; obtain ⟨a42, ea42, h⟩ := h
        subst ea42
        replace h := ob h; obtain ⟨v41, ev41, h⟩ := h
        refine g_iald hC ev41 dX12_measure_262 ?_
        refine g_iconst hC 2 dX12_measure_263 (by decide) ?_
        replace h := ob h; obtain ⟨v43, ev43, h⟩ := h
        refine g_idiv hC ev43 dX12_measure_264 ?_
        replace h := ob h; obtain ⟨M44, eM44, h⟩ := h
        refine g_iast hC eM44 dX12_measure_265 ?_
        refine g_iinc hC 2 (x6 + 1) ([(6, .int (x6 + 1)), (0, .ref x0), (2, .int x2)]) dX12_measure_266 rfl rfl (by decide) rfl ?_
        refine g_goto hC 230 dX12_measure_269 (by decide) ?_
        refine g_sub [1, 2, 0] rfl ?_
        exact ih (x6 + 1) M44 h
set_option maxHeartbeats 4000000 in
set_option maxRecDepth 100000 in
theorem c_X12_measure (l : Launch) (Γ : Gm) (this : Nat) (p1 : Int32) (M M' : Mm) (h : F_X12_measure this p1 M = some M') : Met l yX12_measure (wz yX12_measure cX12_measure 7 none) ({ frames := 3, cells := 0, slots := 0, locals := 69 } : Room) (Pq Γ M [.ref this, .int p1]) (Qv Γ M') 0 0 (fr Γ) := by
  refine met_of (own := RX12) (by decide +kernel) rfl (Nat.le_of_ble_eq_true rfl) ?_
  intro X hC hR hnm hXl
  unfold F_X12_measure at h
  show G Γ X 7 M 0 0 _ 0 ([(0, .ref this), (1, .int p1)]) []
  refine g_bipush hC 8 dX12_measure_0 (by decide) ?_
  refine g_aload_n hC 0 dX12_measure_2 rfl ?_
  replace h := ob h; obtain ⟨v1, ev1, h⟩ := h
  refine g_getI hC ev1 fk_X12_24 rfl dX12_measure_3 ?_
  refine g_imul hC dX12_measure_6 ?_
  refine g_aload_n hC 0 dX12_measure_7 rfl ?_
  replace h := ob h; obtain ⟨v2, ev2, h⟩ := h
  refine g_getI hC ev2 fk_X12_27 rfl dX12_measure_8 ?_
  refine g_iadd hC dX12_measure_11 ?_
  refine g_istore_n hC ([(2, .int ((8 * v1) + v2)), (0, .ref this), (1, .int p1)]) dX12_measure_12 (by decide) rfl ?_
  refine g_aload_n hC 1 dX12_measure_13 rfl ?_
  replace h := ob h; obtain ⟨v3, ev3, h⟩ := h
  refine g_getI hC ev3 fk_X12_30 rfl dX12_measure_14 ?_
  refine g_aload_n hC 1 dX12_measure_17 rfl ?_
  replace h := ob h; obtain ⟨v4, ev4, h⟩ := h
  refine g_getR hC ev4 fk_X12_13 rfl dX12_measure_18 ?_
  refine g_bipush hC 10 dX12_measure_21 (by decide) ?_
  refine g_iload_n hC 0 dX12_measure_23 rfl ?_
  refine g_iadd hC dX12_measure_24 ?_
  replace h := ob h; obtain ⟨a6, ea6, h⟩ := h
  subst ea6
  replace h := ob h; obtain ⟨v5, ev5, h⟩ := h
  refine g_iald hC ev5 dX12_measure_25 ?_
  replace h := jp_e h; obtain ⟨k7, ek7, h⟩ := h
  have J75 : ∀ (s8 : Int32) (M9 : Mm), k7 s8 M9 = some M' → G Γ X 7 M9 0 0 (Fin Γ X (Qv Γ M') 0 0) 47 ([(0, .ref this), (1, .int p1), (2, .int ((8 * v1) + v2))]) ([.int s8]) := by
    intro s8 M9 h
    rw [ek7] at h
    refine g_istore_n hC ([(3, .int s8), (0, .ref this), (1, .int p1), (2, .int ((8 * v1) + v2))]) dX12_measure_47 (by decide) rfl ?_
    refine g_aload_n hC 1 dX12_measure_48 rfl ?_
    replace h := ob h; obtain ⟨v10, ev10, h⟩ := h
    refine g_getR hC ev10 fk_X12_13 rfl dX12_measure_49 ?_
    refine g_sipush hC 1530 dX12_measure_52 (by decide) ?_
    refine g_iconst hC 4 dX12_measure_55 (by decide) ?_
    refine g_iload_n hC 3 dX12_measure_56 rfl ?_
    refine g_imul hC dX12_measure_57 ?_
    refine g_iadd hC dX12_measure_58 ?_
    refine g_iload_n hC 0 dX12_measure_59 rfl ?_
    refine g_iadd hC dX12_measure_60 ?_
    replace h := ob h; obtain ⟨a12, ea12, h⟩ := h
    subst ea12
    replace h := ob h; obtain ⟨v11, ev11, h⟩ := h
    refine g_iald hC ev11 dX12_measure_61 ?_
    refine g_iconst hC 3 dX12_measure_62 (by decide) ?_
    refine g_aload_n hC 1 dX12_measure_63 rfl ?_
    replace h := ob h; obtain ⟨v13, ev13, h⟩ := h
    refine g_getR hC ev13 fk_X12_13 rfl dX12_measure_64 ?_
    refine g_sipush hC 2218 dX12_measure_67 (by decide) ?_
    refine g_iload_n hC 2 dX12_measure_70 rfl ?_
    refine g_iadd hC dX12_measure_71 ?_
    replace h := ob h; obtain ⟨a15, ea15, h⟩ := h
    subst ea15
    replace h := ob h; obtain ⟨v14, ev14, h⟩ := h
    refine g_iald hC ev14 dX12_measure_72 ?_
    refine g_imul hC dX12_measure_73 ?_
    refine g_iadd hC dX12_measure_74 ?_
    refine g_istore hC ([(4, .int (v11 + (3 * v14))), (3, .int s8), (0, .ref this), (1, .int p1), (2, .int ((8 * v1) + v2))]) dX12_measure_75 (by decide) rfl ?_
    refine g_aload_n hC 2 dX12_measure_77 rfl ?_
    replace h := ob h; obtain ⟨v16, ev16, h⟩ := h
    refine g_getR hC ev16 fk_X12_13 rfl dX12_measure_78 ?_
    refine g_iconst hC 2 dX12_measure_81 (by decide) ?_
    replace h := ob h; obtain ⟨a18, ea18, h⟩ := h
    subst ea18
    replace h := ob h; obtain ⟨v17, ev17, h⟩ := h
    refine g_iald hC ev17 dX12_measure_82 ?_
    refine g_istore hC ([(5, .int v17), (4, .int (v11 + (3 * v14))), (3, .int s8), (0, .ref this), (1, .int p1), (2, .int ((8 * v1) + v2))]) dX12_measure_83 (by decide) rfl ?_
    refine g_iload hC 0 dX12_measure_85 rfl ?_
    refine g_sipush hC 200 dX12_measure_87 (by decide) ?_
    replace h := jp_e h; obtain ⟨k19, ek19, h⟩ := h
    have J45 : ∀  (M20 : Mm), k19  M20 = some M' → G Γ X 7 M20 0 0 (Fin Γ X (Qv Γ M') 0 0) 190 ([(0, .ref this), (1, .int p1), (2, .int ((8 * v1) + v2)), (4, .int (v11 + (3 * v14)))]) ([]) := by
      intro  M20 h
      rw [ek19] at h
      refine g_aload_n hC 0 dX12_measure_190 rfl ?_
      replace h := ob h; obtain ⟨v21, ev21, h⟩ := h
      refine g_getR hC ev21 fk_X12_13 rfl dX12_measure_191 ?_
      refine g_sipush hC 2250 dX12_measure_194 (by decide) ?_
      refine g_iload_n hC 1 dX12_measure_197 rfl ?_
      refine g_iadd hC dX12_measure_198 ?_
      refine g_iload hC 3 dX12_measure_199 rfl ?_
      replace h := ob h; obtain ⟨a23, ea23, h⟩ := h
      subst ea23
      replace h := ob h; obtain ⟨M22, eM22, h⟩ := h
      refine g_iast hC eM22 dX12_measure_201 ?_
      refine g_aload_n hC 0 dX12_measure_202 rfl ?_
      replace h := ob h; obtain ⟨v24, ev24, h⟩ := h
      refine g_getR hC ev24 fk_X12_13 rfl dX12_measure_203 ?_
      refine g_sipush hC 2218 dX12_measure_206 (by decide) ?_
      refine g_iload_n hC 1 dX12_measure_209 rfl ?_
      refine g_iadd hC dX12_measure_210 ?_
      refine g_dup2 hC dX12_measure_211 rfl (cat_rf _) ?_
      replace h := ob h; obtain ⟨a26, ea26, h⟩ := h
      subst ea26
      replace h := ob h; obtain ⟨v25, ev25, h⟩ := h
      refine g_iald hC ev25 dX12_measure_212 ?_
      refine g_iconst hC 1 dX12_measure_213 (by decide) ?_
      refine g_iadd hC dX12_measure_214 ?_
      replace h := ob h; obtain ⟨M27, eM27, h⟩ := h
      refine g_iast hC eM27 dX12_measure_215 ?_
      refine g_aload_n hC 0 dX12_measure_216 rfl ?_
      replace h := ob h; obtain ⟨v28, ev28, h⟩ := h
      refine g_getR hC ev28 fk_X12_13 rfl dX12_measure_217 ?_
      refine g_sipush hC 170 dX12_measure_220 (by decide) ?_
      refine g_iload_n hC 2 dX12_measure_223 rfl ?_
      refine g_iadd hC dX12_measure_224 ?_
      refine g_iconst hC 0 dX12_measure_225 (by decide) ?_
      replace h := ob h; obtain ⟨a30, ea30, h⟩ := h
      subst ea30
      replace h := ob h; obtain ⟨M29, eM29, h⟩ := h
      refine g_iast hC eM29 dX12_measure_226 ?_
      refine g_iconst hC 0 dX12_measure_227 (by decide) ?_
      refine g_istore hC ([(6, .int 0), (0, .ref this), (1, .int p1), (2, .int ((8 * v1) + v2)), (4, .int (v11 + (3 * v14)))]) dX12_measure_228 (by decide) rfl ?_
      refine g_sub [1, 3, 0] rfl ?_
      refine l_X12_measure_L230 hC hR M'  _ _  _ _ _ h
    refine g_icmp_ge hC 190 dX12_measure_90 (by decide) (fun c46 => ?_) (fun c46 => ?_)
    · replace h := it_t c46 h
      refine g_sub [3, 4, 5, 1] rfl ?_
      exact J45  M9 h
    · replace h := it_f c46 h
      refine g_aload_n hC 3 dX12_measure_93 rfl ?_
      replace h := ob h; obtain ⟨v47, ev47, h⟩ := h
      refine g_getR hC ev47 fk_X12_13 rfl dX12_measure_94 ?_
      refine g_sipush hC 2270 dX12_measure_97 (by decide) ?_
      refine g_iload hC 0 dX12_measure_100 rfl ?_
      refine g_iadd hC dX12_measure_102 ?_
      refine g_iload_n hC 4 dX12_measure_103 rfl ?_
      replace h := ob h; obtain ⟨a49, ea49, h⟩ := h
      subst ea49
      replace h := ob h; obtain ⟨M48, eM48, h⟩ := h
      refine g_iast hC eM48 dX12_measure_104 ?_
      refine g_aload_n hC 3 dX12_measure_105 rfl ?_
      replace h := ob h; obtain ⟨v50, ev50, h⟩ := h
      refine g_getR hC ev50 fk_X12_13 rfl dX12_measure_106 ?_
      refine g_sipush hC 2470 dX12_measure_109 (by decide) ?_
      refine g_iload hC 0 dX12_measure_112 rfl ?_
      refine g_iadd hC dX12_measure_114 ?_
      refine g_aload_n hC 3 dX12_measure_115 rfl ?_
      replace h := ob h; obtain ⟨v51, ev51, h⟩ := h
      refine g_getR hC ev51 fk_X12_13 rfl dX12_measure_116 ?_
      refine g_iconst hC 1 dX12_measure_119 (by decide) ?_
      replace h := ob h; obtain ⟨a53, ea53, h⟩ := h
      subst ea53
      replace h := ob h; obtain ⟨v52, ev52, h⟩ := h
      refine g_iald hC ev52 dX12_measure_120 ?_
      replace h := ob h; obtain ⟨a55, ea55, h⟩ := h
      subst ea55
      replace h := ob h; obtain ⟨M54, eM54, h⟩ := h
      refine g_iast hC eM54 dX12_measure_121 ?_
      refine g_aload_n hC 3 dX12_measure_122 rfl ?_
      replace h := ob h; obtain ⟨v56, ev56, h⟩ := h
      refine g_getR hC ev56 fk_X12_13 rfl dX12_measure_123 ?_
      refine g_sipush hC 2670 dX12_measure_126 (by decide) ?_
      refine g_iload hC 0 dX12_measure_129 rfl ?_
      refine g_iadd hC dX12_measure_131 ?_
      refine g_iload_n hC 5 dX12_measure_132 rfl ?_
      replace h := ob h; obtain ⟨a58, ea58, h⟩ := h
      subst ea58
      replace h := ob h; obtain ⟨M57, eM57, h⟩ := h
      refine g_iast hC eM57 dX12_measure_133 ?_
      refine g_aload_n hC 3 dX12_measure_134 rfl ?_
      replace h := ob h; obtain ⟨v59, ev59, h⟩ := h
      refine g_getR hC ev59 fk_X12_13 rfl dX12_measure_135 ?_
      refine g_sipush hC 2870 dX12_measure_138 (by decide) ?_
      refine g_iload hC 0 dX12_measure_141 rfl ?_
      refine g_iadd hC dX12_measure_143 ?_
      refine g_iload_n hC 2 dX12_measure_144 rfl ?_
      replace h := ob h; obtain ⟨a61, ea61, h⟩ := h
      subst ea61
      replace h := ob h; obtain ⟨M60, eM60, h⟩ := h
      refine g_iast hC eM60 dX12_measure_145 ?_
      refine g_aload_n hC 3 dX12_measure_146 rfl ?_
      replace h := ob h; obtain ⟨v62, ev62, h⟩ := h
      refine g_getR hC ev62 fk_X12_13 rfl dX12_measure_147 ?_
      refine g_sipush hC 3070 dX12_measure_150 (by decide) ?_
      refine g_iload hC 0 dX12_measure_153 rfl ?_
      refine g_iadd hC dX12_measure_155 ?_
      refine g_aload_n hC 3 dX12_measure_156 rfl ?_
      replace h := ob h; obtain ⟨v63, ev63, h⟩ := h
      refine g_getR hC ev63 fk_X12_13 rfl dX12_measure_157 ?_
      refine g_sipush hC 2218 dX12_measure_160 (by decide) ?_
      refine g_iload_n hC 4 dX12_measure_163 rfl ?_
      refine g_iadd hC dX12_measure_164 ?_
      replace h := ob h; obtain ⟨a65, ea65, h⟩ := h
      subst ea65
      replace h := ob h; obtain ⟨v64, ev64, h⟩ := h
      refine g_iald hC ev64 dX12_measure_165 ?_
      replace h := ob h; obtain ⟨a67, ea67, h⟩ := h
      subst ea67
      replace h := ob h; obtain ⟨M66, eM66, h⟩ := h
      refine g_iast hC eM66 dX12_measure_166 ?_
      refine g_aload_n hC 3 dX12_measure_167 rfl ?_
      replace h := ob h; obtain ⟨v68, ev68, h⟩ := h
      refine g_getR hC ev68 fk_X12_13 rfl dX12_measure_168 ?_
      refine g_sipush hC 3270 dX12_measure_171 (by decide) ?_
      refine g_iload hC 0 dX12_measure_174 rfl ?_
      refine g_iadd hC dX12_measure_176 ?_
      refine g_iload hC 1 dX12_measure_177 rfl ?_
      replace h := ob h; obtain ⟨a70, ea70, h⟩ := h
      subst ea70
      replace h := ob h; obtain ⟨M69, eM69, h⟩ := h
      refine g_iast hC eM69 dX12_measure_179 ?_
      refine g_aload_n hC 3 dX12_measure_180 rfl ?_
      replace h := ob h; obtain ⟨v71, ev71, h⟩ := h
      refine g_getR hC ev71 fk_X12_13 rfl dX12_measure_181 ?_
      refine g_iconst hC 2 dX12_measure_184 (by decide) ?_
      refine g_dup2 hC dX12_measure_185 rfl (cat_rf _) ?_
      replace h := ob h; obtain ⟨a73, ea73, h⟩ := h
      subst ea73
      replace h := ob h; obtain ⟨v72, ev72, h⟩ := h
      refine g_iald hC ev72 dX12_measure_186 ?_
      refine g_iconst hC 1 dX12_measure_187 (by decide) ?_
      refine g_iadd hC dX12_measure_188 ?_
      replace h := ob h; obtain ⟨M74, eM74, h⟩ := h
      refine g_iast hC eM74 dX12_measure_189 ?_
      refine g_sub [3, 4, 5, 1] rfl ?_
      exact J45  M74 h
  refine g_icmp_ge hC 36 dX12_measure_26 (by decide) (fun c76 => ?_) (fun c76 => ?_)
  · replace h := it_t c76 h
    refine g_aload_n hC 1 dX12_measure_36 rfl ?_
    replace h := ob h; obtain ⟨v77, ev77, h⟩ := h
    refine g_getR hC ev77 fk_X12_13 rfl dX12_measure_37 ?_
    refine g_bipush hC 10 dX12_measure_40 (by decide) ?_
    refine g_iload_n hC 0 dX12_measure_42 rfl ?_
    refine g_iadd hC dX12_measure_43 ?_
    replace h := ob h; obtain ⟨a79, ea79, h⟩ := h
    subst ea79
    replace h := ob h; obtain ⟨v78, ev78, h⟩ := h
    refine g_iald hC ev78 dX12_measure_44 ?_
    refine g_iconst hC 1 dX12_measure_45 (by decide) ?_
    refine g_isub hC dX12_measure_46 ?_
    refine g_sub [1, 2, 0] rfl ?_
    exact J75 (v78 - 1) M h
  · replace h := it_f c76 h
    refine g_aload_n hC 1 dX12_measure_29 rfl ?_
    replace h := ob h; obtain ⟨v80, ev80, h⟩ := h
    refine g_getI hC ev80 fk_X12_30 rfl dX12_measure_30 ?_
    refine g_goto hC 47 dX12_measure_33 (by decide) ?_
    refine g_sub [1, 2, 0] rfl ?_
    exact J75 v80 M h
