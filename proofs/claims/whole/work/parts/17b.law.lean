/-! what each case wants -/
def Op_0 (R : Mm → Prop) (ax am : Nat) : Prop := ∀ (M : Mm) (a1 a2 a3 a4 : Int32), R M → ∃ (r : Int32) (M1 M2 : Mm), isO M ax 11 = some () ∧ F_X11_sea ax a1 a2 a3 a4 M = some (r, M1) ∧ isO M1 am 12 = some () ∧ F_X12_sea am a1 a2 a3 a4 M1 = some (r, M2) ∧ R M2
def Op_1 (R : Mm → Prop) (ax am : Nat) : Prop := ∀ (M : Mm) (a1 a2 a3 a4 a5 a6 : Int32), R M → ∃ (r : Int32) (M1 M2 : Mm), isO M ax 11 = some () ∧ F_X11_stream ax a1 a2 a3 a4 a5 (bz a6) M = some (r, M1) ∧ isO M1 am 12 = some () ∧ F_X12_stream am a1 a2 a3 a4 a5 (bz a6) M1 = some (r, M2) ∧ R M2
def Op_2 (R : Mm → Prop) (ax am : Nat) : Prop := ∀ (M : Mm) (a1 a2 a3 a4 : Int32), R M → ∃ (r : Int32) (M1 M2 : Mm), isO M ax 11 = some () ∧ F_X11_salt ax a1 a2 a3 a4 M = some (r, M1) ∧ isO M1 am 12 = some () ∧ F_X12_salt am a1 a2 a3 a4 M1 = some (r, M2) ∧ R M2
def Op_3 (R : Mm → Prop) (ax am : Nat) : Prop := ∀ (M : Mm) (a1 a2 a3 a4 : Int32), R M → ∃ (r : Int32) (M1 M2 : Mm), isO M ax 11 = some () ∧ F_X11_cell ax a1 a2 a3 a4 M = some (r, M1) ∧ isO M1 am 12 = some () ∧ F_X12_cell am a1 a2 a3 a4 M1 = some (r, M2) ∧ R M2
def Op_4 (R : Mm → Prop) (ax am : Nat) : Prop := ∀ (M : Mm) (a1 a2 a3 a4 : Int32), R M → ∃ (r : Int32) (M1 M2 : Mm), isO M ax 11 = some () ∧ F_X11_glider ax a1 a2 a3 a4 M = some (r, M1) ∧ isO M1 am 12 = some () ∧ F_X12_glider am a1 a2 a3 a4 M1 = some (r, M2) ∧ R M2
def Op_5 (R : Mm → Prop) (ax am : Nat) : Prop := ∀ (M : Mm) (a1 a2 : Int32), R M → ∃ (r : Int32) (M1 M2 : Mm), isO M ax 11 = some () ∧ F_X11_about ax a1 a2 M = some (r, M1) ∧ isO M1 am 12 = some () ∧ F_X12_about am a1 a2 M1 = some (r, M2) ∧ R M2
def Op_6 (R : Mm → Prop) (ax am : Nat) : Prop := ∀ (M : Mm) (a1 a2 : Int32), R M → ∃ (r : Int32) (M1 M2 : Mm), isO M ax 11 = some () ∧ F_X11_can ax a1 a2 M = some (r, M1) ∧ isO M1 am 12 = some () ∧ F_X12_can am a1 a2 M1 = some (r, M2) ∧ R M2
def Op_7 (R : Mm → Prop) (ax am : Nat) : Prop := ∀ (M : Mm) (a1 a2 : Int32), R M → ∃ (r : Int32) (M1 M2 : Mm), isO M ax 11 = some () ∧ F_X11_leak ax a1 (bz a2) M = some (r, M1) ∧ isO M1 am 12 = some () ∧ F_X12_leak am a1 (bz a2) M1 = some (r, M2) ∧ R M2
def Op_8 (R : Mm → Prop) (ax am : Nat) : Prop := ∀ (M : Mm) (a1 a2 a3 a4 : Int32), R M → ∃ (r : Int32) (M1 M2 : Mm), isO M ax 11 = some () ∧ F_X11_dive ax a1 a2 a3 a4 M = some (r, M1) ∧ isO M1 am 12 = some () ∧ F_X12_dive am a1 a2 a3 a4 M1 = some (r, M2) ∧ R M2
def Op_9 (R : Mm → Prop) (ax am : Nat) : Prop := ∀ (M : Mm) (a1 : Int32), R M → ∃ (r : Int32) (M1 M2 : Mm), isO M ax 11 = some () ∧ F_X11_fault ax a1 M = some (r, M1) ∧ isO M1 am 12 = some () ∧ F_X12_fault am a1 M1 = some (r, M2) ∧ R M2
def Op_10 (R : Mm → Prop) (ax am : Nat) : Prop := ∀ (M : Mm) (a1 : Int32), R M → ∃ (r : Int32) (M1 M2 : Mm), isO M ax 11 = some () ∧ F_X11_order ax a1 M = some (r, M1) ∧ isO M1 am 12 = some () ∧ F_X12_order am a1 M1 = some (r, M2) ∧ R M2
def Op_11 (R : Mm → Prop) (ax am : Nat) : Prop := ∀ (M : Mm) (a1 a2 : Int32), R M → ∃ (r : Int32) (M1 M2 : Mm), isO M ax 11 = some () ∧ F_X11_letter ax a1 a2 M = some (r, M1) ∧ isO M1 am 12 = some () ∧ F_X12_letter am a1 a2 M1 = some (r, M2) ∧ R M2
def Op_12 (R : Mm → Prop) (ax am : Nat) : Prop := ∀ (M : Mm) (a1 : Int32), R M → ∃ (r : Int32) (M1 M2 : Mm), isO M ax 11 = some () ∧ F_X11_waiting ax a1 M = some (r, M1) ∧ isO M1 am 12 = some () ∧ F_X12_waiting am a1 M1 = some (r, M2) ∧ R M2
def Op_13 (R : Mm → Prop) (ax am : Nat) : Prop := ∀ (M : Mm) (a1 a2 : Int32), R M → ∃ (r : Int32) (M1 M2 : Mm), isO M ax 11 = some () ∧ F_X11_deaf ax a1 (bz a2) M = some (r, M1) ∧ isO M1 am 12 = some () ∧ F_X12_deaf am a1 (bz a2) M1 = some (r, M2) ∧ R M2
def Op_14 (R : Mm → Prop) (ax am : Nat) : Prop := ∀ (M : Mm) (a1 : Int32), R M → ∃ (r : Int32) (M1 M2 : Mm), isO M ax 11 = some () ∧ F_X11_rule ax a1 M = some (r, M1) ∧ isO M1 am 12 = some () ∧ F_X12_rule am a1 M1 = some (r, M2) ∧ R M2
def Op_15 (R : Mm → Prop) (ax am : Nat) : Prop := ∀ (M : Mm) (a1 : Int32), R M → ∃ (r : Int32) (M1 M2 : Mm), isO M ax 11 = some () ∧ F_X11_times ax a1 M = some (r, M1) ∧ isO M1 am 12 = some () ∧ F_X12_times am a1 M1 = some (r, M2) ∧ R M2
def Op_16 (R : Mm → Prop) (ax am : Nat) : Prop := ∀ (M : Mm) (a1 a2 : Int32), R M → ∃ (r : Int32) (M1 M2 : Mm), isO M ax 11 = some () ∧ F_X11_known ax a1 a2 M = some (r, M1) ∧ isO M1 am 12 = some () ∧ F_X12_known am a1 a2 M1 = some (r, M2) ∧ R M2
def Op_17 (R : Mm → Prop) (ax am : Nat) : Prop := ∀ (M : Mm) (a1 a2 : Int32), R M → ∃ (r : Int32) (M1 M2 : Mm), isO M ax 11 = some () ∧ F_X11_clean ax a1 a2 M = some (r, M1) ∧ isO M1 am 12 = some () ∧ F_X12_clean am a1 a2 M1 = some (r, M2) ∧ R M2
def Op_18 (R : Mm → Prop) (ax am : Nat) : Prop := ∀ (M : Mm) (a1 a2 : Int32), R M → ∃ (r : Int32) (M1 M2 : Mm), isO M ax 11 = some () ∧ F_X11_reading ax a1 a2 M = some (r, M1) ∧ isO M1 am 12 = some () ∧ F_X12_reading am a1 a2 M1 = some (r, M2) ∧ R M2
def Op_19 (R : Mm → Prop) (ax am ao : Nat) : Prop := ∀ (M : Mm) (a1 a2 : Int32), R M → ∃ (k : Int32) (M1 : Mm), F_L_read ax a1 (bz a2) ao M = some (k, M1) ∧ ∀ j : Nat, ∃ (v : Int64) (M2 M3 : Mm), isO (jk M1 j) am 12 = some () ∧ F_X12_read am a1 (bz a2) (jk M1 j) = some (v, M2) ∧ isO M2 am 12 = some () ∧ F_X12_thrown am M2 = some (k, M3) ∧ R M3 ∧ (k = 0 → ldL M3 ao 0 = some v)
def Op_20 (R : Mm → Prop) (ax am : Nat) : Prop := ∀ (M : Mm) (a1 : Int32), R M → ∃ (r : Int32) (M1 M2 : Mm), isO M ax 11 = some () ∧ F_X11_plan ax a1 M = some (r, M1) ∧ isO M1 am 12 = some () ∧ F_X12_plan am a1 M1 = some (r, M2) ∧ R M2
def Op_21 (R : Mm → Prop) (ax am : Nat) : Prop := ∀ (M : Mm) (a1 a2 : Int32), R M → ∃ (r : Int32) (M1 M2 : Mm), isO M ax 11 = some () ∧ F_X11_planned ax a1 a2 M = some (r, M1) ∧ isO M1 am 12 = some () ∧ F_X12_planned am a1 a2 M1 = some (r, M2) ∧ R M2
def Op_22 (R : Mm → Prop) (ax am : Nat) : Prop := ∀ (M : Mm) (a1 a2 a3 a4 : Int32), R M → ∃ (r : Int32) (M1 M2 : Mm), isO M ax 11 = some () ∧ F_X11_ends ax a1 a2 a3 a4 M = some (r, M1) ∧ isO M1 am 12 = some () ∧ F_X12_ends am a1 a2 a3 a4 M1 = some (r, M2) ∧ R M2
def Op_23 (R : Mm → Prop) (ax am : Nat) : Prop := ∀ (M : Mm) (a1 : Int32), R M → ∃ (r : Int32) (M1 M2 : Mm), isO M ax 11 = some () ∧ F_X11_whole ax a1 M = some (r, M1) ∧ isO M1 am 12 = some () ∧ F_X12_whole am a1 M1 = some (r, M2) ∧ R M2
def Op_24 (R : Mm → Prop) (ax am : Nat) : Prop := ∀ (M : Mm) (a1 a2 : Int32), R M → ∃ (r : Int32) (M1 M2 : Mm), isO M ax 11 = some () ∧ F_X11_ship ax a1 a2 M = some (r, M1) ∧ isO M1 am 12 = some () ∧ F_X12_ship am a1 a2 M1 = some (r, M2) ∧ R M2
def Op_25 (R : Mm → Prop) (ax am : Nat) : Prop := ∀ (M : Mm) (a1 : Int32), R M → ∃ (r : Int32) (M1 M2 : Mm), isO M ax 11 = some () ∧ F_X11_left ax a1 M = some (r, M1) ∧ isO M1 am 12 = some () ∧ F_X12_left am a1 M1 = some (r, M2) ∧ R M2
def Op_26 (R : Mm → Prop) (ax am : Nat) : Prop := ∀ (M : Mm), R M → ∃ (r : Int32) (M1 M2 : Mm), isO M ax 11 = some () ∧ F_X11_next ax M = some (r, M1) ∧ isO M1 am 12 = some () ∧ F_X12_next am M1 = some (r, M2) ∧ R M2
def Op_27 (R : Mm → Prop) (ax am : Nat) : Prop := ∀ (M : Mm) (a1 : Int32), R M → ∃ (r : Int32) (M1 M2 : Mm), isO M ax 11 = some () ∧ F_X11_fetch ax a1 M = some (r, M1) ∧ isO M1 am 12 = some () ∧ F_X12_fetch am a1 M1 = some (r, M2) ∧ R M2
def Op_28 (R : Mm → Prop) (ax am : Nat) : Prop := ∀ (M : Mm), R M → ∃ (r : Int32) (M1 M2 : Mm), isO M ax 11 = some () ∧ F_X11_image ax M = some (r, M1) ∧ isO M1 am 12 = some () ∧ F_X12_image am M1 = some (r, M2) ∧ R M2
def Op_29 (R : Mm → Prop) (ax am : Nat) : Prop := ∀ (M : Mm), R M → ∃ (r : Int32) (M1 M2 : Mm), isO M ax 11 = some () ∧ F_X11_restore ax M = some (r, M1) ∧ isO M1 am 12 = some () ∧ F_X12_restore am M1 = some (r, M2) ∧ R M2
def Op_30 (R : Mm → Prop) (ax am : Nat) : Prop := ∀ (M : Mm) (a1 : Int32), R M → ∃ (r : Int32) (M1 M2 : Mm), isO M ax 11 = some () ∧ F_X11_count ax a1 M = some (r, M1) ∧ isO M1 am 12 = some () ∧ F_X12_count am a1 M1 = some (r, M2) ∧ R M2
def Op_31 (R : Mm → Prop) (ax am : Nat) : Prop := ∀ (M : Mm) (a1 a2 a3 : Int32), R M → ∃ (r : Int32) (M1 M2 : Mm), isO M ax 11 = some () ∧ F_X11_keep ax a1 a2 a3 M = some (r, M1) ∧ isO M1 am 12 = some () ∧ F_X12_keep am a1 a2 a3 M1 = some (r, M2) ∧ R M2
def Op_32 (R : Mm → Prop) (ax am : Nat) : Prop := ∀ (M : Mm) (a1 a2 a3 : Int32), R M → ∃ (r : Int32) (M1 M2 : Mm), isO M ax 11 = some () ∧ F_X11_row ax a1 a2 a3 M = some (r, M1) ∧ isO M1 am 12 = some () ∧ F_X12_row am a1 a2 a3 M1 = some (r, M2) ∧ R M2
def Op_33 (R : Mm → Prop) (ax am : Nat) : Prop := ∀ (M : Mm) (a1 a2 a3 : Int32), R M → ∃ (r : Int32) (M1 M2 : Mm), isO M ax 11 = some () ∧ F_X11_put ax a1 a2 a3 M = some (r, M1) ∧ isO M1 am 12 = some () ∧ F_X12_put am a1 a2 a3 M1 = some (r, M2) ∧ R M2
def Op_34 (R : Mm → Prop) (ax am ao : Nat) : Prop := ∀ (M : Mm) (a1 a2 : Int32), R M → ∃ (k : Int32) (M1 : Mm), F_L_element ax a1 a2 ao M = some (k, M1) ∧ ∀ j : Nat, ∃ (v : Int64) (M2 M3 : Mm), isO (jk M1 j) am 12 = some () ∧ F_X12_element am a1 a2 (jk M1 j) = some (v, M2) ∧ isO M2 am 12 = some () ∧ F_X12_thrown am M2 = some (k, M3) ∧ R M3 ∧ (k = 0 → ldL M3 ao 0 = some v)
def Op_35 (R : Mm → Prop) (ax am : Nat) : Prop := ∀ (M : Mm) (a1 a2 a3 a4 a5 : Int32), R M → ∃ (r : Int32) (M1 M2 : Mm), isO M ax 11 = some () ∧ F_X11_copy ax a1 a2 a3 a4 a5 M = some (r, M1) ∧ isO M1 am 12 = some () ∧ F_X12_copy am a1 a2 a3 a4 a5 M1 = some (r, M2) ∧ R M2
def Op_36 (R : Mm → Prop) (ax am : Nat) : Prop := ∀ (M : Mm) (a1 : Int32), R M → ∃ (r : Int32) (M1 M2 : Mm), isO M ax 11 = some () ∧ F_X11_sum ax a1 M = some (r, M1) ∧ isO M1 am 12 = some () ∧ F_X12_sum am a1 M1 = some (r, M2) ∧ R M2
def Op_37 (R : Mm → Prop) (ax am : Nat) : Prop := ∀ (M : Mm) (a1 : Int32), R M → ∃ (r : Int32) (M1 : Mm), isO M ax 11 = some () ∧ F_X11_toss ax a1 M = some (r, M1) ∧ ∀ j : Nat, ∃ M2 : Mm, isO (jk M1 j) am 12 = some () ∧ F_X12_toss am a1 (jk M1 j) = some (r, M2) ∧ R M2
theorem lk_L_101 : Cond.methodLink RL 101 yX12_clean ∈ lw_g ∧ Cond.instanceMethod yX12_clean ∈ lw_g ∧ Cond.selects yX12_clean.cls yX12_clean yX12_clean ∈ lw_g := ⟨lw_gi 1646 (by decide +kernel), lw_gi 1647 (by decide +kernel), lw_gi 1648 (by decide +kernel)⟩
theorem lk_L_102 : Cond.methodLink RL 102 yX11_reading ∈ lw_g ∧ Cond.instanceMethod yX11_reading ∈ lw_g ∧ Cond.selects yX11_reading.cls yX11_reading yX11_reading ∈ lw_g := ⟨lw_gi 982 (by decide +kernel), lw_gi 983 (by decide +kernel), lw_gi 984 (by decide +kernel)⟩
theorem lk_L_105 : Cond.methodLink RL 105 yX12_reading ∈ lw_g ∧ Cond.instanceMethod yX12_reading ∈ lw_g ∧ Cond.selects yX12_reading.cls yX12_reading yX12_reading ∈ lw_g := ⟨lw_gi 1650 (by decide +kernel), lw_gi 1651 (by decide +kernel), lw_gi 1652 (by decide +kernel)⟩
theorem lk_L_111 : Cond.methodLink RL 111 yX12_read ∈ lw_g ∧ Cond.instanceMethod yX12_read ∈ lw_g ∧ Cond.selects yX12_read.cls yX12_read yX12_read ∈ lw_g := ⟨lw_gi 1658 (by decide +kernel), lw_gi 1659 (by decide +kernel), lw_gi 1660 (by decide +kernel)⟩
theorem lk_L_112 : Cond.methodLink RL 112 yX12_thrown ∈ lw_g ∧ Cond.instanceMethod yX12_thrown ∈ lw_g ∧ Cond.selects yX12_thrown.cls yX12_thrown yX12_thrown ∈ lw_g := ⟨lw_gi 1316 (by decide +kernel), lw_gi 1317 (by decide +kernel), lw_gi 1318 (by decide +kernel)⟩
theorem lk_L_116 : Cond.methodLink RL 116 yX11_plan ∈ lw_g ∧ Cond.instanceMethod yX11_plan ∈ lw_g ∧ Cond.selects yX11_plan.cls yX11_plan yX11_plan ∈ lw_g := ⟨lw_gi 986 (by decide +kernel), lw_gi 987 (by decide +kernel), lw_gi 988 (by decide +kernel)⟩
theorem lk_L_119 : Cond.methodLink RL 119 yX12_plan ∈ lw_g ∧ Cond.instanceMethod yX12_plan ∈ lw_g ∧ Cond.selects yX12_plan.cls yX12_plan yX12_plan ∈ lw_g := ⟨lw_gi 1666 (by decide +kernel), lw_gi 1667 (by decide +kernel), lw_gi 1668 (by decide +kernel)⟩
theorem lk_L_120 : Cond.methodLink RL 120 yX11_planned ∈ lw_g ∧ Cond.instanceMethod yX11_planned ∈ lw_g ∧ Cond.selects yX11_planned.cls yX11_planned yX11_planned ∈ lw_g := ⟨lw_gi 1047 (by decide +kernel), lw_gi 1048 (by decide +kernel), lw_gi 1049 (by decide +kernel)⟩
theorem lk_L_123 : Cond.methodLink RL 123 yX12_planned ∈ lw_g ∧ Cond.instanceMethod yX12_planned ∈ lw_g ∧ Cond.selects yX12_planned.cls yX12_planned yX12_planned ∈ lw_g := ⟨lw_gi 1702 (by decide +kernel), lw_gi 1703 (by decide +kernel), lw_gi 1704 (by decide +kernel)⟩
theorem lk_L_124 : Cond.methodLink RL 124 yX11_ends ∈ lw_g ∧ Cond.instanceMethod yX11_ends ∈ lw_g ∧ Cond.selects yX11_ends.cls yX11_ends yX11_ends ∈ lw_g := ⟨lw_gi 1055 (by decide +kernel), lw_gi 1056 (by decide +kernel), lw_gi 1057 (by decide +kernel)⟩
theorem lk_L_127 : Cond.methodLink RL 127 yX12_ends ∈ lw_g ∧ Cond.instanceMethod yX12_ends ∈ lw_g ∧ Cond.selects yX12_ends.cls yX12_ends yX12_ends ∈ lw_g := ⟨lw_gi 1706 (by decide +kernel), lw_gi 1707 (by decide +kernel), lw_gi 1708 (by decide +kernel)⟩
theorem lk_L_128 : Cond.methodLink RL 128 yX11_whole ∈ lw_g ∧ Cond.instanceMethod yX11_whole ∈ lw_g ∧ Cond.selects yX11_whole.cls yX11_whole yX11_whole ∈ lw_g := ⟨lw_gi 1061 (by decide +kernel), lw_gi 1062 (by decide +kernel), lw_gi 1063 (by decide +kernel)⟩
theorem lk_L_131 : Cond.methodLink RL 131 yX12_whole ∈ lw_g ∧ Cond.instanceMethod yX12_whole ∈ lw_g ∧ Cond.selects yX12_whole.cls yX12_whole yX12_whole ∈ lw_g := ⟨lw_gi 1710 (by decide +kernel), lw_gi 1711 (by decide +kernel), lw_gi 1712 (by decide +kernel)⟩
theorem lk_L_132 : Cond.methodLink RL 132 yX11_ship ∈ lw_g ∧ Cond.instanceMethod yX11_ship ∈ lw_g ∧ Cond.selects yX11_ship.cls yX11_ship yX11_ship ∈ lw_g := ⟨lw_gi 1071 (by decide +kernel), lw_gi 1072 (by decide +kernel), lw_gi 1073 (by decide +kernel)⟩
theorem lk_L_135 : Cond.methodLink RL 135 yX12_ship ∈ lw_g ∧ Cond.instanceMethod yX12_ship ∈ lw_g ∧ Cond.selects yX12_ship.cls yX12_ship yX12_ship ∈ lw_g := ⟨lw_gi 1718 (by decide +kernel), lw_gi 1719 (by decide +kernel), lw_gi 1720 (by decide +kernel)⟩
theorem lk_L_136 : Cond.methodLink RL 136 yX11_left ∈ lw_g ∧ Cond.instanceMethod yX11_left ∈ lw_g ∧ Cond.selects yX11_left.cls yX11_left yX11_left ∈ lw_g := ⟨lw_gi 1075 (by decide +kernel), lw_gi 1076 (by decide +kernel), lw_gi 1077 (by decide +kernel)⟩
theorem lk_L_139 : Cond.methodLink RL 139 yX12_left ∈ lw_g ∧ Cond.instanceMethod yX12_left ∈ lw_g ∧ Cond.selects yX12_left.cls yX12_left yX12_left ∈ lw_g := ⟨lw_gi 1722 (by decide +kernel), lw_gi 1723 (by decide +kernel), lw_gi 1724 (by decide +kernel)⟩
theorem lk_L_140 : Cond.methodLink RL 140 yX11_next ∈ lw_g ∧ Cond.instanceMethod yX11_next ∈ lw_g ∧ Cond.selects yX11_next.cls yX11_next yX11_next ∈ lw_g := ⟨lw_gi 1084 (by decide +kernel), lw_gi 1085 (by decide +kernel), lw_gi 1086 (by decide +kernel)⟩
theorem lk_L_143 : Cond.methodLink RL 143 yX12_next ∈ lw_g ∧ Cond.instanceMethod yX12_next ∈ lw_g ∧ Cond.selects yX12_next.cls yX12_next yX12_next ∈ lw_g := ⟨lw_gi 1730 (by decide +kernel), lw_gi 1731 (by decide +kernel), lw_gi 1732 (by decide +kernel)⟩
theorem lk_L_144 : Cond.methodLink RL 144 yX11_fetch ∈ lw_g ∧ Cond.instanceMethod yX11_fetch ∈ lw_g ∧ Cond.selects yX11_fetch.cls yX11_fetch yX11_fetch ∈ lw_g := ⟨lw_gi 1092 (by decide +kernel), lw_gi 1093 (by decide +kernel), lw_gi 1094 (by decide +kernel)⟩
theorem lk_L_147 : Cond.methodLink RL 147 yX12_fetch ∈ lw_g ∧ Cond.instanceMethod yX12_fetch ∈ lw_g ∧ Cond.selects yX12_fetch.cls yX12_fetch yX12_fetch ∈ lw_g := ⟨lw_gi 1738 (by decide +kernel), lw_gi 1739 (by decide +kernel), lw_gi 1740 (by decide +kernel)⟩
theorem lk_L_148 : Cond.methodLink RL 148 yX11_image ∈ lw_g ∧ Cond.instanceMethod yX11_image ∈ lw_g ∧ Cond.selects yX11_image.cls yX11_image yX11_image ∈ lw_g := ⟨lw_gi 1096 (by decide +kernel), lw_gi 1097 (by decide +kernel), lw_gi 1098 (by decide +kernel)⟩
theorem lk_L_151 : Cond.methodLink RL 151 yX12_image ∈ lw_g ∧ Cond.instanceMethod yX12_image ∈ lw_g ∧ Cond.selects yX12_image.cls yX12_image yX12_image ∈ lw_g := ⟨lw_gi 1742 (by decide +kernel), lw_gi 1743 (by decide +kernel), lw_gi 1744 (by decide +kernel)⟩
theorem lk_L_152 : Cond.methodLink RL 152 yX11_restore ∈ lw_g ∧ Cond.instanceMethod yX11_restore ∈ lw_g ∧ Cond.selects yX11_restore.cls yX11_restore yX11_restore ∈ lw_g := ⟨lw_gi 1130 (by decide +kernel), lw_gi 1131 (by decide +kernel), lw_gi 1132 (by decide +kernel)⟩
theorem lk_L_155 : Cond.methodLink RL 155 yX12_restore ∈ lw_g ∧ Cond.instanceMethod yX12_restore ∈ lw_g ∧ Cond.selects yX12_restore.cls yX12_restore yX12_restore ∈ lw_g := ⟨lw_gi 1746 (by decide +kernel), lw_gi 1747 (by decide +kernel), lw_gi 1748 (by decide +kernel)⟩
theorem lk_L_156 : Cond.methodLink RL 156 yX11_count ∈ lw_g ∧ Cond.instanceMethod yX11_count ∈ lw_g ∧ Cond.selects yX11_count.cls yX11_count yX11_count ∈ lw_g := ⟨lw_gi 1134 (by decide +kernel), lw_gi 1135 (by decide +kernel), lw_gi 1136 (by decide +kernel)⟩
theorem lk_L_159 : Cond.methodLink RL 159 yX12_count ∈ lw_g ∧ Cond.instanceMethod yX12_count ∈ lw_g ∧ Cond.selects yX12_count.cls yX12_count yX12_count ∈ lw_g := ⟨lw_gi 1750 (by decide +kernel), lw_gi 1751 (by decide +kernel), lw_gi 1752 (by decide +kernel)⟩
theorem lk_L_160 : Cond.methodLink RL 160 yX11_keep ∈ lw_g ∧ Cond.instanceMethod yX11_keep ∈ lw_g ∧ Cond.selects yX11_keep.cls yX11_keep yX11_keep ∈ lw_g := ⟨lw_gi 1150 (by decide +kernel), lw_gi 1151 (by decide +kernel), lw_gi 1152 (by decide +kernel)⟩
theorem lk_L_164 : Cond.methodLink RL 164 yX12_keep ∈ lw_g ∧ Cond.instanceMethod yX12_keep ∈ lw_g ∧ Cond.selects yX12_keep.cls yX12_keep yX12_keep ∈ lw_g := ⟨lw_gi 1754 (by decide +kernel), lw_gi 1755 (by decide +kernel), lw_gi 1756 (by decide +kernel)⟩
theorem lk_L_165 : Cond.methodLink RL 165 yX11_row ∈ lw_g ∧ Cond.instanceMethod yX11_row ∈ lw_g ∧ Cond.selects yX11_row.cls yX11_row yX11_row ∈ lw_g := ⟨lw_gi 1158 (by decide +kernel), lw_gi 1159 (by decide +kernel), lw_gi 1160 (by decide +kernel)⟩
theorem lk_L_168 : Cond.methodLink RL 168 yX12_row ∈ lw_g ∧ Cond.instanceMethod yX12_row ∈ lw_g ∧ Cond.selects yX12_row.cls yX12_row yX12_row ∈ lw_g := ⟨lw_gi 1762 (by decide +kernel), lw_gi 1763 (by decide +kernel), lw_gi 1764 (by decide +kernel)⟩
theorem lk_L_169 : Cond.methodLink RL 169 yX11_put ∈ lw_g ∧ Cond.instanceMethod yX11_put ∈ lw_g ∧ Cond.selects yX11_put.cls yX11_put yX11_put ∈ lw_g := ⟨lw_gi 1167 (by decide +kernel), lw_gi 1168 (by decide +kernel), lw_gi 1169 (by decide +kernel)⟩
theorem lk_L_172 : Cond.methodLink RL 172 yX12_put ∈ lw_g ∧ Cond.instanceMethod yX12_put ∈ lw_g ∧ Cond.selects yX12_put.cls yX12_put yX12_put ∈ lw_g := ⟨lw_gi 1766 (by decide +kernel), lw_gi 1767 (by decide +kernel), lw_gi 1768 (by decide +kernel)⟩
theorem lk_L_176 : Cond.methodLink RL 176 yX12_element ∈ lw_g ∧ Cond.instanceMethod yX12_element ∈ lw_g ∧ Cond.selects yX12_element.cls yX12_element yX12_element ∈ lw_g := ⟨lw_gi 1774 (by decide +kernel), lw_gi 1775 (by decide +kernel), lw_gi 1776 (by decide +kernel)⟩
theorem lk_L_177 : Cond.methodLink RL 177 yX11_copy ∈ lw_g ∧ Cond.instanceMethod yX11_copy ∈ lw_g ∧ Cond.selects yX11_copy.cls yX11_copy yX11_copy ∈ lw_g := ⟨lw_gi 1174 (by decide +kernel), lw_gi 1175 (by decide +kernel), lw_gi 1176 (by decide +kernel)⟩
theorem lk_L_181 : Cond.methodLink RL 181 yX12_copy ∈ lw_g ∧ Cond.instanceMethod yX12_copy ∈ lw_g ∧ Cond.selects yX12_copy.cls yX12_copy yX12_copy ∈ lw_g := ⟨lw_gi 1778 (by decide +kernel), lw_gi 1779 (by decide +kernel), lw_gi 1780 (by decide +kernel)⟩
theorem lk_L_182 : Cond.methodLink RL 182 yX11_sum ∈ lw_g ∧ Cond.instanceMethod yX11_sum ∈ lw_g ∧ Cond.selects yX11_sum.cls yX11_sum yX11_sum ∈ lw_g := ⟨lw_gi 1181 (by decide +kernel), lw_gi 1182 (by decide +kernel), lw_gi 1183 (by decide +kernel)⟩
theorem lk_L_185 : Cond.methodLink RL 185 yX12_sum ∈ lw_g ∧ Cond.instanceMethod yX12_sum ∈ lw_g ∧ Cond.selects yX12_sum.cls yX12_sum yX12_sum ∈ lw_g := ⟨lw_gi 1782 (by decide +kernel), lw_gi 1783 (by decide +kernel), lw_gi 1784 (by decide +kernel)⟩
theorem lk_L_189 : Cond.methodLink RL 189 yX12_toss ∈ lw_g ∧ Cond.instanceMethod yX12_toss ∈ lw_g ∧ Cond.selects yX12_toss.cls yX12_toss yX12_toss ∈ lw_g := ⟨lw_gi 1790 (by decide +kernel), lw_gi 1791 (by decide +kernel), lw_gi 1792 (by decide +kernel)⟩
theorem lk_L_25 : Cond.methodLink RL 25 yX11_sea ∈ lw_g ∧ Cond.instanceMethod yX11_sea ∈ lw_g ∧ Cond.selects yX11_sea.cls yX11_sea yX11_sea ∈ lw_g := ⟨lw_gi 498 (by decide +kernel), lw_gi 499 (by decide +kernel), lw_gi 500 (by decide +kernel)⟩
theorem lk_L_29 : Cond.methodLink RL 29 yX12_sea ∈ lw_g ∧ Cond.instanceMethod yX12_sea ∈ lw_g ∧ Cond.selects yX12_sea.cls yX12_sea yX12_sea ∈ lw_g := ⟨lw_gi 1438 (by decide +kernel), lw_gi 1439 (by decide +kernel), lw_gi 1440 (by decide +kernel)⟩
theorem lk_L_30 : Cond.methodLink RL 30 yX11_stream ∈ lw_g ∧ Cond.instanceMethod yX11_stream ∈ lw_g ∧ Cond.selects yX11_stream.cls yX11_stream yX11_stream ∈ lw_g := ⟨lw_gi 532 (by decide +kernel), lw_gi 533 (by decide +kernel), lw_gi 534 (by decide +kernel)⟩
theorem lk_L_34 : Cond.methodLink RL 34 yX12_stream ∈ lw_g ∧ Cond.instanceMethod yX12_stream ∈ lw_g ∧ Cond.selects yX12_stream.cls yX12_stream yX12_stream ∈ lw_g := ⟨lw_gi 1450 (by decide +kernel), lw_gi 1451 (by decide +kernel), lw_gi 1452 (by decide +kernel)⟩
theorem lk_L_35 : Cond.methodLink RL 35 yX11_salt ∈ lw_g ∧ Cond.instanceMethod yX11_salt ∈ lw_g ∧ Cond.selects yX11_salt.cls yX11_salt yX11_salt ∈ lw_g := ⟨lw_gi 549 (by decide +kernel), lw_gi 550 (by decide +kernel), lw_gi 551 (by decide +kernel)⟩
theorem lk_L_38 : Cond.methodLink RL 38 yX12_salt ∈ lw_g ∧ Cond.instanceMethod yX12_salt ∈ lw_g ∧ Cond.selects yX12_salt.cls yX12_salt yX12_salt ∈ lw_g := ⟨lw_gi 1454 (by decide +kernel), lw_gi 1455 (by decide +kernel), lw_gi 1456 (by decide +kernel)⟩
theorem lk_L_39 : Cond.methodLink RL 39 yX11_cell ∈ lw_g ∧ Cond.instanceMethod yX11_cell ∈ lw_g ∧ Cond.selects yX11_cell.cls yX11_cell yX11_cell ∈ lw_g := ⟨lw_gi 554 (by decide +kernel), lw_gi 555 (by decide +kernel), lw_gi 556 (by decide +kernel)⟩
theorem lk_L_42 : Cond.methodLink RL 42 yX12_cell ∈ lw_g ∧ Cond.instanceMethod yX12_cell ∈ lw_g ∧ Cond.selects yX12_cell.cls yX12_cell yX12_cell ∈ lw_g := ⟨lw_gi 1458 (by decide +kernel), lw_gi 1459 (by decide +kernel), lw_gi 1460 (by decide +kernel)⟩
theorem lk_L_43 : Cond.methodLink RL 43 yX11_glider ∈ lw_g ∧ Cond.instanceMethod yX11_glider ∈ lw_g ∧ Cond.selects yX11_glider.cls yX11_glider yX11_glider ∈ lw_g := ⟨lw_gi 563 (by decide +kernel), lw_gi 564 (by decide +kernel), lw_gi 565 (by decide +kernel)⟩
theorem lk_L_46 : Cond.methodLink RL 46 yX12_glider ∈ lw_g ∧ Cond.instanceMethod yX12_glider ∈ lw_g ∧ Cond.selects yX12_glider.cls yX12_glider yX12_glider ∈ lw_g := ⟨lw_gi 1462 (by decide +kernel), lw_gi 1463 (by decide +kernel), lw_gi 1464 (by decide +kernel)⟩
theorem lk_L_47 : Cond.methodLink RL 47 yX11_about ∈ lw_g ∧ Cond.instanceMethod yX11_about ∈ lw_g ∧ Cond.selects yX11_about.cls yX11_about yX11_about ∈ lw_g := ⟨lw_gi 654 (by decide +kernel), lw_gi 655 (by decide +kernel), lw_gi 656 (by decide +kernel)⟩
theorem lk_L_51 : Cond.methodLink RL 51 yX12_about ∈ lw_g ∧ Cond.instanceMethod yX12_about ∈ lw_g ∧ Cond.selects yX12_about.cls yX12_about yX12_about ∈ lw_g := ⟨lw_gi 1470 (by decide +kernel), lw_gi 1471 (by decide +kernel), lw_gi 1472 (by decide +kernel)⟩
theorem lk_L_52 : Cond.methodLink RL 52 yX11_can ∈ lw_g ∧ Cond.instanceMethod yX11_can ∈ lw_g ∧ Cond.selects yX11_can.cls yX11_can yX11_can ∈ lw_g := ⟨lw_gi 667 (by decide +kernel), lw_gi 668 (by decide +kernel), lw_gi 669 (by decide +kernel)⟩
theorem lk_L_55 : Cond.methodLink RL 55 yX12_can ∈ lw_g ∧ Cond.instanceMethod yX12_can ∈ lw_g ∧ Cond.selects yX12_can.cls yX12_can yX12_can ∈ lw_g := ⟨lw_gi 1478 (by decide +kernel), lw_gi 1479 (by decide +kernel), lw_gi 1480 (by decide +kernel)⟩
theorem lk_L_56 : Cond.methodLink RL 56 yX11_leak ∈ lw_g ∧ Cond.instanceMethod yX11_leak ∈ lw_g ∧ Cond.selects yX11_leak.cls yX11_leak yX11_leak ∈ lw_g := ⟨lw_gi 690 (by decide +kernel), lw_gi 691 (by decide +kernel), lw_gi 692 (by decide +kernel)⟩
theorem lk_L_60 : Cond.methodLink RL 60 yX12_leak ∈ lw_g ∧ Cond.instanceMethod yX12_leak ∈ lw_g ∧ Cond.selects yX12_leak.cls yX12_leak yX12_leak ∈ lw_g := ⟨lw_gi 1498 (by decide +kernel), lw_gi 1499 (by decide +kernel), lw_gi 1500 (by decide +kernel)⟩
theorem lk_L_61 : Cond.methodLink RL 61 yX11_dive ∈ lw_g ∧ Cond.instanceMethod yX11_dive ∈ lw_g ∧ Cond.selects yX11_dive.cls yX11_dive yX11_dive ∈ lw_g := ⟨lw_gi 694 (by decide +kernel), lw_gi 695 (by decide +kernel), lw_gi 696 (by decide +kernel)⟩
theorem lk_L_64 : Cond.methodLink RL 64 yX12_dive ∈ lw_g ∧ Cond.instanceMethod yX12_dive ∈ lw_g ∧ Cond.selects yX12_dive.cls yX12_dive yX12_dive ∈ lw_g := ⟨lw_gi 1502 (by decide +kernel), lw_gi 1503 (by decide +kernel), lw_gi 1504 (by decide +kernel)⟩
theorem lk_L_65 : Cond.methodLink RL 65 yX11_fault ∈ lw_g ∧ Cond.instanceMethod yX11_fault ∈ lw_g ∧ Cond.selects yX11_fault.cls yX11_fault yX11_fault ∈ lw_g := ⟨lw_gi 775 (by decide +kernel), lw_gi 776 (by decide +kernel), lw_gi 777 (by decide +kernel)⟩
theorem lk_L_69 : Cond.methodLink RL 69 yX12_fault ∈ lw_g ∧ Cond.instanceMethod yX12_fault ∈ lw_g ∧ Cond.selects yX12_fault.cls yX12_fault yX12_fault ∈ lw_g := ⟨lw_gi 1554 (by decide +kernel), lw_gi 1555 (by decide +kernel), lw_gi 1556 (by decide +kernel)⟩
theorem lk_L_70 : Cond.methodLink RL 70 yX11_order ∈ lw_g ∧ Cond.instanceMethod yX11_order ∈ lw_g ∧ Cond.selects yX11_order.cls yX11_order yX11_order ∈ lw_g := ⟨lw_gi 884 (by decide +kernel), lw_gi 885 (by decide +kernel), lw_gi 886 (by decide +kernel)⟩
theorem lk_L_73 : Cond.methodLink RL 73 yX12_order ∈ lw_g ∧ Cond.instanceMethod yX12_order ∈ lw_g ∧ Cond.selects yX12_order.cls yX12_order yX12_order ∈ lw_g := ⟨lw_gi 1598 (by decide +kernel), lw_gi 1599 (by decide +kernel), lw_gi 1600 (by decide +kernel)⟩
theorem lk_L_74 : Cond.methodLink RL 74 yX11_letter ∈ lw_g ∧ Cond.instanceMethod yX11_letter ∈ lw_g ∧ Cond.selects yX11_letter.cls yX11_letter yX11_letter ∈ lw_g := ⟨lw_gi 892 (by decide +kernel), lw_gi 893 (by decide +kernel), lw_gi 894 (by decide +kernel)⟩
theorem lk_L_77 : Cond.methodLink RL 77 yX12_letter ∈ lw_g ∧ Cond.instanceMethod yX12_letter ∈ lw_g ∧ Cond.selects yX12_letter.cls yX12_letter yX12_letter ∈ lw_g := ⟨lw_gi 1602 (by decide +kernel), lw_gi 1603 (by decide +kernel), lw_gi 1604 (by decide +kernel)⟩
theorem lk_L_78 : Cond.methodLink RL 78 yX11_waiting ∈ lw_g ∧ Cond.instanceMethod yX11_waiting ∈ lw_g ∧ Cond.selects yX11_waiting.cls yX11_waiting yX11_waiting ∈ lw_g := ⟨lw_gi 900 (by decide +kernel), lw_gi 901 (by decide +kernel), lw_gi 902 (by decide +kernel)⟩
theorem lk_L_81 : Cond.methodLink RL 81 yX12_waiting ∈ lw_g ∧ Cond.instanceMethod yX12_waiting ∈ lw_g ∧ Cond.selects yX12_waiting.cls yX12_waiting yX12_waiting ∈ lw_g := ⟨lw_gi 1606 (by decide +kernel), lw_gi 1607 (by decide +kernel), lw_gi 1608 (by decide +kernel)⟩
theorem lk_L_82 : Cond.methodLink RL 82 yX11_deaf ∈ lw_g ∧ Cond.instanceMethod yX11_deaf ∈ lw_g ∧ Cond.selects yX11_deaf.cls yX11_deaf yX11_deaf ∈ lw_g := ⟨lw_gi 908 (by decide +kernel), lw_gi 909 (by decide +kernel), lw_gi 910 (by decide +kernel)⟩
theorem lk_L_85 : Cond.methodLink RL 85 yX12_deaf ∈ lw_g ∧ Cond.instanceMethod yX12_deaf ∈ lw_g ∧ Cond.selects yX12_deaf.cls yX12_deaf yX12_deaf ∈ lw_g := ⟨lw_gi 1610 (by decide +kernel), lw_gi 1611 (by decide +kernel), lw_gi 1612 (by decide +kernel)⟩
theorem lk_L_86 : Cond.methodLink RL 86 yX11_rule ∈ lw_g ∧ Cond.instanceMethod yX11_rule ∈ lw_g ∧ Cond.selects yX11_rule.cls yX11_rule yX11_rule ∈ lw_g := ⟨lw_gi 912 (by decide +kernel), lw_gi 913 (by decide +kernel), lw_gi 914 (by decide +kernel)⟩
theorem lk_L_89 : Cond.methodLink RL 89 yX12_rule ∈ lw_g ∧ Cond.instanceMethod yX12_rule ∈ lw_g ∧ Cond.selects yX12_rule.cls yX12_rule yX12_rule ∈ lw_g := ⟨lw_gi 1614 (by decide +kernel), lw_gi 1615 (by decide +kernel), lw_gi 1616 (by decide +kernel)⟩
theorem lk_L_90 : Cond.methodLink RL 90 yX11_times ∈ lw_g ∧ Cond.instanceMethod yX11_times ∈ lw_g ∧ Cond.selects yX11_times.cls yX11_times yX11_times ∈ lw_g := ⟨lw_gi 932 (by decide +kernel), lw_gi 933 (by decide +kernel), lw_gi 934 (by decide +kernel)⟩
theorem lk_L_93 : Cond.methodLink RL 93 yX12_times ∈ lw_g ∧ Cond.instanceMethod yX12_times ∈ lw_g ∧ Cond.selects yX12_times.cls yX12_times yX12_times ∈ lw_g := ⟨lw_gi 1618 (by decide +kernel), lw_gi 1619 (by decide +kernel), lw_gi 1620 (by decide +kernel)⟩
theorem lk_L_94 : Cond.methodLink RL 94 yX11_known ∈ lw_g ∧ Cond.instanceMethod yX11_known ∈ lw_g ∧ Cond.selects yX11_known.cls yX11_known yX11_known ∈ lw_g := ⟨lw_gi 965 (by decide +kernel), lw_gi 966 (by decide +kernel), lw_gi 967 (by decide +kernel)⟩
theorem lk_L_97 : Cond.methodLink RL 97 yX12_known ∈ lw_g ∧ Cond.instanceMethod yX12_known ∈ lw_g ∧ Cond.selects yX12_known.cls yX12_known yX12_known ∈ lw_g := ⟨lw_gi 1642 (by decide +kernel), lw_gi 1643 (by decide +kernel), lw_gi 1644 (by decide +kernel)⟩
theorem lk_L_98 : Cond.methodLink RL 98 yX11_clean ∈ lw_g ∧ Cond.instanceMethod yX11_clean ∈ lw_g ∧ Cond.selects yX11_clean.cls yX11_clean yX11_clean ∈ lw_g := ⟨lw_gi 974 (by decide +kernel), lw_gi 975 (by decide +kernel), lw_gi 976 (by decide +kernel)⟩
theorem yk_X11_about : YOk yX11_about cX11_about 4 (some .int) 2 := ⟨lw_gi 657 (by decide +kernel), lw_gi 77 (by decide +kernel), ⟨by decide +kernel, by decide +kernel⟩, by decide +kernel⟩
theorem yk_X11_can : YOk yX11_can cX11_can 4 (some .int) 2 := ⟨lw_gi 670 (by decide +kernel), lw_gi 77 (by decide +kernel), ⟨by decide +kernel, by decide +kernel⟩, by decide +kernel⟩
theorem yk_X11_cell : YOk yX11_cell cX11_cell 6 (some .int) 4 := ⟨lw_gi 557 (by decide +kernel), lw_gi 77 (by decide +kernel), ⟨by decide +kernel, by decide +kernel⟩, by decide +kernel⟩
theorem yk_X11_clean : YOk yX11_clean cX11_clean 5 (some .int) 2 := ⟨lw_gi 977 (by decide +kernel), lw_gi 77 (by decide +kernel), ⟨by decide +kernel, by decide +kernel⟩, by decide +kernel⟩
theorem yk_X11_copy : YOk yX11_copy cX11_copy 8 (some .int) 5 := ⟨lw_gi 1177 (by decide +kernel), lw_gi 77 (by decide +kernel), ⟨by decide +kernel, by decide +kernel⟩, by decide +kernel⟩
theorem yk_X11_count : YOk yX11_count cX11_count 2 (some .int) 1 := ⟨lw_gi 1137 (by decide +kernel), lw_gi 77 (by decide +kernel), ⟨by decide +kernel, by decide +kernel⟩, by decide +kernel⟩
theorem yk_X11_deaf : YOk yX11_deaf cX11_deaf 3 (some .int) 2 := ⟨lw_gi 911 (by decide +kernel), lw_gi 77 (by decide +kernel), ⟨by decide +kernel, by decide +kernel⟩, by decide +kernel⟩
theorem yk_X11_dive : YOk yX11_dive cX11_dive 6 (some .int) 4 := ⟨lw_gi 697 (by decide +kernel), lw_gi 77 (by decide +kernel), ⟨by decide +kernel, by decide +kernel⟩, by decide +kernel⟩
theorem yk_X11_ends : YOk yX11_ends cX11_ends 6 (some .int) 4 := ⟨lw_gi 1058 (by decide +kernel), lw_gi 77 (by decide +kernel), ⟨by decide +kernel, by decide +kernel⟩, by decide +kernel⟩
theorem yk_X11_fault : YOk yX11_fault cX11_fault 4 (some .int) 1 := ⟨lw_gi 778 (by decide +kernel), lw_gi 77 (by decide +kernel), ⟨by decide +kernel, by decide +kernel⟩, by decide +kernel⟩
theorem yk_X11_fetch : YOk yX11_fetch cX11_fetch 4 (some .int) 1 := ⟨lw_gi 1095 (by decide +kernel), lw_gi 77 (by decide +kernel), ⟨by decide +kernel, by decide +kernel⟩, by decide +kernel⟩
theorem yk_X11_glider : YOk yX11_glider cX11_glider 5 (some .int) 4 := ⟨lw_gi 566 (by decide +kernel), lw_gi 77 (by decide +kernel), ⟨by decide +kernel, by decide +kernel⟩, by decide +kernel⟩
theorem yk_X11_image : YOk yX11_image cX11_image 1 (some .int) 0 := ⟨lw_gi 1099 (by decide +kernel), lw_gi 77 (by decide +kernel), ⟨by decide +kernel, by decide +kernel⟩, by decide +kernel⟩
theorem yk_X11_keep : YOk yX11_keep cX11_keep 6 (some .int) 3 := ⟨lw_gi 1153 (by decide +kernel), lw_gi 77 (by decide +kernel), ⟨by decide +kernel, by decide +kernel⟩, by decide +kernel⟩
theorem yk_X11_known : YOk yX11_known cX11_known 4 (some .int) 2 := ⟨lw_gi 968 (by decide +kernel), lw_gi 77 (by decide +kernel), ⟨by decide +kernel, by decide +kernel⟩, by decide +kernel⟩
theorem yk_X11_leak : YOk yX11_leak cX11_leak 5 (some .int) 2 := ⟨lw_gi 693 (by decide +kernel), lw_gi 77 (by decide +kernel), ⟨by decide +kernel, by decide +kernel⟩, by decide +kernel⟩
theorem yk_X11_left : YOk yX11_left cX11_left 3 (some .int) 1 := ⟨lw_gi 1078 (by decide +kernel), lw_gi 77 (by decide +kernel), ⟨by decide +kernel, by decide +kernel⟩, by decide +kernel⟩
theorem yk_X11_letter : YOk yX11_letter cX11_letter 3 (some .int) 2 := ⟨lw_gi 895 (by decide +kernel), lw_gi 77 (by decide +kernel), ⟨by decide +kernel, by decide +kernel⟩, by decide +kernel⟩
theorem yk_X11_next : YOk yX11_next cX11_next 8 (some .int) 0 := ⟨lw_gi 1087 (by decide +kernel), lw_gi 77 (by decide +kernel), ⟨by decide +kernel, by decide +kernel⟩, by decide +kernel⟩
theorem yk_X11_order : YOk yX11_order cX11_order 5 (some .int) 1 := ⟨lw_gi 887 (by decide +kernel), lw_gi 77 (by decide +kernel), ⟨by decide +kernel, by decide +kernel⟩, by decide +kernel⟩
theorem yk_X11_plan : YOk yX11_plan cX11_plan 2 (some .int) 1 := ⟨lw_gi 989 (by decide +kernel), lw_gi 77 (by decide +kernel), ⟨by decide +kernel, by decide +kernel⟩, by decide +kernel⟩
theorem yk_X11_planned : YOk yX11_planned cX11_planned 3 (some .int) 2 := ⟨lw_gi 1050 (by decide +kernel), lw_gi 77 (by decide +kernel), ⟨by decide +kernel, by decide +kernel⟩, by decide +kernel⟩
theorem yk_X11_put : YOk yX11_put cX11_put 5 (some .int) 3 := ⟨lw_gi 1170 (by decide +kernel), lw_gi 77 (by decide +kernel), ⟨by decide +kernel, by decide +kernel⟩, by decide +kernel⟩
theorem yk_X11_reading : YOk yX11_reading cX11_reading 4 (some .int) 2 := ⟨lw_gi 985 (by decide +kernel), lw_gi 77 (by decide +kernel), ⟨by decide +kernel, by decide +kernel⟩, by decide +kernel⟩
theorem yk_X11_restore : YOk yX11_restore cX11_restore 1 (some .int) 0 := ⟨lw_gi 1133 (by decide +kernel), lw_gi 77 (by decide +kernel), ⟨by decide +kernel, by decide +kernel⟩, by decide +kernel⟩
theorem yk_X11_row : YOk yX11_row cX11_row 5 (some .int) 3 := ⟨lw_gi 1161 (by decide +kernel), lw_gi 77 (by decide +kernel), ⟨by decide +kernel, by decide +kernel⟩, by decide +kernel⟩
theorem yk_X11_rule : YOk yX11_rule cX11_rule 4 (some .int) 1 := ⟨lw_gi 915 (by decide +kernel), lw_gi 77 (by decide +kernel), ⟨by decide +kernel, by decide +kernel⟩, by decide +kernel⟩
theorem yk_X11_salt : YOk yX11_salt cX11_salt 6 (some .int) 4 := ⟨lw_gi 552 (by decide +kernel), lw_gi 77 (by decide +kernel), ⟨by decide +kernel, by decide +kernel⟩, by decide +kernel⟩
theorem yk_X11_sea : YOk yX11_sea cX11_sea 5 (some .int) 4 := ⟨lw_gi 501 (by decide +kernel), lw_gi 77 (by decide +kernel), ⟨by decide +kernel, by decide +kernel⟩, by decide +kernel⟩
theorem yk_X11_ship : YOk yX11_ship cX11_ship 4 (some .int) 2 := ⟨lw_gi 1074 (by decide +kernel), lw_gi 77 (by decide +kernel), ⟨by decide +kernel, by decide +kernel⟩, by decide +kernel⟩
theorem yk_X11_stream : YOk yX11_stream cX11_stream 9 (some .int) 6 := ⟨lw_gi 535 (by decide +kernel), lw_gi 77 (by decide +kernel), ⟨by decide +kernel, by decide +kernel⟩, by decide +kernel⟩
theorem yk_X11_sum : YOk yX11_sum cX11_sum 4 (some .int) 1 := ⟨lw_gi 1184 (by decide +kernel), lw_gi 77 (by decide +kernel), ⟨by decide +kernel, by decide +kernel⟩, by decide +kernel⟩
theorem yk_X11_times : YOk yX11_times cX11_times 4 (some .int) 1 := ⟨lw_gi 935 (by decide +kernel), lw_gi 77 (by decide +kernel), ⟨by decide +kernel, by decide +kernel⟩, by decide +kernel⟩
theorem yk_X11_waiting : YOk yX11_waiting cX11_waiting 2 (some .int) 1 := ⟨lw_gi 903 (by decide +kernel), lw_gi 77 (by decide +kernel), ⟨by decide +kernel, by decide +kernel⟩, by decide +kernel⟩
theorem yk_X11_whole : YOk yX11_whole cX11_whole 4 (some .int) 1 := ⟨lw_gi 1064 (by decide +kernel), lw_gi 77 (by decide +kernel), ⟨by decide +kernel, by decide +kernel⟩, by decide +kernel⟩
theorem yk_X12_about : YOk yX12_about cX12_about 3 (some .int) 2 := ⟨lw_gi 1473 (by decide +kernel), lw_gi 89 (by decide +kernel), ⟨by decide +kernel, by decide +kernel⟩, by decide +kernel⟩
theorem yk_X12_can : YOk yX12_can cX12_can 3 (some .int) 2 := ⟨lw_gi 1481 (by decide +kernel), lw_gi 89 (by decide +kernel), ⟨by decide +kernel, by decide +kernel⟩, by decide +kernel⟩
theorem yk_X12_cell : YOk yX12_cell cX12_cell 6 (some .int) 4 := ⟨lw_gi 1461 (by decide +kernel), lw_gi 89 (by decide +kernel), ⟨by decide +kernel, by decide +kernel⟩, by decide +kernel⟩
theorem yk_X12_clean : YOk yX12_clean cX12_clean 4 (some .int) 2 := ⟨lw_gi 1649 (by decide +kernel), lw_gi 89 (by decide +kernel), ⟨by decide +kernel, by decide +kernel⟩, by decide +kernel⟩
theorem yk_X12_copy : YOk yX12_copy cX12_copy 7 (some .int) 5 := ⟨lw_gi 1781 (by decide +kernel), lw_gi 89 (by decide +kernel), ⟨by decide +kernel, by decide +kernel⟩, by decide +kernel⟩
theorem yk_X12_count : YOk yX12_count cX12_count 4 (some .int) 1 := ⟨lw_gi 1753 (by decide +kernel), lw_gi 89 (by decide +kernel), ⟨by decide +kernel, by decide +kernel⟩, by decide +kernel⟩
theorem yk_X12_deaf : YOk yX12_deaf cX12_deaf 4 (some .int) 2 := ⟨lw_gi 1613 (by decide +kernel), lw_gi 89 (by decide +kernel), ⟨by decide +kernel, by decide +kernel⟩, by decide +kernel⟩
theorem yk_X12_dive : YOk yX12_dive cX12_dive 5 (some .int) 4 := ⟨lw_gi 1505 (by decide +kernel), lw_gi 89 (by decide +kernel), ⟨by decide +kernel, by decide +kernel⟩, by decide +kernel⟩
theorem yk_X12_element : YOk yX12_element cX12_element 3 (some .long) 2 := ⟨lw_gi 1777 (by decide +kernel), lw_gi 89 (by decide +kernel), ⟨by decide +kernel, by decide +kernel⟩, by decide +kernel⟩
theorem yk_X12_ends : YOk yX12_ends cX12_ends 5 (some .int) 4 := ⟨lw_gi 1709 (by decide +kernel), lw_gi 89 (by decide +kernel), ⟨by decide +kernel, by decide +kernel⟩, by decide +kernel⟩
theorem yk_X12_fault : YOk yX12_fault cX12_fault 2 (some .int) 1 := ⟨lw_gi 1557 (by decide +kernel), lw_gi 89 (by decide +kernel), ⟨by decide +kernel, by decide +kernel⟩, by decide +kernel⟩
theorem yk_X12_fetch : YOk yX12_fetch cX12_fetch 2 (some .int) 1 := ⟨lw_gi 1741 (by decide +kernel), lw_gi 89 (by decide +kernel), ⟨by decide +kernel, by decide +kernel⟩, by decide +kernel⟩
theorem yk_X12_glider : YOk yX12_glider cX12_glider 6 (some .int) 4 := ⟨lw_gi 1465 (by decide +kernel), lw_gi 89 (by decide +kernel), ⟨by decide +kernel, by decide +kernel⟩, by decide +kernel⟩
theorem yk_X12_image : YOk yX12_image cX12_image 2 (some .int) 0 := ⟨lw_gi 1745 (by decide +kernel), lw_gi 89 (by decide +kernel), ⟨by decide +kernel, by decide +kernel⟩, by decide +kernel⟩
theorem yk_X12_keep : YOk yX12_keep cX12_keep 4 (some .int) 3 := ⟨lw_gi 1757 (by decide +kernel), lw_gi 89 (by decide +kernel), ⟨by decide +kernel, by decide +kernel⟩, by decide +kernel⟩
theorem yk_X12_known : YOk yX12_known cX12_known 4 (some .int) 2 := ⟨lw_gi 1645 (by decide +kernel), lw_gi 89 (by decide +kernel), ⟨by decide +kernel, by decide +kernel⟩, by decide +kernel⟩
theorem yk_X12_leak : YOk yX12_leak cX12_leak 4 (some .int) 2 := ⟨lw_gi 1501 (by decide +kernel), lw_gi 89 (by decide +kernel), ⟨by decide +kernel, by decide +kernel⟩, by decide +kernel⟩
theorem yk_X12_left : YOk yX12_left cX12_left 2 (some .int) 1 := ⟨lw_gi 1725 (by decide +kernel), lw_gi 89 (by decide +kernel), ⟨by decide +kernel, by decide +kernel⟩, by decide +kernel⟩
theorem yk_X12_letter : YOk yX12_letter cX12_letter 4 (some .int) 2 := ⟨lw_gi 1605 (by decide +kernel), lw_gi 89 (by decide +kernel), ⟨by decide +kernel, by decide +kernel⟩, by decide +kernel⟩
theorem yk_X12_next : YOk yX12_next cX12_next 3 (some .int) 0 := ⟨lw_gi 1733 (by decide +kernel), lw_gi 89 (by decide +kernel), ⟨by decide +kernel, by decide +kernel⟩, by decide +kernel⟩
theorem yk_X12_order : YOk yX12_order cX12_order 4 (some .int) 1 := ⟨lw_gi 1601 (by decide +kernel), lw_gi 89 (by decide +kernel), ⟨by decide +kernel, by decide +kernel⟩, by decide +kernel⟩
theorem yk_X12_plan : YOk yX12_plan cX12_plan 2 (some .int) 1 := ⟨lw_gi 1669 (by decide +kernel), lw_gi 89 (by decide +kernel), ⟨by decide +kernel, by decide +kernel⟩, by decide +kernel⟩
theorem yk_X12_planned : YOk yX12_planned cX12_planned 4 (some .int) 2 := ⟨lw_gi 1705 (by decide +kernel), lw_gi 89 (by decide +kernel), ⟨by decide +kernel, by decide +kernel⟩, by decide +kernel⟩
theorem yk_X12_put : YOk yX12_put cX12_put 4 (some .int) 3 := ⟨lw_gi 1769 (by decide +kernel), lw_gi 89 (by decide +kernel), ⟨by decide +kernel, by decide +kernel⟩, by decide +kernel⟩
theorem yk_X12_read : YOk yX12_read cX12_read 3 (some .long) 2 := ⟨lw_gi 1661 (by decide +kernel), lw_gi 89 (by decide +kernel), ⟨by decide +kernel, by decide +kernel⟩, by decide +kernel⟩
theorem yk_X12_reading : YOk yX12_reading cX12_reading 3 (some .int) 2 := ⟨lw_gi 1653 (by decide +kernel), lw_gi 89 (by decide +kernel), ⟨by decide +kernel, by decide +kernel⟩, by decide +kernel⟩
theorem yk_X12_restore : YOk yX12_restore cX12_restore 2 (some .int) 0 := ⟨lw_gi 1749 (by decide +kernel), lw_gi 89 (by decide +kernel), ⟨by decide +kernel, by decide +kernel⟩, by decide +kernel⟩
theorem yk_X12_row : YOk yX12_row cX12_row 5 (some .int) 3 := ⟨lw_gi 1765 (by decide +kernel), lw_gi 89 (by decide +kernel), ⟨by decide +kernel, by decide +kernel⟩, by decide +kernel⟩
theorem yk_X12_rule : YOk yX12_rule cX12_rule 2 (some .int) 1 := ⟨lw_gi 1617 (by decide +kernel), lw_gi 89 (by decide +kernel), ⟨by decide +kernel, by decide +kernel⟩, by decide +kernel⟩
theorem yk_X12_salt : YOk yX12_salt cX12_salt 8 (some .int) 4 := ⟨lw_gi 1457 (by decide +kernel), lw_gi 89 (by decide +kernel), ⟨by decide +kernel, by decide +kernel⟩, by decide +kernel⟩
theorem yk_X12_sea : YOk yX12_sea cX12_sea 8 (some .int) 4 := ⟨lw_gi 1441 (by decide +kernel), lw_gi 89 (by decide +kernel), ⟨by decide +kernel, by decide +kernel⟩, by decide +kernel⟩
theorem yk_X12_ship : YOk yX12_ship cX12_ship 4 (some .int) 2 := ⟨lw_gi 1721 (by decide +kernel), lw_gi 89 (by decide +kernel), ⟨by decide +kernel, by decide +kernel⟩, by decide +kernel⟩
theorem yk_X12_stream : YOk yX12_stream cX12_stream 8 (some .int) 6 := ⟨lw_gi 1453 (by decide +kernel), lw_gi 89 (by decide +kernel), ⟨by decide +kernel, by decide +kernel⟩, by decide +kernel⟩
theorem yk_X12_sum : YOk yX12_sum cX12_sum 4 (some .int) 1 := ⟨lw_gi 1785 (by decide +kernel), lw_gi 89 (by decide +kernel), ⟨by decide +kernel, by decide +kernel⟩, by decide +kernel⟩
theorem yk_X12_thrown : YOk yX12_thrown cX12_thrown 1 (some .int) 0 := ⟨lw_gi 1319 (by decide +kernel), lw_gi 89 (by decide +kernel), ⟨by decide +kernel, by decide +kernel⟩, by decide +kernel⟩
theorem yk_X12_times : YOk yX12_times cX12_times 4 (some .int) 1 := ⟨lw_gi 1621 (by decide +kernel), lw_gi 89 (by decide +kernel), ⟨by decide +kernel, by decide +kernel⟩, by decide +kernel⟩
theorem yk_X12_toss : YOk yX12_toss cX12_toss 2 (some .int) 1 := ⟨lw_gi 1793 (by decide +kernel), lw_gi 89 (by decide +kernel), ⟨by decide +kernel, by decide +kernel⟩, by decide +kernel⟩
theorem yk_X12_waiting : YOk yX12_waiting cX12_waiting 4 (some .int) 1 := ⟨lw_gi 1609 (by decide +kernel), lw_gi 89 (by decide +kernel), ⟨by decide +kernel, by decide +kernel⟩, by decide +kernel⟩
theorem yk_X12_whole : YOk yX12_whole cX12_whole 4 (some .int) 1 := ⟨lw_gi 1713 (by decide +kernel), lw_gi 89 (by decide +kernel), ⟨by decide +kernel, by decide +kernel⟩, by decide +kernel⟩
theorem yh_X11_toss : YOkH yX11_toss cX11_toss 4 (some .int) hhT 1 := ⟨lw_gi 1191 (by decide +kernel), lw_gi 77 (by decide +kernel), ⟨by decide +kernel, by decide +kernel⟩, by decide +kernel⟩
theorem yh_L_read : YOkH yL_read cL_read 5 (some .int) hhR 4 := ⟨lw_gi 1280 (by decide +kernel), lw_gi 76 (by decide +kernel), ⟨by decide +kernel, by decide +kernel⟩, by decide +kernel⟩
theorem yh_L_element : YOkH yL_element cL_element 5 (some .int) hhE 4 := ⟨lw_gi 1308 (by decide +kernel), lw_gi 76 (by decide +kernel), ⟨by decide +kernel, by decide +kernel⟩, by decide +kernel⟩
theorem lk_L_186 : Cond.methodLink RL 186 yX11_toss ∈ lw_g ∧ Cond.instanceMethod yX11_toss ∈ lw_g ∧ Cond.selects yX11_toss.cls yX11_toss yX11_toss ∈ lw_g := ⟨lw_gi 1188 (by decide +kernel), lw_gi 1189 (by decide +kernel), lw_gi 1190 (by decide +kernel)⟩
theorem lk_L_106 : Cond.methodLink RL 106 yL_read ∈ lw_g ∧ Cond.static yL_read ∈ lw_g := ⟨lw_gi 1278 (by decide +kernel), lw_gi 1279 (by decide +kernel)⟩
theorem lk_L_173 : Cond.methodLink RL 173 yL_element ∈ lw_g ∧ Cond.static yL_element ∈ lw_g := ⟨lw_gi 1306 (by decide +kernel), lw_gi 1307 (by decide +kernel)⟩
section LAW
variable {Γ : Gm} {X : Ct} {M : Mm} {cells slots : Nat} {Q : State → Prop} {b L n ax am ao : Nat} {xs : Nat → Int32}
set_option maxHeartbeats 1000000 in
theorem law_0 {R : Mm → Prop} (hC : Cx Γ X cL_law RL (some .boolean) 8) (hX : Scr Γ X b L xs) (hL : L ≤ 3584) (hnL : n + 7 ≤ L) (hSt : X.2.1.stackTraces = false) (hRm : X.2.2.2.1 = ({ frames := 2048, cells := 601024, slots := 7293034, locals := 84000 } : Room)) (hop : Op_0 R ax am) (hR0 : R M) (hcs : cells + 0 ≤ 601024 ∧ slots + 0 ≤ 7293034) (kk : ∀ M2 : Mm, R M2 → G Γ X 8 M2 (cells + 0) (slots + 0) Q 1788 ([(4, .int (Int32.ofNat n)), (3, .ref ao), (2, .ref am), (1, .ref ax), (0, .ref b)]) []) : G Γ X 8 M cells slots Q 208 ([(4, .int (Int32.ofNat n)), (3, .ref ao), (2, .ref am), (1, .ref ax), (0, .ref b)]) [] := by
  obtain ⟨r1, M1, M2, o1, e1, o2, e2, hR2⟩ := hop M (xs (n + 1)) (xs (n + 2)) (xs (n + 3)) (xs (n + 4)) hR0
  refine g_aload_n hC 3 dL_law_208 rfl ?_
  refine g_aload_n hC 4 dL_law_209 rfl ?_
  refine g_iload hC 0 dL_law_210 rfl ?_
  refine g_iconst hC 1 dL_law_212 (by decide) ?_
  refine g_iadd hC dL_law_213 ?_
  refine g_sldJ (n := n) (j := 1) hC hX rfl (by omega) hL dL_law_214 ?_
  refine g_aload_n hC 4 dL_law_215 rfl ?_
  refine g_iload hC 0 dL_law_216 rfl ?_
  refine g_iconst hC 2 dL_law_218 (by decide) ?_
  refine g_iadd hC dL_law_219 ?_
  refine g_sldJ (n := n) (j := 2) hC hX rfl (by omega) hL dL_law_220 ?_
  refine g_aload_n hC 4 dL_law_221 rfl ?_
  refine g_iload hC 0 dL_law_222 rfl ?_
  refine g_iconst hC 3 dL_law_224 (by decide) ?_
  refine g_iadd hC dL_law_225 ?_
  refine g_sldJ (n := n) (j := 3) hC hX rfl (by omega) hL dL_law_226 ?_
  refine g_aload_n hC 4 dL_law_227 rfl ?_
  refine g_iload hC 0 dL_law_228 rfl ?_
  refine g_iconst hC 4 dL_law_230 (by decide) ?_
  refine g_iadd hC dL_law_231 ?_
  refine g_sldJ (n := n) (j := 4) hC hX rfl (by omega) hL dL_law_232 ?_
  refine g_calli hC (r_V hC (As := [.int (xs (n + 1)), .int (xs (n + 2)), .int (xs (n + 3)), .int (xs (n + 4))]) (c_X11_sea _ Γ ax (xs (n + 1)) (xs (n + 2)) (xs (n + 3)) (xs (n + 4)) M M1 r1 e1) yk_X11_sea lk_L_25 o1 ⟨_, rfl, rfl⟩ rfl rfl (Nat.le_of_ble_eq_true rfl) hRm ⟨(Nat.le_of_ble_eq_true rfl), (Nat.le_of_ble_eq_true rfl)⟩ ⟨(by omega), (by omega)⟩ dL_law_233) ?_
  refine g_aload_n hC 2 dL_law_236 rfl ?_
  refine g_aload_n hC 4 dL_law_237 rfl ?_
  refine g_iload hC 0 dL_law_238 rfl ?_
  refine g_iconst hC 1 dL_law_240 (by decide) ?_
  refine g_iadd hC dL_law_241 ?_
  refine g_sldJ (n := n) (j := 1) hC hX rfl (by omega) hL dL_law_242 ?_
  refine g_aload_n hC 4 dL_law_243 rfl ?_
  refine g_iload hC 0 dL_law_244 rfl ?_
  refine g_iconst hC 2 dL_law_246 (by decide) ?_
  refine g_iadd hC dL_law_247 ?_
  refine g_sldJ (n := n) (j := 2) hC hX rfl (by omega) hL dL_law_248 ?_
  refine g_aload_n hC 4 dL_law_249 rfl ?_
  refine g_iload hC 0 dL_law_250 rfl ?_
  refine g_iconst hC 3 dL_law_252 (by decide) ?_
  refine g_iadd hC dL_law_253 ?_
  refine g_sldJ (n := n) (j := 3) hC hX rfl (by omega) hL dL_law_254 ?_
  refine g_aload_n hC 4 dL_law_255 rfl ?_
  refine g_iload hC 0 dL_law_256 rfl ?_
  refine g_iconst hC 4 dL_law_258 (by decide) ?_
  refine g_iadd hC dL_law_259 ?_
  refine g_sldJ (n := n) (j := 4) hC hX rfl (by omega) hL dL_law_260 ?_
  refine g_calli hC (r_V hC (As := [.int (xs (n + 1)), .int (xs (n + 2)), .int (xs (n + 3)), .int (xs (n + 4))]) (c_X12_sea _ Γ am (xs (n + 1)) (xs (n + 2)) (xs (n + 3)) (xs (n + 4)) M1 M2 r1 e2) yk_X12_sea lk_L_29 o2 ⟨_, rfl, rfl⟩ rfl rfl (Nat.le_of_ble_eq_true rfl) hRm ⟨(Nat.le_of_ble_eq_true rfl), (Nat.le_of_ble_eq_true rfl)⟩ ⟨(by omega), (by omega)⟩ dL_law_261) ?_
  refine g_icmp_eq hC 1788 dL_law_264 (by decide) (fun _ => ?_) (fun cf => absurd rfl cf)
  exact kk M2 hR2

set_option maxHeartbeats 1000000 in
theorem law_1 {R : Mm → Prop} (hC : Cx Γ X cL_law RL (some .boolean) 8) (hX : Scr Γ X b L xs) (hL : L ≤ 3584) (hnL : n + 7 ≤ L) (hSt : X.2.1.stackTraces = false) (hRm : X.2.2.2.1 = ({ frames := 2048, cells := 601024, slots := 7293034, locals := 84000 } : Room)) (hop : Op_1 R ax am) (hR0 : R M) (hcs : cells + 0 ≤ 601024 ∧ slots + 0 ≤ 7293034) (kk : ∀ M2 : Mm, R M2 → G Γ X 8 M2 (cells + 0) (slots + 0) Q 1788 ([(4, .int (Int32.ofNat n)), (3, .ref ao), (2, .ref am), (1, .ref ax), (0, .ref b)]) []) : G Γ X 8 M cells slots Q 269 ([(4, .int (Int32.ofNat n)), (3, .ref ao), (2, .ref am), (1, .ref ax), (0, .ref b)]) [] := by
  obtain ⟨r1, M1, M2, o1, e1, o2, e2, hR2⟩ := hop M (xs (n + 1)) (xs (n + 2)) (xs (n + 3)) (xs (n + 4)) (xs (n + 5)) (xs (n + 6)) hR0
  refine g_aload_n hC 3 dL_law_269 rfl ?_
  refine g_aload_n hC 4 dL_law_270 rfl ?_
  refine g_iload hC 0 dL_law_271 rfl ?_
  refine g_iconst hC 1 dL_law_273 (by decide) ?_
  refine g_iadd hC dL_law_274 ?_
  refine g_sldJ (n := n) (j := 1) hC hX rfl (by omega) hL dL_law_275 ?_
  refine g_aload_n hC 4 dL_law_276 rfl ?_
  refine g_iload hC 0 dL_law_277 rfl ?_
  refine g_iconst hC 2 dL_law_279 (by decide) ?_
  refine g_iadd hC dL_law_280 ?_
  refine g_sldJ (n := n) (j := 2) hC hX rfl (by omega) hL dL_law_281 ?_
  refine g_aload_n hC 4 dL_law_282 rfl ?_
  refine g_iload hC 0 dL_law_283 rfl ?_
  refine g_iconst hC 3 dL_law_285 (by decide) ?_
  refine g_iadd hC dL_law_286 ?_
  refine g_sldJ (n := n) (j := 3) hC hX rfl (by omega) hL dL_law_287 ?_
  refine g_aload_n hC 4 dL_law_288 rfl ?_
  refine g_iload hC 0 dL_law_289 rfl ?_
  refine g_iconst hC 4 dL_law_291 (by decide) ?_
  refine g_iadd hC dL_law_292 ?_
  refine g_sldJ (n := n) (j := 4) hC hX rfl (by omega) hL dL_law_293 ?_
  refine g_aload_n hC 4 dL_law_294 rfl ?_
  refine g_iload hC 0 dL_law_295 rfl ?_
  refine g_iconst hC 5 dL_law_297 (by decide) ?_
  refine g_iadd hC dL_law_298 ?_
  refine g_sldJ (n := n) (j := 5) hC hX rfl (by omega) hL dL_law_299 ?_
  refine g_aload_n hC 4 dL_law_300 rfl ?_
  refine g_iload hC 0 dL_law_301 rfl ?_
  refine g_bipush hC 6 dL_law_303 (by decide) ?_
  refine g_iadd hC dL_law_305 ?_
  refine g_sldJ (n := n) (j := 6) hC hX rfl (by omega) hL dL_law_306 ?_
  refine g_bz hC dL_law_307 dL_law_310 dL_law_311 dL_law_314 ?_
  refine g_calli hC (r_V hC (As := [.int (xs (n + 1)), .int (xs (n + 2)), .int (xs (n + 3)), .int (xs (n + 4)), .int (xs (n + 5)), .int (bz (xs (n + 6)))]) (c_X11_stream _ Γ ax (xs (n + 1)) (xs (n + 2)) (xs (n + 3)) (xs (n + 4)) (xs (n + 5)) (bz (xs (n + 6))) M M1 r1 e1) yk_X11_stream lk_L_30 o1 ⟨_, rfl, rfl⟩ rfl rfl (Nat.le_of_ble_eq_true rfl) hRm ⟨(Nat.le_of_ble_eq_true rfl), (Nat.le_of_ble_eq_true rfl)⟩ ⟨(by omega), (by omega)⟩ dL_law_315) ?_
  refine g_aload_n hC 2 dL_law_318 rfl ?_
  refine g_aload_n hC 4 dL_law_319 rfl ?_
  refine g_iload hC 0 dL_law_320 rfl ?_
  refine g_iconst hC 1 dL_law_322 (by decide) ?_
  refine g_iadd hC dL_law_323 ?_
  refine g_sldJ (n := n) (j := 1) hC hX rfl (by omega) hL dL_law_324 ?_
  refine g_aload_n hC 4 dL_law_325 rfl ?_
  refine g_iload hC 0 dL_law_326 rfl ?_
  refine g_iconst hC 2 dL_law_328 (by decide) ?_
  refine g_iadd hC dL_law_329 ?_
  refine g_sldJ (n := n) (j := 2) hC hX rfl (by omega) hL dL_law_330 ?_
  refine g_aload_n hC 4 dL_law_331 rfl ?_
  refine g_iload hC 0 dL_law_332 rfl ?_
  refine g_iconst hC 3 dL_law_334 (by decide) ?_
  refine g_iadd hC dL_law_335 ?_
  refine g_sldJ (n := n) (j := 3) hC hX rfl (by omega) hL dL_law_336 ?_
  refine g_aload_n hC 4 dL_law_337 rfl ?_
  refine g_iload hC 0 dL_law_338 rfl ?_
  refine g_iconst hC 4 dL_law_340 (by decide) ?_
  refine g_iadd hC dL_law_341 ?_
  refine g_sldJ (n := n) (j := 4) hC hX rfl (by omega) hL dL_law_342 ?_
  refine g_aload_n hC 4 dL_law_343 rfl ?_
  refine g_iload hC 0 dL_law_344 rfl ?_
  refine g_iconst hC 5 dL_law_346 (by decide) ?_
  refine g_iadd hC dL_law_347 ?_
  refine g_sldJ (n := n) (j := 5) hC hX rfl (by omega) hL dL_law_348 ?_
  refine g_aload_n hC 4 dL_law_349 rfl ?_
  refine g_iload hC 0 dL_law_350 rfl ?_
  refine g_bipush hC 6 dL_law_352 (by decide) ?_
  refine g_iadd hC dL_law_354 ?_
  refine g_sldJ (n := n) (j := 6) hC hX rfl (by omega) hL dL_law_355 ?_
  refine g_bz hC dL_law_356 dL_law_359 dL_law_360 dL_law_363 ?_
  refine g_calli hC (r_V hC (As := [.int (xs (n + 1)), .int (xs (n + 2)), .int (xs (n + 3)), .int (xs (n + 4)), .int (xs (n + 5)), .int (bz (xs (n + 6)))]) (c_X12_stream _ Γ am (xs (n + 1)) (xs (n + 2)) (xs (n + 3)) (xs (n + 4)) (xs (n + 5)) (bz (xs (n + 6))) M1 M2 r1 e2) yk_X12_stream lk_L_34 o2 ⟨_, rfl, rfl⟩ rfl rfl (Nat.le_of_ble_eq_true rfl) hRm ⟨(Nat.le_of_ble_eq_true rfl), (Nat.le_of_ble_eq_true rfl)⟩ ⟨(by omega), (by omega)⟩ dL_law_364) ?_
  refine g_icmp_eq hC 1788 dL_law_367 (by decide) (fun _ => ?_) (fun cf => absurd rfl cf)
  exact kk M2 hR2

set_option maxHeartbeats 1000000 in
theorem law_2 {R : Mm → Prop} (hC : Cx Γ X cL_law RL (some .boolean) 8) (hX : Scr Γ X b L xs) (hL : L ≤ 3584) (hnL : n + 7 ≤ L) (hSt : X.2.1.stackTraces = false) (hRm : X.2.2.2.1 = ({ frames := 2048, cells := 601024, slots := 7293034, locals := 84000 } : Room)) (hop : Op_2 R ax am) (hR0 : R M) (hcs : cells + 0 ≤ 601024 ∧ slots + 0 ≤ 7293034) (kk : ∀ M2 : Mm, R M2 → G Γ X 8 M2 (cells + 0) (slots + 0) Q 1788 ([(4, .int (Int32.ofNat n)), (3, .ref ao), (2, .ref am), (1, .ref ax), (0, .ref b)]) []) : G Γ X 8 M cells slots Q 372 ([(4, .int (Int32.ofNat n)), (3, .ref ao), (2, .ref am), (1, .ref ax), (0, .ref b)]) [] := by
  obtain ⟨r1, M1, M2, o1, e1, o2, e2, hR2⟩ := hop M (xs (n + 1)) (xs (n + 2)) (xs (n + 3)) (xs (n + 4)) hR0
  refine g_aload_n hC 3 dL_law_372 rfl ?_
  refine g_aload_n hC 4 dL_law_373 rfl ?_
  refine g_iload hC 0 dL_law_374 rfl ?_
  refine g_iconst hC 1 dL_law_376 (by decide) ?_
  refine g_iadd hC dL_law_377 ?_
  refine g_sldJ (n := n) (j := 1) hC hX rfl (by omega) hL dL_law_378 ?_
  refine g_aload_n hC 4 dL_law_379 rfl ?_
  refine g_iload hC 0 dL_law_380 rfl ?_
  refine g_iconst hC 2 dL_law_382 (by decide) ?_
  refine g_iadd hC dL_law_383 ?_
  refine g_sldJ (n := n) (j := 2) hC hX rfl (by omega) hL dL_law_384 ?_
  refine g_aload_n hC 4 dL_law_385 rfl ?_
  refine g_iload hC 0 dL_law_386 rfl ?_
  refine g_iconst hC 3 dL_law_388 (by decide) ?_
  refine g_iadd hC dL_law_389 ?_
  refine g_sldJ (n := n) (j := 3) hC hX rfl (by omega) hL dL_law_390 ?_
  refine g_aload_n hC 4 dL_law_391 rfl ?_
  refine g_iload hC 0 dL_law_392 rfl ?_
  refine g_iconst hC 4 dL_law_394 (by decide) ?_
  refine g_iadd hC dL_law_395 ?_
  refine g_sldJ (n := n) (j := 4) hC hX rfl (by omega) hL dL_law_396 ?_
  refine g_calli hC (r_V hC (As := [.int (xs (n + 1)), .int (xs (n + 2)), .int (xs (n + 3)), .int (xs (n + 4))]) (c_X11_salt _ Γ ax (xs (n + 1)) (xs (n + 2)) (xs (n + 3)) (xs (n + 4)) M M1 r1 e1) yk_X11_salt lk_L_35 o1 ⟨_, rfl, rfl⟩ rfl rfl (Nat.le_of_ble_eq_true rfl) hRm ⟨(Nat.le_of_ble_eq_true rfl), (Nat.le_of_ble_eq_true rfl)⟩ ⟨(by omega), (by omega)⟩ dL_law_397) ?_
  refine g_aload_n hC 2 dL_law_400 rfl ?_
  refine g_aload_n hC 4 dL_law_401 rfl ?_
  refine g_iload hC 0 dL_law_402 rfl ?_
  refine g_iconst hC 1 dL_law_404 (by decide) ?_
  refine g_iadd hC dL_law_405 ?_
  refine g_sldJ (n := n) (j := 1) hC hX rfl (by omega) hL dL_law_406 ?_
  refine g_aload_n hC 4 dL_law_407 rfl ?_
  refine g_iload hC 0 dL_law_408 rfl ?_
  refine g_iconst hC 2 dL_law_410 (by decide) ?_
  refine g_iadd hC dL_law_411 ?_
  refine g_sldJ (n := n) (j := 2) hC hX rfl (by omega) hL dL_law_412 ?_
  refine g_aload_n hC 4 dL_law_413 rfl ?_
  refine g_iload hC 0 dL_law_414 rfl ?_
  refine g_iconst hC 3 dL_law_416 (by decide) ?_
  refine g_iadd hC dL_law_417 ?_
  refine g_sldJ (n := n) (j := 3) hC hX rfl (by omega) hL dL_law_418 ?_
  refine g_aload_n hC 4 dL_law_419 rfl ?_
  refine g_iload hC 0 dL_law_420 rfl ?_
  refine g_iconst hC 4 dL_law_422 (by decide) ?_
  refine g_iadd hC dL_law_423 ?_
  refine g_sldJ (n := n) (j := 4) hC hX rfl (by omega) hL dL_law_424 ?_
  refine g_calli hC (r_V hC (As := [.int (xs (n + 1)), .int (xs (n + 2)), .int (xs (n + 3)), .int (xs (n + 4))]) (c_X12_salt _ Γ am (xs (n + 1)) (xs (n + 2)) (xs (n + 3)) (xs (n + 4)) M1 M2 r1 e2) yk_X12_salt lk_L_38 o2 ⟨_, rfl, rfl⟩ rfl rfl (Nat.le_of_ble_eq_true rfl) hRm ⟨(Nat.le_of_ble_eq_true rfl), (Nat.le_of_ble_eq_true rfl)⟩ ⟨(by omega), (by omega)⟩ dL_law_425) ?_
  refine g_icmp_eq hC 1788 dL_law_428 (by decide) (fun _ => ?_) (fun cf => absurd rfl cf)
  exact kk M2 hR2

set_option maxHeartbeats 1000000 in
theorem law_3 {R : Mm → Prop} (hC : Cx Γ X cL_law RL (some .boolean) 8) (hX : Scr Γ X b L xs) (hL : L ≤ 3584) (hnL : n + 7 ≤ L) (hSt : X.2.1.stackTraces = false) (hRm : X.2.2.2.1 = ({ frames := 2048, cells := 601024, slots := 7293034, locals := 84000 } : Room)) (hop : Op_3 R ax am) (hR0 : R M) (hcs : cells + 0 ≤ 601024 ∧ slots + 0 ≤ 7293034) (kk : ∀ M2 : Mm, R M2 → G Γ X 8 M2 (cells + 0) (slots + 0) Q 1788 ([(4, .int (Int32.ofNat n)), (3, .ref ao), (2, .ref am), (1, .ref ax), (0, .ref b)]) []) : G Γ X 8 M cells slots Q 433 ([(4, .int (Int32.ofNat n)), (3, .ref ao), (2, .ref am), (1, .ref ax), (0, .ref b)]) [] := by
  obtain ⟨r1, M1, M2, o1, e1, o2, e2, hR2⟩ := hop M (xs (n + 1)) (xs (n + 2)) (xs (n + 3)) (xs (n + 4)) hR0
  refine g_aload_n hC 3 dL_law_433 rfl ?_
  refine g_aload_n hC 4 dL_law_434 rfl ?_
  refine g_iload hC 0 dL_law_435 rfl ?_
  refine g_iconst hC 1 dL_law_437 (by decide) ?_
  refine g_iadd hC dL_law_438 ?_
  refine g_sldJ (n := n) (j := 1) hC hX rfl (by omega) hL dL_law_439 ?_
  refine g_aload_n hC 4 dL_law_440 rfl ?_
  refine g_iload hC 0 dL_law_441 rfl ?_
  refine g_iconst hC 2 dL_law_443 (by decide) ?_
  refine g_iadd hC dL_law_444 ?_
  refine g_sldJ (n := n) (j := 2) hC hX rfl (by omega) hL dL_law_445 ?_
  refine g_aload_n hC 4 dL_law_446 rfl ?_
  refine g_iload hC 0 dL_law_447 rfl ?_
  refine g_iconst hC 3 dL_law_449 (by decide) ?_
  refine g_iadd hC dL_law_450 ?_
  refine g_sldJ (n := n) (j := 3) hC hX rfl (by omega) hL dL_law_451 ?_
  refine g_aload_n hC 4 dL_law_452 rfl ?_
  refine g_iload hC 0 dL_law_453 rfl ?_
  refine g_iconst hC 4 dL_law_455 (by decide) ?_
  refine g_iadd hC dL_law_456 ?_
  refine g_sldJ (n := n) (j := 4) hC hX rfl (by omega) hL dL_law_457 ?_
  refine g_calli hC (r_V hC (As := [.int (xs (n + 1)), .int (xs (n + 2)), .int (xs (n + 3)), .int (xs (n + 4))]) (c_X11_cell _ Γ ax (xs (n + 1)) (xs (n + 2)) (xs (n + 3)) (xs (n + 4)) M M1 r1 e1) yk_X11_cell lk_L_39 o1 ⟨_, rfl, rfl⟩ rfl rfl (Nat.le_of_ble_eq_true rfl) hRm ⟨(Nat.le_of_ble_eq_true rfl), (Nat.le_of_ble_eq_true rfl)⟩ ⟨(by omega), (by omega)⟩ dL_law_458) ?_
  refine g_aload_n hC 2 dL_law_461 rfl ?_
  refine g_aload_n hC 4 dL_law_462 rfl ?_
  refine g_iload hC 0 dL_law_463 rfl ?_
  refine g_iconst hC 1 dL_law_465 (by decide) ?_
  refine g_iadd hC dL_law_466 ?_
  refine g_sldJ (n := n) (j := 1) hC hX rfl (by omega) hL dL_law_467 ?_
  refine g_aload_n hC 4 dL_law_468 rfl ?_
  refine g_iload hC 0 dL_law_469 rfl ?_
  refine g_iconst hC 2 dL_law_471 (by decide) ?_
  refine g_iadd hC dL_law_472 ?_
  refine g_sldJ (n := n) (j := 2) hC hX rfl (by omega) hL dL_law_473 ?_
  refine g_aload_n hC 4 dL_law_474 rfl ?_
  refine g_iload hC 0 dL_law_475 rfl ?_
  refine g_iconst hC 3 dL_law_477 (by decide) ?_
  refine g_iadd hC dL_law_478 ?_
  refine g_sldJ (n := n) (j := 3) hC hX rfl (by omega) hL dL_law_479 ?_
  refine g_aload_n hC 4 dL_law_480 rfl ?_
  refine g_iload hC 0 dL_law_481 rfl ?_
  refine g_iconst hC 4 dL_law_483 (by decide) ?_
  refine g_iadd hC dL_law_484 ?_
  refine g_sldJ (n := n) (j := 4) hC hX rfl (by omega) hL dL_law_485 ?_
  refine g_calli hC (r_V hC (As := [.int (xs (n + 1)), .int (xs (n + 2)), .int (xs (n + 3)), .int (xs (n + 4))]) (c_X12_cell _ Γ am (xs (n + 1)) (xs (n + 2)) (xs (n + 3)) (xs (n + 4)) M1 M2 r1 e2) yk_X12_cell lk_L_42 o2 ⟨_, rfl, rfl⟩ rfl rfl (Nat.le_of_ble_eq_true rfl) hRm ⟨(Nat.le_of_ble_eq_true rfl), (Nat.le_of_ble_eq_true rfl)⟩ ⟨(by omega), (by omega)⟩ dL_law_486) ?_
  refine g_icmp_eq hC 1788 dL_law_489 (by decide) (fun _ => ?_) (fun cf => absurd rfl cf)
  exact kk M2 hR2

set_option maxHeartbeats 1000000 in
theorem law_4 {R : Mm → Prop} (hC : Cx Γ X cL_law RL (some .boolean) 8) (hX : Scr Γ X b L xs) (hL : L ≤ 3584) (hnL : n + 7 ≤ L) (hSt : X.2.1.stackTraces = false) (hRm : X.2.2.2.1 = ({ frames := 2048, cells := 601024, slots := 7293034, locals := 84000 } : Room)) (hop : Op_4 R ax am) (hR0 : R M) (hcs : cells + 2 ≤ 601024 ∧ slots + 412 ≤ 7293034) (kk : ∀ M2 : Mm, R M2 → G Γ X 8 M2 (cells + 2) (slots + 412) Q 1788 ([(4, .int (Int32.ofNat n)), (3, .ref ao), (2, .ref am), (1, .ref ax), (0, .ref b)]) []) : G Γ X 8 M cells slots Q 494 ([(4, .int (Int32.ofNat n)), (3, .ref ao), (2, .ref am), (1, .ref ax), (0, .ref b)]) [] := by
  obtain ⟨r1, M1, M2, o1, e1, o2, e2, hR2⟩ := hop M (xs (n + 1)) (xs (n + 2)) (xs (n + 3)) (xs (n + 4)) hR0
  refine g_aload_n hC 3 dL_law_494 rfl ?_
  refine g_aload_n hC 4 dL_law_495 rfl ?_
  refine g_iload hC 0 dL_law_496 rfl ?_
  refine g_iconst hC 1 dL_law_498 (by decide) ?_
  refine g_iadd hC dL_law_499 ?_
  refine g_sldJ (n := n) (j := 1) hC hX rfl (by omega) hL dL_law_500 ?_
  refine g_aload_n hC 4 dL_law_501 rfl ?_
  refine g_iload hC 0 dL_law_502 rfl ?_
  refine g_iconst hC 2 dL_law_504 (by decide) ?_
  refine g_iadd hC dL_law_505 ?_
  refine g_sldJ (n := n) (j := 2) hC hX rfl (by omega) hL dL_law_506 ?_
  refine g_aload_n hC 4 dL_law_507 rfl ?_
  refine g_iload hC 0 dL_law_508 rfl ?_
  refine g_iconst hC 3 dL_law_510 (by decide) ?_
  refine g_iadd hC dL_law_511 ?_
  refine g_sldJ (n := n) (j := 3) hC hX rfl (by omega) hL dL_law_512 ?_
  refine g_aload_n hC 4 dL_law_513 rfl ?_
  refine g_iload hC 0 dL_law_514 rfl ?_
  refine g_iconst hC 4 dL_law_516 (by decide) ?_
  refine g_iadd hC dL_law_517 ?_
  refine g_sldJ (n := n) (j := 4) hC hX rfl (by omega) hL dL_law_518 ?_
  refine g_calli hC (r_V hC (As := [.int (xs (n + 1)), .int (xs (n + 2)), .int (xs (n + 3)), .int (xs (n + 4))]) (c_X11_glider _ Γ ax (xs (n + 1)) (xs (n + 2)) (xs (n + 3)) (xs (n + 4)) M M1 r1 e1) yk_X11_glider lk_L_43 o1 ⟨_, rfl, rfl⟩ rfl rfl (Nat.le_of_ble_eq_true rfl) hRm ⟨(Nat.le_of_ble_eq_true rfl), (Nat.le_of_ble_eq_true rfl)⟩ ⟨(by omega), (by omega)⟩ dL_law_519) ?_
  refine g_aload_n hC 2 dL_law_522 rfl ?_
  refine g_aload_n hC 4 dL_law_523 rfl ?_
  refine g_iload hC 0 dL_law_524 rfl ?_
  refine g_iconst hC 1 dL_law_526 (by decide) ?_
  refine g_iadd hC dL_law_527 ?_
  refine g_sldJ (n := n) (j := 1) hC hX rfl (by omega) hL dL_law_528 ?_
  refine g_aload_n hC 4 dL_law_529 rfl ?_
  refine g_iload hC 0 dL_law_530 rfl ?_
  refine g_iconst hC 2 dL_law_532 (by decide) ?_
  refine g_iadd hC dL_law_533 ?_
  refine g_sldJ (n := n) (j := 2) hC hX rfl (by omega) hL dL_law_534 ?_
  refine g_aload_n hC 4 dL_law_535 rfl ?_
  refine g_iload hC 0 dL_law_536 rfl ?_
  refine g_iconst hC 3 dL_law_538 (by decide) ?_
  refine g_iadd hC dL_law_539 ?_
  refine g_sldJ (n := n) (j := 3) hC hX rfl (by omega) hL dL_law_540 ?_
  refine g_aload_n hC 4 dL_law_541 rfl ?_
  refine g_iload hC 0 dL_law_542 rfl ?_
  refine g_iconst hC 4 dL_law_544 (by decide) ?_
  refine g_iadd hC dL_law_545 ?_
  refine g_sldJ (n := n) (j := 4) hC hX rfl (by omega) hL dL_law_546 ?_
  refine g_calli hC (r_V hC (As := [.int (xs (n + 1)), .int (xs (n + 2)), .int (xs (n + 3)), .int (xs (n + 4))]) (c_X12_glider _ Γ am (xs (n + 1)) (xs (n + 2)) (xs (n + 3)) (xs (n + 4)) M1 M2 r1 e2) yk_X12_glider lk_L_46 o2 ⟨_, rfl, rfl⟩ rfl rfl (Nat.le_of_ble_eq_true rfl) hRm ⟨(Nat.le_of_ble_eq_true rfl), (Nat.le_of_ble_eq_true rfl)⟩ ⟨(by omega), (by omega)⟩ dL_law_547) ?_
  refine g_icmp_eq hC 1788 dL_law_550 (by decide) (fun _ => ?_) (fun cf => absurd rfl cf)
  exact kk M2 hR2

set_option maxHeartbeats 1000000 in
theorem law_5 {R : Mm → Prop} (hC : Cx Γ X cL_law RL (some .boolean) 8) (hX : Scr Γ X b L xs) (hL : L ≤ 3584) (hnL : n + 7 ≤ L) (hSt : X.2.1.stackTraces = false) (hRm : X.2.2.2.1 = ({ frames := 2048, cells := 601024, slots := 7293034, locals := 84000 } : Room)) (hop : Op_5 R ax am) (hR0 : R M) (hcs : cells + 0 ≤ 601024 ∧ slots + 0 ≤ 7293034) (kk : ∀ M2 : Mm, R M2 → G Γ X 8 M2 (cells + 0) (slots + 0) Q 1788 ([(4, .int (Int32.ofNat n)), (3, .ref ao), (2, .ref am), (1, .ref ax), (0, .ref b)]) []) : G Γ X 8 M cells slots Q 555 ([(4, .int (Int32.ofNat n)), (3, .ref ao), (2, .ref am), (1, .ref ax), (0, .ref b)]) [] := by
  obtain ⟨r1, M1, M2, o1, e1, o2, e2, hR2⟩ := hop M (xs (n + 1)) (xs (n + 2)) hR0
  refine g_aload_n hC 3 dL_law_555 rfl ?_
  refine g_aload_n hC 4 dL_law_556 rfl ?_
  refine g_iload hC 0 dL_law_557 rfl ?_
  refine g_iconst hC 1 dL_law_559 (by decide) ?_
  refine g_iadd hC dL_law_560 ?_
  refine g_sldJ (n := n) (j := 1) hC hX rfl (by omega) hL dL_law_561 ?_
  refine g_aload_n hC 4 dL_law_562 rfl ?_
  refine g_iload hC 0 dL_law_563 rfl ?_
  refine g_iconst hC 2 dL_law_565 (by decide) ?_
  refine g_iadd hC dL_law_566 ?_
  refine g_sldJ (n := n) (j := 2) hC hX rfl (by omega) hL dL_law_567 ?_
  refine g_calli hC (r_V hC (As := [.int (xs (n + 1)), .int (xs (n + 2))]) (c_X11_about _ Γ ax (xs (n + 1)) (xs (n + 2)) M M1 r1 e1) yk_X11_about lk_L_47 o1 ⟨_, rfl, rfl⟩ rfl rfl (Nat.le_of_ble_eq_true rfl) hRm ⟨(Nat.le_of_ble_eq_true rfl), (Nat.le_of_ble_eq_true rfl)⟩ ⟨(by omega), (by omega)⟩ dL_law_568) ?_
  refine g_aload_n hC 2 dL_law_571 rfl ?_
  refine g_aload_n hC 4 dL_law_572 rfl ?_
  refine g_iload hC 0 dL_law_573 rfl ?_
  refine g_iconst hC 1 dL_law_575 (by decide) ?_
  refine g_iadd hC dL_law_576 ?_
  refine g_sldJ (n := n) (j := 1) hC hX rfl (by omega) hL dL_law_577 ?_
  refine g_aload_n hC 4 dL_law_578 rfl ?_
  refine g_iload hC 0 dL_law_579 rfl ?_
  refine g_iconst hC 2 dL_law_581 (by decide) ?_
  refine g_iadd hC dL_law_582 ?_
  refine g_sldJ (n := n) (j := 2) hC hX rfl (by omega) hL dL_law_583 ?_
  refine g_calli hC (r_V hC (As := [.int (xs (n + 1)), .int (xs (n + 2))]) (c_X12_about _ Γ am (xs (n + 1)) (xs (n + 2)) M1 M2 r1 e2) yk_X12_about lk_L_51 o2 ⟨_, rfl, rfl⟩ rfl rfl (Nat.le_of_ble_eq_true rfl) hRm ⟨(Nat.le_of_ble_eq_true rfl), (Nat.le_of_ble_eq_true rfl)⟩ ⟨(by omega), (by omega)⟩ dL_law_584) ?_
  refine g_icmp_eq hC 1788 dL_law_587 (by decide) (fun _ => ?_) (fun cf => absurd rfl cf)
  exact kk M2 hR2

set_option maxHeartbeats 1000000 in
theorem law_6 {R : Mm → Prop} (hC : Cx Γ X cL_law RL (some .boolean) 8) (hX : Scr Γ X b L xs) (hL : L ≤ 3584) (hnL : n + 7 ≤ L) (hSt : X.2.1.stackTraces = false) (hRm : X.2.2.2.1 = ({ frames := 2048, cells := 601024, slots := 7293034, locals := 84000 } : Room)) (hop : Op_6 R ax am) (hR0 : R M) (hcs : cells + 0 ≤ 601024 ∧ slots + 0 ≤ 7293034) (kk : ∀ M2 : Mm, R M2 → G Γ X 8 M2 (cells + 0) (slots + 0) Q 1788 ([(4, .int (Int32.ofNat n)), (3, .ref ao), (2, .ref am), (1, .ref ax), (0, .ref b)]) []) : G Γ X 8 M cells slots Q 592 ([(4, .int (Int32.ofNat n)), (3, .ref ao), (2, .ref am), (1, .ref ax), (0, .ref b)]) [] := by
  obtain ⟨r1, M1, M2, o1, e1, o2, e2, hR2⟩ := hop M (xs (n + 1)) (xs (n + 2)) hR0
  refine g_aload_n hC 3 dL_law_592 rfl ?_
  refine g_aload_n hC 4 dL_law_593 rfl ?_
  refine g_iload hC 0 dL_law_594 rfl ?_
  refine g_iconst hC 1 dL_law_596 (by decide) ?_
  refine g_iadd hC dL_law_597 ?_
  refine g_sldJ (n := n) (j := 1) hC hX rfl (by omega) hL dL_law_598 ?_
  refine g_aload_n hC 4 dL_law_599 rfl ?_
  refine g_iload hC 0 dL_law_600 rfl ?_
  refine g_iconst hC 2 dL_law_602 (by decide) ?_
  refine g_iadd hC dL_law_603 ?_
  refine g_sldJ (n := n) (j := 2) hC hX rfl (by omega) hL dL_law_604 ?_
  refine g_calli hC (r_V hC (As := [.int (xs (n + 1)), .int (xs (n + 2))]) (c_X11_can _ Γ ax (xs (n + 1)) (xs (n + 2)) M M1 r1 e1) yk_X11_can lk_L_52 o1 ⟨_, rfl, rfl⟩ rfl rfl (Nat.le_of_ble_eq_true rfl) hRm ⟨(Nat.le_of_ble_eq_true rfl), (Nat.le_of_ble_eq_true rfl)⟩ ⟨(by omega), (by omega)⟩ dL_law_605) ?_
  refine g_aload_n hC 2 dL_law_608 rfl ?_
  refine g_aload_n hC 4 dL_law_609 rfl ?_
  refine g_iload hC 0 dL_law_610 rfl ?_
  refine g_iconst hC 1 dL_law_612 (by decide) ?_
  refine g_iadd hC dL_law_613 ?_
  refine g_sldJ (n := n) (j := 1) hC hX rfl (by omega) hL dL_law_614 ?_
  refine g_aload_n hC 4 dL_law_615 rfl ?_
  refine g_iload hC 0 dL_law_616 rfl ?_
  refine g_iconst hC 2 dL_law_618 (by decide) ?_
  refine g_iadd hC dL_law_619 ?_
  refine g_sldJ (n := n) (j := 2) hC hX rfl (by omega) hL dL_law_620 ?_
  refine g_calli hC (r_V hC (As := [.int (xs (n + 1)), .int (xs (n + 2))]) (c_X12_can _ Γ am (xs (n + 1)) (xs (n + 2)) M1 M2 r1 e2) yk_X12_can lk_L_55 o2 ⟨_, rfl, rfl⟩ rfl rfl (Nat.le_of_ble_eq_true rfl) hRm ⟨(Nat.le_of_ble_eq_true rfl), (Nat.le_of_ble_eq_true rfl)⟩ ⟨(by omega), (by omega)⟩ dL_law_621) ?_
  refine g_icmp_eq hC 1788 dL_law_624 (by decide) (fun _ => ?_) (fun cf => absurd rfl cf)
  exact kk M2 hR2

set_option maxHeartbeats 1000000 in
theorem law_7 {R : Mm → Prop} (hC : Cx Γ X cL_law RL (some .boolean) 8) (hX : Scr Γ X b L xs) (hL : L ≤ 3584) (hnL : n + 7 ≤ L) (hSt : X.2.1.stackTraces = false) (hRm : X.2.2.2.1 = ({ frames := 2048, cells := 601024, slots := 7293034, locals := 84000 } : Room)) (hop : Op_7 R ax am) (hR0 : R M) (hcs : cells + 0 ≤ 601024 ∧ slots + 0 ≤ 7293034) (kk : ∀ M2 : Mm, R M2 → G Γ X 8 M2 (cells + 0) (slots + 0) Q 1788 ([(4, .int (Int32.ofNat n)), (3, .ref ao), (2, .ref am), (1, .ref ax), (0, .ref b)]) []) : G Γ X 8 M cells slots Q 629 ([(4, .int (Int32.ofNat n)), (3, .ref ao), (2, .ref am), (1, .ref ax), (0, .ref b)]) [] := by
  obtain ⟨r1, M1, M2, o1, e1, o2, e2, hR2⟩ := hop M (xs (n + 1)) (xs (n + 2)) hR0
  refine g_aload_n hC 3 dL_law_629 rfl ?_
  refine g_aload_n hC 4 dL_law_630 rfl ?_
  refine g_iload hC 0 dL_law_631 rfl ?_
  refine g_iconst hC 1 dL_law_633 (by decide) ?_
  refine g_iadd hC dL_law_634 ?_
  refine g_sldJ (n := n) (j := 1) hC hX rfl (by omega) hL dL_law_635 ?_
  refine g_aload_n hC 4 dL_law_636 rfl ?_
  refine g_iload hC 0 dL_law_637 rfl ?_
  refine g_iconst hC 2 dL_law_639 (by decide) ?_
  refine g_iadd hC dL_law_640 ?_
  refine g_sldJ (n := n) (j := 2) hC hX rfl (by omega) hL dL_law_641 ?_
  refine g_bz hC dL_law_642 dL_law_645 dL_law_646 dL_law_649 ?_
  refine g_calli hC (r_V hC (As := [.int (xs (n + 1)), .int (bz (xs (n + 2)))]) (c_X11_leak _ Γ ax (xs (n + 1)) (bz (xs (n + 2))) M M1 r1 e1) yk_X11_leak lk_L_56 o1 ⟨_, rfl, rfl⟩ rfl rfl (Nat.le_of_ble_eq_true rfl) hRm ⟨(Nat.le_of_ble_eq_true rfl), (Nat.le_of_ble_eq_true rfl)⟩ ⟨(by omega), (by omega)⟩ dL_law_650) ?_
  refine g_aload_n hC 2 dL_law_653 rfl ?_
  refine g_aload_n hC 4 dL_law_654 rfl ?_
  refine g_iload hC 0 dL_law_655 rfl ?_
  refine g_iconst hC 1 dL_law_657 (by decide) ?_
  refine g_iadd hC dL_law_658 ?_
  refine g_sldJ (n := n) (j := 1) hC hX rfl (by omega) hL dL_law_659 ?_
  refine g_aload_n hC 4 dL_law_660 rfl ?_
  refine g_iload hC 0 dL_law_661 rfl ?_
  refine g_iconst hC 2 dL_law_663 (by decide) ?_
  refine g_iadd hC dL_law_664 ?_
  refine g_sldJ (n := n) (j := 2) hC hX rfl (by omega) hL dL_law_665 ?_
  refine g_bz hC dL_law_666 dL_law_669 dL_law_670 dL_law_673 ?_
  refine g_calli hC (r_V hC (As := [.int (xs (n + 1)), .int (bz (xs (n + 2)))]) (c_X12_leak _ Γ am (xs (n + 1)) (bz (xs (n + 2))) M1 M2 r1 e2) yk_X12_leak lk_L_60 o2 ⟨_, rfl, rfl⟩ rfl rfl (Nat.le_of_ble_eq_true rfl) hRm ⟨(Nat.le_of_ble_eq_true rfl), (Nat.le_of_ble_eq_true rfl)⟩ ⟨(by omega), (by omega)⟩ dL_law_674) ?_
  refine g_icmp_eq hC 1788 dL_law_677 (by decide) (fun _ => ?_) (fun cf => absurd rfl cf)
  exact kk M2 hR2

set_option maxHeartbeats 1000000 in
theorem law_8 {R : Mm → Prop} (hC : Cx Γ X cL_law RL (some .boolean) 8) (hX : Scr Γ X b L xs) (hL : L ≤ 3584) (hnL : n + 7 ≤ L) (hSt : X.2.1.stackTraces = false) (hRm : X.2.2.2.1 = ({ frames := 2048, cells := 601024, slots := 7293034, locals := 84000 } : Room)) (hop : Op_8 R ax am) (hR0 : R M) (hcs : cells + 0 ≤ 601024 ∧ slots + 0 ≤ 7293034) (kk : ∀ M2 : Mm, R M2 → G Γ X 8 M2 (cells + 0) (slots + 0) Q 1788 ([(4, .int (Int32.ofNat n)), (3, .ref ao), (2, .ref am), (1, .ref ax), (0, .ref b)]) []) : G Γ X 8 M cells slots Q 682 ([(4, .int (Int32.ofNat n)), (3, .ref ao), (2, .ref am), (1, .ref ax), (0, .ref b)]) [] := by
  obtain ⟨r1, M1, M2, o1, e1, o2, e2, hR2⟩ := hop M (xs (n + 1)) (xs (n + 2)) (xs (n + 3)) (xs (n + 4)) hR0
  refine g_aload_n hC 3 dL_law_682 rfl ?_
  refine g_aload_n hC 4 dL_law_683 rfl ?_
  refine g_iload hC 0 dL_law_684 rfl ?_
  refine g_iconst hC 1 dL_law_686 (by decide) ?_
  refine g_iadd hC dL_law_687 ?_
  refine g_sldJ (n := n) (j := 1) hC hX rfl (by omega) hL dL_law_688 ?_
  refine g_aload_n hC 4 dL_law_689 rfl ?_
  refine g_iload hC 0 dL_law_690 rfl ?_
  refine g_iconst hC 2 dL_law_692 (by decide) ?_
  refine g_iadd hC dL_law_693 ?_
  refine g_sldJ (n := n) (j := 2) hC hX rfl (by omega) hL dL_law_694 ?_
  refine g_aload_n hC 4 dL_law_695 rfl ?_
  refine g_iload hC 0 dL_law_696 rfl ?_
  refine g_iconst hC 3 dL_law_698 (by decide) ?_
  refine g_iadd hC dL_law_699 ?_
  refine g_sldJ (n := n) (j := 3) hC hX rfl (by omega) hL dL_law_700 ?_
  refine g_aload_n hC 4 dL_law_701 rfl ?_
  refine g_iload hC 0 dL_law_702 rfl ?_
  refine g_iconst hC 4 dL_law_704 (by decide) ?_
  refine g_iadd hC dL_law_705 ?_
  refine g_sldJ (n := n) (j := 4) hC hX rfl (by omega) hL dL_law_706 ?_
  refine g_calli hC (r_V hC (As := [.int (xs (n + 1)), .int (xs (n + 2)), .int (xs (n + 3)), .int (xs (n + 4))]) (c_X11_dive _ Γ ax (xs (n + 1)) (xs (n + 2)) (xs (n + 3)) (xs (n + 4)) M M1 r1 e1) yk_X11_dive lk_L_61 o1 ⟨_, rfl, rfl⟩ rfl rfl (Nat.le_of_ble_eq_true rfl) hRm ⟨(Nat.le_of_ble_eq_true rfl), (Nat.le_of_ble_eq_true rfl)⟩ ⟨(by omega), (by omega)⟩ dL_law_707) ?_
  refine g_aload_n hC 2 dL_law_710 rfl ?_
  refine g_aload_n hC 4 dL_law_711 rfl ?_
  refine g_iload hC 0 dL_law_712 rfl ?_
  refine g_iconst hC 1 dL_law_714 (by decide) ?_
  refine g_iadd hC dL_law_715 ?_
  refine g_sldJ (n := n) (j := 1) hC hX rfl (by omega) hL dL_law_716 ?_
  refine g_aload_n hC 4 dL_law_717 rfl ?_
  refine g_iload hC 0 dL_law_718 rfl ?_
  refine g_iconst hC 2 dL_law_720 (by decide) ?_
  refine g_iadd hC dL_law_721 ?_
  refine g_sldJ (n := n) (j := 2) hC hX rfl (by omega) hL dL_law_722 ?_
  refine g_aload_n hC 4 dL_law_723 rfl ?_
  refine g_iload hC 0 dL_law_724 rfl ?_
  refine g_iconst hC 3 dL_law_726 (by decide) ?_
  refine g_iadd hC dL_law_727 ?_
  refine g_sldJ (n := n) (j := 3) hC hX rfl (by omega) hL dL_law_728 ?_
  refine g_aload_n hC 4 dL_law_729 rfl ?_
  refine g_iload hC 0 dL_law_730 rfl ?_
  refine g_iconst hC 4 dL_law_732 (by decide) ?_
  refine g_iadd hC dL_law_733 ?_
  refine g_sldJ (n := n) (j := 4) hC hX rfl (by omega) hL dL_law_734 ?_
  refine g_calli hC (r_V hC (As := [.int (xs (n + 1)), .int (xs (n + 2)), .int (xs (n + 3)), .int (xs (n + 4))]) (c_X12_dive _ Γ am (xs (n + 1)) (xs (n + 2)) (xs (n + 3)) (xs (n + 4)) M1 M2 r1 e2) yk_X12_dive lk_L_64 o2 ⟨_, rfl, rfl⟩ rfl rfl (Nat.le_of_ble_eq_true rfl) hRm ⟨(Nat.le_of_ble_eq_true rfl), (Nat.le_of_ble_eq_true rfl)⟩ ⟨(by omega), (by omega)⟩ dL_law_735) ?_
  refine g_icmp_eq hC 1788 dL_law_738 (by decide) (fun _ => ?_) (fun cf => absurd rfl cf)
  exact kk M2 hR2

set_option maxHeartbeats 1000000 in
theorem law_9 {R : Mm → Prop} (hC : Cx Γ X cL_law RL (some .boolean) 8) (hX : Scr Γ X b L xs) (hL : L ≤ 3584) (hnL : n + 7 ≤ L) (hSt : X.2.1.stackTraces = false) (hRm : X.2.2.2.1 = ({ frames := 2048, cells := 601024, slots := 7293034, locals := 84000 } : Room)) (hop : Op_9 R ax am) (hR0 : R M) (hcs : cells + 0 ≤ 601024 ∧ slots + 0 ≤ 7293034) (kk : ∀ M2 : Mm, R M2 → G Γ X 8 M2 (cells + 0) (slots + 0) Q 1788 ([(4, .int (Int32.ofNat n)), (3, .ref ao), (2, .ref am), (1, .ref ax), (0, .ref b)]) []) : G Γ X 8 M cells slots Q 743 ([(4, .int (Int32.ofNat n)), (3, .ref ao), (2, .ref am), (1, .ref ax), (0, .ref b)]) [] := by
  obtain ⟨r1, M1, M2, o1, e1, o2, e2, hR2⟩ := hop M (xs (n + 1)) hR0
  refine g_aload_n hC 3 dL_law_743 rfl ?_
  refine g_aload_n hC 4 dL_law_744 rfl ?_
  refine g_iload hC 0 dL_law_745 rfl ?_
  refine g_iconst hC 1 dL_law_747 (by decide) ?_
  refine g_iadd hC dL_law_748 ?_
  refine g_sldJ (n := n) (j := 1) hC hX rfl (by omega) hL dL_law_749 ?_
  refine g_calli hC (r_V hC (As := [.int (xs (n + 1))]) (c_X11_fault _ Γ ax (xs (n + 1)) M M1 r1 e1) yk_X11_fault lk_L_65 o1 ⟨_, rfl, rfl⟩ rfl rfl (Nat.le_of_ble_eq_true rfl) hRm ⟨(Nat.le_of_ble_eq_true rfl), (Nat.le_of_ble_eq_true rfl)⟩ ⟨(by omega), (by omega)⟩ dL_law_750) ?_
  refine g_aload_n hC 2 dL_law_753 rfl ?_
  refine g_aload_n hC 4 dL_law_754 rfl ?_
  refine g_iload hC 0 dL_law_755 rfl ?_
  refine g_iconst hC 1 dL_law_757 (by decide) ?_
  refine g_iadd hC dL_law_758 ?_
  refine g_sldJ (n := n) (j := 1) hC hX rfl (by omega) hL dL_law_759 ?_
  refine g_calli hC (r_V hC (As := [.int (xs (n + 1))]) (c_X12_fault _ Γ am (xs (n + 1)) M1 M2 r1 e2) yk_X12_fault lk_L_69 o2 ⟨_, rfl, rfl⟩ rfl rfl (Nat.le_of_ble_eq_true rfl) hRm ⟨(Nat.le_of_ble_eq_true rfl), (Nat.le_of_ble_eq_true rfl)⟩ ⟨(by omega), (by omega)⟩ dL_law_760) ?_
  refine g_icmp_eq hC 1788 dL_law_763 (by decide) (fun _ => ?_) (fun cf => absurd rfl cf)
  exact kk M2 hR2

set_option maxHeartbeats 1000000 in
theorem law_10 {R : Mm → Prop} (hC : Cx Γ X cL_law RL (some .boolean) 8) (hX : Scr Γ X b L xs) (hL : L ≤ 3584) (hnL : n + 7 ≤ L) (hSt : X.2.1.stackTraces = false) (hRm : X.2.2.2.1 = ({ frames := 2048, cells := 601024, slots := 7293034, locals := 84000 } : Room)) (hop : Op_10 R ax am) (hR0 : R M) (hcs : cells + 9 ≤ 601024 ∧ slots + 114 ≤ 7293034) (kk : ∀ M2 : Mm, R M2 → G Γ X 8 M2 (cells + 9) (slots + 114) Q 1788 ([(4, .int (Int32.ofNat n)), (3, .ref ao), (2, .ref am), (1, .ref ax), (0, .ref b)]) []) : G Γ X 8 M cells slots Q 768 ([(4, .int (Int32.ofNat n)), (3, .ref ao), (2, .ref am), (1, .ref ax), (0, .ref b)]) [] := by
  obtain ⟨r1, M1, M2, o1, e1, o2, e2, hR2⟩ := hop M (xs (n + 1)) hR0
  refine g_aload_n hC 3 dL_law_768 rfl ?_
  refine g_aload_n hC 4 dL_law_769 rfl ?_
  refine g_iload hC 0 dL_law_770 rfl ?_
  refine g_iconst hC 1 dL_law_772 (by decide) ?_
  refine g_iadd hC dL_law_773 ?_
  refine g_sldJ (n := n) (j := 1) hC hX rfl (by omega) hL dL_law_774 ?_
  refine g_calli hC (r_V hC (As := [.int (xs (n + 1))]) (c_X11_order _ Γ ax (xs (n + 1)) M M1 r1 e1) yk_X11_order lk_L_70 o1 ⟨_, rfl, rfl⟩ rfl rfl (Nat.le_of_ble_eq_true rfl) hRm ⟨(Nat.le_of_ble_eq_true rfl), (Nat.le_of_ble_eq_true rfl)⟩ ⟨(by omega), (by omega)⟩ dL_law_775) ?_
  refine g_aload_n hC 2 dL_law_778 rfl ?_
  refine g_aload_n hC 4 dL_law_779 rfl ?_
  refine g_iload hC 0 dL_law_780 rfl ?_
  refine g_iconst hC 1 dL_law_782 (by decide) ?_
  refine g_iadd hC dL_law_783 ?_
  refine g_sldJ (n := n) (j := 1) hC hX rfl (by omega) hL dL_law_784 ?_
  refine g_calli hC (r_V hC (As := [.int (xs (n + 1))]) (c_X12_order _ Γ am (xs (n + 1)) M1 M2 r1 e2) yk_X12_order lk_L_73 o2 ⟨_, rfl, rfl⟩ rfl rfl (Nat.le_of_ble_eq_true rfl) hRm ⟨(Nat.le_of_ble_eq_true rfl), (Nat.le_of_ble_eq_true rfl)⟩ ⟨(by omega), (by omega)⟩ dL_law_785) ?_
  refine g_icmp_eq hC 1788 dL_law_788 (by decide) (fun _ => ?_) (fun cf => absurd rfl cf)
  exact kk M2 hR2

set_option maxHeartbeats 1000000 in
theorem law_11 {R : Mm → Prop} (hC : Cx Γ X cL_law RL (some .boolean) 8) (hX : Scr Γ X b L xs) (hL : L ≤ 3584) (hnL : n + 7 ≤ L) (hSt : X.2.1.stackTraces = false) (hRm : X.2.2.2.1 = ({ frames := 2048, cells := 601024, slots := 7293034, locals := 84000 } : Room)) (hop : Op_11 R ax am) (hR0 : R M) (hcs : cells + 0 ≤ 601024 ∧ slots + 0 ≤ 7293034) (kk : ∀ M2 : Mm, R M2 → G Γ X 8 M2 (cells + 0) (slots + 0) Q 1788 ([(4, .int (Int32.ofNat n)), (3, .ref ao), (2, .ref am), (1, .ref ax), (0, .ref b)]) []) : G Γ X 8 M cells slots Q 793 ([(4, .int (Int32.ofNat n)), (3, .ref ao), (2, .ref am), (1, .ref ax), (0, .ref b)]) [] := by
  obtain ⟨r1, M1, M2, o1, e1, o2, e2, hR2⟩ := hop M (xs (n + 1)) (xs (n + 2)) hR0
  refine g_aload_n hC 3 dL_law_793 rfl ?_
  refine g_aload_n hC 4 dL_law_794 rfl ?_
  refine g_iload hC 0 dL_law_795 rfl ?_
  refine g_iconst hC 1 dL_law_797 (by decide) ?_
  refine g_iadd hC dL_law_798 ?_
  refine g_sldJ (n := n) (j := 1) hC hX rfl (by omega) hL dL_law_799 ?_
  refine g_aload_n hC 4 dL_law_800 rfl ?_
  refine g_iload hC 0 dL_law_801 rfl ?_
  refine g_iconst hC 2 dL_law_803 (by decide) ?_
  refine g_iadd hC dL_law_804 ?_
  refine g_sldJ (n := n) (j := 2) hC hX rfl (by omega) hL dL_law_805 ?_
  refine g_calli hC (r_V hC (As := [.int (xs (n + 1)), .int (xs (n + 2))]) (c_X11_letter _ Γ ax (xs (n + 1)) (xs (n + 2)) M M1 r1 e1) yk_X11_letter lk_L_74 o1 ⟨_, rfl, rfl⟩ rfl rfl (Nat.le_of_ble_eq_true rfl) hRm ⟨(Nat.le_of_ble_eq_true rfl), (Nat.le_of_ble_eq_true rfl)⟩ ⟨(by omega), (by omega)⟩ dL_law_806) ?_
  refine g_aload_n hC 2 dL_law_809 rfl ?_
  refine g_aload_n hC 4 dL_law_810 rfl ?_
  refine g_iload hC 0 dL_law_811 rfl ?_
  refine g_iconst hC 1 dL_law_813 (by decide) ?_
  refine g_iadd hC dL_law_814 ?_
  refine g_sldJ (n := n) (j := 1) hC hX rfl (by omega) hL dL_law_815 ?_
  refine g_aload_n hC 4 dL_law_816 rfl ?_
  refine g_iload hC 0 dL_law_817 rfl ?_
  refine g_iconst hC 2 dL_law_819 (by decide) ?_
  refine g_iadd hC dL_law_820 ?_
  refine g_sldJ (n := n) (j := 2) hC hX rfl (by omega) hL dL_law_821 ?_
  refine g_calli hC (r_V hC (As := [.int (xs (n + 1)), .int (xs (n + 2))]) (c_X12_letter _ Γ am (xs (n + 1)) (xs (n + 2)) M1 M2 r1 e2) yk_X12_letter lk_L_77 o2 ⟨_, rfl, rfl⟩ rfl rfl (Nat.le_of_ble_eq_true rfl) hRm ⟨(Nat.le_of_ble_eq_true rfl), (Nat.le_of_ble_eq_true rfl)⟩ ⟨(by omega), (by omega)⟩ dL_law_822) ?_
  refine g_icmp_eq hC 1788 dL_law_825 (by decide) (fun _ => ?_) (fun cf => absurd rfl cf)
  exact kk M2 hR2

set_option maxHeartbeats 1000000 in
theorem law_12 {R : Mm → Prop} (hC : Cx Γ X cL_law RL (some .boolean) 8) (hX : Scr Γ X b L xs) (hL : L ≤ 3584) (hnL : n + 7 ≤ L) (hSt : X.2.1.stackTraces = false) (hRm : X.2.2.2.1 = ({ frames := 2048, cells := 601024, slots := 7293034, locals := 84000 } : Room)) (hop : Op_12 R ax am) (hR0 : R M) (hcs : cells + 0 ≤ 601024 ∧ slots + 0 ≤ 7293034) (kk : ∀ M2 : Mm, R M2 → G Γ X 8 M2 (cells + 0) (slots + 0) Q 1788 ([(4, .int (Int32.ofNat n)), (3, .ref ao), (2, .ref am), (1, .ref ax), (0, .ref b)]) []) : G Γ X 8 M cells slots Q 830 ([(4, .int (Int32.ofNat n)), (3, .ref ao), (2, .ref am), (1, .ref ax), (0, .ref b)]) [] := by
  obtain ⟨r1, M1, M2, o1, e1, o2, e2, hR2⟩ := hop M (xs (n + 1)) hR0
  refine g_aload_n hC 3 dL_law_830 rfl ?_
  refine g_aload_n hC 4 dL_law_831 rfl ?_
  refine g_iload hC 0 dL_law_832 rfl ?_
  refine g_iconst hC 1 dL_law_834 (by decide) ?_
  refine g_iadd hC dL_law_835 ?_
  refine g_sldJ (n := n) (j := 1) hC hX rfl (by omega) hL dL_law_836 ?_
  refine g_calli hC (r_V hC (As := [.int (xs (n + 1))]) (c_X11_waiting _ Γ ax (xs (n + 1)) M M1 r1 e1) yk_X11_waiting lk_L_78 o1 ⟨_, rfl, rfl⟩ rfl rfl (Nat.le_of_ble_eq_true rfl) hRm ⟨(Nat.le_of_ble_eq_true rfl), (Nat.le_of_ble_eq_true rfl)⟩ ⟨(by omega), (by omega)⟩ dL_law_837) ?_
  refine g_aload_n hC 2 dL_law_840 rfl ?_
  refine g_aload_n hC 4 dL_law_841 rfl ?_
  refine g_iload hC 0 dL_law_842 rfl ?_
  refine g_iconst hC 1 dL_law_844 (by decide) ?_
  refine g_iadd hC dL_law_845 ?_
  refine g_sldJ (n := n) (j := 1) hC hX rfl (by omega) hL dL_law_846 ?_
  refine g_calli hC (r_V hC (As := [.int (xs (n + 1))]) (c_X12_waiting _ Γ am (xs (n + 1)) M1 M2 r1 e2) yk_X12_waiting lk_L_81 o2 ⟨_, rfl, rfl⟩ rfl rfl (Nat.le_of_ble_eq_true rfl) hRm ⟨(Nat.le_of_ble_eq_true rfl), (Nat.le_of_ble_eq_true rfl)⟩ ⟨(by omega), (by omega)⟩ dL_law_847) ?_
  refine g_icmp_eq hC 1788 dL_law_850 (by decide) (fun _ => ?_) (fun cf => absurd rfl cf)
  exact kk M2 hR2

set_option maxHeartbeats 1000000 in
theorem law_13 {R : Mm → Prop} (hC : Cx Γ X cL_law RL (some .boolean) 8) (hX : Scr Γ X b L xs) (hL : L ≤ 3584) (hnL : n + 7 ≤ L) (hSt : X.2.1.stackTraces = false) (hRm : X.2.2.2.1 = ({ frames := 2048, cells := 601024, slots := 7293034, locals := 84000 } : Room)) (hop : Op_13 R ax am) (hR0 : R M) (hcs : cells + 0 ≤ 601024 ∧ slots + 0 ≤ 7293034) (kk : ∀ M2 : Mm, R M2 → G Γ X 8 M2 (cells + 0) (slots + 0) Q 1788 ([(4, .int (Int32.ofNat n)), (3, .ref ao), (2, .ref am), (1, .ref ax), (0, .ref b)]) []) : G Γ X 8 M cells slots Q 855 ([(4, .int (Int32.ofNat n)), (3, .ref ao), (2, .ref am), (1, .ref ax), (0, .ref b)]) [] := by
  obtain ⟨r1, M1, M2, o1, e1, o2, e2, hR2⟩ := hop M (xs (n + 1)) (xs (n + 2)) hR0
  refine g_aload_n hC 3 dL_law_855 rfl ?_
  refine g_aload_n hC 4 dL_law_856 rfl ?_
  refine g_iload hC 0 dL_law_857 rfl ?_
  refine g_iconst hC 1 dL_law_859 (by decide) ?_
  refine g_iadd hC dL_law_860 ?_
  refine g_sldJ (n := n) (j := 1) hC hX rfl (by omega) hL dL_law_861 ?_
  refine g_aload_n hC 4 dL_law_862 rfl ?_
  refine g_iload hC 0 dL_law_863 rfl ?_
  refine g_iconst hC 2 dL_law_865 (by decide) ?_
  refine g_iadd hC dL_law_866 ?_
  refine g_sldJ (n := n) (j := 2) hC hX rfl (by omega) hL dL_law_867 ?_
  refine g_bz hC dL_law_868 dL_law_871 dL_law_872 dL_law_875 ?_
  refine g_calli hC (r_V hC (As := [.int (xs (n + 1)), .int (bz (xs (n + 2)))]) (c_X11_deaf _ Γ ax (xs (n + 1)) (bz (xs (n + 2))) M M1 r1 e1) yk_X11_deaf lk_L_82 o1 ⟨_, rfl, rfl⟩ rfl rfl (Nat.le_of_ble_eq_true rfl) hRm ⟨(Nat.le_of_ble_eq_true rfl), (Nat.le_of_ble_eq_true rfl)⟩ ⟨(by omega), (by omega)⟩ dL_law_876) ?_
  refine g_aload_n hC 2 dL_law_879 rfl ?_
  refine g_aload_n hC 4 dL_law_880 rfl ?_
  refine g_iload hC 0 dL_law_881 rfl ?_
  refine g_iconst hC 1 dL_law_883 (by decide) ?_
  refine g_iadd hC dL_law_884 ?_
  refine g_sldJ (n := n) (j := 1) hC hX rfl (by omega) hL dL_law_885 ?_
  refine g_aload_n hC 4 dL_law_886 rfl ?_
  refine g_iload hC 0 dL_law_887 rfl ?_
  refine g_iconst hC 2 dL_law_889 (by decide) ?_
  refine g_iadd hC dL_law_890 ?_
  refine g_sldJ (n := n) (j := 2) hC hX rfl (by omega) hL dL_law_891 ?_
  refine g_bz hC dL_law_892 dL_law_895 dL_law_896 dL_law_899 ?_
  refine g_calli hC (r_V hC (As := [.int (xs (n + 1)), .int (bz (xs (n + 2)))]) (c_X12_deaf _ Γ am (xs (n + 1)) (bz (xs (n + 2))) M1 M2 r1 e2) yk_X12_deaf lk_L_85 o2 ⟨_, rfl, rfl⟩ rfl rfl (Nat.le_of_ble_eq_true rfl) hRm ⟨(Nat.le_of_ble_eq_true rfl), (Nat.le_of_ble_eq_true rfl)⟩ ⟨(by omega), (by omega)⟩ dL_law_900) ?_
  refine g_icmp_eq hC 1788 dL_law_903 (by decide) (fun _ => ?_) (fun cf => absurd rfl cf)
  exact kk M2 hR2

set_option maxHeartbeats 1000000 in
theorem law_14 {R : Mm → Prop} (hC : Cx Γ X cL_law RL (some .boolean) 8) (hX : Scr Γ X b L xs) (hL : L ≤ 3584) (hnL : n + 7 ≤ L) (hSt : X.2.1.stackTraces = false) (hRm : X.2.2.2.1 = ({ frames := 2048, cells := 601024, slots := 7293034, locals := 84000 } : Room)) (hop : Op_14 R ax am) (hR0 : R M) (hcs : cells + 0 ≤ 601024 ∧ slots + 0 ≤ 7293034) (kk : ∀ M2 : Mm, R M2 → G Γ X 8 M2 (cells + 0) (slots + 0) Q 1788 ([(4, .int (Int32.ofNat n)), (3, .ref ao), (2, .ref am), (1, .ref ax), (0, .ref b)]) []) : G Γ X 8 M cells slots Q 908 ([(4, .int (Int32.ofNat n)), (3, .ref ao), (2, .ref am), (1, .ref ax), (0, .ref b)]) [] := by
  obtain ⟨r1, M1, M2, o1, e1, o2, e2, hR2⟩ := hop M (xs (n + 1)) hR0
  refine g_aload_n hC 3 dL_law_908 rfl ?_
  refine g_aload_n hC 4 dL_law_909 rfl ?_
  refine g_iload hC 0 dL_law_910 rfl ?_
  refine g_iconst hC 1 dL_law_912 (by decide) ?_
  refine g_iadd hC dL_law_913 ?_
  refine g_sldJ (n := n) (j := 1) hC hX rfl (by omega) hL dL_law_914 ?_
  refine g_calli hC (r_V hC (As := [.int (xs (n + 1))]) (c_X11_rule _ Γ ax (xs (n + 1)) M M1 r1 e1) yk_X11_rule lk_L_86 o1 ⟨_, rfl, rfl⟩ rfl rfl (Nat.le_of_ble_eq_true rfl) hRm ⟨(Nat.le_of_ble_eq_true rfl), (Nat.le_of_ble_eq_true rfl)⟩ ⟨(by omega), (by omega)⟩ dL_law_915) ?_
  refine g_aload_n hC 2 dL_law_918 rfl ?_
  refine g_aload_n hC 4 dL_law_919 rfl ?_
  refine g_iload hC 0 dL_law_920 rfl ?_
  refine g_iconst hC 1 dL_law_922 (by decide) ?_
  refine g_iadd hC dL_law_923 ?_
  refine g_sldJ (n := n) (j := 1) hC hX rfl (by omega) hL dL_law_924 ?_
  refine g_calli hC (r_V hC (As := [.int (xs (n + 1))]) (c_X12_rule _ Γ am (xs (n + 1)) M1 M2 r1 e2) yk_X12_rule lk_L_89 o2 ⟨_, rfl, rfl⟩ rfl rfl (Nat.le_of_ble_eq_true rfl) hRm ⟨(Nat.le_of_ble_eq_true rfl), (Nat.le_of_ble_eq_true rfl)⟩ ⟨(by omega), (by omega)⟩ dL_law_925) ?_
  refine g_icmp_eq hC 1788 dL_law_928 (by decide) (fun _ => ?_) (fun cf => absurd rfl cf)
  exact kk M2 hR2

set_option maxHeartbeats 1000000 in
theorem law_15 {R : Mm → Prop} (hC : Cx Γ X cL_law RL (some .boolean) 8) (hX : Scr Γ X b L xs) (hL : L ≤ 3584) (hnL : n + 7 ≤ L) (hSt : X.2.1.stackTraces = false) (hRm : X.2.2.2.1 = ({ frames := 2048, cells := 601024, slots := 7293034, locals := 84000 } : Room)) (hop : Op_15 R ax am) (hR0 : R M) (hcs : cells + 0 ≤ 601024 ∧ slots + 0 ≤ 7293034) (kk : ∀ M2 : Mm, R M2 → G Γ X 8 M2 (cells + 0) (slots + 0) Q 1788 ([(4, .int (Int32.ofNat n)), (3, .ref ao), (2, .ref am), (1, .ref ax), (0, .ref b)]) []) : G Γ X 8 M cells slots Q 933 ([(4, .int (Int32.ofNat n)), (3, .ref ao), (2, .ref am), (1, .ref ax), (0, .ref b)]) [] := by
  obtain ⟨r1, M1, M2, o1, e1, o2, e2, hR2⟩ := hop M (xs (n + 1)) hR0
  refine g_aload_n hC 3 dL_law_933 rfl ?_
  refine g_aload_n hC 4 dL_law_934 rfl ?_
  refine g_iload hC 0 dL_law_935 rfl ?_
  refine g_iconst hC 1 dL_law_937 (by decide) ?_
  refine g_iadd hC dL_law_938 ?_
  refine g_sldJ (n := n) (j := 1) hC hX rfl (by omega) hL dL_law_939 ?_
  refine g_calli hC (r_V hC (As := [.int (xs (n + 1))]) (c_X11_times _ Γ ax (xs (n + 1)) M M1 r1 e1) yk_X11_times lk_L_90 o1 ⟨_, rfl, rfl⟩ rfl rfl (Nat.le_of_ble_eq_true rfl) hRm ⟨(Nat.le_of_ble_eq_true rfl), (Nat.le_of_ble_eq_true rfl)⟩ ⟨(by omega), (by omega)⟩ dL_law_940) ?_
  refine g_aload_n hC 2 dL_law_943 rfl ?_
  refine g_aload_n hC 4 dL_law_944 rfl ?_
  refine g_iload hC 0 dL_law_945 rfl ?_
  refine g_iconst hC 1 dL_law_947 (by decide) ?_
  refine g_iadd hC dL_law_948 ?_
  refine g_sldJ (n := n) (j := 1) hC hX rfl (by omega) hL dL_law_949 ?_
  refine g_calli hC (r_V hC (As := [.int (xs (n + 1))]) (c_X12_times _ Γ am (xs (n + 1)) M1 M2 r1 e2) yk_X12_times lk_L_93 o2 ⟨_, rfl, rfl⟩ rfl rfl (Nat.le_of_ble_eq_true rfl) hRm ⟨(Nat.le_of_ble_eq_true rfl), (Nat.le_of_ble_eq_true rfl)⟩ ⟨(by omega), (by omega)⟩ dL_law_950) ?_
  refine g_icmp_eq hC 1788 dL_law_953 (by decide) (fun _ => ?_) (fun cf => absurd rfl cf)
  exact kk M2 hR2

set_option maxHeartbeats 1000000 in
theorem law_16 {R : Mm → Prop} (hC : Cx Γ X cL_law RL (some .boolean) 8) (hX : Scr Γ X b L xs) (hL : L ≤ 3584) (hnL : n + 7 ≤ L) (hSt : X.2.1.stackTraces = false) (hRm : X.2.2.2.1 = ({ frames := 2048, cells := 601024, slots := 7293034, locals := 84000 } : Room)) (hop : Op_16 R ax am) (hR0 : R M) (hcs : cells + 0 ≤ 601024 ∧ slots + 0 ≤ 7293034) (kk : ∀ M2 : Mm, R M2 → G Γ X 8 M2 (cells + 0) (slots + 0) Q 1788 ([(4, .int (Int32.ofNat n)), (3, .ref ao), (2, .ref am), (1, .ref ax), (0, .ref b)]) []) : G Γ X 8 M cells slots Q 958 ([(4, .int (Int32.ofNat n)), (3, .ref ao), (2, .ref am), (1, .ref ax), (0, .ref b)]) [] := by
  obtain ⟨r1, M1, M2, o1, e1, o2, e2, hR2⟩ := hop M (xs (n + 1)) (xs (n + 2)) hR0
  refine g_aload_n hC 3 dL_law_958 rfl ?_
  refine g_aload_n hC 4 dL_law_959 rfl ?_
  refine g_iload hC 0 dL_law_960 rfl ?_
  refine g_iconst hC 1 dL_law_962 (by decide) ?_
  refine g_iadd hC dL_law_963 ?_
  refine g_sldJ (n := n) (j := 1) hC hX rfl (by omega) hL dL_law_964 ?_
  refine g_aload_n hC 4 dL_law_965 rfl ?_
  refine g_iload hC 0 dL_law_966 rfl ?_
  refine g_iconst hC 2 dL_law_968 (by decide) ?_
  refine g_iadd hC dL_law_969 ?_
  refine g_sldJ (n := n) (j := 2) hC hX rfl (by omega) hL dL_law_970 ?_
  refine g_calli hC (r_V hC (As := [.int (xs (n + 1)), .int (xs (n + 2))]) (c_X11_known _ Γ ax (xs (n + 1)) (xs (n + 2)) M M1 r1 e1) yk_X11_known lk_L_94 o1 ⟨_, rfl, rfl⟩ rfl rfl (Nat.le_of_ble_eq_true rfl) hRm ⟨(Nat.le_of_ble_eq_true rfl), (Nat.le_of_ble_eq_true rfl)⟩ ⟨(by omega), (by omega)⟩ dL_law_971) ?_
  refine g_aload_n hC 2 dL_law_974 rfl ?_
  refine g_aload_n hC 4 dL_law_975 rfl ?_
  refine g_iload hC 0 dL_law_976 rfl ?_
  refine g_iconst hC 1 dL_law_978 (by decide) ?_
  refine g_iadd hC dL_law_979 ?_
  refine g_sldJ (n := n) (j := 1) hC hX rfl (by omega) hL dL_law_980 ?_
  refine g_aload_n hC 4 dL_law_981 rfl ?_
  refine g_iload hC 0 dL_law_982 rfl ?_
  refine g_iconst hC 2 dL_law_984 (by decide) ?_
  refine g_iadd hC dL_law_985 ?_
  refine g_sldJ (n := n) (j := 2) hC hX rfl (by omega) hL dL_law_986 ?_
  refine g_calli hC (r_V hC (As := [.int (xs (n + 1)), .int (xs (n + 2))]) (c_X12_known _ Γ am (xs (n + 1)) (xs (n + 2)) M1 M2 r1 e2) yk_X12_known lk_L_97 o2 ⟨_, rfl, rfl⟩ rfl rfl (Nat.le_of_ble_eq_true rfl) hRm ⟨(Nat.le_of_ble_eq_true rfl), (Nat.le_of_ble_eq_true rfl)⟩ ⟨(by omega), (by omega)⟩ dL_law_987) ?_
  refine g_icmp_eq hC 1788 dL_law_990 (by decide) (fun _ => ?_) (fun cf => absurd rfl cf)
  exact kk M2 hR2

set_option maxHeartbeats 1000000 in
theorem law_17 {R : Mm → Prop} (hC : Cx Γ X cL_law RL (some .boolean) 8) (hX : Scr Γ X b L xs) (hL : L ≤ 3584) (hnL : n + 7 ≤ L) (hSt : X.2.1.stackTraces = false) (hRm : X.2.2.2.1 = ({ frames := 2048, cells := 601024, slots := 7293034, locals := 84000 } : Room)) (hop : Op_17 R ax am) (hR0 : R M) (hcs : cells + 0 ≤ 601024 ∧ slots + 0 ≤ 7293034) (kk : ∀ M2 : Mm, R M2 → G Γ X 8 M2 (cells + 0) (slots + 0) Q 1788 ([(4, .int (Int32.ofNat n)), (3, .ref ao), (2, .ref am), (1, .ref ax), (0, .ref b)]) []) : G Γ X 8 M cells slots Q 995 ([(4, .int (Int32.ofNat n)), (3, .ref ao), (2, .ref am), (1, .ref ax), (0, .ref b)]) [] := by
  obtain ⟨r1, M1, M2, o1, e1, o2, e2, hR2⟩ := hop M (xs (n + 1)) (xs (n + 2)) hR0
  refine g_aload_n hC 3 dL_law_995 rfl ?_
  refine g_aload_n hC 4 dL_law_996 rfl ?_
  refine g_iload hC 0 dL_law_997 rfl ?_
  refine g_iconst hC 1 dL_law_999 (by decide) ?_
  refine g_iadd hC dL_law_1000 ?_
  refine g_sldJ (n := n) (j := 1) hC hX rfl (by omega) hL dL_law_1001 ?_
  refine g_aload_n hC 4 dL_law_1002 rfl ?_
  refine g_iload hC 0 dL_law_1003 rfl ?_
  refine g_iconst hC 2 dL_law_1005 (by decide) ?_
  refine g_iadd hC dL_law_1006 ?_
  refine g_sldJ (n := n) (j := 2) hC hX rfl (by omega) hL dL_law_1007 ?_
  refine g_calli hC (r_V hC (As := [.int (xs (n + 1)), .int (xs (n + 2))]) (c_X11_clean _ Γ ax (xs (n + 1)) (xs (n + 2)) M M1 r1 e1) yk_X11_clean lk_L_98 o1 ⟨_, rfl, rfl⟩ rfl rfl (Nat.le_of_ble_eq_true rfl) hRm ⟨(Nat.le_of_ble_eq_true rfl), (Nat.le_of_ble_eq_true rfl)⟩ ⟨(by omega), (by omega)⟩ dL_law_1008) ?_
  refine g_aload_n hC 2 dL_law_1011 rfl ?_
  refine g_aload_n hC 4 dL_law_1012 rfl ?_
  refine g_iload hC 0 dL_law_1013 rfl ?_
  refine g_iconst hC 1 dL_law_1015 (by decide) ?_
  refine g_iadd hC dL_law_1016 ?_
  refine g_sldJ (n := n) (j := 1) hC hX rfl (by omega) hL dL_law_1017 ?_
  refine g_aload_n hC 4 dL_law_1018 rfl ?_
  refine g_iload hC 0 dL_law_1019 rfl ?_
  refine g_iconst hC 2 dL_law_1021 (by decide) ?_
  refine g_iadd hC dL_law_1022 ?_
  refine g_sldJ (n := n) (j := 2) hC hX rfl (by omega) hL dL_law_1023 ?_
  refine g_calli hC (r_V hC (As := [.int (xs (n + 1)), .int (xs (n + 2))]) (c_X12_clean _ Γ am (xs (n + 1)) (xs (n + 2)) M1 M2 r1 e2) yk_X12_clean lk_L_101 o2 ⟨_, rfl, rfl⟩ rfl rfl (Nat.le_of_ble_eq_true rfl) hRm ⟨(Nat.le_of_ble_eq_true rfl), (Nat.le_of_ble_eq_true rfl)⟩ ⟨(by omega), (by omega)⟩ dL_law_1024) ?_
  refine g_icmp_eq hC 1788 dL_law_1027 (by decide) (fun _ => ?_) (fun cf => absurd rfl cf)
  exact kk M2 hR2

set_option maxHeartbeats 1000000 in
theorem law_18 {R : Mm → Prop} (hC : Cx Γ X cL_law RL (some .boolean) 8) (hX : Scr Γ X b L xs) (hL : L ≤ 3584) (hnL : n + 7 ≤ L) (hSt : X.2.1.stackTraces = false) (hRm : X.2.2.2.1 = ({ frames := 2048, cells := 601024, slots := 7293034, locals := 84000 } : Room)) (hop : Op_18 R ax am) (hR0 : R M) (hcs : cells + 0 ≤ 601024 ∧ slots + 0 ≤ 7293034) (kk : ∀ M2 : Mm, R M2 → G Γ X 8 M2 (cells + 0) (slots + 0) Q 1788 ([(4, .int (Int32.ofNat n)), (3, .ref ao), (2, .ref am), (1, .ref ax), (0, .ref b)]) []) : G Γ X 8 M cells slots Q 1032 ([(4, .int (Int32.ofNat n)), (3, .ref ao), (2, .ref am), (1, .ref ax), (0, .ref b)]) [] := by
  obtain ⟨r1, M1, M2, o1, e1, o2, e2, hR2⟩ := hop M (xs (n + 1)) (xs (n + 2)) hR0
  refine g_aload_n hC 3 dL_law_1032 rfl ?_
  refine g_aload_n hC 4 dL_law_1033 rfl ?_
  refine g_iload hC 0 dL_law_1034 rfl ?_
  refine g_iconst hC 1 dL_law_1036 (by decide) ?_
  refine g_iadd hC dL_law_1037 ?_
  refine g_sldJ (n := n) (j := 1) hC hX rfl (by omega) hL dL_law_1038 ?_
  refine g_aload_n hC 4 dL_law_1039 rfl ?_
  refine g_iload hC 0 dL_law_1040 rfl ?_
  refine g_iconst hC 2 dL_law_1042 (by decide) ?_
  refine g_iadd hC dL_law_1043 ?_
  refine g_sldJ (n := n) (j := 2) hC hX rfl (by omega) hL dL_law_1044 ?_
  refine g_calli hC (r_V hC (As := [.int (xs (n + 1)), .int (xs (n + 2))]) (c_X11_reading _ Γ ax (xs (n + 1)) (xs (n + 2)) M M1 r1 e1) yk_X11_reading lk_L_102 o1 ⟨_, rfl, rfl⟩ rfl rfl (Nat.le_of_ble_eq_true rfl) hRm ⟨(Nat.le_of_ble_eq_true rfl), (Nat.le_of_ble_eq_true rfl)⟩ ⟨(by omega), (by omega)⟩ dL_law_1045) ?_
  refine g_aload_n hC 2 dL_law_1048 rfl ?_
  refine g_aload_n hC 4 dL_law_1049 rfl ?_
  refine g_iload hC 0 dL_law_1050 rfl ?_
  refine g_iconst hC 1 dL_law_1052 (by decide) ?_
  refine g_iadd hC dL_law_1053 ?_
  refine g_sldJ (n := n) (j := 1) hC hX rfl (by omega) hL dL_law_1054 ?_
  refine g_aload_n hC 4 dL_law_1055 rfl ?_
  refine g_iload hC 0 dL_law_1056 rfl ?_
  refine g_iconst hC 2 dL_law_1058 (by decide) ?_
  refine g_iadd hC dL_law_1059 ?_
  refine g_sldJ (n := n) (j := 2) hC hX rfl (by omega) hL dL_law_1060 ?_
  refine g_calli hC (r_V hC (As := [.int (xs (n + 1)), .int (xs (n + 2))]) (c_X12_reading _ Γ am (xs (n + 1)) (xs (n + 2)) M1 M2 r1 e2) yk_X12_reading lk_L_105 o2 ⟨_, rfl, rfl⟩ rfl rfl (Nat.le_of_ble_eq_true rfl) hRm ⟨(Nat.le_of_ble_eq_true rfl), (Nat.le_of_ble_eq_true rfl)⟩ ⟨(by omega), (by omega)⟩ dL_law_1061) ?_
  refine g_icmp_eq hC 1788 dL_law_1064 (by decide) (fun _ => ?_) (fun cf => absurd rfl cf)
  exact kk M2 hR2

set_option maxHeartbeats 1000000 in
theorem law_19 {R : Mm → Prop} (hC : Cx Γ X cL_law RL (some .boolean) 8) (hX : Scr Γ X b L xs) (hL : L ≤ 3584) (hnL : n + 7 ≤ L) (hSt : X.2.1.stackTraces = false) (hRm : X.2.2.2.1 = ({ frames := 2048, cells := 601024, slots := 7293034, locals := 84000 } : Room)) (hop : Op_19 R ax am ao) (hR0 : R M) (hcs : cells + 1 ≤ 601024 ∧ slots + 6 ≤ 7293034) (kk : ∀ M2 : Mm, R M2 → G Γ X 8 M2 (cells + 1) (slots + 6) Q 1788 ([(4, .int (Int32.ofNat n)), (3, .ref ao), (2, .ref am), (1, .ref ax), (0, .ref b)]) []) : G Γ X 8 M cells slots Q 1069 ([(4, .int (Int32.ofNat n)), (3, .ref ao), (2, .ref am), (1, .ref ax), (0, .ref b)]) [] := by
  obtain ⟨r1, M1, e1, hop2⟩ := hop M (xs (n + 1)) (xs (n + 2)) hR0
  refine g_aload_n hC 3 dL_law_1069 rfl ?_
  refine g_aload_n hC 4 dL_law_1070 rfl ?_
  refine g_iload hC 0 dL_law_1071 rfl ?_
  refine g_iconst hC 1 dL_law_1073 (by decide) ?_
  refine g_iadd hC dL_law_1074 ?_
  refine g_sldJ (n := n) (j := 1) hC hX rfl (by omega) hL dL_law_1075 ?_
  refine g_aload_n hC 4 dL_law_1076 rfl ?_
  refine g_iload hC 0 dL_law_1077 rfl ?_
  refine g_iconst hC 2 dL_law_1079 (by decide) ?_
  refine g_iadd hC dL_law_1080 ?_
  refine g_sldJ (n := n) (j := 2) hC hX rfl (by omega) hL dL_law_1081 ?_
  refine g_bz hC dL_law_1082 dL_law_1085 dL_law_1086 dL_law_1089 ?_
  refine g_aload_n hC 1 dL_law_1090 rfl ?_
  refine g_calliX hC (rx_SH hC (As := [.ref ax, .int (xs (n + 1)), .int (bz (xs (n + 2))), .ref ao]) (c_L_read _ hSt Γ ax (xs (n + 1)) (bz (xs (n + 2))) ao M M1 r1 e1) yh_L_read lk_L_106 rfl rfl (Nat.le_of_ble_eq_true rfl) hRm ⟨(Nat.le_of_ble_eq_true rfl), (Nat.le_of_ble_eq_true rfl)⟩ ⟨(by omega), (by omega)⟩ dL_law_1091) (fun j => ?_)
  obtain ⟨v, M2, M3, o2, e2, o3, e3, hR3, hv⟩ := hop2 j
  refine g_istore hC ([(5, .int r1), (4, .int (Int32.ofNat n)), (3, .ref ao), (2, .ref am), (1, .ref ax), (0, .ref b)]) dL_law_1094 (by decide) rfl ?_
  refine g_aload_n hC 3 dL_law_1096 rfl ?_
  refine g_aload_n hC 5 dL_law_1097 rfl ?_
  refine g_iload hC 1 dL_law_1098 rfl ?_
  refine g_iconst hC 1 dL_law_1100 (by decide) ?_
  refine g_iadd hC dL_law_1101 ?_
  refine g_sldJ (n := n) (j := 1) hC hX rfl (by omega) hL dL_law_1102 ?_
  refine g_aload_n hC 5 dL_law_1103 rfl ?_
  refine g_iload hC 1 dL_law_1104 rfl ?_
  refine g_iconst hC 2 dL_law_1106 (by decide) ?_
  refine g_iadd hC dL_law_1107 ?_
  refine g_sldJ (n := n) (j := 2) hC hX rfl (by omega) hL dL_law_1108 ?_
  refine g_bz hC dL_law_1109 dL_law_1112 dL_law_1113 dL_law_1116 ?_
  refine g_calll hC (r_V hC (As := [.int (xs (n + 1)), .int (bz (xs (n + 2)))]) (c_X12_read _ Γ am (xs (n + 1)) (bz (xs (n + 2))) (jk M1 j) M2 v e2) yk_X12_read lk_L_111 o2 ⟨_, rfl, rfl⟩ rfl rfl (Nat.le_of_ble_eq_true rfl) hRm ⟨(Nat.le_of_ble_eq_true rfl), (Nat.le_of_ble_eq_true rfl)⟩ ⟨(by omega), (by omega)⟩ dL_law_1117) ?_
  refine g_lstore hC ([(6, .long v), (5, .int r1), (4, .int (Int32.ofNat n)), (3, .ref ao), (2, .ref am), (1, .ref ax), (0, .ref b)]) dL_law_1120 (by decide) rfl ?_
  refine g_aload_n hC 4 dL_law_1122 rfl ?_
  refine g_calli hC (r_V hC (As := []) (c_X12_thrown _ Γ am M2 M3 r1 e3) yk_X12_thrown lk_L_112 o3 ⟨_, rfl, rfl⟩ rfl rfl (Nat.le_of_ble_eq_true rfl) hRm ⟨(Nat.le_of_ble_eq_true rfl), (Nat.le_of_ble_eq_true rfl)⟩ ⟨(by omega), (by omega)⟩ dL_law_1123) ?_
  refine g_iload hC 1 dL_law_1126 rfl ?_
  refine g_icmp_eq hC 1133 dL_law_1128 (by decide) (fun _ => ?_) (fun cf => absurd rfl cf)
  refine g_iload hC 1 dL_law_1133 rfl ?_
  refine g_if_ne hC 1149 dL_law_1135 (by decide) (fun cz => ?_) (fun cz => ?_)
  · refine g_goto hC 1788 dL_law_1149 (by decide) ?_
    exact g_drop (by simp) (kk M3 hR3)
  · refine g_aload_n hC 3 dL_law_1138 rfl ?_
    refine g_iconst hC 0 dL_law_1139 (by decide) ?_
    refine g_lald hC (hv cz) dL_law_1140 ?_
    refine g_lload hC 0 dL_law_1141 rfl ?_
    refine g_lcmp hC dL_law_1143 ?_
    refine g_if_eq hC 1149 dL_law_1144 (by decide) (fun _ => ?_) (fun cf => absurd (lcmp_self v) cf)
    refine g_goto hC 1788 dL_law_1149 (by decide) ?_
    exact g_drop (by simp) (kk M3 hR3)

set_option maxHeartbeats 1000000 in
theorem law_20 {R : Mm → Prop} (hC : Cx Γ X cL_law RL (some .boolean) 8) (hX : Scr Γ X b L xs) (hL : L ≤ 3584) (hnL : n + 7 ≤ L) (hSt : X.2.1.stackTraces = false) (hRm : X.2.2.2.1 = ({ frames := 2048, cells := 601024, slots := 7293034, locals := 84000 } : Room)) (hop : Op_20 R ax am) (hR0 : R M) (hcs : cells + 0 ≤ 601024 ∧ slots + 0 ≤ 7293034) (kk : ∀ M2 : Mm, R M2 → G Γ X 8 M2 (cells + 0) (slots + 0) Q 1788 ([(4, .int (Int32.ofNat n)), (3, .ref ao), (2, .ref am), (1, .ref ax), (0, .ref b)]) []) : G Γ X 8 M cells slots Q 1152 ([(4, .int (Int32.ofNat n)), (3, .ref ao), (2, .ref am), (1, .ref ax), (0, .ref b)]) [] := by
  obtain ⟨r1, M1, M2, o1, e1, o2, e2, hR2⟩ := hop M (xs (n + 1)) hR0
  refine g_aload_n hC 3 dL_law_1152 rfl ?_
  refine g_aload_n hC 4 dL_law_1153 rfl ?_
  refine g_iload hC 0 dL_law_1154 rfl ?_
  refine g_iconst hC 1 dL_law_1156 (by decide) ?_
  refine g_iadd hC dL_law_1157 ?_
  refine g_sldJ (n := n) (j := 1) hC hX rfl (by omega) hL dL_law_1158 ?_
  refine g_calli hC (r_V hC (As := [.int (xs (n + 1))]) (c_X11_plan _ Γ ax (xs (n + 1)) M M1 r1 e1) yk_X11_plan lk_L_116 o1 ⟨_, rfl, rfl⟩ rfl rfl (Nat.le_of_ble_eq_true rfl) hRm ⟨(Nat.le_of_ble_eq_true rfl), (Nat.le_of_ble_eq_true rfl)⟩ ⟨(by omega), (by omega)⟩ dL_law_1159) ?_
  refine g_aload_n hC 2 dL_law_1162 rfl ?_
  refine g_aload_n hC 4 dL_law_1163 rfl ?_
  refine g_iload hC 0 dL_law_1164 rfl ?_
  refine g_iconst hC 1 dL_law_1166 (by decide) ?_
  refine g_iadd hC dL_law_1167 ?_
  refine g_sldJ (n := n) (j := 1) hC hX rfl (by omega) hL dL_law_1168 ?_
  refine g_calli hC (r_V hC (As := [.int (xs (n + 1))]) (c_X12_plan _ Γ am (xs (n + 1)) M1 M2 r1 e2) yk_X12_plan lk_L_119 o2 ⟨_, rfl, rfl⟩ rfl rfl (Nat.le_of_ble_eq_true rfl) hRm ⟨(Nat.le_of_ble_eq_true rfl), (Nat.le_of_ble_eq_true rfl)⟩ ⟨(by omega), (by omega)⟩ dL_law_1169) ?_
  refine g_icmp_eq hC 1788 dL_law_1172 (by decide) (fun _ => ?_) (fun cf => absurd rfl cf)
  exact kk M2 hR2

set_option maxHeartbeats 1000000 in
theorem law_21 {R : Mm → Prop} (hC : Cx Γ X cL_law RL (some .boolean) 8) (hX : Scr Γ X b L xs) (hL : L ≤ 3584) (hnL : n + 7 ≤ L) (hSt : X.2.1.stackTraces = false) (hRm : X.2.2.2.1 = ({ frames := 2048, cells := 601024, slots := 7293034, locals := 84000 } : Room)) (hop : Op_21 R ax am) (hR0 : R M) (hcs : cells + 0 ≤ 601024 ∧ slots + 0 ≤ 7293034) (kk : ∀ M2 : Mm, R M2 → G Γ X 8 M2 (cells + 0) (slots + 0) Q 1788 ([(4, .int (Int32.ofNat n)), (3, .ref ao), (2, .ref am), (1, .ref ax), (0, .ref b)]) []) : G Γ X 8 M cells slots Q 1177 ([(4, .int (Int32.ofNat n)), (3, .ref ao), (2, .ref am), (1, .ref ax), (0, .ref b)]) [] := by
  obtain ⟨r1, M1, M2, o1, e1, o2, e2, hR2⟩ := hop M (xs (n + 1)) (xs (n + 2)) hR0
  refine g_aload_n hC 3 dL_law_1177 rfl ?_
  refine g_aload_n hC 4 dL_law_1178 rfl ?_
  refine g_iload hC 0 dL_law_1179 rfl ?_
  refine g_iconst hC 1 dL_law_1181 (by decide) ?_
  refine g_iadd hC dL_law_1182 ?_
  refine g_sldJ (n := n) (j := 1) hC hX rfl (by omega) hL dL_law_1183 ?_
  refine g_aload_n hC 4 dL_law_1184 rfl ?_
  refine g_iload hC 0 dL_law_1185 rfl ?_
  refine g_iconst hC 2 dL_law_1187 (by decide) ?_
  refine g_iadd hC dL_law_1188 ?_
  refine g_sldJ (n := n) (j := 2) hC hX rfl (by omega) hL dL_law_1189 ?_
  refine g_calli hC (r_V hC (As := [.int (xs (n + 1)), .int (xs (n + 2))]) (c_X11_planned _ Γ ax (xs (n + 1)) (xs (n + 2)) M M1 r1 e1) yk_X11_planned lk_L_120 o1 ⟨_, rfl, rfl⟩ rfl rfl (Nat.le_of_ble_eq_true rfl) hRm ⟨(Nat.le_of_ble_eq_true rfl), (Nat.le_of_ble_eq_true rfl)⟩ ⟨(by omega), (by omega)⟩ dL_law_1190) ?_
  refine g_aload_n hC 2 dL_law_1193 rfl ?_
  refine g_aload_n hC 4 dL_law_1194 rfl ?_
  refine g_iload hC 0 dL_law_1195 rfl ?_
  refine g_iconst hC 1 dL_law_1197 (by decide) ?_
  refine g_iadd hC dL_law_1198 ?_
  refine g_sldJ (n := n) (j := 1) hC hX rfl (by omega) hL dL_law_1199 ?_
  refine g_aload_n hC 4 dL_law_1200 rfl ?_
  refine g_iload hC 0 dL_law_1201 rfl ?_
  refine g_iconst hC 2 dL_law_1203 (by decide) ?_
  refine g_iadd hC dL_law_1204 ?_
  refine g_sldJ (n := n) (j := 2) hC hX rfl (by omega) hL dL_law_1205 ?_
  refine g_calli hC (r_V hC (As := [.int (xs (n + 1)), .int (xs (n + 2))]) (c_X12_planned _ Γ am (xs (n + 1)) (xs (n + 2)) M1 M2 r1 e2) yk_X12_planned lk_L_123 o2 ⟨_, rfl, rfl⟩ rfl rfl (Nat.le_of_ble_eq_true rfl) hRm ⟨(Nat.le_of_ble_eq_true rfl), (Nat.le_of_ble_eq_true rfl)⟩ ⟨(by omega), (by omega)⟩ dL_law_1206) ?_
  refine g_icmp_eq hC 1788 dL_law_1209 (by decide) (fun _ => ?_) (fun cf => absurd rfl cf)
  exact kk M2 hR2

set_option maxHeartbeats 1000000 in
theorem law_22 {R : Mm → Prop} (hC : Cx Γ X cL_law RL (some .boolean) 8) (hX : Scr Γ X b L xs) (hL : L ≤ 3584) (hnL : n + 7 ≤ L) (hSt : X.2.1.stackTraces = false) (hRm : X.2.2.2.1 = ({ frames := 2048, cells := 601024, slots := 7293034, locals := 84000 } : Room)) (hop : Op_22 R ax am) (hR0 : R M) (hcs : cells + 0 ≤ 601024 ∧ slots + 0 ≤ 7293034) (kk : ∀ M2 : Mm, R M2 → G Γ X 8 M2 (cells + 0) (slots + 0) Q 1788 ([(4, .int (Int32.ofNat n)), (3, .ref ao), (2, .ref am), (1, .ref ax), (0, .ref b)]) []) : G Γ X 8 M cells slots Q 1214 ([(4, .int (Int32.ofNat n)), (3, .ref ao), (2, .ref am), (1, .ref ax), (0, .ref b)]) [] := by
  obtain ⟨r1, M1, M2, o1, e1, o2, e2, hR2⟩ := hop M (xs (n + 1)) (xs (n + 2)) (xs (n + 3)) (xs (n + 4)) hR0
  refine g_aload_n hC 3 dL_law_1214 rfl ?_
  refine g_aload_n hC 4 dL_law_1215 rfl ?_
  refine g_iload hC 0 dL_law_1216 rfl ?_
  refine g_iconst hC 1 dL_law_1218 (by decide) ?_
  refine g_iadd hC dL_law_1219 ?_
  refine g_sldJ (n := n) (j := 1) hC hX rfl (by omega) hL dL_law_1220 ?_
  refine g_aload_n hC 4 dL_law_1221 rfl ?_
  refine g_iload hC 0 dL_law_1222 rfl ?_
  refine g_iconst hC 2 dL_law_1224 (by decide) ?_
  refine g_iadd hC dL_law_1225 ?_
  refine g_sldJ (n := n) (j := 2) hC hX rfl (by omega) hL dL_law_1226 ?_
  refine g_aload_n hC 4 dL_law_1227 rfl ?_
  refine g_iload hC 0 dL_law_1228 rfl ?_
  refine g_iconst hC 3 dL_law_1230 (by decide) ?_
  refine g_iadd hC dL_law_1231 ?_
  refine g_sldJ (n := n) (j := 3) hC hX rfl (by omega) hL dL_law_1232 ?_
  refine g_aload_n hC 4 dL_law_1233 rfl ?_
  refine g_iload hC 0 dL_law_1234 rfl ?_
  refine g_iconst hC 4 dL_law_1236 (by decide) ?_
  refine g_iadd hC dL_law_1237 ?_
  refine g_sldJ (n := n) (j := 4) hC hX rfl (by omega) hL dL_law_1238 ?_
  refine g_calli hC (r_V hC (As := [.int (xs (n + 1)), .int (xs (n + 2)), .int (xs (n + 3)), .int (xs (n + 4))]) (c_X11_ends _ Γ ax (xs (n + 1)) (xs (n + 2)) (xs (n + 3)) (xs (n + 4)) M M1 r1 e1) yk_X11_ends lk_L_124 o1 ⟨_, rfl, rfl⟩ rfl rfl (Nat.le_of_ble_eq_true rfl) hRm ⟨(Nat.le_of_ble_eq_true rfl), (Nat.le_of_ble_eq_true rfl)⟩ ⟨(by omega), (by omega)⟩ dL_law_1239) ?_
  refine g_aload_n hC 2 dL_law_1242 rfl ?_
  refine g_aload_n hC 4 dL_law_1243 rfl ?_
  refine g_iload hC 0 dL_law_1244 rfl ?_
  refine g_iconst hC 1 dL_law_1246 (by decide) ?_
  refine g_iadd hC dL_law_1247 ?_
  refine g_sldJ (n := n) (j := 1) hC hX rfl (by omega) hL dL_law_1248 ?_
  refine g_aload_n hC 4 dL_law_1249 rfl ?_
  refine g_iload hC 0 dL_law_1250 rfl ?_
  refine g_iconst hC 2 dL_law_1252 (by decide) ?_
  refine g_iadd hC dL_law_1253 ?_
  refine g_sldJ (n := n) (j := 2) hC hX rfl (by omega) hL dL_law_1254 ?_
  refine g_aload_n hC 4 dL_law_1255 rfl ?_
  refine g_iload hC 0 dL_law_1256 rfl ?_
  refine g_iconst hC 3 dL_law_1258 (by decide) ?_
  refine g_iadd hC dL_law_1259 ?_
  refine g_sldJ (n := n) (j := 3) hC hX rfl (by omega) hL dL_law_1260 ?_
  refine g_aload_n hC 4 dL_law_1261 rfl ?_
  refine g_iload hC 0 dL_law_1262 rfl ?_
  refine g_iconst hC 4 dL_law_1264 (by decide) ?_
  refine g_iadd hC dL_law_1265 ?_
  refine g_sldJ (n := n) (j := 4) hC hX rfl (by omega) hL dL_law_1266 ?_
  refine g_calli hC (r_V hC (As := [.int (xs (n + 1)), .int (xs (n + 2)), .int (xs (n + 3)), .int (xs (n + 4))]) (c_X12_ends _ Γ am (xs (n + 1)) (xs (n + 2)) (xs (n + 3)) (xs (n + 4)) M1 M2 r1 e2) yk_X12_ends lk_L_127 o2 ⟨_, rfl, rfl⟩ rfl rfl (Nat.le_of_ble_eq_true rfl) hRm ⟨(Nat.le_of_ble_eq_true rfl), (Nat.le_of_ble_eq_true rfl)⟩ ⟨(by omega), (by omega)⟩ dL_law_1267) ?_
  refine g_icmp_eq hC 1788 dL_law_1270 (by decide) (fun _ => ?_) (fun cf => absurd rfl cf)
  exact kk M2 hR2

set_option maxHeartbeats 1000000 in
theorem law_23 {R : Mm → Prop} (hC : Cx Γ X cL_law RL (some .boolean) 8) (hX : Scr Γ X b L xs) (hL : L ≤ 3584) (hnL : n + 7 ≤ L) (hSt : X.2.1.stackTraces = false) (hRm : X.2.2.2.1 = ({ frames := 2048, cells := 601024, slots := 7293034, locals := 84000 } : Room)) (hop : Op_23 R ax am) (hR0 : R M) (hcs : cells + 0 ≤ 601024 ∧ slots + 0 ≤ 7293034) (kk : ∀ M2 : Mm, R M2 → G Γ X 8 M2 (cells + 0) (slots + 0) Q 1788 ([(4, .int (Int32.ofNat n)), (3, .ref ao), (2, .ref am), (1, .ref ax), (0, .ref b)]) []) : G Γ X 8 M cells slots Q 1275 ([(4, .int (Int32.ofNat n)), (3, .ref ao), (2, .ref am), (1, .ref ax), (0, .ref b)]) [] := by
  obtain ⟨r1, M1, M2, o1, e1, o2, e2, hR2⟩ := hop M (xs (n + 1)) hR0
  refine g_aload_n hC 3 dL_law_1275 rfl ?_
  refine g_aload_n hC 4 dL_law_1276 rfl ?_
  refine g_iload hC 0 dL_law_1277 rfl ?_
  refine g_iconst hC 1 dL_law_1279 (by decide) ?_
  refine g_iadd hC dL_law_1280 ?_
  refine g_sldJ (n := n) (j := 1) hC hX rfl (by omega) hL dL_law_1281 ?_
  refine g_calli hC (r_V hC (As := [.int (xs (n + 1))]) (c_X11_whole _ Γ ax (xs (n + 1)) M M1 r1 e1) yk_X11_whole lk_L_128 o1 ⟨_, rfl, rfl⟩ rfl rfl (Nat.le_of_ble_eq_true rfl) hRm ⟨(Nat.le_of_ble_eq_true rfl), (Nat.le_of_ble_eq_true rfl)⟩ ⟨(by omega), (by omega)⟩ dL_law_1282) ?_
  refine g_aload_n hC 2 dL_law_1285 rfl ?_
  refine g_aload_n hC 4 dL_law_1286 rfl ?_
  refine g_iload hC 0 dL_law_1287 rfl ?_
  refine g_iconst hC 1 dL_law_1289 (by decide) ?_
  refine g_iadd hC dL_law_1290 ?_
  refine g_sldJ (n := n) (j := 1) hC hX rfl (by omega) hL dL_law_1291 ?_
  refine g_calli hC (r_V hC (As := [.int (xs (n + 1))]) (c_X12_whole _ Γ am (xs (n + 1)) M1 M2 r1 e2) yk_X12_whole lk_L_131 o2 ⟨_, rfl, rfl⟩ rfl rfl (Nat.le_of_ble_eq_true rfl) hRm ⟨(Nat.le_of_ble_eq_true rfl), (Nat.le_of_ble_eq_true rfl)⟩ ⟨(by omega), (by omega)⟩ dL_law_1292) ?_
  refine g_icmp_eq hC 1788 dL_law_1295 (by decide) (fun _ => ?_) (fun cf => absurd rfl cf)
  exact kk M2 hR2

set_option maxHeartbeats 1000000 in
theorem law_24 {R : Mm → Prop} (hC : Cx Γ X cL_law RL (some .boolean) 8) (hX : Scr Γ X b L xs) (hL : L ≤ 3584) (hnL : n + 7 ≤ L) (hSt : X.2.1.stackTraces = false) (hRm : X.2.2.2.1 = ({ frames := 2048, cells := 601024, slots := 7293034, locals := 84000 } : Room)) (hop : Op_24 R ax am) (hR0 : R M) (hcs : cells + 0 ≤ 601024 ∧ slots + 0 ≤ 7293034) (kk : ∀ M2 : Mm, R M2 → G Γ X 8 M2 (cells + 0) (slots + 0) Q 1788 ([(4, .int (Int32.ofNat n)), (3, .ref ao), (2, .ref am), (1, .ref ax), (0, .ref b)]) []) : G Γ X 8 M cells slots Q 1300 ([(4, .int (Int32.ofNat n)), (3, .ref ao), (2, .ref am), (1, .ref ax), (0, .ref b)]) [] := by
  obtain ⟨r1, M1, M2, o1, e1, o2, e2, hR2⟩ := hop M (xs (n + 1)) (xs (n + 2)) hR0
  refine g_aload_n hC 3 dL_law_1300 rfl ?_
  refine g_aload_n hC 4 dL_law_1301 rfl ?_
  refine g_iload hC 0 dL_law_1302 rfl ?_
  refine g_iconst hC 1 dL_law_1304 (by decide) ?_
  refine g_iadd hC dL_law_1305 ?_
  refine g_sldJ (n := n) (j := 1) hC hX rfl (by omega) hL dL_law_1306 ?_
  refine g_aload_n hC 4 dL_law_1307 rfl ?_
  refine g_iload hC 0 dL_law_1308 rfl ?_
  refine g_iconst hC 2 dL_law_1310 (by decide) ?_
  refine g_iadd hC dL_law_1311 ?_
  refine g_sldJ (n := n) (j := 2) hC hX rfl (by omega) hL dL_law_1312 ?_
  refine g_calli hC (r_V hC (As := [.int (xs (n + 1)), .int (xs (n + 2))]) (c_X11_ship _ Γ ax (xs (n + 1)) (xs (n + 2)) M M1 r1 e1) yk_X11_ship lk_L_132 o1 ⟨_, rfl, rfl⟩ rfl rfl (Nat.le_of_ble_eq_true rfl) hRm ⟨(Nat.le_of_ble_eq_true rfl), (Nat.le_of_ble_eq_true rfl)⟩ ⟨(by omega), (by omega)⟩ dL_law_1313) ?_
  refine g_aload_n hC 2 dL_law_1316 rfl ?_
  refine g_aload_n hC 4 dL_law_1317 rfl ?_
  refine g_iload hC 0 dL_law_1318 rfl ?_
  refine g_iconst hC 1 dL_law_1320 (by decide) ?_
  refine g_iadd hC dL_law_1321 ?_
  refine g_sldJ (n := n) (j := 1) hC hX rfl (by omega) hL dL_law_1322 ?_
  refine g_aload_n hC 4 dL_law_1323 rfl ?_
  refine g_iload hC 0 dL_law_1324 rfl ?_
  refine g_iconst hC 2 dL_law_1326 (by decide) ?_
  refine g_iadd hC dL_law_1327 ?_
  refine g_sldJ (n := n) (j := 2) hC hX rfl (by omega) hL dL_law_1328 ?_
  refine g_calli hC (r_V hC (As := [.int (xs (n + 1)), .int (xs (n + 2))]) (c_X12_ship _ Γ am (xs (n + 1)) (xs (n + 2)) M1 M2 r1 e2) yk_X12_ship lk_L_135 o2 ⟨_, rfl, rfl⟩ rfl rfl (Nat.le_of_ble_eq_true rfl) hRm ⟨(Nat.le_of_ble_eq_true rfl), (Nat.le_of_ble_eq_true rfl)⟩ ⟨(by omega), (by omega)⟩ dL_law_1329) ?_
  refine g_icmp_eq hC 1788 dL_law_1332 (by decide) (fun _ => ?_) (fun cf => absurd rfl cf)
  exact kk M2 hR2

set_option maxHeartbeats 1000000 in
theorem law_25 {R : Mm → Prop} (hC : Cx Γ X cL_law RL (some .boolean) 8) (hX : Scr Γ X b L xs) (hL : L ≤ 3584) (hnL : n + 7 ≤ L) (hSt : X.2.1.stackTraces = false) (hRm : X.2.2.2.1 = ({ frames := 2048, cells := 601024, slots := 7293034, locals := 84000 } : Room)) (hop : Op_25 R ax am) (hR0 : R M) (hcs : cells + 0 ≤ 601024 ∧ slots + 0 ≤ 7293034) (kk : ∀ M2 : Mm, R M2 → G Γ X 8 M2 (cells + 0) (slots + 0) Q 1788 ([(4, .int (Int32.ofNat n)), (3, .ref ao), (2, .ref am), (1, .ref ax), (0, .ref b)]) []) : G Γ X 8 M cells slots Q 1337 ([(4, .int (Int32.ofNat n)), (3, .ref ao), (2, .ref am), (1, .ref ax), (0, .ref b)]) [] := by
  obtain ⟨r1, M1, M2, o1, e1, o2, e2, hR2⟩ := hop M (xs (n + 1)) hR0
  refine g_aload_n hC 3 dL_law_1337 rfl ?_
  refine g_aload_n hC 4 dL_law_1338 rfl ?_
  refine g_iload hC 0 dL_law_1339 rfl ?_
  refine g_iconst hC 1 dL_law_1341 (by decide) ?_
  refine g_iadd hC dL_law_1342 ?_
  refine g_sldJ (n := n) (j := 1) hC hX rfl (by omega) hL dL_law_1343 ?_
  refine g_calli hC (r_V hC (As := [.int (xs (n + 1))]) (c_X11_left _ Γ ax (xs (n + 1)) M M1 r1 e1) yk_X11_left lk_L_136 o1 ⟨_, rfl, rfl⟩ rfl rfl (Nat.le_of_ble_eq_true rfl) hRm ⟨(Nat.le_of_ble_eq_true rfl), (Nat.le_of_ble_eq_true rfl)⟩ ⟨(by omega), (by omega)⟩ dL_law_1344) ?_
  refine g_aload_n hC 2 dL_law_1347 rfl ?_
  refine g_aload_n hC 4 dL_law_1348 rfl ?_
  refine g_iload hC 0 dL_law_1349 rfl ?_
  refine g_iconst hC 1 dL_law_1351 (by decide) ?_
  refine g_iadd hC dL_law_1352 ?_
  refine g_sldJ (n := n) (j := 1) hC hX rfl (by omega) hL dL_law_1353 ?_
  refine g_calli hC (r_V hC (As := [.int (xs (n + 1))]) (c_X12_left _ Γ am (xs (n + 1)) M1 M2 r1 e2) yk_X12_left lk_L_139 o2 ⟨_, rfl, rfl⟩ rfl rfl (Nat.le_of_ble_eq_true rfl) hRm ⟨(Nat.le_of_ble_eq_true rfl), (Nat.le_of_ble_eq_true rfl)⟩ ⟨(by omega), (by omega)⟩ dL_law_1354) ?_
  refine g_icmp_eq hC 1788 dL_law_1357 (by decide) (fun _ => ?_) (fun cf => absurd rfl cf)
  exact kk M2 hR2

set_option maxHeartbeats 1000000 in
theorem law_26 {R : Mm → Prop} (hC : Cx Γ X cL_law RL (some .boolean) 8) (hX : Scr Γ X b L xs) (hL : L ≤ 3584) (hnL : n + 7 ≤ L) (hSt : X.2.1.stackTraces = false) (hRm : X.2.2.2.1 = ({ frames := 2048, cells := 601024, slots := 7293034, locals := 84000 } : Room)) (hop : Op_26 R ax am) (hR0 : R M) (hcs : cells + 0 ≤ 601024 ∧ slots + 0 ≤ 7293034) (kk : ∀ M2 : Mm, R M2 → G Γ X 8 M2 (cells + 0) (slots + 0) Q 1788 ([(4, .int (Int32.ofNat n)), (3, .ref ao), (2, .ref am), (1, .ref ax), (0, .ref b)]) []) : G Γ X 8 M cells slots Q 1362 ([(4, .int (Int32.ofNat n)), (3, .ref ao), (2, .ref am), (1, .ref ax), (0, .ref b)]) [] := by
  obtain ⟨r1, M1, M2, o1, e1, o2, e2, hR2⟩ := hop M hR0
  refine g_aload_n hC 3 dL_law_1362 rfl ?_
  refine g_calli hC (r_V hC (As := []) (c_X11_next _ Γ ax M M1 r1 e1) yk_X11_next lk_L_140 o1 ⟨_, rfl, rfl⟩ rfl rfl (Nat.le_of_ble_eq_true rfl) hRm ⟨(Nat.le_of_ble_eq_true rfl), (Nat.le_of_ble_eq_true rfl)⟩ ⟨(by omega), (by omega)⟩ dL_law_1363) ?_
  refine g_aload_n hC 2 dL_law_1366 rfl ?_
  refine g_calli hC (r_V hC (As := []) (c_X12_next _ Γ am M1 M2 r1 e2) yk_X12_next lk_L_143 o2 ⟨_, rfl, rfl⟩ rfl rfl (Nat.le_of_ble_eq_true rfl) hRm ⟨(Nat.le_of_ble_eq_true rfl), (Nat.le_of_ble_eq_true rfl)⟩ ⟨(by omega), (by omega)⟩ dL_law_1367) ?_
  refine g_icmp_eq hC 1788 dL_law_1370 (by decide) (fun _ => ?_) (fun cf => absurd rfl cf)
  exact kk M2 hR2

set_option maxHeartbeats 1000000 in
theorem law_27 {R : Mm → Prop} (hC : Cx Γ X cL_law RL (some .boolean) 8) (hX : Scr Γ X b L xs) (hL : L ≤ 3584) (hnL : n + 7 ≤ L) (hSt : X.2.1.stackTraces = false) (hRm : X.2.2.2.1 = ({ frames := 2048, cells := 601024, slots := 7293034, locals := 84000 } : Room)) (hop : Op_27 R ax am) (hR0 : R M) (hcs : cells + 0 ≤ 601024 ∧ slots + 0 ≤ 7293034) (kk : ∀ M2 : Mm, R M2 → G Γ X 8 M2 (cells + 0) (slots + 0) Q 1788 ([(4, .int (Int32.ofNat n)), (3, .ref ao), (2, .ref am), (1, .ref ax), (0, .ref b)]) []) : G Γ X 8 M cells slots Q 1375 ([(4, .int (Int32.ofNat n)), (3, .ref ao), (2, .ref am), (1, .ref ax), (0, .ref b)]) [] := by
  obtain ⟨r1, M1, M2, o1, e1, o2, e2, hR2⟩ := hop M (xs (n + 1)) hR0
  refine g_aload_n hC 3 dL_law_1375 rfl ?_
  refine g_aload_n hC 4 dL_law_1376 rfl ?_
  refine g_iload hC 0 dL_law_1377 rfl ?_
  refine g_iconst hC 1 dL_law_1379 (by decide) ?_
  refine g_iadd hC dL_law_1380 ?_
  refine g_sldJ (n := n) (j := 1) hC hX rfl (by omega) hL dL_law_1381 ?_
  refine g_calli hC (r_V hC (As := [.int (xs (n + 1))]) (c_X11_fetch _ Γ ax (xs (n + 1)) M M1 r1 e1) yk_X11_fetch lk_L_144 o1 ⟨_, rfl, rfl⟩ rfl rfl (Nat.le_of_ble_eq_true rfl) hRm ⟨(Nat.le_of_ble_eq_true rfl), (Nat.le_of_ble_eq_true rfl)⟩ ⟨(by omega), (by omega)⟩ dL_law_1382) ?_
  refine g_aload_n hC 2 dL_law_1385 rfl ?_
  refine g_aload_n hC 4 dL_law_1386 rfl ?_
  refine g_iload hC 0 dL_law_1387 rfl ?_
  refine g_iconst hC 1 dL_law_1389 (by decide) ?_
  refine g_iadd hC dL_law_1390 ?_
  refine g_sldJ (n := n) (j := 1) hC hX rfl (by omega) hL dL_law_1391 ?_
  refine g_calli hC (r_V hC (As := [.int (xs (n + 1))]) (c_X12_fetch _ Γ am (xs (n + 1)) M1 M2 r1 e2) yk_X12_fetch lk_L_147 o2 ⟨_, rfl, rfl⟩ rfl rfl (Nat.le_of_ble_eq_true rfl) hRm ⟨(Nat.le_of_ble_eq_true rfl), (Nat.le_of_ble_eq_true rfl)⟩ ⟨(by omega), (by omega)⟩ dL_law_1392) ?_
  refine g_icmp_eq hC 1788 dL_law_1395 (by decide) (fun _ => ?_) (fun cf => absurd rfl cf)
  exact kk M2 hR2

set_option maxHeartbeats 1000000 in
theorem law_28 {R : Mm → Prop} (hC : Cx Γ X cL_law RL (some .boolean) 8) (hX : Scr Γ X b L xs) (hL : L ≤ 3584) (hnL : n + 7 ≤ L) (hSt : X.2.1.stackTraces = false) (hRm : X.2.2.2.1 = ({ frames := 2048, cells := 601024, slots := 7293034, locals := 84000 } : Room)) (hop : Op_28 R ax am) (hR0 : R M) (hcs : cells + 51 ≤ 601024 ∧ slots + 8009 ≤ 7293034) (kk : ∀ M2 : Mm, R M2 → G Γ X 8 M2 (cells + 51) (slots + 8009) Q 1788 ([(4, .int (Int32.ofNat n)), (3, .ref ao), (2, .ref am), (1, .ref ax), (0, .ref b)]) []) : G Γ X 8 M cells slots Q 1400 ([(4, .int (Int32.ofNat n)), (3, .ref ao), (2, .ref am), (1, .ref ax), (0, .ref b)]) [] := by
  obtain ⟨r1, M1, M2, o1, e1, o2, e2, hR2⟩ := hop M hR0
  refine g_aload_n hC 3 dL_law_1400 rfl ?_
  refine g_calli hC (r_V hC (As := []) (c_X11_image _ Γ ax M M1 r1 e1) yk_X11_image lk_L_148 o1 ⟨_, rfl, rfl⟩ rfl rfl (Nat.le_of_ble_eq_true rfl) hRm ⟨(Nat.le_of_ble_eq_true rfl), (Nat.le_of_ble_eq_true rfl)⟩ ⟨(by omega), (by omega)⟩ dL_law_1401) ?_
  refine g_aload_n hC 2 dL_law_1404 rfl ?_
  refine g_calli hC (r_V hC (As := []) (c_X12_image _ Γ am M1 M2 r1 e2) yk_X12_image lk_L_151 o2 ⟨_, rfl, rfl⟩ rfl rfl (Nat.le_of_ble_eq_true rfl) hRm ⟨(Nat.le_of_ble_eq_true rfl), (Nat.le_of_ble_eq_true rfl)⟩ ⟨(by omega), (by omega)⟩ dL_law_1405) ?_
  refine g_icmp_eq hC 1788 dL_law_1408 (by decide) (fun _ => ?_) (fun cf => absurd rfl cf)
  exact kk M2 hR2

set_option maxHeartbeats 1000000 in
theorem law_29 {R : Mm → Prop} (hC : Cx Γ X cL_law RL (some .boolean) 8) (hX : Scr Γ X b L xs) (hL : L ≤ 3584) (hnL : n + 7 ≤ L) (hSt : X.2.1.stackTraces = false) (hRm : X.2.2.2.1 = ({ frames := 2048, cells := 601024, slots := 7293034, locals := 84000 } : Room)) (hop : Op_29 R ax am) (hR0 : R M) (hcs : cells + 18 ≤ 601024 ∧ slots + 3708 ≤ 7293034) (kk : ∀ M2 : Mm, R M2 → G Γ X 8 M2 (cells + 18) (slots + 3708) Q 1788 ([(4, .int (Int32.ofNat n)), (3, .ref ao), (2, .ref am), (1, .ref ax), (0, .ref b)]) []) : G Γ X 8 M cells slots Q 1413 ([(4, .int (Int32.ofNat n)), (3, .ref ao), (2, .ref am), (1, .ref ax), (0, .ref b)]) [] := by
  obtain ⟨r1, M1, M2, o1, e1, o2, e2, hR2⟩ := hop M hR0
  refine g_aload_n hC 3 dL_law_1413 rfl ?_
  refine g_calli hC (r_V hC (As := []) (c_X11_restore _ Γ ax M M1 r1 e1) yk_X11_restore lk_L_152 o1 ⟨_, rfl, rfl⟩ rfl rfl (Nat.le_of_ble_eq_true rfl) hRm ⟨(Nat.le_of_ble_eq_true rfl), (Nat.le_of_ble_eq_true rfl)⟩ ⟨(by omega), (by omega)⟩ dL_law_1414) ?_
  refine g_aload_n hC 2 dL_law_1417 rfl ?_
  refine g_calli hC (r_V hC (As := []) (c_X12_restore _ Γ am M1 M2 r1 e2) yk_X12_restore lk_L_155 o2 ⟨_, rfl, rfl⟩ rfl rfl (Nat.le_of_ble_eq_true rfl) hRm ⟨(Nat.le_of_ble_eq_true rfl), (Nat.le_of_ble_eq_true rfl)⟩ ⟨(by omega), (by omega)⟩ dL_law_1418) ?_
  refine g_icmp_eq hC 1788 dL_law_1421 (by decide) (fun _ => ?_) (fun cf => absurd rfl cf)
  exact kk M2 hR2

set_option maxHeartbeats 1000000 in
theorem law_30 {R : Mm → Prop} (hC : Cx Γ X cL_law RL (some .boolean) 8) (hX : Scr Γ X b L xs) (hL : L ≤ 3584) (hnL : n + 7 ≤ L) (hSt : X.2.1.stackTraces = false) (hRm : X.2.2.2.1 = ({ frames := 2048, cells := 601024, slots := 7293034, locals := 84000 } : Room)) (hop : Op_30 R ax am) (hR0 : R M) (hcs : cells + 0 ≤ 601024 ∧ slots + 0 ≤ 7293034) (kk : ∀ M2 : Mm, R M2 → G Γ X 8 M2 (cells + 0) (slots + 0) Q 1788 ([(4, .int (Int32.ofNat n)), (3, .ref ao), (2, .ref am), (1, .ref ax), (0, .ref b)]) []) : G Γ X 8 M cells slots Q 1426 ([(4, .int (Int32.ofNat n)), (3, .ref ao), (2, .ref am), (1, .ref ax), (0, .ref b)]) [] := by
  obtain ⟨r1, M1, M2, o1, e1, o2, e2, hR2⟩ := hop M (xs (n + 1)) hR0
  refine g_aload_n hC 3 dL_law_1426 rfl ?_
  refine g_aload_n hC 4 dL_law_1427 rfl ?_
  refine g_iload hC 0 dL_law_1428 rfl ?_
  refine g_iconst hC 1 dL_law_1430 (by decide) ?_
  refine g_iadd hC dL_law_1431 ?_
  refine g_sldJ (n := n) (j := 1) hC hX rfl (by omega) hL dL_law_1432 ?_
  refine g_calli hC (r_V hC (As := [.int (xs (n + 1))]) (c_X11_count _ Γ ax (xs (n + 1)) M M1 r1 e1) yk_X11_count lk_L_156 o1 ⟨_, rfl, rfl⟩ rfl rfl (Nat.le_of_ble_eq_true rfl) hRm ⟨(Nat.le_of_ble_eq_true rfl), (Nat.le_of_ble_eq_true rfl)⟩ ⟨(by omega), (by omega)⟩ dL_law_1433) ?_
  refine g_aload_n hC 2 dL_law_1436 rfl ?_
  refine g_aload_n hC 4 dL_law_1437 rfl ?_
  refine g_iload hC 0 dL_law_1438 rfl ?_
  refine g_iconst hC 1 dL_law_1440 (by decide) ?_
  refine g_iadd hC dL_law_1441 ?_
  refine g_sldJ (n := n) (j := 1) hC hX rfl (by omega) hL dL_law_1442 ?_
  refine g_calli hC (r_V hC (As := [.int (xs (n + 1))]) (c_X12_count _ Γ am (xs (n + 1)) M1 M2 r1 e2) yk_X12_count lk_L_159 o2 ⟨_, rfl, rfl⟩ rfl rfl (Nat.le_of_ble_eq_true rfl) hRm ⟨(Nat.le_of_ble_eq_true rfl), (Nat.le_of_ble_eq_true rfl)⟩ ⟨(by omega), (by omega)⟩ dL_law_1443) ?_
  refine g_icmp_eq hC 1788 dL_law_1446 (by decide) (fun _ => ?_) (fun cf => absurd rfl cf)
  exact kk M2 hR2

set_option maxHeartbeats 1000000 in
theorem law_31 {R : Mm → Prop} (hC : Cx Γ X cL_law RL (some .boolean) 8) (hX : Scr Γ X b L xs) (hL : L ≤ 3584) (hnL : n + 7 ≤ L) (hSt : X.2.1.stackTraces = false) (hRm : X.2.2.2.1 = ({ frames := 2048, cells := 601024, slots := 7293034, locals := 84000 } : Room)) (hop : Op_31 R ax am) (hR0 : R M) (hcs : cells + 0 ≤ 601024 ∧ slots + 0 ≤ 7293034) (kk : ∀ M2 : Mm, R M2 → G Γ X 8 M2 (cells + 0) (slots + 0) Q 1788 ([(4, .int (Int32.ofNat n)), (3, .ref ao), (2, .ref am), (1, .ref ax), (0, .ref b)]) []) : G Γ X 8 M cells slots Q 1451 ([(4, .int (Int32.ofNat n)), (3, .ref ao), (2, .ref am), (1, .ref ax), (0, .ref b)]) [] := by
  obtain ⟨r1, M1, M2, o1, e1, o2, e2, hR2⟩ := hop M (xs (n + 1)) (xs (n + 2)) (xs (n + 3)) hR0
  refine g_aload_n hC 3 dL_law_1451 rfl ?_
  refine g_aload_n hC 4 dL_law_1452 rfl ?_
  refine g_iload hC 0 dL_law_1453 rfl ?_
  refine g_iconst hC 1 dL_law_1455 (by decide) ?_
  refine g_iadd hC dL_law_1456 ?_
  refine g_sldJ (n := n) (j := 1) hC hX rfl (by omega) hL dL_law_1457 ?_
  refine g_aload_n hC 4 dL_law_1458 rfl ?_
  refine g_iload hC 0 dL_law_1459 rfl ?_
  refine g_iconst hC 2 dL_law_1461 (by decide) ?_
  refine g_iadd hC dL_law_1462 ?_
  refine g_sldJ (n := n) (j := 2) hC hX rfl (by omega) hL dL_law_1463 ?_
  refine g_aload_n hC 4 dL_law_1464 rfl ?_
  refine g_iload hC 0 dL_law_1465 rfl ?_
  refine g_iconst hC 3 dL_law_1467 (by decide) ?_
  refine g_iadd hC dL_law_1468 ?_
  refine g_sldJ (n := n) (j := 3) hC hX rfl (by omega) hL dL_law_1469 ?_
  refine g_calli hC (r_V hC (As := [.int (xs (n + 1)), .int (xs (n + 2)), .int (xs (n + 3))]) (c_X11_keep _ Γ ax (xs (n + 1)) (xs (n + 2)) (xs (n + 3)) M M1 r1 e1) yk_X11_keep lk_L_160 o1 ⟨_, rfl, rfl⟩ rfl rfl (Nat.le_of_ble_eq_true rfl) hRm ⟨(Nat.le_of_ble_eq_true rfl), (Nat.le_of_ble_eq_true rfl)⟩ ⟨(by omega), (by omega)⟩ dL_law_1470) ?_
  refine g_aload_n hC 2 dL_law_1473 rfl ?_
  refine g_aload_n hC 4 dL_law_1474 rfl ?_
  refine g_iload hC 0 dL_law_1475 rfl ?_
  refine g_iconst hC 1 dL_law_1477 (by decide) ?_
  refine g_iadd hC dL_law_1478 ?_
  refine g_sldJ (n := n) (j := 1) hC hX rfl (by omega) hL dL_law_1479 ?_
  refine g_aload_n hC 4 dL_law_1480 rfl ?_
  refine g_iload hC 0 dL_law_1481 rfl ?_
  refine g_iconst hC 2 dL_law_1483 (by decide) ?_
  refine g_iadd hC dL_law_1484 ?_
  refine g_sldJ (n := n) (j := 2) hC hX rfl (by omega) hL dL_law_1485 ?_
  refine g_aload_n hC 4 dL_law_1486 rfl ?_
  refine g_iload hC 0 dL_law_1487 rfl ?_
  refine g_iconst hC 3 dL_law_1489 (by decide) ?_
  refine g_iadd hC dL_law_1490 ?_
  refine g_sldJ (n := n) (j := 3) hC hX rfl (by omega) hL dL_law_1491 ?_
  refine g_calli hC (r_V hC (As := [.int (xs (n + 1)), .int (xs (n + 2)), .int (xs (n + 3))]) (c_X12_keep _ Γ am (xs (n + 1)) (xs (n + 2)) (xs (n + 3)) M1 M2 r1 e2) yk_X12_keep lk_L_164 o2 ⟨_, rfl, rfl⟩ rfl rfl (Nat.le_of_ble_eq_true rfl) hRm ⟨(Nat.le_of_ble_eq_true rfl), (Nat.le_of_ble_eq_true rfl)⟩ ⟨(by omega), (by omega)⟩ dL_law_1492) ?_
  refine g_icmp_eq hC 1788 dL_law_1495 (by decide) (fun _ => ?_) (fun cf => absurd rfl cf)
  exact kk M2 hR2

set_option maxHeartbeats 1000000 in
theorem law_32 {R : Mm → Prop} (hC : Cx Γ X cL_law RL (some .boolean) 8) (hX : Scr Γ X b L xs) (hL : L ≤ 3584) (hnL : n + 7 ≤ L) (hSt : X.2.1.stackTraces = false) (hRm : X.2.2.2.1 = ({ frames := 2048, cells := 601024, slots := 7293034, locals := 84000 } : Room)) (hop : Op_32 R ax am) (hR0 : R M) (hcs : cells + 0 ≤ 601024 ∧ slots + 0 ≤ 7293034) (kk : ∀ M2 : Mm, R M2 → G Γ X 8 M2 (cells + 0) (slots + 0) Q 1788 ([(4, .int (Int32.ofNat n)), (3, .ref ao), (2, .ref am), (1, .ref ax), (0, .ref b)]) []) : G Γ X 8 M cells slots Q 1500 ([(4, .int (Int32.ofNat n)), (3, .ref ao), (2, .ref am), (1, .ref ax), (0, .ref b)]) [] := by
  obtain ⟨r1, M1, M2, o1, e1, o2, e2, hR2⟩ := hop M (xs (n + 1)) (xs (n + 2)) (xs (n + 3)) hR0
  refine g_aload_n hC 3 dL_law_1500 rfl ?_
  refine g_aload_n hC 4 dL_law_1501 rfl ?_
  refine g_iload hC 0 dL_law_1502 rfl ?_
  refine g_iconst hC 1 dL_law_1504 (by decide) ?_
  refine g_iadd hC dL_law_1505 ?_
  refine g_sldJ (n := n) (j := 1) hC hX rfl (by omega) hL dL_law_1506 ?_
  refine g_aload_n hC 4 dL_law_1507 rfl ?_
  refine g_iload hC 0 dL_law_1508 rfl ?_
  refine g_iconst hC 2 dL_law_1510 (by decide) ?_
  refine g_iadd hC dL_law_1511 ?_
  refine g_sldJ (n := n) (j := 2) hC hX rfl (by omega) hL dL_law_1512 ?_
  refine g_aload_n hC 4 dL_law_1513 rfl ?_
  refine g_iload hC 0 dL_law_1514 rfl ?_
  refine g_iconst hC 3 dL_law_1516 (by decide) ?_
  refine g_iadd hC dL_law_1517 ?_
  refine g_sldJ (n := n) (j := 3) hC hX rfl (by omega) hL dL_law_1518 ?_
  refine g_calli hC (r_V hC (As := [.int (xs (n + 1)), .int (xs (n + 2)), .int (xs (n + 3))]) (c_X11_row _ Γ ax (xs (n + 1)) (xs (n + 2)) (xs (n + 3)) M M1 r1 e1) yk_X11_row lk_L_165 o1 ⟨_, rfl, rfl⟩ rfl rfl (Nat.le_of_ble_eq_true rfl) hRm ⟨(Nat.le_of_ble_eq_true rfl), (Nat.le_of_ble_eq_true rfl)⟩ ⟨(by omega), (by omega)⟩ dL_law_1519) ?_
  refine g_aload_n hC 2 dL_law_1522 rfl ?_
  refine g_aload_n hC 4 dL_law_1523 rfl ?_
  refine g_iload hC 0 dL_law_1524 rfl ?_
  refine g_iconst hC 1 dL_law_1526 (by decide) ?_
  refine g_iadd hC dL_law_1527 ?_
  refine g_sldJ (n := n) (j := 1) hC hX rfl (by omega) hL dL_law_1528 ?_
  refine g_aload_n hC 4 dL_law_1529 rfl ?_
  refine g_iload hC 0 dL_law_1530 rfl ?_
  refine g_iconst hC 2 dL_law_1532 (by decide) ?_
  refine g_iadd hC dL_law_1533 ?_
  refine g_sldJ (n := n) (j := 2) hC hX rfl (by omega) hL dL_law_1534 ?_
  refine g_aload_n hC 4 dL_law_1535 rfl ?_
  refine g_iload hC 0 dL_law_1536 rfl ?_
  refine g_iconst hC 3 dL_law_1538 (by decide) ?_
  refine g_iadd hC dL_law_1539 ?_
  refine g_sldJ (n := n) (j := 3) hC hX rfl (by omega) hL dL_law_1540 ?_
  refine g_calli hC (r_V hC (As := [.int (xs (n + 1)), .int (xs (n + 2)), .int (xs (n + 3))]) (c_X12_row _ Γ am (xs (n + 1)) (xs (n + 2)) (xs (n + 3)) M1 M2 r1 e2) yk_X12_row lk_L_168 o2 ⟨_, rfl, rfl⟩ rfl rfl (Nat.le_of_ble_eq_true rfl) hRm ⟨(Nat.le_of_ble_eq_true rfl), (Nat.le_of_ble_eq_true rfl)⟩ ⟨(by omega), (by omega)⟩ dL_law_1541) ?_
  refine g_icmp_eq hC 1788 dL_law_1544 (by decide) (fun _ => ?_) (fun cf => absurd rfl cf)
  exact kk M2 hR2

set_option maxHeartbeats 1000000 in
theorem law_33 {R : Mm → Prop} (hC : Cx Γ X cL_law RL (some .boolean) 8) (hX : Scr Γ X b L xs) (hL : L ≤ 3584) (hnL : n + 7 ≤ L) (hSt : X.2.1.stackTraces = false) (hRm : X.2.2.2.1 = ({ frames := 2048, cells := 601024, slots := 7293034, locals := 84000 } : Room)) (hop : Op_33 R ax am) (hR0 : R M) (hcs : cells + 0 ≤ 601024 ∧ slots + 0 ≤ 7293034) (kk : ∀ M2 : Mm, R M2 → G Γ X 8 M2 (cells + 0) (slots + 0) Q 1788 ([(4, .int (Int32.ofNat n)), (3, .ref ao), (2, .ref am), (1, .ref ax), (0, .ref b)]) []) : G Γ X 8 M cells slots Q 1549 ([(4, .int (Int32.ofNat n)), (3, .ref ao), (2, .ref am), (1, .ref ax), (0, .ref b)]) [] := by
  obtain ⟨r1, M1, M2, o1, e1, o2, e2, hR2⟩ := hop M (xs (n + 1)) (xs (n + 2)) (xs (n + 3)) hR0
  refine g_aload_n hC 3 dL_law_1549 rfl ?_
  refine g_aload_n hC 4 dL_law_1550 rfl ?_
  refine g_iload hC 0 dL_law_1551 rfl ?_
  refine g_iconst hC 1 dL_law_1553 (by decide) ?_
  refine g_iadd hC dL_law_1554 ?_
  refine g_sldJ (n := n) (j := 1) hC hX rfl (by omega) hL dL_law_1555 ?_
  refine g_aload_n hC 4 dL_law_1556 rfl ?_
  refine g_iload hC 0 dL_law_1557 rfl ?_
  refine g_iconst hC 2 dL_law_1559 (by decide) ?_
  refine g_iadd hC dL_law_1560 ?_
  refine g_sldJ (n := n) (j := 2) hC hX rfl (by omega) hL dL_law_1561 ?_
  refine g_aload_n hC 4 dL_law_1562 rfl ?_
  refine g_iload hC 0 dL_law_1563 rfl ?_
  refine g_iconst hC 3 dL_law_1565 (by decide) ?_
  refine g_iadd hC dL_law_1566 ?_
  refine g_sldJ (n := n) (j := 3) hC hX rfl (by omega) hL dL_law_1567 ?_
  refine g_calli hC (r_V hC (As := [.int (xs (n + 1)), .int (xs (n + 2)), .int (xs (n + 3))]) (c_X11_put _ Γ ax (xs (n + 1)) (xs (n + 2)) (xs (n + 3)) M M1 r1 e1) yk_X11_put lk_L_169 o1 ⟨_, rfl, rfl⟩ rfl rfl (Nat.le_of_ble_eq_true rfl) hRm ⟨(Nat.le_of_ble_eq_true rfl), (Nat.le_of_ble_eq_true rfl)⟩ ⟨(by omega), (by omega)⟩ dL_law_1568) ?_
  refine g_aload_n hC 2 dL_law_1571 rfl ?_
  refine g_aload_n hC 4 dL_law_1572 rfl ?_
  refine g_iload hC 0 dL_law_1573 rfl ?_
  refine g_iconst hC 1 dL_law_1575 (by decide) ?_
  refine g_iadd hC dL_law_1576 ?_
  refine g_sldJ (n := n) (j := 1) hC hX rfl (by omega) hL dL_law_1577 ?_
  refine g_aload_n hC 4 dL_law_1578 rfl ?_
  refine g_iload hC 0 dL_law_1579 rfl ?_
  refine g_iconst hC 2 dL_law_1581 (by decide) ?_
  refine g_iadd hC dL_law_1582 ?_
  refine g_sldJ (n := n) (j := 2) hC hX rfl (by omega) hL dL_law_1583 ?_
  refine g_aload_n hC 4 dL_law_1584 rfl ?_
  refine g_iload hC 0 dL_law_1585 rfl ?_
  refine g_iconst hC 3 dL_law_1587 (by decide) ?_
  refine g_iadd hC dL_law_1588 ?_
  refine g_sldJ (n := n) (j := 3) hC hX rfl (by omega) hL dL_law_1589 ?_
  refine g_calli hC (r_V hC (As := [.int (xs (n + 1)), .int (xs (n + 2)), .int (xs (n + 3))]) (c_X12_put _ Γ am (xs (n + 1)) (xs (n + 2)) (xs (n + 3)) M1 M2 r1 e2) yk_X12_put lk_L_172 o2 ⟨_, rfl, rfl⟩ rfl rfl (Nat.le_of_ble_eq_true rfl) hRm ⟨(Nat.le_of_ble_eq_true rfl), (Nat.le_of_ble_eq_true rfl)⟩ ⟨(by omega), (by omega)⟩ dL_law_1590) ?_
  refine g_icmp_eq hC 1788 dL_law_1593 (by decide) (fun _ => ?_) (fun cf => absurd rfl cf)
  exact kk M2 hR2

set_option maxHeartbeats 1000000 in
theorem law_34 {R : Mm → Prop} (hC : Cx Γ X cL_law RL (some .boolean) 8) (hX : Scr Γ X b L xs) (hL : L ≤ 3584) (hnL : n + 7 ≤ L) (hSt : X.2.1.stackTraces = false) (hRm : X.2.2.2.1 = ({ frames := 2048, cells := 601024, slots := 7293034, locals := 84000 } : Room)) (hop : Op_34 R ax am ao) (hR0 : R M) (hcs : cells + 1 ≤ 601024 ∧ slots + 6 ≤ 7293034) (kk : ∀ M2 : Mm, R M2 → G Γ X 8 M2 (cells + 1) (slots + 6) Q 1788 ([(4, .int (Int32.ofNat n)), (3, .ref ao), (2, .ref am), (1, .ref ax), (0, .ref b)]) []) : G Γ X 8 M cells slots Q 1598 ([(4, .int (Int32.ofNat n)), (3, .ref ao), (2, .ref am), (1, .ref ax), (0, .ref b)]) [] := by
  obtain ⟨r1, M1, e1, hop2⟩ := hop M (xs (n + 1)) (xs (n + 2)) hR0
  refine g_aload_n hC 3 dL_law_1598 rfl ?_
  refine g_aload_n hC 4 dL_law_1599 rfl ?_
  refine g_iload hC 0 dL_law_1600 rfl ?_
  refine g_iconst hC 1 dL_law_1602 (by decide) ?_
  refine g_iadd hC dL_law_1603 ?_
  refine g_sldJ (n := n) (j := 1) hC hX rfl (by omega) hL dL_law_1604 ?_
  refine g_aload_n hC 4 dL_law_1605 rfl ?_
  refine g_iload hC 0 dL_law_1606 rfl ?_
  refine g_iconst hC 2 dL_law_1608 (by decide) ?_
  refine g_iadd hC dL_law_1609 ?_
  refine g_sldJ (n := n) (j := 2) hC hX rfl (by omega) hL dL_law_1610 ?_
  refine g_aload_n hC 1 dL_law_1611 rfl ?_
  refine g_calliX hC (rx_SH hC (As := [.ref ax, .int (xs (n + 1)), .int (xs (n + 2)), .ref ao]) (c_L_element _ hSt Γ ax (xs (n + 1)) (xs (n + 2)) ao M M1 r1 e1) yh_L_element lk_L_173 rfl rfl (Nat.le_of_ble_eq_true rfl) hRm ⟨(Nat.le_of_ble_eq_true rfl), (Nat.le_of_ble_eq_true rfl)⟩ ⟨(by omega), (by omega)⟩ dL_law_1612) (fun j => ?_)
  obtain ⟨v, M2, M3, o2, e2, o3, e3, hR3, hv⟩ := hop2 j
  refine g_istore hC ([(5, .int r1), (4, .int (Int32.ofNat n)), (3, .ref ao), (2, .ref am), (1, .ref ax), (0, .ref b)]) dL_law_1615 (by decide) rfl ?_
  refine g_aload_n hC 3 dL_law_1617 rfl ?_
  refine g_aload_n hC 5 dL_law_1618 rfl ?_
  refine g_iload hC 1 dL_law_1619 rfl ?_
  refine g_iconst hC 1 dL_law_1621 (by decide) ?_
  refine g_iadd hC dL_law_1622 ?_
  refine g_sldJ (n := n) (j := 1) hC hX rfl (by omega) hL dL_law_1623 ?_
  refine g_aload_n hC 5 dL_law_1624 rfl ?_
  refine g_iload hC 1 dL_law_1625 rfl ?_
  refine g_iconst hC 2 dL_law_1627 (by decide) ?_
  refine g_iadd hC dL_law_1628 ?_
  refine g_sldJ (n := n) (j := 2) hC hX rfl (by omega) hL dL_law_1629 ?_
  refine g_calll hC (r_V hC (As := [.int (xs (n + 1)), .int (xs (n + 2))]) (c_X12_element _ Γ am (xs (n + 1)) (xs (n + 2)) (jk M1 j) M2 v e2) yk_X12_element lk_L_176 o2 ⟨_, rfl, rfl⟩ rfl rfl (Nat.le_of_ble_eq_true rfl) hRm ⟨(Nat.le_of_ble_eq_true rfl), (Nat.le_of_ble_eq_true rfl)⟩ ⟨(by omega), (by omega)⟩ dL_law_1630) ?_
  refine g_lstore hC ([(6, .long v), (5, .int r1), (4, .int (Int32.ofNat n)), (3, .ref ao), (2, .ref am), (1, .ref ax), (0, .ref b)]) dL_law_1633 (by decide) rfl ?_
  refine g_aload_n hC 4 dL_law_1635 rfl ?_
  refine g_calli hC (r_V hC (As := []) (c_X12_thrown _ Γ am M2 M3 r1 e3) yk_X12_thrown lk_L_112 o3 ⟨_, rfl, rfl⟩ rfl rfl (Nat.le_of_ble_eq_true rfl) hRm ⟨(Nat.le_of_ble_eq_true rfl), (Nat.le_of_ble_eq_true rfl)⟩ ⟨(by omega), (by omega)⟩ dL_law_1636) ?_
  refine g_iload hC 1 dL_law_1639 rfl ?_
  refine g_icmp_eq hC 1646 dL_law_1641 (by decide) (fun _ => ?_) (fun cf => absurd rfl cf)
  refine g_iload hC 1 dL_law_1646 rfl ?_
  refine g_if_ne hC 1662 dL_law_1648 (by decide) (fun cz => ?_) (fun cz => ?_)
  · refine g_goto hC 1788 dL_law_1662 (by decide) ?_
    exact g_drop (by simp) (kk M3 hR3)
  · refine g_aload_n hC 3 dL_law_1651 rfl ?_
    refine g_iconst hC 0 dL_law_1652 (by decide) ?_
    refine g_lald hC (hv cz) dL_law_1653 ?_
    refine g_lload hC 0 dL_law_1654 rfl ?_
    refine g_lcmp hC dL_law_1656 ?_
    refine g_if_eq hC 1662 dL_law_1657 (by decide) (fun _ => ?_) (fun cf => absurd (lcmp_self v) cf)
    refine g_goto hC 1788 dL_law_1662 (by decide) ?_
    exact g_drop (by simp) (kk M3 hR3)

set_option maxHeartbeats 1000000 in
theorem law_35 {R : Mm → Prop} (hC : Cx Γ X cL_law RL (some .boolean) 8) (hX : Scr Γ X b L xs) (hL : L ≤ 3584) (hnL : n + 7 ≤ L) (hSt : X.2.1.stackTraces = false) (hRm : X.2.2.2.1 = ({ frames := 2048, cells := 601024, slots := 7293034, locals := 84000 } : Room)) (hop : Op_35 R ax am) (hR0 : R M) (hcs : cells + 0 ≤ 601024 ∧ slots + 0 ≤ 7293034) (kk : ∀ M2 : Mm, R M2 → G Γ X 8 M2 (cells + 0) (slots + 0) Q 1788 ([(4, .int (Int32.ofNat n)), (3, .ref ao), (2, .ref am), (1, .ref ax), (0, .ref b)]) []) : G Γ X 8 M cells slots Q 1665 ([(4, .int (Int32.ofNat n)), (3, .ref ao), (2, .ref am), (1, .ref ax), (0, .ref b)]) [] := by
  obtain ⟨r1, M1, M2, o1, e1, o2, e2, hR2⟩ := hop M (xs (n + 1)) (xs (n + 2)) (xs (n + 3)) (xs (n + 4)) (xs (n + 5)) hR0
  refine g_aload_n hC 3 dL_law_1665 rfl ?_
  refine g_aload_n hC 4 dL_law_1666 rfl ?_
  refine g_iload hC 0 dL_law_1667 rfl ?_
  refine g_iconst hC 1 dL_law_1669 (by decide) ?_
  refine g_iadd hC dL_law_1670 ?_
  refine g_sldJ (n := n) (j := 1) hC hX rfl (by omega) hL dL_law_1671 ?_
  refine g_aload_n hC 4 dL_law_1672 rfl ?_
  refine g_iload hC 0 dL_law_1673 rfl ?_
  refine g_iconst hC 2 dL_law_1675 (by decide) ?_
  refine g_iadd hC dL_law_1676 ?_
  refine g_sldJ (n := n) (j := 2) hC hX rfl (by omega) hL dL_law_1677 ?_
  refine g_aload_n hC 4 dL_law_1678 rfl ?_
  refine g_iload hC 0 dL_law_1679 rfl ?_
  refine g_iconst hC 3 dL_law_1681 (by decide) ?_
  refine g_iadd hC dL_law_1682 ?_
  refine g_sldJ (n := n) (j := 3) hC hX rfl (by omega) hL dL_law_1683 ?_
  refine g_aload_n hC 4 dL_law_1684 rfl ?_
  refine g_iload hC 0 dL_law_1685 rfl ?_
  refine g_iconst hC 4 dL_law_1687 (by decide) ?_
  refine g_iadd hC dL_law_1688 ?_
  refine g_sldJ (n := n) (j := 4) hC hX rfl (by omega) hL dL_law_1689 ?_
  refine g_aload_n hC 4 dL_law_1690 rfl ?_
  refine g_iload hC 0 dL_law_1691 rfl ?_
  refine g_iconst hC 5 dL_law_1693 (by decide) ?_
  refine g_iadd hC dL_law_1694 ?_
  refine g_sldJ (n := n) (j := 5) hC hX rfl (by omega) hL dL_law_1695 ?_
  refine g_calli hC (r_V hC (As := [.int (xs (n + 1)), .int (xs (n + 2)), .int (xs (n + 3)), .int (xs (n + 4)), .int (xs (n + 5))]) (c_X11_copy _ Γ ax (xs (n + 1)) (xs (n + 2)) (xs (n + 3)) (xs (n + 4)) (xs (n + 5)) M M1 r1 e1) yk_X11_copy lk_L_177 o1 ⟨_, rfl, rfl⟩ rfl rfl (Nat.le_of_ble_eq_true rfl) hRm ⟨(Nat.le_of_ble_eq_true rfl), (Nat.le_of_ble_eq_true rfl)⟩ ⟨(by omega), (by omega)⟩ dL_law_1696) ?_
  refine g_aload_n hC 2 dL_law_1699 rfl ?_
  refine g_aload_n hC 4 dL_law_1700 rfl ?_
  refine g_iload hC 0 dL_law_1701 rfl ?_
  refine g_iconst hC 1 dL_law_1703 (by decide) ?_
  refine g_iadd hC dL_law_1704 ?_
  refine g_sldJ (n := n) (j := 1) hC hX rfl (by omega) hL dL_law_1705 ?_
  refine g_aload_n hC 4 dL_law_1706 rfl ?_
  refine g_iload hC 0 dL_law_1707 rfl ?_
  refine g_iconst hC 2 dL_law_1709 (by decide) ?_
  refine g_iadd hC dL_law_1710 ?_
  refine g_sldJ (n := n) (j := 2) hC hX rfl (by omega) hL dL_law_1711 ?_
  refine g_aload_n hC 4 dL_law_1712 rfl ?_
  refine g_iload hC 0 dL_law_1713 rfl ?_
  refine g_iconst hC 3 dL_law_1715 (by decide) ?_
  refine g_iadd hC dL_law_1716 ?_
  refine g_sldJ (n := n) (j := 3) hC hX rfl (by omega) hL dL_law_1717 ?_
  refine g_aload_n hC 4 dL_law_1718 rfl ?_
  refine g_iload hC 0 dL_law_1719 rfl ?_
  refine g_iconst hC 4 dL_law_1721 (by decide) ?_
  refine g_iadd hC dL_law_1722 ?_
  refine g_sldJ (n := n) (j := 4) hC hX rfl (by omega) hL dL_law_1723 ?_
  refine g_aload_n hC 4 dL_law_1724 rfl ?_
  refine g_iload hC 0 dL_law_1725 rfl ?_
  refine g_iconst hC 5 dL_law_1727 (by decide) ?_
  refine g_iadd hC dL_law_1728 ?_
  refine g_sldJ (n := n) (j := 5) hC hX rfl (by omega) hL dL_law_1729 ?_
  refine g_calli hC (r_V hC (As := [.int (xs (n + 1)), .int (xs (n + 2)), .int (xs (n + 3)), .int (xs (n + 4)), .int (xs (n + 5))]) (c_X12_copy _ Γ am (xs (n + 1)) (xs (n + 2)) (xs (n + 3)) (xs (n + 4)) (xs (n + 5)) M1 M2 r1 e2) yk_X12_copy lk_L_181 o2 ⟨_, rfl, rfl⟩ rfl rfl (Nat.le_of_ble_eq_true rfl) hRm ⟨(Nat.le_of_ble_eq_true rfl), (Nat.le_of_ble_eq_true rfl)⟩ ⟨(by omega), (by omega)⟩ dL_law_1730) ?_
  refine g_icmp_eq hC 1788 dL_law_1733 (by decide) (fun _ => ?_) (fun cf => absurd rfl cf)
  exact kk M2 hR2

set_option maxHeartbeats 1000000 in
theorem law_36 {R : Mm → Prop} (hC : Cx Γ X cL_law RL (some .boolean) 8) (hX : Scr Γ X b L xs) (hL : L ≤ 3584) (hnL : n + 7 ≤ L) (hSt : X.2.1.stackTraces = false) (hRm : X.2.2.2.1 = ({ frames := 2048, cells := 601024, slots := 7293034, locals := 84000 } : Room)) (hop : Op_36 R ax am) (hR0 : R M) (hcs : cells + 0 ≤ 601024 ∧ slots + 0 ≤ 7293034) (kk : ∀ M2 : Mm, R M2 → G Γ X 8 M2 (cells + 0) (slots + 0) Q 1788 ([(4, .int (Int32.ofNat n)), (3, .ref ao), (2, .ref am), (1, .ref ax), (0, .ref b)]) []) : G Γ X 8 M cells slots Q 1738 ([(4, .int (Int32.ofNat n)), (3, .ref ao), (2, .ref am), (1, .ref ax), (0, .ref b)]) [] := by
  obtain ⟨r1, M1, M2, o1, e1, o2, e2, hR2⟩ := hop M (xs (n + 1)) hR0
  refine g_aload_n hC 3 dL_law_1738 rfl ?_
  refine g_aload_n hC 4 dL_law_1739 rfl ?_
  refine g_iload hC 0 dL_law_1740 rfl ?_
  refine g_iconst hC 1 dL_law_1742 (by decide) ?_
  refine g_iadd hC dL_law_1743 ?_
  refine g_sldJ (n := n) (j := 1) hC hX rfl (by omega) hL dL_law_1744 ?_
  refine g_calli hC (r_V hC (As := [.int (xs (n + 1))]) (c_X11_sum _ Γ ax (xs (n + 1)) M M1 r1 e1) yk_X11_sum lk_L_182 o1 ⟨_, rfl, rfl⟩ rfl rfl (Nat.le_of_ble_eq_true rfl) hRm ⟨(Nat.le_of_ble_eq_true rfl), (Nat.le_of_ble_eq_true rfl)⟩ ⟨(by omega), (by omega)⟩ dL_law_1745) ?_
  refine g_aload_n hC 2 dL_law_1748 rfl ?_
  refine g_aload_n hC 4 dL_law_1749 rfl ?_
  refine g_iload hC 0 dL_law_1750 rfl ?_
  refine g_iconst hC 1 dL_law_1752 (by decide) ?_
  refine g_iadd hC dL_law_1753 ?_
  refine g_sldJ (n := n) (j := 1) hC hX rfl (by omega) hL dL_law_1754 ?_
  refine g_calli hC (r_V hC (As := [.int (xs (n + 1))]) (c_X12_sum _ Γ am (xs (n + 1)) M1 M2 r1 e2) yk_X12_sum lk_L_185 o2 ⟨_, rfl, rfl⟩ rfl rfl (Nat.le_of_ble_eq_true rfl) hRm ⟨(Nat.le_of_ble_eq_true rfl), (Nat.le_of_ble_eq_true rfl)⟩ ⟨(by omega), (by omega)⟩ dL_law_1755) ?_
  refine g_icmp_eq hC 1788 dL_law_1758 (by decide) (fun _ => ?_) (fun cf => absurd rfl cf)
  exact kk M2 hR2

set_option maxHeartbeats 1000000 in
theorem law_37 {R : Mm → Prop} (hC : Cx Γ X cL_law RL (some .boolean) 8) (hX : Scr Γ X b L xs) (hL : L ≤ 3584) (hnL : n + 7 ≤ L) (hSt : X.2.1.stackTraces = false) (hRm : X.2.2.2.1 = ({ frames := 2048, cells := 601024, slots := 7293034, locals := 84000 } : Room)) (hop : Op_37 R ax am) (hR0 : R M) (hcs : cells + 1 ≤ 601024 ∧ slots + 6 ≤ 7293034) (kk : ∀ M2 : Mm, R M2 → G Γ X 8 M2 (cells + 1) (slots + 6) Q 1788 ([(4, .int (Int32.ofNat n)), (3, .ref ao), (2, .ref am), (1, .ref ax), (0, .ref b)]) []) : G Γ X 8 M cells slots Q 1763 ([(4, .int (Int32.ofNat n)), (3, .ref ao), (2, .ref am), (1, .ref ax), (0, .ref b)]) [] := by
  obtain ⟨r1, M1, o1, e1, hop2⟩ := hop M (xs (n + 1)) hR0
  refine g_aload_n hC 3 dL_law_1763 rfl ?_
  refine g_aload_n hC 4 dL_law_1764 rfl ?_
  refine g_iload hC 0 dL_law_1765 rfl ?_
  refine g_iconst hC 1 dL_law_1767 (by decide) ?_
  refine g_iadd hC dL_law_1768 ?_
  refine g_sldJ (n := n) (j := 1) hC hX rfl (by omega) hL dL_law_1769 ?_
  refine g_calliX hC (rx_VH hC (As := [.int (xs (n + 1))]) (c_X11_toss _ hSt Γ ax (xs (n + 1)) M M1 r1 e1) yh_X11_toss lk_L_186 o1 ⟨_, rfl, rfl⟩ rfl rfl (Nat.le_of_ble_eq_true rfl) hRm ⟨(Nat.le_of_ble_eq_true rfl), (Nat.le_of_ble_eq_true rfl)⟩ ⟨(by omega), (by omega)⟩ dL_law_1770) (fun j => ?_)
  obtain ⟨M2, o2, e2, hR2⟩ := hop2 j
  refine g_aload_n hC 2 dL_law_1773 rfl ?_
  refine g_aload_n hC 4 dL_law_1774 rfl ?_
  refine g_iload hC 0 dL_law_1775 rfl ?_
  refine g_iconst hC 1 dL_law_1777 (by decide) ?_
  refine g_iadd hC dL_law_1778 ?_
  refine g_sldJ (n := n) (j := 1) hC hX rfl (by omega) hL dL_law_1779 ?_
  refine g_calli hC (r_V hC (As := [.int (xs (n + 1))]) (c_X12_toss _ Γ am (xs (n + 1)) (jk M1 j) M2 r1 e2) yk_X12_toss lk_L_189 o2 ⟨_, rfl, rfl⟩ rfl rfl (Nat.le_of_ble_eq_true rfl) hRm ⟨(Nat.le_of_ble_eq_true rfl), (Nat.le_of_ble_eq_true rfl)⟩ ⟨(by omega), (by omega)⟩ dL_law_1780) ?_
  refine g_icmp_eq hC 1788 dL_law_1783 (by decide) (fun _ => ?_) (fun cf => absurd rfl cf)
  exact kk M2 hR2
end LAW
