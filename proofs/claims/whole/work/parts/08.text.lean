/-! THE TEXTS: length and charAt of the two constants, by the JDK's own bytecode -/
theorem tx_len : ∀ j, j < 2 → ([9, 3] : List Nat).getD j 0 = (tBy j).length ∧ (([tBy 0, tBy 1] : List (List Int32)).getD j []) = tBy j := by decide +kernel
theorem tx_shr : ∀ j, j < 2 → (Int32.ofNat (tBy j).length) >>> ((0 : Int32) &&& 31) = Int32.ofNat (tBy j).length := by decide +kernel
theorem tx_chr : ∀ j, j < 2 → ∀ k, k < (tBy j).length → ((((tBy j).getD k 0) &&& 255).toUInt32 % 65536).toInt32 = (tBy j).getD k 0 ∧ narrow .char (.int ((tBy j).getD k 0)) = .int ((tBy j).getD k 0) := by decide +kernel
theorem tx_sz : ∀ j, j < 2 → (tBy j).length < 2 ^ 31 := by decide +kernel
section TEXTROWS
variable {Γ : Gm} {X : Ct} {cc : ByteArray} {own : String} {ret : Option FieldType} {nL : Nat} {M : Mm} {cells slots : Nat} {Q : State → Prop} {pc : Nat} {lv : List (Nat × Value)} {st : List Value}
theorem Cx.tx (hC : Cx Γ X cc own ret nL) : TxOK Γ X.2.2.2.2.1 X.2.2.2.2.1.heap := hC.2.2.2.2.2.2.2.1.2.2.1
theorem Cx.tT (hC : Cx Γ X cc own ret nL) {j : Nat} (hj : j < 2) : va_T .byte (Γ.2.2.2.1.2 j) (tBy j).length (fun k => .int ((tBy j).getD k 0)) (fr Γ) X.2.2.2.2.1 X.2.2.2.2.1.heap := by
  have h := (hC.tx.1.1 j hj).2.2.2
  obtain ⟨e1, e2⟩ := tx_len j hj
  rw [e1, e2] at h
  exact h
theorem g_nret (hC : Cx Γ X cc own ret nL) {ty : FieldType} (hr : ret = some ty) {v r : Int32} {M' : Mm} {mc ms : Nat} (hz : narrow ty (.int v) = .int v) (h : some (v, M) = some (r, M')) (hc : cells ≤ mc ∧ slots ≤ ms) (hdg : decode cc pc = .ok (.ireturn, 1)) : G Γ X nL M cells slots (Fin Γ X (Qi Γ r M') mc ms) pc lv [.int v] := by
  cases h
  subst hr
  exact fun H locs ls hS hv hl => W.widen hc.1 hc.2 (W.zret hC.1 hC.2.1 hC.2.2.2.2.2.1 hz (fun t ht _ => ⟨⟨v, (), rfl, rfl, by dsimp only; rw [ht]; exact hS⟩, hv.F ht⟩) hv.2.2 hdg hC.2.2.2.2.2.2.1)
theorem g_compact (hC : Cx Γ X cc "java/lang/String" ret nL) (hdg : decode cc pc = .ok (.getstatic 38, 3)) (kk : G Γ X nL M cells slots Q (pc + 3) lv (.int 1 :: st)) : G Γ X nL M cells slots Q pc lv st :=
  fun H locs ls hS hv hl => va_gets hC.1 hC.2.1 hC.tx.2.1 hv hC.2.2.2.1 (hC.hts (.fieldLink "java/lang/String" 38 "java/lang/String" "COMPACT_STRINGS" "Z") (lw_gi 817 (by decide +kernel))) (fun _ h => h) hdg (kk H locs ls hS hv hl)
theorem g_sio (hC : Cx Γ X cc "java/lang/String" ret nL) (hdg : decode cc pc = .ok (.getstatic 1053, 3)) (kk : ∀ q : Option Nat, G Γ X nL M cells slots Q (pc + 3) lv (va_rf q :: st)) : G Γ X nL M cells slots Q pc lv st := by
  rcases hC.tx.2.2.2.2 with h | ⟨t, h⟩
  · exact fun H locs ls hS hv hl => va_gets hC.1 hC.2.1 h hv hC.2.2.2.1 (hC.hts (.fieldLink "java/lang/String" 1053 "jdk/internal/util/Preconditions" "SIOOBE_FORMATTER" "Ljava/util/function/BiFunction;") (lw_gi 833 (by decide +kernel))) (fun _ h => h) hdg (kk none H locs ls hS hv hl)
  · exact fun H locs ls hS hv hl => va_gets hC.1 hC.2.1 h hv hC.2.2.2.1 (hC.hts (.fieldLink "java/lang/String" 1053 "jdk/internal/util/Preconditions" "SIOOBE_FORMATTER" "Ljava/util/function/BiFunction;") (lw_gi 833 (by decide +kernel))) (fun _ h => h) hdg (kk (some t) H locs ls hS hv hl)
theorem g_coder (hC : Cx Γ X cc "java/lang/String" ret nL) {j : Nat} (hj : j < 2) (hdg : decode cc pc = .ok (.getfield 15, 3)) (kk : G Γ X nL M cells slots Q (pc + 3) lv (.int 0 :: st)) : G Γ X nL M cells slots Q pc lv (.ref (Γ.2.2.2.1.1 j) :: st) :=
  fun H locs ls hS hv hl => vk_getf hC.1 hC.2.1 (hC.tx.1.1 j hj).2.1 hv hC.2.2.2.1 (hC.hts (.fieldLink "java/lang/String" 15 "java/lang/String" "coder" "B") (lw_gi 1797 (by decide +kernel))) (fun _ h => h) hdg (kk H locs ls hS hv hl)
theorem g_value (hC : Cx Γ X cc "java/lang/String" ret nL) {j : Nat} (hj : j < 2) (hdg : decode cc pc = .ok (.getfield 9, 3)) (kk : G Γ X nL M cells slots Q (pc + 3) lv (.ref (Γ.2.2.2.1.2 j) :: st)) : G Γ X nL M cells slots Q pc lv (.ref (Γ.2.2.2.1.1 j) :: st) :=
  fun H locs ls hS hv hl => vk_getf hC.1 hC.2.1 (hC.tx.1.1 j hj).2.2.1 hv hC.2.2.2.1 (hC.hts (.fieldLink "java/lang/String" 9 "java/lang/String" "value" "[B") (lw_gi 1796 (by decide +kernel))) (fun _ h => h) hdg (kk H locs ls hS hv hl)
theorem g_vlen (hC : Cx Γ X cc own ret nL) {j : Nat} (hj : j < 2) (hdg : decode cc pc = .ok (.arraylength, 1)) (kk : G Γ X nL M cells slots Q (pc + 1) lv (.int (Int32.ofNat (tBy j).length) :: st)) : G Γ X nL M cells slots Q pc lv (.ref (Γ.2.2.2.1.2 j) :: st) :=
  fun H locs ls hS hv hl => va_tlen hC.1 hC.2.1 (hC.tT hj) hv rfl hdg (kk H locs ls hS hv hl)
theorem g_vld (hC : Cx Γ X cc own ret nL) {j : Nat} (hj : j < 2) {i : Int32} (hi : vp_in i (tBy j).length) (hdg : decode cc pc = .ok (.baload, 1)) (kk : G Γ X nL M cells slots Q (pc + 1) lv (.int ((tBy j).getD i.toNatClampNeg 0) :: st)) : G Γ X nL M cells slots Q pc lv (.int i :: .ref (Γ.2.2.2.1.2 j) :: st) :=
  fun H locs ls hS hv hl => va_tb hC.1 hC.2.1 (hC.tT hj) hv hi rfl hdg (kk H locs ls hS hv hl)
theorem g_ishr (hC : Cx Γ X cc own ret nL) {x y : Int32} (hdg : decode cc pc = .ok (.ishr, 1)) (k : G Γ X nL M cells slots Q (pc + 1) lv (.int (x >>> (y &&& 31)) :: st)) : G Γ X nL M cells slots Q pc lv (.int y :: .int x :: st) :=
  fun H locs ls a b c => lv_ishr hC.1 hC.2.1 hdg (k H locs ls a b c)
theorem g_i2c (hC : Cx Γ X cc own ret nL) {x v : Int32} (hv : (x.toUInt32 % 65536).toInt32 = v) (hdg : decode cc pc = .ok (.i2c, 1)) (k : G Γ X nL M cells slots Q (pc + 1) lv (.int v :: st)) : G Γ X nL M cells slots Q pc lv (.int x :: st) :=
  fun H locs ls a b c => lv_i2c hC.1 hC.2.1 hdg hv (k H locs ls a b c)
/-- a call on a text -/
theorem r_VT (hC : Cx Γ X cc own ret nL) {y : MethodName} {cy : ByteArray} {nLy n idx F mc ms L Fr0 C0 S0 L0 j : Nat} {ry : Option FieldType} {As stk : List Value} {Qc : Array Value → State → Outcome → State → Prop} (hM : Met X.2.1 y (wz y cy nLy ry) ({ frames := F, cells := mc, slots := ms, locals := L } : Room) (Pq Γ M (.ref (Γ.2.2.2.1.1 j) :: As)) Qc mc ms (fr Γ))
    (hy : YOk y cy nLy ry n) (hl : Cond.methodLink own idx y ∈ lw_g ∧ Cond.instanceMethod y ∈ lw_g ∧ Cond.selects y.cls y y ∈ lw_g) (hj : j < 2) (hcl : y.cls = "java/lang/String") (hn : As.length = n) (hstk : stk = As.reverse ++ .ref (Γ.2.2.2.1.1 j) :: st) (hcat : (st.map fun v => v.category).sum ≤ 8)
    (hR : X.2.2.2.1 = ({ frames := Fr0, cells := C0, slots := S0, locals := L0 } : Room)) (hf : F + 1 ≤ Fr0 ∧ 8 + (nLy + 11) + L ≤ L0) (hc : cells + mc ≤ C0 ∧ slots + ms ≤ S0) (hdg : decode cc pc = .ok (.invokevirtual idx, 3)) : Rn Γ X M cells slots mc ms pc stk st (.ref (Γ.2.2.2.1.1 j) :: As) Qc :=
  fun H locs ls hS hv hsz => va_runV hC.fx hM ⟨hC.cb hy hl.1 hR hf, hC.hts _ hl.2.1, hC.hts _ hl.2.2⟩ ⟨Pq_blind Γ M _, by rw [hcl]; exact vk_recv hC.tx.1 hj hv, (hC.pre hS hv).2⟩ rfl hn (hsz.trans hC.2.2.1) hstk (lv_room hcat) hdg (by rw [hR]; exact hc)
end TEXTROWS
theorem yk_coder : YOk yJ0_coder_7d493 cJ0_coder_7d493 1 (some .byte) 0 := ⟨lw_gi 816 (by decide +kernel), lw_gi 92 (by decide +kernel), ⟨by decide +kernel, by decide +kernel⟩, by decide +kernel⟩
theorem yk_isLatin1 : YOk yJ0_isLatin1_aae02 cJ0_isLatin1_aae02 1 (some .boolean) 0 := ⟨lw_gi 826 (by decide +kernel), lw_gi 92 (by decide +kernel), ⟨by decide +kernel, by decide +kernel⟩, by decide +kernel⟩
theorem yk_length : YOk yJ0_length_8abf5 cJ0_length_8abf5 1 (some .int) 0 := ⟨lw_gi 812 (by decide +kernel), lw_gi 92 (by decide +kernel), ⟨by decide +kernel, by decide +kernel⟩, by decide +kernel⟩
theorem yk_charAt : YOk yJ0_charAt_5068e cJ0_charAt_5068e 2 (some .char) 1 := ⟨lw_gi 822 (by decide +kernel), lw_gi 92 (by decide +kernel), ⟨by decide +kernel, by decide +kernel⟩, by decide +kernel⟩
theorem yk_lat : YOk yJ1_charAt_3b067 cJ1_charAt_3b067 2 (some .char) 2 := ⟨lw_gi 829 (by decide +kernel), lw_gi 93 (by decide +kernel), ⟨by decide +kernel, by decide +kernel⟩, by decide +kernel⟩
theorem yk_chk0 : YOk yJ0_checkIndex_df160 cJ0_checkIndex_df160 2 none 2 := ⟨lw_gi 832 (by decide +kernel), lw_gi 92 (by decide +kernel), ⟨by decide +kernel, by decide +kernel⟩, by decide +kernel⟩
theorem yk_chk3 : YOk yJ3_checkIndex_8e157 cJ3_checkIndex_8e157 3 (some .int) 3 := ⟨lw_gi 837 (by decide +kernel), lw_gi 94 (by decide +kernel), ⟨by decide +kernel, by decide +kernel⟩, by decide +kernel⟩
theorem lk_J0_335 : Cond.methodLink RJ0 335 yJ0_coder_7d493 ∈ lw_g ∧ Cond.instanceMethod yJ0_coder_7d493 ∈ lw_g ∧ Cond.selects yJ0_coder_7d493.cls yJ0_coder_7d493 yJ0_coder_7d493 ∈ lw_g := ⟨lw_gi 813 (by decide +kernel), lw_gi 814 (by decide +kernel), lw_gi 815 (by decide +kernel)⟩
theorem lk_J0_492 : Cond.methodLink RJ0 492 yJ0_isLatin1_aae02 ∈ lw_g ∧ Cond.instanceMethod yJ0_isLatin1_aae02 ∈ lw_g ∧ Cond.selects yJ0_isLatin1_aae02.cls yJ0_isLatin1_aae02 yJ0_isLatin1_aae02 ∈ lw_g := ⟨lw_gi 823 (by decide +kernel), lw_gi 824 (by decide +kernel), lw_gi 825 (by decide +kernel)⟩
theorem lk_J0_495 : Cond.methodLink RJ0 495 yJ1_charAt_3b067 ∈ lw_g ∧ Cond.static yJ1_charAt_3b067 ∈ lw_g := ⟨lw_gi 827 (by decide +kernel), lw_gi 828 (by decide +kernel)⟩
theorem lk_J1_9 : Cond.methodLink RJ1 9 yJ0_checkIndex_df160 ∈ lw_g ∧ Cond.static yJ0_checkIndex_df160 ∈ lw_g := ⟨lw_gi 830 (by decide +kernel), lw_gi 831 (by decide +kernel)⟩
theorem lk_J0_1059 : Cond.methodLink RJ0 1059 yJ3_checkIndex_8e157 ∈ lw_g ∧ Cond.static yJ3_checkIndex_8e157 ∈ lw_g := ⟨lw_gi 835 (by decide +kernel), lw_gi 836 (by decide +kernel)⟩
theorem tk_X3_86 : Cond.methodLink RX3 86 yJ0_length_8abf5 ∈ lw_g ∧ Cond.instanceMethod yJ0_length_8abf5 ∈ lw_g ∧ Cond.selects yJ0_length_8abf5.cls yJ0_length_8abf5 yJ0_length_8abf5 ∈ lw_g := ⟨lw_gi 809 (by decide +kernel), lw_gi 810 (by decide +kernel), lw_gi 811 (by decide +kernel)⟩
theorem tk_X3_91 : Cond.methodLink RX3 91 yJ0_charAt_5068e ∈ lw_g ∧ Cond.instanceMethod yJ0_charAt_5068e ∈ lw_g ∧ Cond.selects yJ0_charAt_5068e.cls yJ0_charAt_5068e yJ0_charAt_5068e ∈ lw_g := ⟨lw_gi 819 (by decide +kernel), lw_gi 820 (by decide +kernel), lw_gi 821 (by decide +kernel)⟩
set_option maxHeartbeats 4000000 in
set_option maxRecDepth 100000 in
theorem c_coder (l : Launch) (Γ : Gm) (M : Mm) {j : Nat} (hj : j < 2) : Met l yJ0_coder_7d493 (wz yJ0_coder_7d493 cJ0_coder_7d493 1 (some .byte)) ({ frames := 0, cells := 0, slots := 0, locals := 0 } : Room) (Pq Γ M [.ref (Γ.2.2.2.1.1 j)]) (Qi Γ 0 M) 0 0 (fr Γ) := by
  refine met_of (own := RJ0) (by decide +kernel) rfl (Nat.le_of_ble_eq_true rfl) ?_
  intro X hC hR hnm hXl
  show G Γ X 1 M 0 0 _ 0 ([(0, .ref (Γ.2.2.2.1.1 j))]) []
  refine g_compact hC dJ0_coder_7d493_0 ?_
  refine g_if_eq hC 13 dJ0_coder_7d493_3 (by decide) (fun c => absurd c (by decide)) (fun c => ?_)
  refine g_aload_n hC 0 dJ0_coder_7d493_6 rfl ?_
  refine g_coder hC hj dJ0_coder_7d493_7 ?_
  refine g_goto hC 14 dJ0_coder_7d493_10 (by decide) ?_
  exact g_nret hC rfl rfl rfl ⟨(Nat.le_of_ble_eq_true rfl), (Nat.le_of_ble_eq_true rfl)⟩ dJ0_coder_7d493_14
set_option maxHeartbeats 4000000 in
set_option maxRecDepth 100000 in
theorem c_isLatin1 (l : Launch) (Γ : Gm) (M : Mm) {j : Nat} (hj : j < 2) : Met l yJ0_isLatin1_aae02 (wz yJ0_isLatin1_aae02 cJ0_isLatin1_aae02 1 (some .boolean)) ({ frames := 0, cells := 0, slots := 0, locals := 0 } : Room) (Pq Γ M [.ref (Γ.2.2.2.1.1 j)]) (Qi Γ 1 M) 0 0 (fr Γ) := by
  refine met_of (own := RJ0) (by decide +kernel) rfl (Nat.le_of_ble_eq_true rfl) ?_
  intro X hC hR hnm hXl
  show G Γ X 1 M 0 0 _ 0 ([(0, .ref (Γ.2.2.2.1.1 j))]) []
  refine g_compact hC dJ0_isLatin1_aae02_0 ?_
  refine g_if_eq hC 17 dJ0_isLatin1_aae02_3 (by decide) (fun c => absurd c (by decide)) (fun c => ?_)
  refine g_aload_n hC 0 dJ0_isLatin1_aae02_6 rfl ?_
  refine g_coder hC hj dJ0_isLatin1_aae02_7 ?_
  refine g_if_ne hC 17 dJ0_isLatin1_aae02_10 (by decide) (fun c => absurd rfl c) (fun c => ?_)
  refine g_iconst hC 1 dJ0_isLatin1_aae02_13 (by decide) ?_
  refine g_goto hC 18 dJ0_isLatin1_aae02_14 (by decide) ?_
  exact g_zret hC (by decide) rfl ⟨(Nat.le_of_ble_eq_true rfl), (Nat.le_of_ble_eq_true rfl)⟩ dJ0_isLatin1_aae02_18
set_option maxHeartbeats 4000000 in
set_option maxRecDepth 100000 in
theorem c_length (l : Launch) (Γ : Gm) (M : Mm) {j : Nat} (hj : j < 2) : Met l yJ0_length_8abf5 (wz yJ0_length_8abf5 cJ0_length_8abf5 1 (some .int)) ({ frames := 1, cells := 0, slots := 0, locals := 20 } : Room) (Pq Γ M [.ref (Γ.2.2.2.1.1 j)]) (Qi Γ (Int32.ofNat (tBy j).length) M) 0 0 (fr Γ) := by
  refine met_of (own := RJ0) (by decide +kernel) rfl (Nat.le_of_ble_eq_true rfl) ?_
  intro X hC hR hnm hXl
  show G Γ X 1 M 0 0 _ 0 ([(0, .ref (Γ.2.2.2.1.1 j))]) []
  refine g_aload_n hC 0 dJ0_length_8abf5_0 rfl ?_
  refine g_value hC hj dJ0_length_8abf5_1 ?_
  refine g_vlen hC hj dJ0_length_8abf5_4 ?_
  refine g_aload_n hC 0 dJ0_length_8abf5_5 rfl ?_
  refine g_calli hC (r_VT hC (As := []) (c_coder _ Γ M hj) yk_coder lk_J0_335 hj rfl rfl rfl (Nat.le_of_ble_eq_true rfl) hR ⟨(Nat.le_of_ble_eq_true rfl), (Nat.le_of_ble_eq_true rfl)⟩ ⟨(Nat.le_of_ble_eq_true rfl), (Nat.le_of_ble_eq_true rfl)⟩ dJ0_length_8abf5_6) ?_
  refine g_ishr hC dJ0_length_8abf5_9 ?_
  rw [tx_shr j hj]
  exact g_iret hC rfl ⟨(Nat.le_of_ble_eq_true rfl), (Nat.le_of_ble_eq_true rfl)⟩ dJ0_length_8abf5_10
set_option maxHeartbeats 4000000 in
set_option maxRecDepth 100000 in
theorem c_chk3 (l : Launch) (Γ : Gm) (M : Mm) (i n : Int32) (q : Option Nat) (h0 : ¬ i < 0) (h1 : i < n) : Met l yJ3_checkIndex_8e157 (wz yJ3_checkIndex_8e157 cJ3_checkIndex_8e157 3 (some .int)) ({ frames := 0, cells := 0, slots := 0, locals := 0 } : Room) (Pq Γ M [.int i, .int n, va_rf q]) (Qi Γ i M) 0 0 (fr Γ) := by
  refine met_of (own := RJ3) (by decide +kernel) rfl (by cases q <;> exact Nat.le_of_ble_eq_true rfl) ?_
  intro X hC hR hnm hXl
  have e : lv_args 0 [.int i, .int n, va_rf q] = [(0, .int i), (1, .int n), (2, va_rf q)] := by cases q <;> rfl
  rw [e]
  refine g_iload_n hC 0 dJ3_checkIndex_8e157_0 rfl ?_
  refine g_if_lt hC 9 dJ3_checkIndex_8e157_1 (by decide) (fun c => absurd c h0) (fun c => ?_)
  refine g_iload_n hC 0 dJ3_checkIndex_8e157_4 rfl ?_
  refine g_iload_n hC 1 dJ3_checkIndex_8e157_5 rfl ?_
  refine g_icmp_lt hC 16 dJ3_checkIndex_8e157_6 (by decide) (fun c => ?_) (fun c => absurd h1 c)
  refine g_iload_n hC 0 dJ3_checkIndex_8e157_16 rfl ?_
  exact g_iret hC rfl ⟨(Nat.le_of_ble_eq_true rfl), (Nat.le_of_ble_eq_true rfl)⟩ dJ3_checkIndex_8e157_17
set_option maxHeartbeats 4000000 in
set_option maxRecDepth 100000 in
theorem c_chk0 (l : Launch) (Γ : Gm) (M : Mm) (i n : Int32) (h0 : ¬ i < 0) (h1 : i < n) : Met l yJ0_checkIndex_df160 (wz yJ0_checkIndex_df160 cJ0_checkIndex_df160 2 none) ({ frames := 1, cells := 0, slots := 0, locals := 22 } : Room) (Pq Γ M [.int i, .int n]) (Qv Γ M) 0 0 (fr Γ) := by
  refine met_of (own := RJ0) (by decide +kernel) rfl (Nat.le_of_ble_eq_true rfl) ?_
  intro X hC hR hnm hXl
  show G Γ X 2 M 0 0 _ 0 ([(0, .int i), (1, .int n)]) []
  refine g_iload_n hC 0 dJ0_checkIndex_df160_0 rfl ?_
  refine g_iload_n hC 1 dJ0_checkIndex_df160_1 rfl ?_
  refine g_sio hC dJ0_checkIndex_df160_2 (fun q => ?_)
  refine g_calli hC (r_S hC (As := [.int i, .int n, va_rf q]) (c_chk3 _ Γ M i n q h0 h1) yk_chk3 lk_J0_1059 rfl rfl (Nat.le_of_ble_eq_true rfl) hR ⟨(Nat.le_of_ble_eq_true rfl), (Nat.le_of_ble_eq_true rfl)⟩ ⟨(Nat.le_of_ble_eq_true rfl), (Nat.le_of_ble_eq_true rfl)⟩ dJ0_checkIndex_df160_5) ?_
  refine g_pop hC dJ0_checkIndex_df160_8 rfl ?_
  exact g_vret hC rfl ⟨(Nat.le_of_ble_eq_true rfl), (Nat.le_of_ble_eq_true rfl)⟩ dJ0_checkIndex_df160_9
theorem tx_in {j : Nat} (hj : j < 2) {i : Int32} (hi : vp_in i (tBy j).length) : ¬ i < 0 ∧ i < Int32.ofNat (tBy j).length := by
  obtain ⟨k, hk, rfl⟩ := vp_in_of hi (tx_sz j hj)
  exact ⟨nI_pos (Nat.lt_trans hk (tx_sz j hj)), nI_lt hk (tx_sz j hj)⟩
set_option maxHeartbeats 4000000 in
set_option maxRecDepth 100000 in
theorem c_lat (l : Launch) (Γ : Gm) (M : Mm) {j : Nat} (hj : j < 2) (i : Int32) (hi : vp_in i (tBy j).length) : Met l yJ1_charAt_3b067 (wz yJ1_charAt_3b067 cJ1_charAt_3b067 2 (some .char)) ({ frames := 2, cells := 0, slots := 0, locals := 43 } : Room) (Pq Γ M [.ref (Γ.2.2.2.1.2 j), .int i]) (Qi Γ ((tBy j).getD i.toNatClampNeg 0) M) 0 0 (fr Γ) := by
  refine met_of (own := RJ1) (by decide +kernel) rfl (Nat.le_of_ble_eq_true rfl) ?_
  intro X hC hR hnm hXl
  show G Γ X 2 M 0 0 _ 0 ([(0, .ref (Γ.2.2.2.1.2 j)), (1, .int i)]) []
  refine g_iload_n hC 1 dJ1_charAt_3b067_0 rfl ?_
  refine g_aload_n hC 0 dJ1_charAt_3b067_1 rfl ?_
  refine g_vlen hC hj dJ1_charAt_3b067_2 ?_
  refine g_callv hC (r_S hC (As := [.int i, .int (Int32.ofNat (tBy j).length)]) (c_chk0 _ Γ M i _ (tx_in hj hi).1 (tx_in hj hi).2) yk_chk0 lk_J1_9 rfl rfl (Nat.le_of_ble_eq_true rfl) hR ⟨(Nat.le_of_ble_eq_true rfl), (Nat.le_of_ble_eq_true rfl)⟩ ⟨(Nat.le_of_ble_eq_true rfl), (Nat.le_of_ble_eq_true rfl)⟩ dJ1_charAt_3b067_3) ?_
  refine g_aload_n hC 0 dJ1_charAt_3b067_6 rfl ?_
  refine g_iload_n hC 1 dJ1_charAt_3b067_7 rfl ?_
  refine g_vld hC hj hi dJ1_charAt_3b067_8 ?_
  refine g_sipush hC 255 dJ1_charAt_3b067_9 (by decide) ?_
  refine g_iand hC dJ1_charAt_3b067_12 ?_
  refine g_i2c hC (tx_chr j hj _ (vp_lt hi)).1 dJ1_charAt_3b067_13 ?_
  exact g_nret hC rfl (tx_chr j hj _ (vp_lt hi)).2 rfl ⟨(Nat.le_of_ble_eq_true rfl), (Nat.le_of_ble_eq_true rfl)⟩ dJ1_charAt_3b067_14
set_option maxHeartbeats 4000000 in
set_option maxRecDepth 100000 in
theorem c_charAt (l : Launch) (Γ : Gm) (M : Mm) {j : Nat} (hj : j < 2) (i : Int32) (hi : vp_in i (tBy j).length) : Met l yJ0_charAt_5068e (wz yJ0_charAt_5068e cJ0_charAt_5068e 2 (some .char)) ({ frames := 3, cells := 0, slots := 0, locals := 64 } : Room) (Pq Γ M [.ref (Γ.2.2.2.1.1 j), .int i]) (Qi Γ ((tBy j).getD i.toNatClampNeg 0) M) 0 0 (fr Γ) := by
  refine met_of (own := RJ0) (by decide +kernel) rfl (Nat.le_of_ble_eq_true rfl) ?_
  intro X hC hR hnm hXl
  show G Γ X 2 M 0 0 _ 0 ([(0, .ref (Γ.2.2.2.1.1 j)), (1, .int i)]) []
  refine g_aload_n hC 0 dJ0_charAt_5068e_0 rfl ?_
  refine g_calli hC (r_VT hC (As := []) (c_isLatin1 _ Γ M hj) yk_isLatin1 lk_J0_492 hj rfl rfl rfl (Nat.le_of_ble_eq_true rfl) hR ⟨(Nat.le_of_ble_eq_true rfl), (Nat.le_of_ble_eq_true rfl)⟩ ⟨(Nat.le_of_ble_eq_true rfl), (Nat.le_of_ble_eq_true rfl)⟩ dJ0_charAt_5068e_1) ?_
  refine g_if_eq hC 16 dJ0_charAt_5068e_4 (by decide) (fun c => absurd c (by decide)) (fun c => ?_)
  refine g_aload_n hC 0 dJ0_charAt_5068e_7 rfl ?_
  refine g_value hC hj dJ0_charAt_5068e_8 ?_
  refine g_iload_n hC 1 dJ0_charAt_5068e_11 rfl ?_
  refine g_calli hC (r_S hC (As := [.ref (Γ.2.2.2.1.2 j), .int i]) (c_lat _ Γ M hj i hi) yk_lat lk_J0_495 rfl rfl (Nat.le_of_ble_eq_true rfl) hR ⟨(Nat.le_of_ble_eq_true rfl), (Nat.le_of_ble_eq_true rfl)⟩ ⟨(Nat.le_of_ble_eq_true rfl), (Nat.le_of_ble_eq_true rfl)⟩ dJ0_charAt_5068e_12) ?_
  exact g_nret hC rfl (tx_chr j hj _ (vp_lt hi)).2 rfl ⟨(Nat.le_of_ble_eq_true rfl), (Nat.le_of_ble_eq_true rfl)⟩ dJ0_charAt_5068e_15
section TEXTCALLS
variable {Γ : Gm} {X : Ct} {cc : ByteArray} {own : String} {ret : Option FieldType} {nL : Nat} {M : Mm} {cells slots : Nat} {Q : State → Prop} {pc : Nat} {lv : List (Nat × Value)} {st : List Value}
theorem txL_e {j : Nat} {v : Int32} (h : txL j = some v) : j < 2 ∧ v = Int32.ofNat (tBy j).length := by
  unfold txL at h; split at h
  · rename_i c; exact ⟨c, (Option.some.inj h).symm⟩
  · cases h
theorem txC_e {j : Nat} {i v : Int32} (h : txC j i = some v) : j < 2 ∧ vp_in i (tBy j).length ∧ v = (tBy j).getD i.toNatClampNeg 0 := by
  unfold txC at h; split at h
  · rename_i c
    unfold tChr at h; split at h
    · rename_i c2; exact ⟨c, c2, (Option.some.inj h).symm⟩
    · cases h
  · cases h
theorem g_txL (hC : Cx Γ X cc own ret nL) {idx j Fr0 C0 S0 L0 : Nat} {v : Int32} (e : txL j = some v) (hl : Cond.methodLink own idx yJ0_length_8abf5 ∈ lw_g ∧ Cond.instanceMethod yJ0_length_8abf5 ∈ lw_g ∧ Cond.selects yJ0_length_8abf5.cls yJ0_length_8abf5 yJ0_length_8abf5 ∈ lw_g) (hR : X.2.2.2.1 = ({ frames := Fr0, cells := C0, slots := S0, locals := L0 } : Room)) (hcat : (st.map fun v => v.category).sum ≤ 8) (hf : (2 ≤ Fr0 ∧ 40 ≤ L0) ∧ cells ≤ C0 ∧ slots ≤ S0) (hdg : decode cc pc = .ok (.invokevirtual idx, 3))
    (kk : G Γ X nL M cells slots Q (pc + 3) lv (.int v :: st)) : G Γ X nL M cells slots Q pc lv (.ref (Γ.2.2.2.1.1 j) :: st) := by
  obtain ⟨hj, rfl⟩ := txL_e e
  exact g_calli hC (r_VT hC (As := []) (c_length _ Γ M hj) yk_length hl hj rfl rfl rfl hcat hR ⟨hf.1.1, hf.1.2⟩ hf.2 hdg) kk
theorem g_txC (hC : Cx Γ X cc own ret nL) {idx j Fr0 C0 S0 L0 : Nat} {i v : Int32} (e : txC j i = some v) (hl : Cond.methodLink own idx yJ0_charAt_5068e ∈ lw_g ∧ Cond.instanceMethod yJ0_charAt_5068e ∈ lw_g ∧ Cond.selects yJ0_charAt_5068e.cls yJ0_charAt_5068e yJ0_charAt_5068e ∈ lw_g) (hR : X.2.2.2.1 = ({ frames := Fr0, cells := C0, slots := S0, locals := L0 } : Room)) (hcat : (st.map fun v => v.category).sum ≤ 8) (hf : (4 ≤ Fr0 ∧ 85 ≤ L0) ∧ cells ≤ C0 ∧ slots ≤ S0) (hdg : decode cc pc = .ok (.invokevirtual idx, 3))
    (kk : G Γ X nL M cells slots Q (pc + 3) lv (.int v :: st)) : G Γ X nL M cells slots Q pc lv (.int i :: .ref (Γ.2.2.2.1.1 j) :: st) := by
  obtain ⟨hj, hi, rfl⟩ := txC_e e
  exact g_calli hC (r_VT hC (As := [.int i]) (c_charAt _ Γ M hj i hi) yk_charAt hl hj rfl rfl rfl hcat hR ⟨hf.1.1, hf.1.2⟩ hf.2 hdg) kk
end TEXTCALLS
