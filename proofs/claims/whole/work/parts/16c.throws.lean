/-! calls of methods that throw, and their catching -/
/-- the machine goes on from a thrown object of class E -/
def GX (Γ : Gm) (X : Ct) (nL : Nat) (M : Mm) (cells slots : Nat) (Q : State → Prop) (pc : Nat) (lv : List (Nat × Value)) (st : List Value) (E : String) : Prop :=
  ∀ (H : Heap) (locs : List Loc) (ls : Array Slot) (ce : Cell) (q : Addr), Sim Γ M H → va_S (fr Γ) X.2.2.2.2.1.heap H locs → lv_has ls nL lv → H[q]? = some ce → ce.vm = .none → X.2.2.2.2.1.vm.findClass E = some ce.cls →
    vx_W X.1 X.2.1 X.2.2.1 X.2.2.2.1 X.2.2.2.2.1 X.2.2.2.2.2.1 X.2.2.2.2.2.2.1 X.2.2.2.2.2.2.2.1 X.2.2.2.2.2.2.2.2.1 X.2.2.2.2.2.2.2.2.2 H locs cells slots Q (F0 X.2.2.2.2.2.1 pc ls st) q
def RnX (Γ : Gm) (X : Ct) (M : Mm) (cells slots mc ms pc : Nat) (stk st : List Value) (av : List Value) (Qc : Array Value → State → Outcome → State → Prop) (XC : String → State → State → Prop) : Prop :=
  ∀ (H : Heap) (locs : List Loc) (ls : Array Slot), Sim Γ M H → va_S (fr Γ) X.2.2.2.2.1.heap H locs → ls.size = X.2.2.2.2.2.2.2.2.2.maxLocals → vx_Run X.1 X.2.1 X.2.2.1 X.2.2.2.1 X.2.2.2.2.1 X.2.2.2.2.2.1 X.2.2.2.2.2.2.1 X.2.2.2.2.2.2.2.1 X.2.2.2.2.2.2.2.2.1 X.2.2.2.2.2.2.2.2.2 H locs cells slots mc ms (F0 X.2.2.2.2.2.1 pc ls stk) st (Qc av.toArray) XC (fr Γ)
def Qix (Γ : Gm) (r : Int32) (M' : Mm) : Array Value → State → Outcome → State → Prop := va_Qi (fun x (_ : Unit) => x = r) (fun _ t => ∃ n, Sim Γ (jk M' n) t.heap) (fr Γ)
def noX (Γ : Gm) : String → State → State → Prop := vx_X (fun (_ : Unit) => False) (fun _ _ _ => True) (fr Γ)
theorem rdI_jk (M : Mm) (n a t k : Nat) : rdI (jk M n) a t k = rdI M a t k := rfl
section XCALLS
variable {Γ : Gm} {X : Ct} {cc : ByteArray} {own : String} {ret : Option FieldType} {nL : Nat} {M : Mm} {cells slots : Nat} {Q : State → Prop} {pc : Nat} {lv : List (Nat × Value)} {st : List Value}
theorem rx_V (hC : Cx Γ X cc own ret nL) {y : MethodName} {cy : ByteArray} {nLy n idx F mc ms L F0 C0 S0 L0 t b : Nat} {ry : Option FieldType} {As stk : List Value} {Qc : Array Value → State → Outcome → State → Prop} {XC : String → State → State → Prop} (hM : vx_Met X.2.1 y (wz y cy nLy ry) ({ frames := F, cells := mc, slots := ms, locals := L } : Room) (Pq Γ M (.ref b :: As)) Qc XC mc ms (fr Γ))
    (hy : YOk y cy nLy ry n) (hl : Cond.methodLink own idx y ∈ lw_g ∧ Cond.instanceMethod y ∈ lw_g ∧ Cond.selects y.cls y y ∈ lw_g) {u : Unit} (hk : isO M b t = some u) (hcl : ∃ q : vw_C, vwCl[t]? = some q ∧ q.1 = y.cls) (hn : As.length = n) (hstk : stk = As.reverse ++ .ref b :: st) (hcat : (st.map fun v => v.category).sum ≤ 8)
    (hR : X.2.2.2.1 = ({ frames := F0, cells := C0, slots := S0, locals := L0 } : Room)) (hf : F + 1 ≤ F0 ∧ 8 + (nLy + 11) + L ≤ L0) (hc : cells + mc ≤ C0 ∧ slots + ms ≤ S0) (hdg : decode cc pc = .ok (.invokevirtual idx, 3)) : RnX Γ X M cells slots mc ms pc stk st (.ref b :: As) Qc XC :=
  fun H locs ls hS hv hsz => vx_runV hC.fx hM ⟨hC.cb hy hl.1 hR hf, hC.hts _ hl.2.1, hC.hts _ hl.2.2⟩ ⟨Pq_blind Γ M _, hC.rc hS (isO_e hk) hcl, (hC.pre hS hv).2⟩ rfl hn (hsz.trans hC.2.2.1) hstk (lv_room hcat) hdg (by rw [hR]; exact hc)
theorem rx_S (hC : Cx Γ X cc own ret nL) {y : MethodName} {cy : ByteArray} {nLy n idx F mc ms L F0 C0 S0 L0 : Nat} {ry : Option FieldType} {As stk : List Value} {Qc : Array Value → State → Outcome → State → Prop} {XC : String → State → State → Prop} (hM : vx_Met X.2.1 y (wz y cy nLy ry) ({ frames := F, cells := mc, slots := ms, locals := L } : Room) (Pq Γ M As) Qc XC mc ms (fr Γ))
    (hy : YOk y cy nLy ry n) (hl : Cond.methodLink own idx y ∈ lw_g ∧ Cond.static y ∈ lw_g) (hn : As.length = n) (hstk : stk = As.reverse ++ st) (hcat : (st.map fun v => v.category).sum ≤ 8)
    (hR : X.2.2.2.1 = ({ frames := F0, cells := C0, slots := S0, locals := L0 } : Room)) (hf : F + 1 ≤ F0 ∧ 8 + (nLy + 11) + L ≤ L0) (hc : cells + mc ≤ C0 ∧ slots + ms ≤ S0) (hdg : decode cc pc = .ok (.invokestatic idx, 3)) : RnX Γ X M cells slots mc ms pc stk st As Qc XC :=
  fun H locs ls hS hv hsz => vx_runS hC.fx hM ⟨hC.cb hy hl.1 hR hf, hC.hts _ hl.2⟩ (hC.pre hS hv) rfl hn (hsz.trans hC.2.2.1) hstk (lv_room hcat) hdg (by rw [hR]; exact hc)
theorem g_callvX (hC : Cx Γ X cc own ret nL) {mc ms k : Nat} {stk av : List Value} {M1 : Mm} (hr : RnX Γ X M cells slots mc ms pc stk st av (Qvx Γ k M1) (XCx Γ k M1)) (kk : k = 0 → G Γ X nL M1 (cells + mc) (slots + ms) Q (pc + 3) lv st) (kx : k ≠ 0 → ∀ n, GX Γ X nL (jk M1 n) (cells + mc) (slots + ms) Q pc lv st (xN k)) : G Γ X nL M cells slots Q pc lv stk :=
  fun H locs ls hS hv hl => vx_callv (hr H locs ls hS hv (hl.1.trans hC.2.2.1.symm)) hv (fun _ _ h => h) (fun _ h => h) (fun _ _ h => h)
    (fun E ce q9 u t H1 locs1 ht hvm hp hB hz1 hk1 hS1 h1 h2 h3 => by
      obtain ⟨rfl, n, hs⟩ := hB
      exact kx hp n H1 locs1 ls ce q9 (by rw [← ht]; exact hs) hS1 hl h1 h2 h3)
    (fun u t H1 locs1 ht hvm hw hB hz1 hk1 hS1 => kk hw H1 locs1 ls (by rw [← ht]; exact hB) hS1 hl)
theorem g_calllX (hC : Cx Γ X cc own ret nL) {mc ms k : Nat} {stk av : List Value} {r : Int64} {M1 : Mm} (hr : RnX Γ X M cells slots mc ms pc stk st av (Qlx Γ k r M1) (XCx Γ k M1)) (kk : k = 0 → G Γ X nL M1 (cells + mc) (slots + ms) Q (pc + 3) lv (.long r :: st)) (kx : k ≠ 0 → ∀ n, GX Γ X nL (jk M1 n) (cells + mc) (slots + ms) Q pc lv st (xN k)) : G Γ X nL M cells slots Q pc lv stk :=
  fun H locs ls hS hv hl => vx_calll (hr H locs ls hS hv (hl.1.trans hC.2.2.1.symm)) hv (fun _ _ h => h) (fun _ h => h) (fun _ _ h => h)
    (fun E ce q9 u t H1 locs1 ht hvm hp hB hz1 hk1 hS1 h1 h2 h3 => by
      obtain ⟨rfl, n, hs⟩ := hB
      exact kx hp n H1 locs1 ls ce q9 (by rw [← ht]; exact hs) hS1 hl h1 h2 h3)
    (fun x u t H1 locs1 ht hvm hw hB hz1 hk1 hS1 => by
      obtain ⟨hw, rfl⟩ := hw
      exact kk hw H1 locs1 ls (by rw [← ht]; exact hB) hS1 hl)
/-- the table's row takes it -/
theorem gx_catch (hC : Cx Γ X cc own ret nL) {E name : String} (pre : List ExceptionTableEntry) (x : ExceptionTableEntry) (suf : List ExceptionTableEntry) (hsplit : (xCd X).exceptionTable.toList = pre ++ x :: suf)
    (hpass : ∀ z ∈ pre, z.catchType ≠ 0 ∧ ∃ nm : String, Cond.classLink own z.catchType nm ∈ lw_g ∧ va_Nc E nm X.2.2.2.2.1) (hx : covers x pc = true) (h0 : x.catchType ≠ 0) (hlink : Cond.classLink own x.catchType name ∈ lw_g) (hcast : Cond.castable E name ∈ lw_n)
    (kk : ∀ q : Nat, G Γ X nL M cells slots Q x.handlerPc lv [.ref q]) : GX Γ X nL M cells slots Q pc lv st E :=
  fun H locs ls ce q hS hv hl h1 h2 h3 => vx_catch hC.2.2.2.1 pre x suf hsplit (fun z hz => Or.inr ⟨(hpass z hz).1, by
    obtain ⟨nm, a, b⟩ := (hpass z hz).2
    exact ⟨nm, hC.hts _ a, b⟩⟩) hx h0 (hC.hts _ hlink) (va_Nw.use rfl (hC.2.2.2.2.2.2.2.1.2.2.2.1 _ hcast)) h1 h2 h3 (kk q H locs ls hS hv hl)
theorem g_iretX (hC : Cx Γ X cc own (some .int) nL) {v r : Int32} {M0 M' : Mm} {mc ms n : Nat} {XC : String → State → State → Prop} (h : some (v, M0) = some (r, M')) (hn : M = jk M0 n) (hc : cells ≤ mc ∧ slots ≤ ms) (hdg : decode cc pc = .ok (.ireturn, 1)) : G Γ X nL M cells slots (FinX Γ X (Qix Γ r M') XC mc ms) pc lv [.int v] := by
  cases h
  subst hn
  exact fun H locs ls hS hv hl => vx_ret (W.widen hc.1 hc.2 (W.iret hC.1 hC.2.1 hC.2.2.2.2.2.1 (fun t ht _ => ⟨⟨v, (), rfl, rfl, ⟨n, by rw [ht]; exact hS⟩⟩, hv.F ht⟩) hv.2.2 hdg hC.2.2.2.2.2.2.1))
end XCALLS
theorem fk_X11_383 : FOk RX11 383 8 5 .int false := ⟨(RX8, TX8, 8), tyX8, cl_8, by decide, lw_gi 460 (by decide +kernel), rfl, rfl, rfl⟩
theorem ca_1 : Cond.castable (xN 1) (xN 1) ∈ lw_n := lw_ni 1288 (by decide +kernel)
theorem ca_2 : Cond.castable (xN 2) (xN 2) ∈ lw_n := lw_ni 1264 (by decide +kernel)
theorem ca_3 : Cond.castable (xN 3) (xN 3) ∈ lw_n := lw_ni 1198 (by decide +kernel)
def F_X11_toss (this : Nat) (p1 : Int32) (M : Mm) : Option (Int32 × Mm) :=
  (isO M this 11).bind fun _ =>
  (F_X11_shelfAt this p1 M).bind fun (v3, M1) =>
  oe v3 (
    some (((-1) : Int32), M1)) fun a4 =>
    (rdI M1 a4 8 0).bind fun v5 =>
    if v5 = 1 then
      (F_X11_throwFailure a4 M1).bind fun (k, M7) =>
      if k = 0 then
        some (((-15) : Int32), M7)
      else
        (rdI M7 a4 8 5).bind fun v9 =>
        if k = 3 then
          some ((100 + v9), M7)
        else
          if k = 2 then
            some (v9, M7)
          else
            none
    else
      (rdI M1 a4 8 0).bind fun v8 =>
      if v8 = 0 then
        some (((-11) : Int32), M1)
      else
        some (((-12) : Int32), M1)
def hhT : List (Nat × Nat × Nat × Nat) := [(35, 41, 42, 381), (35, 41, 51, 350)]
def hhR : List (Nat × Nat × Nat × Nat) := [(0, 9, 12, 13)]
def hhE : List (Nat × Nat × Nat × Nat) := [(0, 9, 12, 13), (0, 9, 16, 19)]
set_option maxHeartbeats 4000000 in
set_option maxRecDepth 100000 in
theorem c_X11_toss (l : Launch) (hl : l.stackTraces = false) (Γ : Gm) (this : Nat) (p1 : Int32) (M M' : Mm) (r : Int32) (h : F_X11_toss this p1 M = some (r, M')) : vx_Met l yX11_toss (wh yX11_toss cX11_toss 4 (some .int) hhT) ({ frames := 7, cells := 1, slots := 6, locals := 102 } : Room) (Pq Γ M [.ref this, .int p1]) (Qix Γ r M') (noX Γ) 1 6 (fr Γ) := by
  refine methx_of (own := RX11) (by decide +kernel) rfl (Nat.le_of_ble_eq_true rfl) ?_
  intro X hC hTb hR hnm hXl
  have hSt : X.2.1.stackTraces = false := by rw [hXl]; exact hl
  unfold F_X11_toss at h
  show G Γ X 4 M 0 0 _ 0 ([(0, .ref this), (1, .int p1)]) []
  refine g_aload_n hC 0 dX11_toss_0 rfl ?_
  refine g_iload_n hC 1 dX11_toss_1 rfl ?_
  replace h := ob h; obtain ⟨_, eu2, h⟩ := h
  replace h := ob h; obtain ⟨⟨v3, M1⟩, eM1, h⟩ := h
  refine g_callr hC (r_V hC (As := [.int p1]) (c_X11_shelfAt _ Γ this p1 M M1 v3 eM1) yk_X11_shelfAt lk_X11_162 eu2 ⟨_, rfl, rfl⟩ rfl rfl (Nat.le_of_ble_eq_true rfl) hR ⟨(Nat.le_of_ble_eq_true rfl), (Nat.le_of_ble_eq_true rfl)⟩ ⟨(Nat.le_of_ble_eq_true rfl), (Nat.le_of_ble_eq_true rfl)⟩ dX11_toss_2) ?_
  refine g_astore_nq hC (x := v3) ([(2, va_rf v3), (0, .ref this), (1, .int p1)]) dX11_toss_5 (by decide) rfl ?_
  refine g_aload_nq hC 0 (x := v3) dX11_toss_6 rfl ?_
  refine g_ifnonnull hC 12 dX11_toss_7 (by decide) (fun a4 ca4 => ?_) (fun ca4 => ?_)
  · subst ca4
    replace h := oe_s h
    refine g_aload_n hC 0 dX11_toss_12 rfl ?_
    replace h := ob h; obtain ⟨v5, ev5, h⟩ := h
    refine g_getI hC ev5 fk_X11_331 rfl dX11_toss_13 ?_
    refine g_iconst hC 1 dX11_toss_16 (by decide) ?_
    refine g_icmp_eq hC 35 dX11_toss_17 (by decide) (fun c6 => ?_) (fun c6 => ?_)
    · replace h := it_t c6 h
      refine g_aload_n hC 0 dX11_toss_35 rfl ?_
      replace h := ob h; obtain ⟨⟨k, M7⟩, eM7, h⟩ := h
      refine g_callvX hC (rx_S hC (As := [.ref a4]) (c_X11_throwFailure _ hSt Γ a4 M1 M7 k eM7) yk_X11_throwFailure lk_X11_377 rfl rfl (Nat.le_of_ble_eq_true rfl) hR ⟨(Nat.le_of_ble_eq_true rfl), (Nat.le_of_ble_eq_true rfl)⟩ ⟨(Nat.le_of_ble_eq_true rfl), (Nat.le_of_ble_eq_true rfl)⟩ dX11_toss_36) (fun ck => ?_) (fun ck n => ?_)
      · replace h := it_t ck h
        refine g_bipush hC (-15) dX11_toss_39 (by decide) ?_
        exact g_iretX (n := 0) hC h rfl ⟨(Nat.le_of_ble_eq_true rfl), (Nat.le_of_ble_eq_true rfl)⟩ dX11_toss_41
      · replace h := it_f ck h
        replace h := ob h; obtain ⟨v9, ev9, h⟩ := h
        have ev9' : rdI (jk M7 n) a4 8 5 = some v9 := ev9
        by_cases c3 : k = 3
        · replace h := it_t c3 h
          subst c3
          refine gx_catch hC [] ⟨35, 41, 42, 381⟩ _ (hTb.trans rfl) (fun z hz => nomatch hz) rfl (by decide) (name := xN 3) (lw_gi 1192 (by decide +kernel)) ca_3 (fun q => ?_)
          refine g_astore_n hC ([(3, .ref q), (2, .ref a4), (0, .ref this), (1, .int p1)]) dX11_toss_42 (by decide) rfl ?_
          refine g_bipush hC 100 dX11_toss_43 (by decide) ?_
          refine g_aload_n hC 1 dX11_toss_45 rfl ?_
          refine g_getI hC ev9' fk_X11_383 rfl dX11_toss_46 ?_
          refine g_iadd hC dX11_toss_49 ?_
          exact g_iretX hC h rfl ⟨(Nat.le_of_ble_eq_true rfl), (Nat.le_of_ble_eq_true rfl)⟩ dX11_toss_50
        · replace h := it_f c3 h
          by_cases c2 : k = 2
          · replace h := it_t c2 h
            subst c2
            refine gx_catch hC [⟨35, 41, 42, 381⟩] ⟨35, 41, 51, 350⟩ _ (hTb.trans rfl) (fun z hz => ?_) rfl (by decide) (name := xN 2) (lw_gi 1193 (by decide +kernel)) ca_2 (fun q => ?_)
            · cases List.mem_singleton.mp hz
              exact ⟨by decide, xN 3, lw_gi 1192 (by decide +kernel), hC.xk.2.2.2.2.2.2.2.1⟩
            refine g_astore_n hC ([(3, .ref q), (2, .ref a4), (0, .ref this), (1, .int p1)]) dX11_toss_51 (by decide) rfl ?_
            refine g_aload_n hC 1 dX11_toss_52 rfl ?_
            refine g_getI hC ev9' fk_X11_383 rfl dX11_toss_53 ?_
            exact g_iretX hC h rfl ⟨(Nat.le_of_ble_eq_true rfl), (Nat.le_of_ble_eq_true rfl)⟩ dX11_toss_56
          · replace h := it_f c2 h
            cases h
    · replace h := it_f c6 h
      refine g_aload_n hC 0 dX11_toss_20 rfl ?_
      replace h := ob h; obtain ⟨v8, ev8, h⟩ := h
      refine g_getI hC ev8 fk_X11_331 rfl dX11_toss_21 ?_
      refine g_if_ne hC 32 dX11_toss_24 (by decide) (fun c9 => ?_) (fun c9 => ?_)
      · replace h := it_f c9 h
        refine g_bipush hC (-12) dX11_toss_32 (by decide) ?_
        exact g_iretX (n := 0) hC h rfl ⟨(Nat.le_of_ble_eq_true rfl), (Nat.le_of_ble_eq_true rfl)⟩ dX11_toss_34
      · replace h := it_t c9 h
        refine g_bipush hC (-11) dX11_toss_27 (by decide) ?_
        refine g_goto hC 34 dX11_toss_29 (by decide) ?_
        exact g_iretX (n := 0) hC h rfl ⟨(Nat.le_of_ble_eq_true rfl), (Nat.le_of_ble_eq_true rfl)⟩ dX11_toss_34
  · subst ca4
    replace h := oe_n h
    refine g_iconst hC (-1) dX11_toss_10 (by decide) ?_
    exact g_iretX (n := 0) hC h rfl ⟨(Nat.le_of_ble_eq_true rfl), (Nat.le_of_ble_eq_true rfl)⟩ dX11_toss_11
theorem yk_X11_read : YOk yX11_read cX11_read 3 (some .long) 2 := ⟨lw_gi 1285 (by decide +kernel), lw_gi 77 (by decide +kernel), ⟨by decide +kernel, by decide +kernel⟩, by decide +kernel⟩
theorem lk_L_7 : Cond.methodLink RL 7 yX11_read ∈ lw_g ∧ Cond.instanceMethod yX11_read ∈ lw_g ∧ Cond.selects yX11_read.cls yX11_read yX11_read ∈ lw_g := ⟨lw_gi 1282 (by decide +kernel), lw_gi 1283 (by decide +kernel), lw_gi 1284 (by decide +kernel)⟩
theorem yk_X11_element : YOk yX11_element cX11_element 4 (some .long) 2 := ⟨lw_gi 1313 (by decide +kernel), lw_gi 77 (by decide +kernel), ⟨by decide +kernel, by decide +kernel⟩, by decide +kernel⟩
theorem lk_L_15 : Cond.methodLink RL 15 yX11_element ∈ lw_g ∧ Cond.instanceMethod yX11_element ∈ lw_g ∧ Cond.selects yX11_element.cls yX11_element yX11_element ∈ lw_g := ⟨lw_gi 1310 (by decide +kernel), lw_gi 1311 (by decide +kernel), lw_gi 1312 (by decide +kernel)⟩
def F_L_read (p1 : Nat) (p2 p3 : Int32) (p4 : Nat) (M : Mm) : Option (Int32 × Mm) :=
  (isO M p1 11).bind fun _ =>
  (F_X11_read p1 p2 p3 M).bind fun (k, v, M1) =>
  if k = 0 then
    (stL M1 p4 0 v).bind fun M2 =>
    some ((0 : Int32), M2)
  else
    if k = 1 then
      some ((1 : Int32), M1)
    else
      none
def F_L_element (p1 : Nat) (p2 p3 : Int32) (p4 : Nat) (M : Mm) : Option (Int32 × Mm) :=
  (isO M p1 11).bind fun _ =>
  (F_X11_element p1 p2 p3 M).bind fun (k, v, M1) =>
  if k = 0 then
    (stL M1 p4 0 v).bind fun M2 =>
    some ((0 : Int32), M2)
  else
    if k = 1 then
      some ((1 : Int32), M1)
    else
      if k = 2 then
        some ((2 : Int32), M1)
      else
        none
set_option maxHeartbeats 4000000 in
set_option maxRecDepth 100000 in
theorem c_L_read (l : Launch) (hl : l.stackTraces = false) (Γ : Gm) (p1 : Nat) (p2 p3 : Int32) (p4 : Nat) (M M' : Mm) (r : Int32) (h : F_L_read p1 p2 p3 p4 M = some (r, M')) : vx_Met l yL_read (wh yL_read cL_read 5 (some .int) hhR) ({ frames := 7, cells := 1, slots := 6, locals := 104 } : Room) (Pq Γ M [.ref p1, .int p2, .int p3, .ref p4]) (Qix Γ r M') (noX Γ) 1 6 (fr Γ) := by
  refine methx_of (own := RL) (by decide +kernel) rfl (Nat.le_of_ble_eq_true rfl) ?_
  intro X hC hTb hR hnm hXl
  have hSt : X.2.1.stackTraces = false := by rw [hXl]; exact hl
  unfold F_L_read at h
  show G Γ X 5 M 0 0 _ 0 ([(0, .ref p1), (1, .int p2), (2, .int p3), (3, .ref p4)]) []
  refine g_aload_n hC 3 dL_read_0 rfl ?_
  refine g_iconst hC 0 dL_read_1 (by decide) ?_
  refine g_aload_n hC 0 dL_read_2 rfl ?_
  refine g_iload_n hC 1 dL_read_3 rfl ?_
  refine g_iload_n hC 2 dL_read_4 rfl ?_
  replace h := ob h; obtain ⟨_, eu, h⟩ := h
  replace h := ob h; obtain ⟨⟨k, v, M1⟩, eM1, h⟩ := h
  refine g_calllX hC (rx_V hC (As := [.int p2, .int p3]) (c_X11_read _ hSt Γ p1 p2 p3 M M1 v k eM1) yk_X11_read lk_L_7 eu ⟨_, rfl, rfl⟩ rfl rfl (Nat.le_of_ble_eq_true rfl) hR ⟨(Nat.le_of_ble_eq_true rfl), (Nat.le_of_ble_eq_true rfl)⟩ ⟨(Nat.le_of_ble_eq_true rfl), (Nat.le_of_ble_eq_true rfl)⟩ dL_read_5) (fun ck => ?_) (fun ck n => ?_)
  · replace h := it_t ck h
    replace h := ob h; obtain ⟨M2, eM2, h⟩ := h
    refine g_last hC eM2 dL_read_8 ?_
    refine g_goto hC 16 dL_read_9 (by decide) ?_
    refine g_iconst hC 0 dL_read_16 (by decide) ?_
    exact g_iretX (n := 0) hC h rfl ⟨(Nat.le_of_ble_eq_true rfl), (Nat.le_of_ble_eq_true rfl)⟩ dL_read_17
  · replace h := it_f ck h
    by_cases c1 : k = 1
    · replace h := it_t c1 h
      subst c1
      refine gx_catch hC [] ⟨0, 9, 12, 13⟩ _ (hTb.trans rfl) (fun z hz => nomatch hz) rfl (by decide) (name := xN 1) (lw_gi 1281 (by decide +kernel)) ca_1 (fun q => ?_)
      refine g_astore hC ([(4, .ref q), (0, .ref p1), (1, .int p2), (2, .int p3), (3, .ref p4)]) dL_read_12 (by decide) rfl ?_
      refine g_iconst hC 1 dL_read_14 (by decide) ?_
      exact g_iretX hC h rfl ⟨(Nat.le_of_ble_eq_true rfl), (Nat.le_of_ble_eq_true rfl)⟩ dL_read_15
    · replace h := it_f c1 h
      cases h
set_option maxHeartbeats 4000000 in
set_option maxRecDepth 100000 in
theorem c_L_element (l : Launch) (hl : l.stackTraces = false) (Γ : Gm) (p1 : Nat) (p2 p3 : Int32) (p4 : Nat) (M M' : Mm) (r : Int32) (h : F_L_element p1 p2 p3 p4 M = some (r, M')) : vx_Met l yL_element (wh yL_element cL_element 5 (some .int) hhE) ({ frames := 7, cells := 1, slots := 6, locals := 105 } : Room) (Pq Γ M [.ref p1, .int p2, .int p3, .ref p4]) (Qix Γ r M') (noX Γ) 1 6 (fr Γ) := by
  refine methx_of (own := RL) (by decide +kernel) rfl (Nat.le_of_ble_eq_true rfl) ?_
  intro X hC hTb hR hnm hXl
  have hSt : X.2.1.stackTraces = false := by rw [hXl]; exact hl
  unfold F_L_element at h
  show G Γ X 5 M 0 0 _ 0 ([(0, .ref p1), (1, .int p2), (2, .int p3), (3, .ref p4)]) []
  refine g_aload_n hC 3 dL_element_0 rfl ?_
  refine g_iconst hC 0 dL_element_1 (by decide) ?_
  refine g_aload_n hC 0 dL_element_2 rfl ?_
  refine g_iload_n hC 1 dL_element_3 rfl ?_
  refine g_iload_n hC 2 dL_element_4 rfl ?_
  replace h := ob h; obtain ⟨_, eu, h⟩ := h
  replace h := ob h; obtain ⟨⟨k, v, M1⟩, eM1, h⟩ := h
  refine g_calllX hC (rx_V hC (As := [.int p2, .int p3]) (c_X11_element _ hSt Γ p1 p2 p3 M M1 v k eM1) yk_X11_element lk_L_15 eu ⟨_, rfl, rfl⟩ rfl rfl (Nat.le_of_ble_eq_true rfl) hR ⟨(Nat.le_of_ble_eq_true rfl), (Nat.le_of_ble_eq_true rfl)⟩ ⟨(Nat.le_of_ble_eq_true rfl), (Nat.le_of_ble_eq_true rfl)⟩ dL_element_5) (fun ck => ?_) (fun ck n => ?_)
  · replace h := it_t ck h
    replace h := ob h; obtain ⟨M2, eM2, h⟩ := h
    refine g_last hC eM2 dL_element_8 ?_
    refine g_goto hC 20 dL_element_9 (by decide) ?_
    refine g_iconst hC 0 dL_element_20 (by decide) ?_
    exact g_iretX (n := 0) hC h rfl ⟨(Nat.le_of_ble_eq_true rfl), (Nat.le_of_ble_eq_true rfl)⟩ dL_element_21
  · replace h := it_f ck h
    by_cases c1 : k = 1
    · replace h := it_t c1 h
      subst c1
      refine gx_catch hC [] ⟨0, 9, 12, 13⟩ _ (hTb.trans rfl) (fun z hz => nomatch hz) rfl (by decide) (name := xN 1) (lw_gi 1281 (by decide +kernel)) ca_1 (fun q => ?_)
      refine g_astore hC ([(4, .ref q), (0, .ref p1), (1, .int p2), (2, .int p3), (3, .ref p4)]) dL_element_12 (by decide) rfl ?_
      refine g_iconst hC 1 dL_element_14 (by decide) ?_
      exact g_iretX hC h rfl ⟨(Nat.le_of_ble_eq_true rfl), (Nat.le_of_ble_eq_true rfl)⟩ dL_element_15
    · replace h := it_f c1 h
      by_cases c2 : k = 2
      · replace h := it_t c2 h
        subst c2
        refine gx_catch hC [⟨0, 9, 12, 13⟩] ⟨0, 9, 16, 19⟩ _ (hTb.trans rfl) (fun z hz => ?_) rfl (by decide) (name := xN 2) (lw_gi 1309 (by decide +kernel)) ca_2 (fun q => ?_)
        · cases List.mem_singleton.mp hz
          exact ⟨by decide, xN 1, lw_gi 1281 (by decide +kernel), hC.xk.2.2.2.2.2.2.2.2⟩
        refine g_astore hC ([(4, .ref q), (0, .ref p1), (1, .int p2), (2, .int p3), (3, .ref p4)]) dL_element_16 (by decide) rfl ?_
        refine g_iconst hC 2 dL_element_18 (by decide) ?_
        exact g_iretX hC h rfl ⟨(Nat.le_of_ble_eq_true rfl), (Nat.le_of_ble_eq_true rfl)⟩ dL_element_19
      · replace h := it_f c2 h
        cases h
