/-! A METHOD'S START AND END, AND CALLS -/
def wz (y : MethodName) (cc : ByteArray) (nL : Nat) (ret : Option FieldType) : List Cond := .code y cc nL ret :: lw_g
def Pq (Γ : Gm) (M : Mm) (av : List Value) : Array Value → State → Prop := va_Pc av (fun U => Kk Γ U U.heap ∧ Sim Γ M U.heap)
def Qi (Γ : Gm) (r : Int32) (M' : Mm) : Array Value → State → Outcome → State → Prop := va_Qi (fun x (_ : Unit) => x = r) (fun _ t => Sim Γ M' t.heap) (fr Γ)
def Ql (Γ : Gm) (r : Int64) (M' : Mm) : Array Value → State → Outcome → State → Prop := va_Ql (fun x (_ : Unit) => x = r) (fun _ t => Sim Γ M' t.heap) (fr Γ)
def Qv (Γ : Gm) (M' : Mm) : Array Value → State → Outcome → State → Prop := va_Qv (fun (_ : Unit) => True) (fun _ t => Sim Γ M' t.heap) (fr Γ)
def Qr (Γ : Gm) (r : Option Nat) (M' : Mm) : Array Value → State → Outcome → State → Prop := va_Qq (fun x (_ : Unit) => x = r) (fun _ t => Sim Γ M' t.heap) (fr Γ)
def Fin (Γ : Gm) (X : Ct) (Qc : Array Value → State → Outcome → State → Prop) (mc ms : Nat) : State → Prop := MQ X.2.2.2.2.2.2.2.1 Qc X.2.2.2.2.2.2.1 X.2.2.2.2.1 mc ms (fr Γ)
theorem Pq_blind (Γ : Gm) (M : Mm) (av : List Value) : FrameBlind (Pq Γ M av) := fun a U g mk h => ⟨h.1, Kk.mv (u := U) (U := U.calling g mk a) h.2.1 (State.WarmedH.refl U) (fun _ _ _ => rfl), h.2.2⟩
theorem met_of {Γ : Gm} {l : Launch} {M : Mm} {y : MethodName} {cc : ByteArray} {nL : Nat} {ret : Option FieldType} {own : String} {av : List Value} {Qc : Array Value → State → Outcome → State → Prop} {F mc ms L : Nat} (hy : plainName y.cls = true) (hown : y.cls = own) (hlen : (lg_sl av).length ≤ nL)
    (body : ∀ X : Ct, Cx Γ X cc own ret nL → X.2.2.2.1 = ({ frames := F, cells := mc, slots := ms, locals := L } : Room) → X.2.2.2.2.2.2.2.2.1.name = y.name → X.2.1 = l → G Γ X nL M 0 0 (Fin Γ X Qc mc ms) 0 (lv_args 0 av) []) : Met l y (wz y cc nL ret) ({ frames := F, cells := mc, slots := ms, locals := L } : Room) (Pq Γ M av) Qc mc ms (fr Γ) := by
  refine Met.ofW (cc := cc) (maxL := nL) (ret := ret) hy rfl ?_
  intro p e s m args below meth c s₁ B hml hv
  obtain ⟨rfl, hK, hS⟩ := hv
  have hts0 := atoms_spec (ws := wz y cc nL ret) B.pre
  have hown' : s.vm.findClass own = some m.cls := by rw [← hown]; exact findClass_of_methodNamed B.named
  have hname : meth.name = y.name := (name_of_methodNamed B.named B.method).1
  rw [lg_entry_eq]
  exact body (p, l, e, _, s, m, av.toArray, below, meth, c) ⟨B.exec, B.bytes, hml, hown', fun w hw => hts0 w (List.mem_cons_of_mem _ hw), B.returns, B.notSynchronized, hK, hS.2.1⟩ rfl hname rfl s.heap [] _ hS va_S.rf (lv_entry av hlen)
section CALLROWS
variable {Γ : Gm} {X : Ct} {cc : ByteArray} {own : String} {ret : Option FieldType} {nL : Nat} {M : Mm} {cells slots : Nat} {Q : State → Prop} {pc : Nat} {lv : List (Nat × Value)} {st : List Value}
theorem g_iret (hC : Cx Γ X cc own (some .int) nL) {v r : Int32} {M' : Mm} {mc ms : Nat} (h : some (v, M) = some (r, M')) (hc : cells ≤ mc ∧ slots ≤ ms) (hdg : decode cc pc = .ok (.ireturn, 1)) : G Γ X nL M cells slots (Fin Γ X (Qi Γ r M') mc ms) pc lv [.int v] := by
  cases h
  exact fun H locs ls hS hv hl => W.widen hc.1 hc.2 (W.iret hC.1 hC.2.1 hC.2.2.2.2.2.1 (fun t ht _ => ⟨⟨v, (), rfl, rfl, by dsimp only; rw [ht]; exact hS⟩, hv.F ht⟩) hv.2.2 hdg hC.2.2.2.2.2.2.1)
theorem g_zret (hC : Cx Γ X cc own (some .boolean) nL) {v r : Int32} {M' : Mm} {mc ms : Nat} (hz : v = 0 ∨ v = 1) (h : some (v, M) = some (r, M')) (hc : cells ≤ mc ∧ slots ≤ ms) (hdg : decode cc pc = .ok (.ireturn, 1)) : G Γ X nL M cells slots (Fin Γ X (Qi Γ r M') mc ms) pc lv [.int v] := by
  cases h
  exact fun H locs ls hS hv hl => W.widen hc.1 hc.2 (W.zret hC.1 hC.2.1 hC.2.2.2.2.2.1 (z_nar hz).1 (fun t ht _ => ⟨⟨v, (), rfl, rfl, by dsimp only; rw [ht]; exact hS⟩, hv.F ht⟩) hv.2.2 hdg hC.2.2.2.2.2.2.1)
theorem g_lret (hC : Cx Γ X cc own (some .long) nL) {v r : Int64} {M' : Mm} {mc ms : Nat} (h : some (v, M) = some (r, M')) (hc : cells ≤ mc ∧ slots ≤ ms) (hdg : decode cc pc = .ok (.lreturn, 1)) : G Γ X nL M cells slots (Fin Γ X (Ql Γ r M') mc ms) pc lv [.long v] := by
  cases h
  exact fun H locs ls hS hv hl => W.widen hc.1 hc.2 (W.lret hC.1 hC.2.1 hC.2.2.2.2.2.1 (fun t ht _ => ⟨⟨v, (), rfl, rfl, by dsimp only; rw [ht]; exact hS⟩, hv.F ht⟩) hv.2.2 hdg hC.2.2.2.2.2.2.1)
theorem g_vret (hC : Cx Γ X cc own none nL) {M' : Mm} {mc ms : Nat} (h : some M = some M') (hc : cells ≤ mc ∧ slots ≤ ms) (hdg : decode cc pc = .ok (.return_, 1)) : G Γ X nL M cells slots (Fin Γ X (Qv Γ M') mc ms) pc lv [] := by
  cases h
  exact fun H locs ls hS hv hl => W.widen hc.1 hc.2 (W.vret hC.1 hC.2.1 hC.2.2.2.2.2.1 (fun t ht _ => ⟨⟨(), rfl, trivial, by dsimp only; rw [ht]; exact hS⟩, hv.F ht⟩) hv.2.2 hdg hC.2.2.2.2.2.2.1)
theorem g_aret (hC : Cx Γ X cc own ret nL) {ty : FieldType} (hr : ret = some ty) (hty : (∃ C, ty = .object C) ∨ ∃ z, ty = .array z) {v r : Option Nat} {M' : Mm} {mc ms : Nat} (h : some (v, M) = some (r, M')) (hc : cells ≤ mc ∧ slots ≤ ms) (hdg : decode cc pc = .ok (.areturn, 1)) : G Γ X nL M cells slots (Fin Γ X (Qr Γ r M') mc ms) pc lv [va_rf v] := by
  cases h
  subst hr
  have e : va_rf v = .null ∨ ∃ a, va_rf v = .ref a := by cases v with
    | none => exact Or.inl rfl
    | some a => exact Or.inr ⟨a, rfl⟩
  exact fun H locs ls hS hv hl => W.widen hc.1 hc.2 (W.aret hC.1 hC.2.1 hC.2.2.2.2.2.1 hty e (fun t ht _ => ⟨⟨v, (), rfl, rfl, by dsimp only; rw [ht]; exact hS⟩, hv.F ht⟩) hv.2.2 hdg hC.2.2.2.2.2.2.1)
/-- what the tables say of a method that is called; and of the call -/
def YOk (y : MethodName) (cy : ByteArray) (nLy : Nat) (ret : Option FieldType) (n : Nat) : Prop := Cond.code y cy nLy ret ∈ lw_g ∧ Cond.initialized y.cls ∈ lw_g ∧ (y.cls ≠ "java/lang/invoke/MethodHandle" ∧ y.cls ≠ "java/lang/invoke/VarHandle") ∧ (parseMethodDescriptor y.desc).map (fun d => d.parameters.length) = some n
theorem YOk.good {y : MethodName} {cy : ByteArray} {nLy n : Nat} {ry : Option FieldType} (h : YOk y cy nLy ry n) : GoodIn lw_g (wz y cy nLy ry) := fun w hw => (List.mem_cons.mp hw).elim (fun e => by rw [e]; exact lw_gg _ h.1) (fun e => lw_gg _ e)
theorem Cx.cb (hC : Cx Γ X cc own ret nL) {y : MethodName} {cy : ByteArray} {nLy n idx F mc ms L F0 C0 S0 L0 : Nat} {ry : Option FieldType} (hy : YOk y cy nLy ry n) (hl : Cond.methodLink own idx y ∈ lw_g) (hR : X.2.2.2.1 = ({ frames := F0, cells := C0, slots := S0, locals := L0 } : Room)) (hf : F + 1 ≤ F0 ∧ 8 + (nLy + 11) + L ≤ L0) :
    CallB X.2.2.2.1 X.2.2.2.2.1 X.2.2.2.2.2.2.1 own idx y cy nLy ry (wz y cy nLy ry) ({ frames := F, cells := mc, slots := ms, locals := L } : Room) mc ms n :=
  callB_of n hC.hts hy.good rfl rfl rfl (hC.hts _ hy.2.1) (hC.hts _ hl) ⟨hy.2.2.1.1, hy.2.2.1.2, hy.2.2.2⟩ (by rw [hR]; exact hf)
theorem Cx.cn (hC : Cx Γ X cc own ret nL) {y : MethodName} {host : String} {cy : ByteArray} {nLy n idx F mc ms L F0 C0 S0 L0 : Nat} {ry : Option FieldType} (hy : YOk y cy nLy ry n) (hl : Cond.methodLinkNest own idx y host ∈ lw_n) (hR : X.2.2.2.1 = ({ frames := F0, cells := C0, slots := S0, locals := L0 } : Room)) (hf : F + 1 ≤ F0 ∧ 8 + (nLy + 11) + L ≤ L0) :
    va_CN X.2.2.2.1 X.2.2.2.2.1 X.2.2.2.2.2.2.1 own idx y host cy nLy ry (wz y cy nLy ry) ({ frames := F, cells := mc, slots := ms, locals := L } : Room) mc ms n := by
  obtain ⟨h1, h2, h3, h4⟩ := hy
  refine ⟨⟨rfl, rfl, by rw [hR]; exact hf.1, by rw [hR]; exact hf.2, pay_in hC.hts (YOk.good (n := n) ⟨h1, h2, h3, h4⟩), List.mem_cons_self⟩, hC.hts _ h1, hC.hts _ h2, h3, fun sig h => ?_, va_Nw.use rfl (hC.2.2.2.2.2.2.2.1.2.2.2.1 _ hl)⟩
  rw [h] at h4
  exact (Option.some.inj h4).symm
theorem Cx.pre (hC : Cx Γ X cc own ret nL) {H : Heap} {locs : List Loc} {av : List Value} (hS : Sim Γ M H) (hv : va_S (fr Γ) X.2.2.2.2.1.heap H locs) : PreS X.2.2.2.2.1 H (Pq Γ M av) av :=
  ⟨Pq_blind Γ M av, fun U hU hW => ⟨rfl, by rw [hU]; exact hC.2.2.2.2.2.2.2.1.mv hW (fun a h1 h2 => hv.2.1 a h1 h2), by rw [hU]; exact hS⟩⟩
theorem Cx.fx (hC : Cx Γ X cc own ret nL) : CallFix X.1 X.2.2.2.2.2.1 X.2.2.2.2.2.2.2.2.2 cc nL X.2.2.2.2.1 X.2.2.2.2.2.2.1 lw_g own := ⟨hC.1, hC.2.1, hC.2.2.1, hC.2.2.2.1, hC.hts⟩
/-- the receiver is an object of its class -/
theorem Cx.rc (hC : Cx Γ X cc own ret nL) {H : Heap} {t b : Nat} {C : String} (hS : Sim Γ M H) (hk : mK M b = (t + 7, 0)) (hcl : ∃ q : vw_C, vwCl[t]? = some q ∧ q.1 = C) : ∃ cellB : Cell, H[b]? = some cellB ∧ cellB.vm.isStatics = false ∧ X.2.2.2.2.1.vm.findClass C = some cellB.cls := by
  obtain ⟨q, hq, rfl⟩ := hcl
  obtain ⟨-, q', hq', cell, c1, c2, c3, -⟩ := hS.obj hk
  rw [hq] at hq'
  cases hq'
  exact ⟨cell, c1, by rw [c3]; rfl, by rw [c2]; exact (hC.kn hq).2.1⟩
/-- a call is run -/
def Rn (Γ : Gm) (X : Ct) (M : Mm) (cells slots mc ms pc : Nat) (stk st : List Value) (av : List Value) (Qc : Array Value → State → Outcome → State → Prop) : Prop :=
  ∀ (H : Heap) (locs : List Loc) (ls : Array Slot), Sim Γ M H → va_S (fr Γ) X.2.2.2.2.1.heap H locs → ls.size = X.2.2.2.2.2.2.2.2.2.maxLocals → va_Run X.1 X.2.1 X.2.2.1 X.2.2.2.1 X.2.2.2.2.1 X.2.2.2.2.2.1 X.2.2.2.2.2.2.1 X.2.2.2.2.2.2.2.1 X.2.2.2.2.2.2.2.2.1 X.2.2.2.2.2.2.2.2.2 H locs cells slots mc ms (F0 X.2.2.2.2.2.1 pc ls stk) st (Qc av.toArray) (fr Γ)
theorem r_V (hC : Cx Γ X cc own ret nL) {y : MethodName} {cy : ByteArray} {nLy n idx F mc ms L F0 C0 S0 L0 t b : Nat} {ry : Option FieldType} {As stk : List Value} {Qc : Array Value → State → Outcome → State → Prop} (hM : Met X.2.1 y (wz y cy nLy ry) ({ frames := F, cells := mc, slots := ms, locals := L } : Room) (Pq Γ M (.ref b :: As)) Qc mc ms (fr Γ))
    (hy : YOk y cy nLy ry n) (hl : Cond.methodLink own idx y ∈ lw_g ∧ Cond.instanceMethod y ∈ lw_g ∧ Cond.selects y.cls y y ∈ lw_g) {u : Unit} (hk : isO M b t = some u) (hcl : ∃ q : vw_C, vwCl[t]? = some q ∧ q.1 = y.cls) (hn : As.length = n) (hstk : stk = As.reverse ++ .ref b :: st) (hcat : (st.map fun v => v.category).sum ≤ 8)
    (hR : X.2.2.2.1 = ({ frames := F0, cells := C0, slots := S0, locals := L0 } : Room)) (hf : F + 1 ≤ F0 ∧ 8 + (nLy + 11) + L ≤ L0) (hc : cells + mc ≤ C0 ∧ slots + ms ≤ S0) (hdg : decode cc pc = .ok (.invokevirtual idx, 3)) : Rn Γ X M cells slots mc ms pc stk st (.ref b :: As) Qc :=
  fun H locs ls hS hv hsz => va_runV hC.fx hM ⟨hC.cb hy hl.1 hR hf, hC.hts _ hl.2.1, hC.hts _ hl.2.2⟩ ⟨Pq_blind Γ M _, hC.rc hS (isO_e hk) hcl, (hC.pre hS hv).2⟩ rfl hn (hsz.trans hC.2.2.1) hstk (lv_room hcat) hdg (by rw [hR]; exact hc)
theorem r_S (hC : Cx Γ X cc own ret nL) {y : MethodName} {cy : ByteArray} {nLy n idx F mc ms L F0 C0 S0 L0 : Nat} {ry : Option FieldType} {As stk : List Value} {Qc : Array Value → State → Outcome → State → Prop} (hM : Met X.2.1 y (wz y cy nLy ry) ({ frames := F, cells := mc, slots := ms, locals := L } : Room) (Pq Γ M As) Qc mc ms (fr Γ))
    (hy : YOk y cy nLy ry n) (hl : Cond.methodLink own idx y ∈ lw_g ∧ Cond.static y ∈ lw_g) (hn : As.length = n) (hstk : stk = As.reverse ++ st) (hcat : (st.map fun v => v.category).sum ≤ 8)
    (hR : X.2.2.2.1 = ({ frames := F0, cells := C0, slots := S0, locals := L0 } : Room)) (hf : F + 1 ≤ F0 ∧ 8 + (nLy + 11) + L ≤ L0) (hc : cells + mc ≤ C0 ∧ slots + ms ≤ S0) (hdg : decode cc pc = .ok (.invokestatic idx, 3)) : Rn Γ X M cells slots mc ms pc stk st As Qc :=
  fun H locs ls hS hv hsz => va_runS hC.fx hM ⟨hC.cb hy hl.1 hR hf, hC.hts _ hl.2⟩ (hC.pre hS hv) rfl hn (hsz.trans hC.2.2.1) hstk (lv_room hcat) hdg (by rw [hR]; exact hc)
theorem r_SN (hC : Cx Γ X cc own ret nL) {y : MethodName} {host : String} {cy : ByteArray} {nLy n idx F mc ms L F0 C0 S0 L0 : Nat} {ry : Option FieldType} {As stk : List Value} {Qc : Array Value → State → Outcome → State → Prop} (hM : Met X.2.1 y (wz y cy nLy ry) ({ frames := F, cells := mc, slots := ms, locals := L } : Room) (Pq Γ M As) Qc mc ms (fr Γ))
    (hy : YOk y cy nLy ry n) (hl : Cond.methodLinkNest own idx y host ∈ lw_n ∧ Cond.static y ∈ lw_g) (hn : As.length = n) (hstk : stk = As.reverse ++ st) (hcat : (st.map fun v => v.category).sum ≤ 8)
    (hR : X.2.2.2.1 = ({ frames := F0, cells := C0, slots := S0, locals := L0 } : Room)) (hf : F + 1 ≤ F0 ∧ 8 + (nLy + 11) + L ≤ L0) (hc : cells + mc ≤ C0 ∧ slots + ms ≤ S0) (hdg : decode cc pc = .ok (.invokestatic idx, 3)) : Rn Γ X M cells slots mc ms pc stk st As Qc :=
  fun H locs ls hS hv hsz => va_runSN hC.fx hM ⟨hC.cn hy hl.1 hR hf, hC.hts _ hl.2, trivial⟩ (hC.pre hS hv) rfl hn (hsz.trans hC.2.2.1) hstk (lv_room hcat) hdg (by rw [hR]; exact hc)
theorem r_I (hC : Cx Γ X cc own ret nL) {y : MethodName} {cy : ByteArray} {nLy n idx F mc ms L F0 C0 S0 L0 b : Nat} {As stk : List Value} {Qc : Array Value → State → Outcome → State → Prop} (hM : Met X.2.1 y (wz y cy nLy none) ({ frames := F, cells := mc, slots := ms, locals := L } : Room) (Pq Γ M (.ref b :: As)) Qc mc ms (fr Γ))
    (hy : YOk y cy nLy none n) (hl : Cond.methodLink own idx y ∈ lw_g ∧ Cond.instanceMethod y ∈ lw_g ∧ y.name = "<init>") (hn : As.length = n) (hstk : stk = As.reverse ++ .ref b :: st) (hcat : (st.map fun v => v.category).sum ≤ 8)
    (hR : X.2.2.2.1 = ({ frames := F0, cells := C0, slots := S0, locals := L0 } : Room)) (hf : F + 1 ≤ F0 ∧ 8 + (nLy + 11) + L ≤ L0) (hc : cells + mc ≤ C0 ∧ slots + ms ≤ S0) (hdg : decode cc pc = .ok (.invokespecial idx, 3)) : Rn Γ X M cells slots mc ms pc stk st (.ref b :: As) Qc :=
  fun H locs ls hS hv hsz => va_runI hC.fx hM ⟨hC.cb hy hl.1 hR hf, hl.2.2, hC.hts _ hl.2.1⟩ (hC.pre hS hv) rfl hn (hsz.trans hC.2.2.1) hstk (lv_room hcat) hdg (by rw [hR]; exact hc)
theorem r_IN (hC : Cx Γ X cc own ret nL) {y : MethodName} {host : String} {cy : ByteArray} {nLy n idx F mc ms L F0 C0 S0 L0 b : Nat} {As stk : List Value} {Qc : Array Value → State → Outcome → State → Prop} (hM : Met X.2.1 y (wz y cy nLy none) ({ frames := F, cells := mc, slots := ms, locals := L } : Room) (Pq Γ M (.ref b :: As)) Qc mc ms (fr Γ))
    (hy : YOk y cy nLy none n) (hl : Cond.methodLinkNest own idx y host ∈ lw_n ∧ Cond.instanceMethod y ∈ lw_g ∧ y.name = "<init>") (hn : As.length = n) (hstk : stk = As.reverse ++ .ref b :: st) (hcat : (st.map fun v => v.category).sum ≤ 8)
    (hR : X.2.2.2.1 = ({ frames := F0, cells := C0, slots := S0, locals := L0 } : Room)) (hf : F + 1 ≤ F0 ∧ 8 + (nLy + 11) + L ≤ L0) (hc : cells + mc ≤ C0 ∧ slots + ms ≤ S0) (hdg : decode cc pc = .ok (.invokespecial idx, 3)) : Rn Γ X M cells slots mc ms pc stk st (.ref b :: As) Qc :=
  fun H locs ls hS hv hsz => va_runIN hC.fx hM ⟨hC.cn hy hl.1 hR hf, hl.2.2, hC.hts _ hl.2.1⟩ (hC.pre hS hv) rfl hn (hsz.trans hC.2.2.1) hstk (lv_room hcat) hdg (by rw [hR]; exact hc)
/-- behind a call -/
theorem g_calli (hC : Cx Γ X cc own ret nL) {mc ms : Nat} {stk av : List Value} {r : Int32} {M1 : Mm} (hr : Rn Γ X M cells slots mc ms pc stk st av (Qi Γ r M1)) (kk : G Γ X nL M1 (cells + mc) (slots + ms) Q (pc + 3) lv (.int r :: st)) : G Γ X nL M cells slots Q pc lv stk :=
  fun H locs ls hS hv hl => va_calli (hr H locs ls hS hv (hl.1.trans hC.2.2.1.symm)) hv (fun _ _ h => h) (fun _ h => h) (fun x u t H1 locs1 ht hvm hw hB hz1 hk1 hS1 => by subst hw; exact kk H1 locs1 ls (by rw [← ht]; exact hB) hS1 hl)
theorem g_calll (hC : Cx Γ X cc own ret nL) {mc ms : Nat} {stk av : List Value} {r : Int64} {M1 : Mm} (hr : Rn Γ X M cells slots mc ms pc stk st av (Ql Γ r M1)) (kk : G Γ X nL M1 (cells + mc) (slots + ms) Q (pc + 3) lv (.long r :: st)) : G Γ X nL M cells slots Q pc lv stk :=
  fun H locs ls hS hv hl => va_calll (hr H locs ls hS hv (hl.1.trans hC.2.2.1.symm)) hv (fun _ _ h => h) (fun _ h => h) (fun x u t H1 locs1 ht hvm hw hB hz1 hk1 hS1 => by subst hw; exact kk H1 locs1 ls (by rw [← ht]; exact hB) hS1 hl)
theorem g_callr (hC : Cx Γ X cc own ret nL) {mc ms : Nat} {stk av : List Value} {r : Option Nat} {M1 : Mm} (hr : Rn Γ X M cells slots mc ms pc stk st av (Qr Γ r M1)) (kk : G Γ X nL M1 (cells + mc) (slots + ms) Q (pc + 3) lv (va_rf r :: st)) : G Γ X nL M cells slots Q pc lv stk :=
  fun H locs ls hS hv hl => va_callq (hr H locs ls hS hv (hl.1.trans hC.2.2.1.symm)) hv (fun _ _ h => h) (fun _ h => h) (fun x u t H1 locs1 ht hvm hw hB hz1 hk1 hS1 => by subst hw; exact kk H1 locs1 ls (by rw [← ht]; exact hB) hS1 hl)
theorem g_callv (hC : Cx Γ X cc own ret nL) {mc ms : Nat} {stk av : List Value} {M1 : Mm} (hr : Rn Γ X M cells slots mc ms pc stk st av (Qv Γ M1)) (kk : G Γ X nL M1 (cells + mc) (slots + ms) Q (pc + 3) lv st) : G Γ X nL M cells slots Q pc lv stk :=
  fun H locs ls hS hv hl => va_callv (hr H locs ls hS hv (hl.1.trans hC.2.2.1.symm)) hv (fun _ _ h => h) (fun _ h => h) (fun u t H1 locs1 ht hvm hw hB hz1 hk1 hS1 => kk H1 locs1 ls (by rw [← ht]; exact hB) hS1 hl)
/-- Object's constructor -/
theorem g_objInit (hC : Cx Γ X cc own ret nL) {idx a F0 C0 S0 L0 : Nat} (hl : Cond.methodLink own idx Lib.objectInit ∈ lw_g ∧ Cond.instanceMethod Lib.objectInit ∈ lw_g ∧ Cond.code Lib.objectInit ⟨#[0xb1]⟩ 1 none ∈ lw_g) (hR : X.2.2.2.1 = ({ frames := F0, cells := C0, slots := S0, locals := L0 } : Room)) (hcat : (st.map fun v => v.category).sum ≤ 8) (hf : 1 ≤ F0 ∧ 20 ≤ L0) (hdg : decode cc pc = .ok (.invokespecial idx, 3))
    (kk : G Γ X nL M cells slots Q (pc + 3) lv st) : G Γ X nL M cells slots Q pc lv (.ref a :: st) :=
  fun H locs ls hS hv hll => W.objInit hC.1 hC.2.1 hC.2.2.2.1 (hC.hts _ hl.1) (hC.hts _ hl.2.1) (hC.hts _ hl.2.2) rfl (hll.1.trans hC.2.2.1.symm) rfl hdg (by rw [hR]; exact hf.1) (by have := lv_room (m := X.2.2.2.2.2.1) (pc := pc) (ls := ls) (rest := .ref a :: st) hcat; rw [hR]; dsimp only; omega) (kk H locs ls hS hv hll)
def mxI (x y : Int32) : Int32 := if x < y then y else x
def mnI (x y : Int32) : Int32 := if y < x then y else x
def abI (x : Int32) : Int32 := if 0 ≤ x then x else 0 - x
theorem g_max (hC : Cx Γ X cc own ret nL) {idx F0 C0 S0 L0 : Nat} {x y : Int32} (hl : Cond.methodLink own idx Lib.Math.max.name ∈ lw_g ∧ Cond.static Lib.Math.max.name ∈ lw_g ∧ Cond.initialized "java/lang/Math" ∈ lw_g ∧ Cond.code Lib.Math.max.name Lib.Math.max.code 2 (some .int) ∈ lw_g) (hR : X.2.2.2.1 = ({ frames := F0, cells := C0, slots := S0, locals := L0 } : Room)) (hcat : (st.map fun v => v.category).sum ≤ 8) (hf : 1 ≤ F0 ∧ 21 ≤ L0 ∧ cells ≤ C0 ∧ slots ≤ S0) (hdg : decode cc pc = .ok (.invokestatic idx, 3))
    (kk : G Γ X nL M cells slots Q (pc + 3) lv (.int (mxI x y) :: st)) : G Γ X nL M cells slots Q pc lv (.int y :: .int x :: st) :=
  fun H locs ls hS hv hll => va_mmax hC.1 hC.2.1 (hC.2.2.1.trans hll.1.symm) hC.2.2.2.1 (hC.hts _ hl.1) (hC.hts _ hl.2.1) (hC.hts _ hl.2.2.1) (hC.hts _ hl.2.2.2) (by rw [hR]; exact hf.1) (by rw [hR]; exact Nat.le_trans (Nat.add_le_add_right hcat 13) hf.2.1) (by rw [hR]; exact hf.2.2.1) (by rw [hR]; exact hf.2.2.2) hdg (kk H locs ls hS hv hll)
theorem g_min (hC : Cx Γ X cc own ret nL) {idx F0 C0 S0 L0 : Nat} {x y : Int32} (hl : Cond.methodLink own idx Lib.Math.min.name ∈ lw_g ∧ Cond.static Lib.Math.min.name ∈ lw_g ∧ Cond.initialized "java/lang/Math" ∈ lw_g ∧ Cond.code Lib.Math.min.name Lib.Math.min.code 2 (some .int) ∈ lw_g) (hR : X.2.2.2.1 = ({ frames := F0, cells := C0, slots := S0, locals := L0 } : Room)) (hcat : (st.map fun v => v.category).sum ≤ 8) (hf : 1 ≤ F0 ∧ 21 ≤ L0 ∧ cells ≤ C0 ∧ slots ≤ S0) (hdg : decode cc pc = .ok (.invokestatic idx, 3))
    (kk : G Γ X nL M cells slots Q (pc + 3) lv (.int (mnI x y) :: st)) : G Γ X nL M cells slots Q pc lv (.int y :: .int x :: st) :=
  fun H locs ls hS hv hll => va_mmin hC.1 hC.2.1 (hC.2.2.1.trans hll.1.symm) hC.2.2.2.1 (hC.hts _ hl.1) (hC.hts _ hl.2.1) (hC.hts _ hl.2.2.1) (hC.hts _ hl.2.2.2) (by rw [hR]; exact hf.1) (by rw [hR]; exact Nat.le_trans (Nat.add_le_add_right hcat 13) hf.2.1) (by rw [hR]; exact hf.2.2.1) (by rw [hR]; exact hf.2.2.2) hdg (kk H locs ls hS hv hll)
theorem g_abs (hC : Cx Γ X cc own ret nL) {idx F0 C0 S0 L0 : Nat} {x : Int32} (hl : Cond.methodLink own idx Lib.Math.abs.name ∈ lw_g ∧ Cond.static Lib.Math.abs.name ∈ lw_g ∧ Cond.initialized "java/lang/Math" ∈ lw_g ∧ Cond.code Lib.Math.abs.name Lib.Math.abs.code 1 (some .int) ∈ lw_g) (hR : X.2.2.2.1 = ({ frames := F0, cells := C0, slots := S0, locals := L0 } : Room)) (hcat : (st.map fun v => v.category).sum ≤ 8) (hf : 1 ≤ F0 ∧ 21 ≤ L0 ∧ cells ≤ C0 ∧ slots ≤ S0) (hdg : decode cc pc = .ok (.invokestatic idx, 3))
    (kk : G Γ X nL M cells slots Q (pc + 3) lv (.int (abI x) :: st)) : G Γ X nL M cells slots Q pc lv (.int x :: st) :=
  fun H locs ls hS hv hll => va_mabs hC.1 hC.2.1 (hC.2.2.1.trans hll.1.symm) hC.2.2.2.1 (hC.hts _ hl.1) (hC.hts _ hl.2.1) (hC.hts _ hl.2.2.1) (hC.hts _ hl.2.2.2) (by rw [hR]; exact hf.1) (by rw [hR]; have := hf.2.1; dsimp only; omega) (by rw [hR]; exact hf.2.2.1) (by rw [hR]; exact hf.2.2.2) hdg (kk H locs ls hS hv hll)
end CALLROWS
