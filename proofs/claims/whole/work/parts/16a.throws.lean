/-! EXCEPTIONS: a throw, methods that throw -/
/-- the class of a code -/
def xN : Nat → String
  | 1 => "java/lang/IllegalArgumentException"
  | 2 => "java/lang/IllegalStateException"
  | _ => "java/lang/UnsupportedOperationException"
def xNm : List String := ["java/lang/RuntimeException", "java/lang/Exception"]
def Qlx (Γ : Gm) (c : Nat) (r : Int64) (M' : Mm) : Array Value → State → Outcome → State → Prop := va_Ql (fun x (_ : Unit) => c = 0 ∧ x = r) (fun _ t => Sim Γ M' t.heap) (fr Γ)
def Qvx (Γ : Gm) (c : Nat) (M' : Mm) : Array Value → State → Outcome → State → Prop := va_Qv (fun (_ : Unit) => c = 0) (fun _ t => Sim Γ M' t.heap) (fr Γ)
def XCx (Γ : Gm) (c : Nat) (M' : Mm) : String → State → State → Prop := vx_X (fun (_ : Unit) => c ≠ 0) (fun E _ t => E = xN c ∧ ∃ n, Sim Γ (jk M' n) t.heap) (fr Γ)
def FinX (Γ : Gm) (X : Ct) (Qc : Array Value → State → Outcome → State → Prop) (XC : String → State → State → Prop) (mc ms : Nat) : State → Prop := vx_MQ (xb X) Qc XC (xa X) (xs X) mc ms (fr Γ)
def xCd (X : Ct) : Code := X.2.2.2.2.2.2.2.2.2
theorem metx_of {Γ : Gm} {l : Launch} {M : Mm} {y : MethodName} {cc : ByteArray} {nL : Nat} {ret : Option FieldType} {own : String} {av : List Value} {Qc : Array Value → State → Outcome → State → Prop} {XC : String → State → State → Prop} {F mc ms L : Nat} (hy : plainName y.cls = true) (hown : y.cls = own) (hlen : (lg_sl av).length ≤ nL)
    (body : ∀ X : Ct, Cx Γ X cc own ret nL → (∀ x ∈ (xCd X).exceptionTable.toList, False) → X.2.2.2.1 = ({ frames := F, cells := mc, slots := ms, locals := L } : Room) → X.2.2.2.2.2.2.2.2.1.name = y.name → X.2.1 = l → G Γ X nL M 0 0 (FinX Γ X Qc XC mc ms) 0 (lv_args 0 av) []) : vx_Met l y (wz y cc nL ret) ({ frames := F, cells := mc, slots := ms, locals := L } : Room) (Pq Γ M av) Qc XC mc ms (fr Γ) := by
  refine vx_ofW (cc := cc) (maxL := nL) (ret := ret) hy rfl ?_
  intro p e s m args below meth c s₁ B hml ht hv
  obtain ⟨rfl, hK, hS⟩ := hv
  have hts0 := atoms_spec (ws := wz y cc nL ret) B.pre
  have hown' : s.vm.findClass own = some m.cls := by rw [← hown]; exact findClass_of_methodNamed B.named
  have hname : meth.name = y.name := (name_of_methodNamed B.named B.method).1
  rw [lg_entry_eq]
  exact body (p, l, e, _, s, m, av.toArray, below, meth, c) ⟨B.exec, B.bytes, hml, hown', fun w hw => hts0 w (List.mem_cons_of_mem _ hw), B.returns, B.notSynchronized, hK, hS.2.1⟩ ht rfl hname rfl s.heap [] _ hS va_S.rf (lv_entry av hlen)
/-- the words of a method with a table -/
def wh (y : MethodName) (cc : ByteArray) (nL : Nat) (ret : Option FieldType) (hh : List (Nat × Nat × Nat × Nat)) : List Cond := .codeWith y cc nL ret hh :: lw_g
theorem methx_of {Γ : Gm} {l : Launch} {M : Mm} {y : MethodName} {cc : ByteArray} {nL : Nat} {ret : Option FieldType} {own : String} {hh : List (Nat × Nat × Nat × Nat)} {av : List Value} {Qc : Array Value → State → Outcome → State → Prop} {XC : String → State → State → Prop} {F mc ms L : Nat} (hy : plainName y.cls = true) (hown : y.cls = own) (hlen : (lg_sl av).length ≤ nL)
    (body : ∀ X : Ct, Cx Γ X cc own ret nL → (xCd X).exceptionTable.toList = tableOf hh → X.2.2.2.1 = ({ frames := F, cells := mc, slots := ms, locals := L } : Room) → X.2.2.2.2.2.2.2.2.1.name = y.name → X.2.1 = l → G Γ X nL M 0 0 (FinX Γ X Qc XC mc ms) 0 (lv_args 0 av) []) : vx_Met l y (wh y cc nL ret hh) ({ frames := F, cells := mc, slots := ms, locals := L } : Room) (Pq Γ M av) Qc XC mc ms (fr Γ) := by
  refine vx_ofWH (cc := cc) (maxL := nL) (ret := ret) (hh := hh) hy rfl ?_
  intro p e s m args below meth c s₁ B hml hv
  obtain ⟨rfl, hK, hS⟩ := hv
  have hts0 := atoms_spec (ws := wh y cc nL ret hh) B.pre
  have hown' : s.vm.findClass own = some m.cls := by rw [← hown]; exact findClass_of_methodNamed B.named
  have hname : meth.name = y.name := (name_of_methodNamed B.named B.method).1
  have htb := vx_table (x := y) B (hts0 _ List.mem_cons_self)
  rw [lg_entry_eq]
  exact body (p, l, e, _, s, m, av.toArray, below, meth, c) ⟨B.exec, B.bytes, hml, hown', fun w hw => hts0 w (List.mem_cons_of_mem _ hw), B.returns, B.notSynchronized, hK, hS.2.1⟩ htb rfl hname rfl s.heap [] _ hS va_S.rf (lv_entry av hlen)
/-- the words of a throw -/
def TwOk (ik ic : Nat) (cls : String) : Prop :=
  Bundle.fit cls = true ∧ Cond.classLink RX11 ik cls ∈ lw_g ∧ Cond.initialized cls ∈ lw_g ∧ (∀ w ∈ (vx_atS RX11 ic cls xNm).filter goodWord, w ∈ lw_g) ∧ (∀ w ∈ (vx_atS RX11 ic cls xNm).filter (fun w => !goodWord w), w ∈ lw_n) ∧ (∀ w ∈ vx_atS RX11 ic cls xNm, vx_ot w = true)
theorem lw_gtt {L : List Cond} (h : ∀ w ∈ L.filter goodWord, w ∈ lw_tbl) : ∀ w ∈ L.filter goodWord, w ∈ lw_g := fun w hw => List.mem_filter.mpr ⟨h w hw, (List.mem_filter.mp hw).2⟩
theorem lw_nt {L : List Cond} (h : (L.all fun w => !(!goodWord w) || (lw_tbl.contains w && isNst w)) = true) : ∀ w ∈ L.filter (fun w => !goodWord w), w ∈ lw_n := by
  intro w hw
  obtain ⟨h1, h2⟩ := List.mem_filter.mp hw
  have h3 := List.all_eq_true.mp h w h1
  rw [h2] at h3
  obtain ⟨h4, h5⟩ := Bool.and_eq_true_iff.mp (show (lw_tbl.contains w && isNst w) = true from h3)
  exact List.mem_filter.mpr ⟨List.contains_iff_mem.mp h4, h5⟩
theorem tw_264_268 : TwOk 264 268 (xN 1) := ⟨by decide +kernel, lw_gi 1286 (by decide +kernel), lw_gi 99 (by decide +kernel), lw_gtt (by decide +kernel), lw_nt (by decide +kernel), by decide +kernel⟩
theorem tw_350_354 : TwOk 350 354 (xN 2) := ⟨by decide +kernel, lw_gi 1193 (by decide +kernel), lw_gi 101 (by decide +kernel), lw_gtt (by decide +kernel), lw_nt (by decide +kernel), by decide +kernel⟩
theorem tw_381_387 : TwOk 381 387 (xN 3) := ⟨by decide +kernel, lw_gi 1192 (by decide +kernel), lw_gi 102 (by decide +kernel), lw_gtt (by decide +kernel), lw_nt (by decide +kernel), by decide +kernel⟩
section THROWS
variable {Γ : Gm} {X : Ct} {cc : ByteArray} {own : String} {ret : Option FieldType} {nL : Nat} {M : Mm} {cells slots : Nat} {Q : State → Prop} {pc : Nat} {lv : List (Nat × Value)} {st : List Value}
theorem Cx.xk (hC : Cx Γ X cc own ret nL) : XOK Γ X.2.2.2.2.1 X.2.2.2.2.1.heap := hC.2.2.2.2.2.2.2.1.2.2.2.2.2
/-- the text of a throw -/
def TxtOk (i : Nat) (tx : String) : Prop := ∀ U : State, XtOK U → ∃ a, vk_R "DeepWings" i tx a U
theorem tx_266 : TxtOk 266 "no such READING" := fun _ h => h.1
theorem tx_348 : TxtOk 348 "no such SHELF" := fun _ h => h.2.1
theorem tx_352 : TxtOk 352 "no ROW, or no such place" := fun _ h => h.2.2.1
theorem tx_385 : TxtOk 385 "a SCOUT failed" := fun _ h => h.2.2.2.1
theorem tx_388 : TxtOk 388 "a GLIDER failed" := fun _ h => h.2.2.2.2.1
theorem g_throw (hC : Cx Γ X cc RX11 ret nL) (hTb : ∀ x ∈ (xCd X).exceptionTable.toList, False) (hSt : X.2.1.stackTraces = false) {cls tx : String} {ik is ic k F0 C0 S0 L0 mc ms : Nat} {Qc : Array Value → State → Outcome → State → Prop} (hk : k ≠ 0) (hcls : xN k = cls) (hw : TwOk ik ic cls) (ht : TxtOk is tx) (hR : X.2.2.2.1 = ({ frames := F0, cells := C0, slots := S0, locals := L0 } : Room))
    (hr : 6 ≤ F0 ∧ 82 ≤ L0 ∧ cells + 1 ≤ C0 ∧ slots + 6 ≤ S0 ∧ cells + 1 ≤ mc ∧ slots + 6 ≤ ms)
    (d0 : decode cc pc = .ok (.new ik, 3)) (d3 : decode cc (pc + 3) = .ok (.dup, 1)) (d4 : decode cc (pc + 4) = .ok (.ldc_w is, 3)) (d7 : decode cc (pc + 7) = .ok (.invokespecial ic, 3)) (d10 : decode cc (pc + 10) = .ok (.athrow, 1)) : G Γ X nL M cells slots (FinX Γ X Qc (XCx Γ k M) mc ms) pc lv [] := by
  obtain ⟨w1, w2, w3, w4, w5, w6⟩ := hw
  obtain ⟨hU, hN, hT⟩ := hC.xk
  obtain ⟨a, ha⟩ := ht _ hT
  subst hcls
  intro H locs ls hS hv hl
  refine vx_throwSW (names := xNm) (A := fr Γ) hC.1 hC.2.1 hSt (own := RX11) hC.2.2.2.1 w1 (by decide +kernel) (hC.ht _ w2) (hC.ht _ w3) ha
    (vx_hat (B := lw_n) (fun w h => hC.ht w (w4 w h)) w5 (fun w h => ?_)) ?_ hU hN hv (hl.1.trans hC.2.2.1.symm) d0 d3 d4 d7 d10 (fun x hx => (hTb x hx).elim)
    (by rw [hR]; exact hr.1) (by rw [hR]; exact hr.2.1) (by rw [hR]; exact hr.2.2.1) (by rw [hR]; exact hr.2.2.2.1) hC.2.2.2.2.2.2.1 ?_ hv.2.2 hr.2.2.2.2.1 hr.2.2.2.2.2
  · refine va_Nw.use ?_ (hC.2.2.2.2.2.2.2.1.2.2.2.1 w h)
    have h2 := (List.mem_filter.mp h).2
    cases w <;> first | rfl | cases h2
  · intro w h
    rcases List.mem_cons.mp h with rfl | h
    · rfl
    rcases List.mem_cons.mp h with rfl | h
    · rfl
    exact w6 w h
  · intro t hal hz hq
    exact ⟨(), hk, ⟨rfl, t.heap.size - H.size, hS.junk (by omega) hq⟩, Nat.le_trans hv.1 hz, fun q h1 h2 => (hq q (Nat.lt_of_lt_of_le h1 hv.1)).trans (hv.2.1 q h1 h2)⟩
theorem g_lretX (hC : Cx Γ X cc own (some .long) nL) {v r : Int64} {k : Nat} {M' : Mm} {XC : String → State → State → Prop} {mc ms : Nat} (h : some ((0 : Nat), v, M) = some (k, r, M')) (hc : cells ≤ mc ∧ slots ≤ ms) (hdg : decode cc pc = .ok (.lreturn, 1)) : G Γ X nL M cells slots (FinX Γ X (Qlx Γ k r M') XC mc ms) pc lv [.long v] := by
  cases h
  exact fun H locs ls hS hv hl => vx_ret (W.widen hc.1 hc.2 (W.lret hC.1 hC.2.1 hC.2.2.2.2.2.1 (fun t ht _ => ⟨⟨v, (), rfl, ⟨rfl, rfl⟩, by dsimp only; rw [ht]; exact hS⟩, hv.F ht⟩) hv.2.2 hdg hC.2.2.2.2.2.2.1))
theorem g_vretX (hC : Cx Γ X cc own none nL) {k : Nat} {M' : Mm} {XC : String → State → State → Prop} {mc ms : Nat} (h : some ((0 : Nat), M) = some (k, M')) (hc : cells ≤ mc ∧ slots ≤ ms) (hdg : decode cc pc = .ok (.return_, 1)) : G Γ X nL M cells slots (FinX Γ X (Qvx Γ k M') XC mc ms) pc lv [] := by
  cases h
  exact fun H locs ls hS hv hl => vx_ret (W.widen hc.1 hc.2 (W.vret hC.1 hC.2.1 hC.2.2.2.2.2.1 (fun t ht _ => ⟨⟨(), rfl, rfl, by dsimp only; rw [ht]; exact hS⟩, hv.F ht⟩) hv.2.2 hdg hC.2.2.2.2.2.2.1))
end THROWS
