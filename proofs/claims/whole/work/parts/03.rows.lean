/-! THE ROWS: an instruction, a row, over the memory -/
abbrev Ct : Type := Program × Launch × Env × Room × State × MethodId × Array Value × List Frame × Method × Code
def xs (X : Ct) : State := X.2.2.2.2.1
def xm (X : Ct) : MethodId := X.2.2.2.2.2.1
def xa (X : Ct) : Array Value := X.2.2.2.2.2.2.1
def xb (X : Ct) : List Frame := X.2.2.2.2.2.2.2.1
def xR (X : Ct) : Room := X.2.2.2.1
def Wx (X : Ct) (H : Heap) (locs : List Loc) (cells slots : Nat) (Q : State → Prop) (g : JFrame) : Prop :=
  W X.1 X.2.1 X.2.2.1 X.2.2.2.1 X.2.2.2.2.1 X.2.2.2.2.2.1 X.2.2.2.2.2.2.1 X.2.2.2.2.2.2.2.1 X.2.2.2.2.2.2.2.2.1 X.2.2.2.2.2.2.2.2.2 H locs cells slots Q g
def tyl (ca : Nat → ClassId) : List (ClassId × FieldType) := [(ca 1, .int), (ca 2, .boolean), (ca 3, .object "DeepWings$Glider"), (ca 4, .object "DeepWings$Order"), (ca 5, .object "DeepWings$Shelf"), (ca 6, .long)]
/-- the static rows stand -/
def StOK (Γ : Gm) (U : State) (H : Heap) : Prop := ∀ j : Nat, j < 4 → va_Z "DeepWings" (sNm j) "[I" (.ref (Γ.2.2.1 j)) (fr Γ) U H ∧ va_T .int (Γ.2.2.1 j) (sVl j).length (fun k => .int ((sVl j).getD k 0)) (fr Γ) U H
/-- the texts stand -/
def TxOK (Γ : Gm) (U : State) (H : Heap) : Prop := vk_S 2 [9, 3] [tBy 0, tBy 1] Γ.2.2.2.1.1 Γ.2.2.2.1.2 (fr Γ) U H ∧ va_Z "java/lang/String" "COMPACT_STRINGS" "Z" (.int 1) (fr Γ) U H ∧ vk_R "DeepWings$OrderReader" 55 "pxylfhtsd" (Γ.2.2.2.1.1 0) U ∧ vk_R "DeepWings$OrderReader" 61 "<>=" (Γ.2.2.2.1.1 1) U ∧ va_Zq "jdk/internal/util/Preconditions" "SIOOBE_FORMATTER" "Ljava/util/function/BiFunction;" (fr Γ) U H
/-- the rows of references: which kind holds which class -/
def rCl : Nat → String
  | 3 => "DeepWings$Glider"
  | 4 => "DeepWings$Order"
  | _ => "DeepWings$Shelf"
/-- links into nest mates -/
def isNst : Cond → Bool
  | .methodLinkNest _ _ _ _ => true
  | .fieldLinkNest _ _ _ _ _ _ => true
  | .declares _ => true
  | .castable _ _ => true
  | _ => false
def lw_n : List Cond := lw_tbl.filter isNst
theorem lw_ni {w : Cond} (i : Nat) (h : (decide (lw_tbl[i]? = some w) && isNst w) = true) : w ∈ lw_n := by
  obtain ⟨hp, h⟩ := Bool.and_eq_true_iff.mp h
  exact List.mem_filter.mpr ⟨List.mem_of_getElem? (of_decide_eq_true hp), h⟩
def NwOK (U : State) : Prop := ∀ w, w ∈ lw_n → va_Nw w U
theorem NwOK.warm {s U : State} (h : NwOK s) (hW : s.WarmedH U.vm) : NwOK U := by
  intro w hw
  have h1 := h w hw
  have h2 := (List.mem_filter.mp hw).2
  cases w <;> first | exact va_Nw.warmM hW h1 | exact va_Nw.warmF hW h1 | exact va_Nw.warmD hW h1 | exact va_Nw.warmC hW h1 | cases h2
/-- what a throw wants: Throwable's two statics, the texts of what is thrown -/
def XtOK (U : State) : Prop := (∃ a, vk_R "DeepWings" 266 "no such READING" a U) ∧ (∃ a, vk_R "DeepWings" 348 "no such SHELF" a U) ∧ (∃ a, vk_R "DeepWings" 352 "no ROW, or no such place" a U) ∧ (∃ a, vk_R "DeepWings" 385 "a SCOUT failed" a U) ∧ (∃ a, vk_R "DeepWings" 388 "a GLIDER failed" a U) ∧ va_Nc "java/lang/IllegalStateException" "java/lang/UnsupportedOperationException" U ∧ va_Nc "java/lang/IllegalStateException" "java/lang/IllegalArgumentException" U
theorem XtOK.warm {s U : State} (h : XtOK s) (hW : s.WarmedH U.vm) : XtOK U := by
  obtain ⟨⟨a, h1⟩, ⟨b, h2⟩, ⟨c, h3⟩, ⟨d, h4⟩, ⟨e, h5⟩, h6, h7⟩ := h
  exact ⟨⟨a, h1.warm hW⟩, ⟨b, h2.warm hW⟩, ⟨c, h3.warm hW⟩, ⟨d, h4.warm hW⟩, ⟨e, h5.warm hW⟩, va_Nc.moved hW.alike h6, va_Nc.moved hW.alike h7⟩
def XOK (Γ : Gm) (U : State) (H : Heap) : Prop := vx_Zq Bundle.tN "UNASSIGNED_STACK" Bundle.steD (fr Γ) U H ∧ vx_Zq Bundle.tN "SUPPRESSED_SENTINEL" Bundle.listD (fr Γ) U H ∧ XtOK U
def Kk (Γ : Gm) (U : State) (H : Heap) : Prop := va_K Γ.1 vwCl (tyl Γ.2.1) U ∧ StOK Γ U H ∧ TxOK Γ U H ∧ NwOK U ∧ (∀ t : Nat, t = 3 ∨ t = 4 ∨ t = 5 → va_AO (rCl t) U) ∧ XOK Γ U H
theorem Kk.mv {Γ : Gm} {u U : State} {H H1 : Heap} (h : Kk Γ u H) (hW : u.WarmedH U.vm) (hq : ∀ a : Nat, a < H.size → ¬ fr Γ a → H1[a]? = H[a]?) : Kk Γ U H1 := by
  obtain ⟨h1, h2, ⟨h3, h4, h5, h6, h8⟩, h7, h9, h10, h11, h12⟩ := h
  exact ⟨va_K.moved hW.alike h1, fun j hj => ⟨((h2 j hj).1.moved hW.alike).kept hq, ((h2 j hj).2.moved hW.alike).kept hq⟩, ⟨(h3.moved hW.alike).kept hq, (h4.moved hW.alike).kept hq, h5.warm hW, h6.warm hW, (h8.moved hW.alike).kept hq⟩, h7.warm hW, fun t ht => va_AO.moved hW.alike (h9 t ht), (h10.moved hW.alike).kept hq, (h11.moved hW.alike).kept hq, h12.warm hW⟩
/-- what holds all through a method -/
def Cx (Γ : Gm) (X : Ct) (cc : ByteArray) (own : String) (ret : Option FieldType) (nL : Nat) : Prop :=
  X.1.tables.exec = Jvm.exec ∧ X.2.2.2.2.2.2.2.2.2.code = cc ∧ X.2.2.2.2.2.2.2.2.2.maxLocals = nL ∧ X.2.2.2.2.1.vm.findClass own = some X.2.2.2.2.2.1.cls ∧ (∀ w ∈ lw_g, w.before X.2.2.2.2.2.2.1 X.2.2.2.2.1 = true) ∧ X.2.2.2.2.2.2.2.2.1.sig.returnType = ret ∧ X.2.2.2.2.2.2.2.2.1.locks = false ∧ Kk Γ X.2.2.2.2.1 X.2.2.2.2.1.heap ∧ gb Γ ≤ X.2.2.2.2.1.heap.size
/-- the machine goes on from here to Q, whatever heap holds the memory -/
def G (Γ : Gm) (X : Ct) (nL : Nat) (M : Mm) (cells slots : Nat) (Q : State → Prop) (pc : Nat) (lv : List (Nat × Value)) (st : List Value) : Prop :=
  ∀ (H : Heap) (locs : List Loc) (ls : Array Slot), Sim Γ M H → va_S (fr Γ) X.2.2.2.2.1.heap H locs → lv_has ls nL lv → Wx X H locs cells slots Q (F0 X.2.2.2.2.2.1 pc ls st)
section ROWS
variable {Γ : Gm} {X : Ct} {cc : ByteArray} {own : String} {ret : Option FieldType} {nL : Nat} {M : Mm} {cells slots : Nat} {Q : State → Prop} {pc : Nat} {lv : List (Nat × Value)} {st : List Value}
theorem Cx.ht (hC : Cx Γ X cc own ret nL) : ∀ w ∈ lw_g, w.before X.2.2.2.2.2.2.1 X.2.2.2.2.1 = true := hC.2.2.2.2.1
theorem g_iconst (hC : Cx Γ X cc own ret nL) {n : Int} (v : Int32) (hdg : decode cc pc = .ok (.iconst n, 1)) (hv : Int32.ofInt n = v) (k : G Γ X nL M cells slots Q (pc + 1) lv (.int v :: st)) : G Γ X nL M cells slots Q pc lv st :=
  fun H locs ls a b c => lv_iconst hC.1 hC.2.1 hdg hv (k H locs ls a b c)
theorem g_bipush (hC : Cx Γ X cc own ret nL) {n : Int} (v : Int32) (hdg : decode cc pc = .ok (.bipush n, 2)) (hv : (Int8.ofInt n).toInt32 = v) (k : G Γ X nL M cells slots Q (pc + 2) lv (.int v :: st)) : G Γ X nL M cells slots Q pc lv st :=
  fun H locs ls a b c => lv_bipush hC.1 hC.2.1 hdg hv (k H locs ls a b c)
theorem g_sipush (hC : Cx Γ X cc own ret nL) {n : Int} (v : Int32) (hdg : decode cc pc = .ok (.sipush n, 3)) (hv : (Int16.ofInt n).toInt32 = v) (k : G Γ X nL M cells slots Q (pc + 3) lv (.int v :: st)) : G Γ X nL M cells slots Q pc lv st :=
  fun H locs ls a b c => lv_sipush hC.1 hC.2.1 hdg hv (k H locs ls a b c)
theorem g_lconst (hC : Cx Γ X cc own ret nL) {n : Fin 2} (v : Int64) (hdg : decode cc pc = .ok (.lconst n, 1)) (hv : Int64.ofNat (n : Nat) = v) (k : G Γ X nL M cells slots Q (pc + 1) lv (.long v :: st)) : G Γ X nL M cells slots Q pc lv st :=
  fun H locs ls a b c => lv_lconst hC.1 hC.2.1 hdg hv (k H locs ls a b c)
theorem g_null (hC : Cx Γ X cc own ret nL) (hdg : decode cc pc = .ok (.aconst_null, 1)) (k : G Γ X nL M cells slots Q (pc + 1) lv (.null :: st)) : G Γ X nL M cells slots Q pc lv st :=
  fun H locs ls a b c => lv_null hC.1 hC.2.1 hdg (k H locs ls a b c)
theorem g_iload_n (hC : Cx Γ X cc own ret nL) {i : Fin 4} (j : Nat) {x : Int32} (hdg : decode cc pc = .ok (.iload_n i, 1)) (hl : lv[j]? = some ((i : Nat), .int x)) (k : G Γ X nL M cells slots Q (pc + 1) lv (.int x :: st)) : G Γ X nL M cells slots Q pc lv st :=
  fun H locs ls a b c => lv_iload_n hC.1 hC.2.1 hdg rfl (lv_at c j hl) (k H locs ls a b c)
theorem g_iload (hC : Cx Γ X cc own ret nL) {i : Nat} (j : Nat) {x : Int32} (hdg : decode cc pc = .ok (.iload i, 2)) (hl : lv[j]? = some (i, .int x)) (k : G Γ X nL M cells slots Q (pc + 2) lv (.int x :: st)) : G Γ X nL M cells slots Q pc lv st :=
  fun H locs ls a b c => lv_iload hC.1 hC.2.1 hdg (lv_at c j hl) (k H locs ls a b c)
theorem g_lload (hC : Cx Γ X cc own ret nL) {i : Nat} (j : Nat) {x : Int64} (hdg : decode cc pc = .ok (.lload i, 2)) (hl : lv[j]? = some (i, .long x)) (k : G Γ X nL M cells slots Q (pc + 2) lv (.long x :: st)) : G Γ X nL M cells slots Q pc lv st :=
  fun H locs ls a b c => lv_lload hC.1 hC.2.1 hdg (lv_at c j hl) (k H locs ls a b c)
theorem g_aload_n (hC : Cx Γ X cc own ret nL) {i : Fin 4} (j : Nat) {x : Nat} (hdg : decode cc pc = .ok (.aload_n i, 1)) (hl : lv[j]? = some ((i : Nat), .ref x)) (k : G Γ X nL M cells slots Q (pc + 1) lv (.ref x :: st)) : G Γ X nL M cells slots Q pc lv st :=
  fun H locs ls a b c => lv_aload_n hC.1 hC.2.1 hdg rfl (lv_at c j hl) (k H locs ls a b c)
theorem g_aload (hC : Cx Γ X cc own ret nL) {i : Nat} (j : Nat) {x : Nat} (hdg : decode cc pc = .ok (.aload i, 2)) (hl : lv[j]? = some (i, .ref x)) (k : G Γ X nL M cells slots Q (pc + 2) lv (.ref x :: st)) : G Γ X nL M cells slots Q pc lv st :=
  fun H locs ls a b c => lv_aload hC.1 hC.2.1 hdg (lv_at c j hl) (k H locs ls a b c)
theorem g_aload_nq (hC : Cx Γ X cc own ret nL) {i : Fin 4} (j : Nat) {x : Option Nat} (hdg : decode cc pc = .ok (.aload_n i, 1)) (hl : lv[j]? = some ((i : Nat), va_rf x)) (k : G Γ X nL M cells slots Q (pc + 1) lv (va_rf x :: st)) : G Γ X nL M cells slots Q pc lv st := by
  cases x with
  | none => exact fun H locs ls a b c => lv_aload_nN hC.1 hC.2.1 hdg rfl (lv_at c j hl) (k H locs ls a b c)
  | some x => exact fun H locs ls a b c => lv_aload_n hC.1 hC.2.1 hdg rfl (lv_at c j hl) (k H locs ls a b c)
theorem g_aloadq (hC : Cx Γ X cc own ret nL) {i : Nat} (j : Nat) {x : Option Nat} (hdg : decode cc pc = .ok (.aload i, 2)) (hl : lv[j]? = some (i, va_rf x)) (k : G Γ X nL M cells slots Q (pc + 2) lv (va_rf x :: st)) : G Γ X nL M cells slots Q pc lv st := by
  cases x with
  | none => exact fun H locs ls a b c => lv_aloadN hC.1 hC.2.1 hdg (lv_at c j hl) (k H locs ls a b c)
  | some x => exact fun H locs ls a b c => lv_aload hC.1 hC.2.1 hdg (lv_at c j hl) (k H locs ls a b c)
theorem g_istore_n (hC : Cx Γ X cc own ret nL) {i : Fin 4} {x : Int32} (lv' : List (Nat × Value)) (hdg : decode cc pc = .ok (.istore_n i, 1)) (hn : (i : Nat) < nL) (hl : ((i : Nat), Value.int x) :: lv.filter (fun q => !(q.1 == (i : Nat)) && !(q.1 + 1 == (i : Nat) && q.2.category == 2)) = lv') (k : G Γ X nL M cells slots Q (pc + 1) lv' st) : G Γ X nL M cells slots Q pc lv (.int x :: st) :=
  fun H locs ls a b c => lv_istore_n hC.1 hC.2.1 hdg rfl c hn hl (fun ls' c' => k H locs ls' a b c')
theorem g_istore (hC : Cx Γ X cc own ret nL) {i : Nat} {x : Int32} (lv' : List (Nat × Value)) (hdg : decode cc pc = .ok (.istore i, 2)) (hn : i < nL) (hl : (i, Value.int x) :: lv.filter (fun q => !(q.1 == i) && !(q.1 + 1 == i && q.2.category == 2)) = lv') (k : G Γ X nL M cells slots Q (pc + 2) lv' st) : G Γ X nL M cells slots Q pc lv (.int x :: st) :=
  fun H locs ls a b c => lv_istore hC.1 hC.2.1 hdg c hn hl (fun ls' c' => k H locs ls' a b c')
theorem g_lstore (hC : Cx Γ X cc own ret nL) {i : Nat} {x : Int64} (lv' : List (Nat × Value)) (hdg : decode cc pc = .ok (.lstore i, 2)) (hn : i + 1 < nL) (hl : (i, Value.long x) :: lv.filter (fun q => !(q.1 == i) && (!(q.1 == i + 1) && !(q.1 + 1 == i && q.2.category == 2))) = lv') (k : G Γ X nL M cells slots Q (pc + 2) lv' st) : G Γ X nL M cells slots Q pc lv (.long x :: st) :=
  fun H locs ls a b c => lv_lstore hC.1 hC.2.1 hdg c hn hl (fun ls' c' => k H locs ls' a b c')
theorem g_astore_n (hC : Cx Γ X cc own ret nL) {i : Fin 4} {x : Nat} (lv' : List (Nat × Value)) (hdg : decode cc pc = .ok (.astore_n i, 1)) (hn : (i : Nat) < nL) (hl : ((i : Nat), Value.ref x) :: lv.filter (fun q => !(q.1 == (i : Nat)) && !(q.1 + 1 == (i : Nat) && q.2.category == 2)) = lv') (k : G Γ X nL M cells slots Q (pc + 1) lv' st) : G Γ X nL M cells slots Q pc lv (.ref x :: st) :=
  fun H locs ls a b c => lv_astore_n hC.1 hC.2.1 hdg rfl c hn hl (fun ls' c' => k H locs ls' a b c')
theorem g_astore (hC : Cx Γ X cc own ret nL) {i : Nat} {x : Nat} (lv' : List (Nat × Value)) (hdg : decode cc pc = .ok (.astore i, 2)) (hn : i < nL) (hl : (i, Value.ref x) :: lv.filter (fun q => !(q.1 == i) && !(q.1 + 1 == i && q.2.category == 2)) = lv') (k : G Γ X nL M cells slots Q (pc + 2) lv' st) : G Γ X nL M cells slots Q pc lv (.ref x :: st) :=
  fun H locs ls a b c => lv_astore hC.1 hC.2.1 hdg c hn hl (fun ls' c' => k H locs ls' a b c')
theorem g_astore_nq (hC : Cx Γ X cc own ret nL) {i : Fin 4} {x : Option Nat} (lv' : List (Nat × Value)) (hdg : decode cc pc = .ok (.astore_n i, 1)) (hn : (i : Nat) < nL) (hl : ((i : Nat), va_rf x) :: lv.filter (fun q => !(q.1 == (i : Nat)) && !(q.1 + 1 == (i : Nat) && q.2.category == 2)) = lv') (k : G Γ X nL M cells slots Q (pc + 1) lv' st) : G Γ X nL M cells slots Q pc lv (va_rf x :: st) := by
  cases x with
  | none => exact fun H locs ls a b c => lv_astore_nN hC.1 hC.2.1 hdg rfl c hn hl (fun ls' c' => k H locs ls' a b c')
  | some x => exact fun H locs ls a b c => lv_astore_n hC.1 hC.2.1 hdg rfl c hn hl (fun ls' c' => k H locs ls' a b c')
theorem g_astoreq (hC : Cx Γ X cc own ret nL) {i : Nat} {x : Option Nat} (lv' : List (Nat × Value)) (hdg : decode cc pc = .ok (.astore i, 2)) (hn : i < nL) (hl : (i, va_rf x) :: lv.filter (fun q => !(q.1 == i) && !(q.1 + 1 == i && q.2.category == 2)) = lv') (k : G Γ X nL M cells slots Q (pc + 2) lv' st) : G Γ X nL M cells slots Q pc lv (va_rf x :: st) := by
  cases x with
  | none => exact fun H locs ls a b c => lv_astoreN hC.1 hC.2.1 hdg c hn hl (fun ls' c' => k H locs ls' a b c')
  | some x => exact fun H locs ls a b c => lv_astore hC.1 hC.2.1 hdg c hn hl (fun ls' c' => k H locs ls' a b c')
theorem g_iinc (hC : Cx Γ X cc own ret nL) {i : Nat} {n : Int} {x : Int32} (j : Nat) (v : Int32) (lv' : List (Nat × Value)) (hdg : decode cc pc = .ok (.iinc i n, 3)) (hk : lv[j]? = some (i, .int x)) (hv : x + Int32.ofInt n = v) (hn : i < nL) (hl : (i, Value.int v) :: lv.filter (fun q => !(q.1 == i) && !(q.1 + 1 == i && q.2.category == 2)) = lv') (k : G Γ X nL M cells slots Q (pc + 3) lv' st) : G Γ X nL M cells slots Q pc lv st :=
  fun H locs ls a b c => lv_iinc hC.1 hC.2.1 hdg c hk hv hn hl (fun ls' c' => k H locs ls' a b c')
theorem g_iadd (hC : Cx Γ X cc own ret nL) {x y : Int32} (hdg : decode cc pc = .ok (.iadd, 1)) (k : G Γ X nL M cells slots Q (pc + 1) lv (.int (x + y) :: st)) : G Γ X nL M cells slots Q pc lv (.int y :: .int x :: st) :=
  fun H locs ls a b c => lv_iadd hC.1 hC.2.1 hdg (k H locs ls a b c)
theorem g_isub (hC : Cx Γ X cc own ret nL) {x y : Int32} (hdg : decode cc pc = .ok (.isub, 1)) (k : G Γ X nL M cells slots Q (pc + 1) lv (.int (x - y) :: st)) : G Γ X nL M cells slots Q pc lv (.int y :: .int x :: st) :=
  fun H locs ls a b c => lv_isub hC.1 hC.2.1 hdg (k H locs ls a b c)
theorem g_imul (hC : Cx Γ X cc own ret nL) {x y : Int32} (hdg : decode cc pc = .ok (.imul, 1)) (k : G Γ X nL M cells slots Q (pc + 1) lv (.int (x * y) :: st)) : G Γ X nL M cells slots Q pc lv (.int y :: .int x :: st) :=
  fun H locs ls a b c => lv_imul hC.1 hC.2.1 hdg (k H locs ls a b c)
theorem g_iand (hC : Cx Γ X cc own ret nL) {x y : Int32} (hdg : decode cc pc = .ok (.iand, 1)) (k : G Γ X nL M cells slots Q (pc + 1) lv (.int (x &&& y) :: st)) : G Γ X nL M cells slots Q pc lv (.int y :: .int x :: st) :=
  fun H locs ls a b c => lv_iand hC.1 hC.2.1 hdg (k H locs ls a b c)
theorem g_ineg (hC : Cx Γ X cc own ret nL) {x : Int32} (hdg : decode cc pc = .ok (.ineg, 1)) (k : G Γ X nL M cells slots Q (pc + 1) lv (.int (-x) :: st)) : G Γ X nL M cells slots Q pc lv (.int x :: st) :=
  fun H locs ls a b c => lv_ineg hC.1 hC.2.1 hdg (k H locs ls a b c)
theorem g_idiv (hC : Cx Γ X cc own ret nL) {x y v : Int32} (e : dvI x y = some v) (hdg : decode cc pc = .ok (.idiv, 1)) (k : G Γ X nL M cells slots Q (pc + 1) lv (.int v :: st)) : G Γ X nL M cells slots Q pc lv (.int y :: .int x :: st) := by
  obtain ⟨h, rfl⟩ := dvI_e e
  exact fun H locs ls a b c => lv_idiv hC.1 hC.2.1 hdg h (k H locs ls a b c)
theorem g_irem (hC : Cx Γ X cc own ret nL) {x y v : Int32} (e : rmI x y = some v) (hdg : decode cc pc = .ok (.irem, 1)) (k : G Γ X nL M cells slots Q (pc + 1) lv (.int v :: st)) : G Γ X nL M cells slots Q pc lv (.int y :: .int x :: st) := by
  obtain ⟨h, rfl⟩ := rmI_e e
  exact fun H locs ls a b c => lv_irem hC.1 hC.2.1 hdg h (k H locs ls a b c)
theorem g_i2b (hC : Cx Γ X cc own ret nL) {x : Int32} (hdg : decode cc pc = .ok (.i2b, 1)) (k : G Γ X nL M cells slots Q (pc + 1) lv (.int x.toInt8.toInt32 :: st)) : G Γ X nL M cells slots Q pc lv (.int x :: st) :=
  fun H locs ls a b c => lv_i2b hC.1 hC.2.1 hdg rfl (k H locs ls a b c)
theorem g_i2s (hC : Cx Γ X cc own ret nL) {x : Int32} (hdg : decode cc pc = .ok (.i2s, 1)) (k : G Γ X nL M cells slots Q (pc + 1) lv (.int x.toInt16.toInt32 :: st)) : G Γ X nL M cells slots Q pc lv (.int x :: st) :=
  fun H locs ls a b c => lv_i2s hC.1 hC.2.1 hdg rfl (k H locs ls a b c)
theorem g_i2l (hC : Cx Γ X cc own ret nL) {x : Int32} (hdg : decode cc pc = .ok (.i2l, 1)) (k : G Γ X nL M cells slots Q (pc + 1) lv (.long x.toInt64 :: st)) : G Γ X nL M cells slots Q pc lv (.int x :: st) :=
  fun H locs ls a b c => lv_i2l hC.1 hC.2.1 hdg rfl (k H locs ls a b c)
theorem g_lcmp (hC : Cx Γ X cc own ret nL) {x y : Int64} (hdg : decode cc pc = .ok (.lcmp, 1)) (k : G Γ X nL M cells slots Q (pc + 1) lv (.int (lg_cmp x y) :: st)) : G Γ X nL M cells slots Q pc lv (.long y :: .long x :: st) :=
  fun H locs ls a b c => W.lcmp hC.1 hC.2.1 hdg (k H locs ls a b c)
theorem cat_rf (x : Option Nat) : (va_rf x).category = 1 := by cases x <;> rfl
theorem g_dup (hC : Cx Γ X cc own ret nL) {v : Value} (hdg : decode cc pc = .ok (.dup, 1)) (hv : v.category = 1) (k : G Γ X nL M cells slots Q (pc + 1) lv (v :: v :: st)) : G Γ X nL M cells slots Q pc lv (v :: st) :=
  fun H locs ls a b c => lv_dup hC.1 hC.2.1 hdg hv (k H locs ls a b c)
theorem g_dup_x1 (hC : Cx Γ X cc own ret nL) {v w : Value} (hdg : decode cc pc = .ok (.dup_x1, 1)) (hv : v.category = 1) (hw : w.category = 1) (k : G Γ X nL M cells slots Q (pc + 1) lv (v :: w :: v :: st)) : G Γ X nL M cells slots Q pc lv (v :: w :: st) :=
  fun H locs ls a b c => lv_dup_x1 hC.1 hC.2.1 hdg hv hw (k H locs ls a b c)
theorem g_dup2 (hC : Cx Γ X cc own ret nL) {v w : Value} (hdg : decode cc pc = .ok (.dup2, 1)) (hv : v.category = 1) (hw : w.category = 1) (k : G Γ X nL M cells slots Q (pc + 1) lv (v :: w :: v :: w :: st)) : G Γ X nL M cells slots Q pc lv (v :: w :: st) :=
  fun H locs ls a b c => lv_dup2_11 hC.1 hC.2.1 hdg hv hw (k H locs ls a b c)
theorem g_pop (hC : Cx Γ X cc own ret nL) {v : Value} (hdg : decode cc pc = .ok (.pop, 1)) (hv : v.category = 1) (k : G Γ X nL M cells slots Q (pc + 1) lv st) : G Γ X nL M cells slots Q pc lv (v :: st) :=
  fun H locs ls a b c => lv_pop hC.1 hC.2.1 hdg hv (k H locs ls a b c)
theorem g_goto (hC : Cx Γ X cc own ret nL) {off : Int} (tgt : Nat) (hdg : decode cc pc = .ok (.goto off, 3)) (ht : (pc : Int) + off = (tgt : Int)) (k : G Γ X nL M cells slots Q tgt lv st) : G Γ X nL M cells slots Q pc lv st :=
  fun H locs ls a b c => lv_goto hC.1 hC.2.1 hdg ht (k H locs ls a b c)
theorem g_if_eq (hC : Cx Γ X cc own ret nL) {x : Int32} {off : Int} (tgt : Nat) (hdg : decode cc pc = .ok (.ifCond .eq off, 3)) (ht : (pc : Int) + off = (tgt : Int)) (kt : x = 0 → G Γ X nL M cells slots Q tgt lv st) (kf : ¬ x = 0 → G Γ X nL M cells slots Q (pc + 3) lv st) : G Γ X nL M cells slots Q pc lv (.int x :: st) :=
  fun H locs ls a b c => lv_if_eq hC.1 hC.2.1 hdg ht (fun z => kt z H locs ls a b c) (fun z => kf z H locs ls a b c)
theorem g_icmp_eq (hC : Cx Γ X cc own ret nL) {x y : Int32} {off : Int} (tgt : Nat) (hdg : decode cc pc = .ok (.if_icmp .eq off, 3)) (ht : (pc : Int) + off = (tgt : Int)) (kt : x = y → G Γ X nL M cells slots Q tgt lv st) (kf : ¬ x = y → G Γ X nL M cells slots Q (pc + 3) lv st) : G Γ X nL M cells slots Q pc lv (.int y :: .int x :: st) :=
  fun H locs ls a b c => lv_icmp_eq hC.1 hC.2.1 hdg ht (fun z => kt z H locs ls a b c) (fun z => kf z H locs ls a b c)
theorem g_if_ne (hC : Cx Γ X cc own ret nL) {x : Int32} {off : Int} (tgt : Nat) (hdg : decode cc pc = .ok (.ifCond .ne off, 3)) (ht : (pc : Int) + off = (tgt : Int)) (kt : ¬ x = 0 → G Γ X nL M cells slots Q tgt lv st) (kf : x = 0 → G Γ X nL M cells slots Q (pc + 3) lv st) : G Γ X nL M cells slots Q pc lv (.int x :: st) :=
  fun H locs ls a b c => lv_if_ne hC.1 hC.2.1 hdg ht (fun z => kt z H locs ls a b c) (fun z => kf z H locs ls a b c)
theorem g_icmp_ne (hC : Cx Γ X cc own ret nL) {x y : Int32} {off : Int} (tgt : Nat) (hdg : decode cc pc = .ok (.if_icmp .ne off, 3)) (ht : (pc : Int) + off = (tgt : Int)) (kt : ¬ x = y → G Γ X nL M cells slots Q tgt lv st) (kf : x = y → G Γ X nL M cells slots Q (pc + 3) lv st) : G Γ X nL M cells slots Q pc lv (.int y :: .int x :: st) :=
  fun H locs ls a b c => lv_icmp_ne hC.1 hC.2.1 hdg ht (fun z => kt z H locs ls a b c) (fun z => kf z H locs ls a b c)
theorem g_if_lt (hC : Cx Γ X cc own ret nL) {x : Int32} {off : Int} (tgt : Nat) (hdg : decode cc pc = .ok (.ifCond .lt off, 3)) (ht : (pc : Int) + off = (tgt : Int)) (kt : x < 0 → G Γ X nL M cells slots Q tgt lv st) (kf : ¬ x < 0 → G Γ X nL M cells slots Q (pc + 3) lv st) : G Γ X nL M cells slots Q pc lv (.int x :: st) :=
  fun H locs ls a b c => lv_if_lt hC.1 hC.2.1 hdg ht (fun z => kt z H locs ls a b c) (fun z => kf z H locs ls a b c)
theorem g_icmp_lt (hC : Cx Γ X cc own ret nL) {x y : Int32} {off : Int} (tgt : Nat) (hdg : decode cc pc = .ok (.if_icmp .lt off, 3)) (ht : (pc : Int) + off = (tgt : Int)) (kt : x < y → G Γ X nL M cells slots Q tgt lv st) (kf : ¬ x < y → G Γ X nL M cells slots Q (pc + 3) lv st) : G Γ X nL M cells slots Q pc lv (.int y :: .int x :: st) :=
  fun H locs ls a b c => lv_icmp_lt hC.1 hC.2.1 hdg ht (fun z => kt z H locs ls a b c) (fun z => kf z H locs ls a b c)
theorem g_if_ge (hC : Cx Γ X cc own ret nL) {x : Int32} {off : Int} (tgt : Nat) (hdg : decode cc pc = .ok (.ifCond .ge off, 3)) (ht : (pc : Int) + off = (tgt : Int)) (kt : 0 ≤ x → G Γ X nL M cells slots Q tgt lv st) (kf : ¬ 0 ≤ x → G Γ X nL M cells slots Q (pc + 3) lv st) : G Γ X nL M cells slots Q pc lv (.int x :: st) :=
  fun H locs ls a b c => lv_if_ge hC.1 hC.2.1 hdg ht (fun z => kt z H locs ls a b c) (fun z => kf z H locs ls a b c)
theorem g_icmp_ge (hC : Cx Γ X cc own ret nL) {x y : Int32} {off : Int} (tgt : Nat) (hdg : decode cc pc = .ok (.if_icmp .ge off, 3)) (ht : (pc : Int) + off = (tgt : Int)) (kt : y ≤ x → G Γ X nL M cells slots Q tgt lv st) (kf : ¬ y ≤ x → G Γ X nL M cells slots Q (pc + 3) lv st) : G Γ X nL M cells slots Q pc lv (.int y :: .int x :: st) :=
  fun H locs ls a b c => lv_icmp_ge hC.1 hC.2.1 hdg ht (fun z => kt z H locs ls a b c) (fun z => kf z H locs ls a b c)
theorem g_if_gt (hC : Cx Γ X cc own ret nL) {x : Int32} {off : Int} (tgt : Nat) (hdg : decode cc pc = .ok (.ifCond .gt off, 3)) (ht : (pc : Int) + off = (tgt : Int)) (kt : 0 < x → G Γ X nL M cells slots Q tgt lv st) (kf : ¬ 0 < x → G Γ X nL M cells slots Q (pc + 3) lv st) : G Γ X nL M cells slots Q pc lv (.int x :: st) :=
  fun H locs ls a b c => lv_if_gt hC.1 hC.2.1 hdg ht (fun z => kt z H locs ls a b c) (fun z => kf z H locs ls a b c)
theorem g_icmp_gt (hC : Cx Γ X cc own ret nL) {x y : Int32} {off : Int} (tgt : Nat) (hdg : decode cc pc = .ok (.if_icmp .gt off, 3)) (ht : (pc : Int) + off = (tgt : Int)) (kt : y < x → G Γ X nL M cells slots Q tgt lv st) (kf : ¬ y < x → G Γ X nL M cells slots Q (pc + 3) lv st) : G Γ X nL M cells slots Q pc lv (.int y :: .int x :: st) :=
  fun H locs ls a b c => lv_icmp_gt hC.1 hC.2.1 hdg ht (fun z => kt z H locs ls a b c) (fun z => kf z H locs ls a b c)
theorem g_if_le (hC : Cx Γ X cc own ret nL) {x : Int32} {off : Int} (tgt : Nat) (hdg : decode cc pc = .ok (.ifCond .le off, 3)) (ht : (pc : Int) + off = (tgt : Int)) (kt : x ≤ 0 → G Γ X nL M cells slots Q tgt lv st) (kf : ¬ x ≤ 0 → G Γ X nL M cells slots Q (pc + 3) lv st) : G Γ X nL M cells slots Q pc lv (.int x :: st) :=
  fun H locs ls a b c => lv_if_le hC.1 hC.2.1 hdg ht (fun z => kt z H locs ls a b c) (fun z => kf z H locs ls a b c)
theorem g_icmp_le (hC : Cx Γ X cc own ret nL) {x y : Int32} {off : Int} (tgt : Nat) (hdg : decode cc pc = .ok (.if_icmp .le off, 3)) (ht : (pc : Int) + off = (tgt : Int)) (kt : x ≤ y → G Γ X nL M cells slots Q tgt lv st) (kf : ¬ x ≤ y → G Γ X nL M cells slots Q (pc + 3) lv st) : G Γ X nL M cells slots Q pc lv (.int y :: .int x :: st) :=
  fun H locs ls a b c => lv_icmp_le hC.1 hC.2.1 hdg ht (fun z => kt z H locs ls a b c) (fun z => kf z H locs ls a b c)
theorem g_acmp_ne (hC : Cx Γ X cc own ret nL) {x y : Option Nat} {off : Int} (tgt : Nat) (hdg : decode cc pc = .ok (.if_acmp .ne off, 3)) (ht : (pc : Int) + off = (tgt : Int)) (kt : ¬ x = y → G Γ X nL M cells slots Q tgt lv st) (kf : x = y → G Γ X nL M cells slots Q (pc + 3) lv st) : G Γ X nL M cells slots Q pc lv (va_rf y :: va_rf x :: st) :=
  fun H locs ls a b c => lv_acmp_ne hC.1 hC.2.1 hdg ht (fun z => kt z H locs ls a b c) (fun z => kf z H locs ls a b c)
theorem g_ifnull (hC : Cx Γ X cc own ret nL) {x : Option Nat} {off : Int} (tgt : Nat) (hdg : decode cc pc = .ok (.ifnull off, 3)) (ht : (pc : Int) + off = (tgt : Int)) (kt : x = none → G Γ X nL M cells slots Q tgt lv st) (kf : ∀ y, x = some y → G Γ X nL M cells slots Q (pc + 3) lv st) : G Γ X nL M cells slots Q pc lv (va_rf x :: st) := by
  cases x with
  | none => exact fun H locs ls a b c => lv_ifnullN hC.1 hC.2.1 hdg ht (kt rfl H locs ls a b c)
  | some x => exact fun H locs ls a b c => lv_ifnull hC.1 hC.2.1 hdg (kf x rfl H locs ls a b c)
theorem g_ifnonnull (hC : Cx Γ X cc own ret nL) {x : Option Nat} {off : Int} (tgt : Nat) (hdg : decode cc pc = .ok (.ifnonnull off, 3)) (ht : (pc : Int) + off = (tgt : Int)) (kt : ∀ y, x = some y → G Γ X nL M cells slots Q tgt lv st) (kf : x = none → G Γ X nL M cells slots Q (pc + 3) lv st) : G Γ X nL M cells slots Q pc lv (va_rf x :: st) := by
  cases x with
  | none => exact fun H locs ls a b c => lv_ifnonnullN hC.1 hC.2.1 hdg (kf rfl H locs ls a b c)
  | some x => exact fun H locs ls a b c => lv_ifnonnull hC.1 hC.2.1 hdg ht (kt x rfl H locs ls a b c)
theorem g_tblIn (hC : Cx Γ X cc own ret nL) {dflt lo hi : Int} {offs : Array Int} {len : Nat} {x : Int32} {off : Int} (tgt : Nat) (hdg : decode cc pc = .ok (.tableswitch dflt lo hi offs, len)) (h1 : ¬ x.toInt < lo) (h2 : ¬ hi < x.toInt) (ho : offs[(x.toInt - lo).toNat]? = some off) (ht : (pc : Int) + off = (tgt : Int)) (k : G Γ X nL M cells slots Q tgt lv st) : G Γ X nL M cells slots Q pc lv (.int x :: st) :=
  fun H locs ls a b c => lv_tableIn hC.1 hC.2.1 hdg h1 h2 ho ht (k H locs ls a b c)
theorem g_tblOut (hC : Cx Γ X cc own ret nL) {dflt lo hi : Int} {offs : Array Int} {len : Nat} {x : Int32} (tgt : Nat) (hdg : decode cc pc = .ok (.tableswitch dflt lo hi offs, len)) (h : x.toInt < lo ∨ hi < x.toInt) (ht : (pc : Int) + dflt = (tgt : Int)) (k : G Γ X nL M cells slots Q tgt lv st) : G Γ X nL M cells slots Q pc lv (.int x :: st) :=
  fun H locs ls a b c => lv_tableOut hC.1 hC.2.1 hdg h ht (k H locs ls a b c)
theorem g_lookup (hC : Cx Γ X cc own ret nL) {dflt : Int} {ps : Array (Int × Int)} {len : Nat} {x : Int32} {off : Int} (tgt : Nat) (hdg : decode cc pc = .ok (.lookupswitch dflt ps, len)) (hp : (ps.toList.zip (ps.toList.drop 1)).all (fun (a, next) => a.1 < next.1) = true) (ho : Op.lookupswitch.offset ps.toList dflt x.toInt = off) (ht : (pc : Int) + off = (tgt : Int)) (k : G Γ X nL M cells slots Q tgt lv st) : G Γ X nL M cells slots Q pc lv (.int x :: st) :=
  fun H locs ls a b c => lv_lookup hC.1 hC.2.1 hdg hp ho ht (k H locs ls a b c)
theorem g_sub (ks : List Nat) {lv' : List (Nat × Value)} (hl : lv_pick lv ks = lv') (k : G Γ X nL M cells slots Q pc lv' st) : G Γ X nL M cells slots Q pc lv st :=
  fun H locs ls a b c => k H locs ls a b (lv_sub c ks hl)
theorem g_widen {c' s' : Nat} (h1 : cells ≤ c') (h2 : slots ≤ s') (k : G Γ X nL M c' s' Q pc lv st) : G Γ X nL M cells slots Q pc lv st :=
  fun H locs ls a b c => W.widen h1 h2 (k H locs ls a b c)
end ROWS
