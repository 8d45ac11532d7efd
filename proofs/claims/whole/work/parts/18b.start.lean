/-! THE CLAIM OUT OF ONE WALK OF THE LAW'S BODY. Your part is whole_start (and what it stands on); all else here is the same for every law, but numbers. -/
def R_law : String := "DeepWingsLaw"
def lw_P (b : Addr) (xs : List Int32) (args : Array Value) (s : State) : Prop := args = #[.ref b] ∧ s.IntsAt b xs ∧ xs.length ≤ 3584 ∧ (Jvm.Cond.and given_1 narrow_1).before args s = true
def lw_Q (_ : Array Value) (s : State) (o : Outcome) (t : State) : Prop := o = .returned (some (.int 1)) ∧ Framed s o t [] 601024 7293034
def lw_Z (below : List Frame) (a : Array Value) (s : State) : State → Prop := fun t => ∃ o, t.status = .running ∧ Ended t below o ∧ lw_Q a s o t
/-- the law's own end, with 1 on the stack, nothing written that was there before, its room as the claim has it -/
theorem lw_ret {p : Program} {l : Launch} {e : Env} {s : State} {m : MethodId} {below : List Frame} {meth : Method} {c : Code} {b : Nat} (hx : p.tables.exec = Jvm.exec) (hb : c.code = code) (hr : meth.sig.returnType = ret) (hlocks : meth.locks = false) {pc : Nat} {H : Heap} {ls : Array Slot} (hdg : decode code pc = .ok (.ireturn, 1)) : W p l e room_1 s m #[Value.ref b] below meth c H [] 601024 7293034 (lw_Z below #[Value.ref b] s) (F0 m pc ls [.int 1]) := by
  intro T hT X
  obtain ⟨fs, hret, hrun, hended, hW, hframe⟩ := X.leave (v := some (.int 1)) (hlocks := hlocks) (fun h => by rw [hr] at h; cases h)
  have hmeth' : T.vm.method? m = some meth := X.method'
  refine ⟨T.setFrames fs, ?_, .returned (some (.int 1)), hrun, hended, rfl, ⟨_, rfl⟩, hW, hframe⟩
  jvm_step X.here [X.here.top, hx, hb, hdg, hmeth', hr, ret, narrow_b1]
  (try refine ⟨rfl, ?_⟩); (try refine ⟨rfl, ?_⟩)
  first | (intro acts; rw [hret _ acts rfl rfl rfl]) | rw [hret _ _ rfl rfl rfl]
  exact Steps.refl _
/-- what holds at the law's entry: the machine, the code, the tables' words (any of lw_tbl by 'hts w (by decide +kernel)'), the script of L ints xs at the cell b, what the Statement gives of the start (any of its parts by flat_of_before) -/
def lw_At (p : Program) (s : State) (m : MethodId) (meth : Method) (c : Code) (b L : Nat) (xs : Nat → Int32) : Prop :=
  p.tables.exec = Jvm.exec ∧ c.code = code ∧ meth.sig.returnType = ret ∧ c.maxLocals = 8 ∧ s.vm.findClass R_law = some m.cls ∧ (∀ w ∈ lw_tbl, w.before #[Value.ref b] s = true) ∧ va_X b L xs s s.heap ∧ b < s.heap.size ∧ meth.locks = false ∧ (Jvm.Cond.and given_1 narrow_1).before #[Value.ref b] s = true
theorem ck_L_22 : Cond.classLink RL 22 RX12 ∈ lw_g ∧ Cond.instantiable RX12 37 ∈ lw_g ∧ Cond.initialized RX12 ∈ lw_g := ⟨lw_gi 1320 (by decide +kernel), lw_gi 1321 (by decide +kernel), lw_gi 89 (by decide +kernel)⟩
theorem ck_L_8 : Cond.classLink RL 8 RX11 ∈ lw_g ∧ Cond.instantiable RX11 5 ∈ lw_g ∧ Cond.initialized RX11 ∈ lw_g := ⟨lw_gi 103 (by decide +kernel), lw_gi 104 (by decide +kernel), lw_gi 77 (by decide +kernel)⟩
theorem lk_L_21 : Cond.methodLink RL 21 yX11_init ∈ lw_g ∧ Cond.instanceMethod yX11_init ∈ lw_g ∧ yX11_init.name = "<init>" := ⟨lw_gi 105 (by decide +kernel), lw_gi 106 (by decide +kernel), rfl⟩
theorem lk_L_24 : Cond.methodLink RL 24 yX12_init ∈ lw_g ∧ Cond.instanceMethod yX12_init ∈ lw_g ∧ yX12_init.name = "<init>" := ⟨lw_gi 1322 (by decide +kernel), lw_gi 1323 (by decide +kernel), rfl⟩
theorem yk_X11_init : YOk yX11_init cX11_init 2 none 0 := ⟨lw_gi 107 (by decide +kernel), lw_gi 77 (by decide +kernel), ⟨by decide +kernel, by decide +kernel⟩, by decide +kernel⟩
theorem yk_X12_init : YOk yX12_init cX12_init 2 none 0 := ⟨lw_gi 1324 (by decide +kernel), lw_gi 89 (by decide +kernel), ⟨by decide +kernel, by decide +kernel⟩, by decide +kernel⟩
/-- the two constructors and the law's own row, from the empty memory -/
def OpInit (R : Nat → Nat → Nat → Mm → Prop) : Prop := ∀ N : Nat, ∃ M2 M5 : Mm, F_X11_init N (nw (M0 N) (11 + 7, 0)) = some M2 ∧ F_X12_init (mN M2) (nw M2 (12 + 7, 0)) = some M5 ∧ R N (mN M2) (mN M5) (nw M5 (6, 1))
set_option maxHeartbeats 4000000 in
set_option maxRecDepth 100000 in
theorem law_start {R : Nat → Nat → Nat → Mm → Prop} (hI : OpInit R) (hO : ∀ ax am ao : Nat, Ops (R ax am ao) ax am ao) {p : Program} {e : Env} {s : State} {m : MethodId} {below : List Frame} {meth : Method} {c : Code} (l : Launch) (hflags : l.flags = flags0) {b L : Nat} {xs : Nat → Int32} (hL : L ≤ 3584) (C0 : lw_At p s m meth c b L xs) : W p l e room_1 s m #[Value.ref b] below meth c s.heap [] 0 0 (lw_Z below #[Value.ref b] s) (entryFrame m ([Value.ref b] : List Value).toArray 8) := by
  obtain ⟨hx, hb, hr, hml, hown, hts, hX, hbl, hlocks, hgv⟩ := C0
  have hs : ∀ w ∈ nrw, w.before #[Value.ref b] s = true := flat_of_before _ hgv
  obtain ⟨Γ, hΓ, hK⟩ := kk_at hts hs
  have hgb : gb Γ = s.heap.size := by unfold gb; rw [hΓ]
  have hSt : l.stackTraces = false := by unfold Launch.stackTraces; rw [hflags]; decide +kernel
  have hC : Cx Γ (p, l, e, room_1, s, m, #[Value.ref b], below, meth, c) cL_law RL (some .boolean) 8 := ⟨hx, hb, hml, hown, fun w hw => hts w (List.mem_filter.mp hw).1, hr, hlocks, hK, Nat.le_of_eq hgb⟩
  have hScr : Scr Γ (p, l, e, room_1, s, m, #[Value.ref b], below, meth, c) b L xs := ⟨hX, hbl, fun h => by
    have h9 : gb Γ ≤ b := h
    omega⟩
  generalize hXe : ((p, l, e, room_1, s, m, #[Value.ref b], below, meth, c) : Ct) = X at hC hScr
  have hR : X.2.2.2.1 = ({ frames := 2048, cells := 601024, slots := 7293034, locals := 84000 } : Room) := by rw [← hXe]; rfl
  have hSt' : X.2.1.stackTraces = false := by rw [← hXe]; exact hSt
  have hend : ∀ (M : Mm) (cells slots : Nat) (lv : List (Nat × Value)), cells ≤ 601024 → slots ≤ 7293034 → G Γ X 8 M cells slots (lw_Z below #[Value.ref b] s) 1794 lv [] := by
    intro M cells slots lv h1 h2
    refine g_iconst hC 1 dL_law_1794 (by decide) ?_
    subst hXe
    exact fun H locs ls hS hv hl => va_forget (fun q hq => Nat.le_trans (Nat.le_of_eq hgb.symm) (hv.2.2 q hq)) (W.widen h1 h2 (lw_ret hx hb hr hlocks dL_law_1795))
  obtain ⟨M2, M5, e1, e2, hR5⟩ := hI s.heap.size
  have main : G Γ X 8 (M0 s.heap.size) 0 0 (lw_Z below #[Value.ref b] s) 0 [(0, .ref b)] [] := by
    refine g_newO2 (n := 5) (a := s.heap.size) hC rfl rfl cl_11 rfl ck_L_8.1 ck_L_8.2.1 ck_L_8.2.2 nd_11 (by rw [hR]; exact ⟨(Nat.le_of_ble_eq_true rfl), (Nat.le_of_ble_eq_true rfl)⟩) dL_law_0 ?_
    refine g_dup hC dL_law_3 rfl ?_
    refine g_callv hC (r_I hC (As := []) (c_X11_init _ Γ s.heap.size _ M2 e1) yk_X11_init lk_L_21 rfl rfl (Nat.le_of_ble_eq_true rfl) hR ⟨(Nat.le_of_ble_eq_true rfl), (Nat.le_of_ble_eq_true rfl)⟩ ⟨(Nat.le_of_ble_eq_true rfl), (Nat.le_of_ble_eq_true rfl)⟩ dL_law_4) ?_
    refine g_astore_n hC ([(1, .ref s.heap.size), (0, .ref b)]) dL_law_7 (by decide) rfl ?_
    refine g_newO2 (n := 37) (a := mN M2) hC rfl rfl cl_12 rfl ck_L_22.1 ck_L_22.2.1 ck_L_22.2.2 nd_12 (by rw [hR]; exact ⟨(Nat.le_of_ble_eq_true rfl), (Nat.le_of_ble_eq_true rfl)⟩) dL_law_8 ?_
    refine g_dup hC dL_law_11 rfl ?_
    refine g_callv hC (r_I hC (As := []) (c_X12_init _ Γ (mN M2) _ M5 e2) yk_X12_init lk_L_24 rfl rfl (Nat.le_of_ble_eq_true rfl) hR ⟨(Nat.le_of_ble_eq_true rfl), (Nat.le_of_ble_eq_true rfl)⟩ ⟨(Nat.le_of_ble_eq_true rfl), (Nat.le_of_ble_eq_true rfl)⟩ dL_law_12) ?_
    refine g_astore_n hC ([(2, .ref (mN M2)), (1, .ref s.heap.size), (0, .ref b)]) dL_law_15 (by decide) rfl ?_
    refine g_iconst hC 1 dL_law_16 (by decide) ?_
    refine g_newL2 (N := 1) (a := mN M5) hC rfl rfl ak_long (by decide) (by rw [hR]; exact ⟨(Nat.le_of_ble_eq_true rfl), (Nat.le_of_ble_eq_true rfl)⟩) dL_law_17 ?_
    refine g_astore_n hC ([(3, .ref (mN M5)), (2, .ref (mN M2)), (1, .ref s.heap.size), (0, .ref b)]) dL_law_19 (by decide) rfl ?_
    refine g_iconst hC 0 dL_law_20 (by decide) ?_
    refine g_istore hC ([(4, .int (Int32.ofNat 0)), (3, .ref (mN M5)), (2, .ref (mN M2)), (1, .ref s.heap.size), (0, .ref b)]) dL_law_21 (by decide) rfl ?_
    exact law_loop hC hScr hL hSt' hR (hO s.heap.size (mN M2) (mN M5)) hend 512 0 _ _ _ (by omega) (by omega) (by decide) (by decide) hR5
  subst hXe
  rw [lg_entry_eq]
  exact main s.heap [] _ (sim0 hΓ) va_S.rf (lv_entry ([.ref b]) (n := 8) (Nat.le_of_ble_eq_true rfl))
