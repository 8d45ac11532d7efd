/-! THE START: what the Statement gives holds of the empty memory -/
def nrw : List Cond := flatC (Jvm.Cond.and given_1 narrow_1)
theorem lt2 {i : Nat} (h : i < 2) : i = 0 ∨ i = 1 := by omega
theorem arr_pr {args : Array Value} {s : State} {ty : FieldType} (h : (Cond.arrayClass ty).before args s = true) : ∃ cA : ClassId, ArrOfT s cA ty ∧ s.vm.findClass ("[" ++ ty.toString) = some cA := by
  obtain ⟨c, k, comp, h1, h2, h3⟩ := Cond.arrayClass_spec h
  exact ⟨c, fun n z => ⟨fun k h => (by cases h), k, h2, comp, h3⟩, h1⟩
theorem arr_ob {args : Array Value} {s : State} {C : String} (h : (Cond.arrayOver (.object C)).before args s = true) : ∃ cA : ClassId, ArrOfT s cA (.object C) ∧ va_RA s cA (.object C) := by
  obtain ⟨o, c, k, h1, -, h2, h3, h4⟩ := Cond.arrayOver_spec h
  exact ⟨c, fun n z => ⟨fun k h => (by cases h), k, h2, o, h3⟩, k, o, h2, h3, h1, h4⟩
theorem tb_at {args : Array Value} {s : State} (hts : ∀ w ∈ lw_tbl, w.before args s = true) (i : Nat) {w : Cond} (h : decide (lw_tbl[i]? = some w) = true) : w.before args s = true := hts w (List.mem_of_getElem? (of_decide_eq_true h))
theorem kn_one {args : Array Value} {s : State} (hts : ∀ w ∈ lw_tbl, w.before args s = true) {C : String} {T : u_T} {N n : Nat} (hin : ∀ w ∈ u_ws C T N, w ∈ lw_g) (hi : (Cond.instantiable C n).before args s = true) : ∃ d : ClassId × (Nat → Nat), u_Kn s C T N d.1 d.2 := by
  obtain ⟨c, i, h⟩ := u_known (C := C) (T := T) (N := N) (n := n) hts (fun w hw => (List.mem_filter.mp (hin w hw)).1) hi
  exact ⟨(c, i), h⟩
theorem kn_at {args : Array Value} {s : State} (hts : ∀ w ∈ lw_tbl, w.before args s = true) : ∀ c : Nat, ∃ d : ClassId × (Nat → Nat), ∀ q : vw_C, vwCl[c]? = some q → u_Kn s q.1 q.2.1 q.2.2 d.1 d.2 := by
  have h0 : ∃ d : ClassId × (Nat → Nat), u_Kn s RX0 TX0 12 d.1 d.2 := kn_one (n := 12) hts inX0 (tb_at hts 575 (by decide +kernel))
  have h1 : ∃ d : ClassId × (Nat → Nat), u_Kn s RX1 TX1 5 d.1 d.2 := kn_one (n := 5) hts inX1 (tb_at hts 185 (by decide +kernel))
  have h2 : ∃ d : ClassId × (Nat → Nat), u_Kn s RX2 TX2 10 d.1 d.2 := kn_one (n := 10) hts inX2 (tb_at hts 384 (by decide +kernel))
  have h3 : ∃ d : ClassId × (Nat → Nat), u_Kn s RX3 TX3 4 d.1 d.2 := kn_one (n := 4) hts inX3 (tb_at hts 378 (by decide +kernel))
  have h4 : ∃ d : ClassId × (Nat → Nat), u_Kn s RX4 TX4 3 d.1 d.2 := kn_one (n := 3) hts inX4 (tb_at hts 259 (by decide +kernel))
  have h5 : ∃ d : ClassId × (Nat → Nat), u_Kn s RX5 TX5 14 d.1 d.2 := kn_one (n := 14) hts inX5 (tb_at hts 329 (by decide +kernel))
  have h6 : ∃ d : ClassId × (Nat → Nat), u_Kn s RX6 TX6 12 d.1 d.2 := kn_one (n := 12) hts inX6 (tb_at hts 208 (by decide +kernel))
  have h7 : ∃ d : ClassId × (Nat → Nat), u_Kn s RX7 TX7 7 d.1 d.2 := kn_one (n := 7) hts inX7 (tb_at hts 118 (by decide +kernel))
  have h8 : ∃ d : ClassId × (Nat → Nat), u_Kn s RX8 TX8 8 d.1 d.2 := kn_one (n := 8) hts inX8 (tb_at hts 444 (by decide +kernel))
  have h9 : ∃ d : ClassId × (Nat → Nat), u_Kn s RX9 TX9 2 d.1 d.2 := kn_one (n := 2) hts inX9 (tb_at hts 124 (by decide +kernel))
  have h10 : ∃ d : ClassId × (Nat → Nat), u_Kn s RX10 TX10 11 d.1 d.2 := kn_one (n := 11) hts inX10 (tb_at hts 112 (by decide +kernel))
  have h11 : ∃ d : ClassId × (Nat → Nat), u_Kn s RX11 TX11 5 d.1 d.2 := kn_one (n := 5) hts inX11 (tb_at hts 104 (by decide +kernel))
  have h12 : ∃ d : ClassId × (Nat → Nat), u_Kn s RX12 TX12 37 d.1 d.2 := kn_one (n := 37) hts inX12 (tb_at hts 1321 (by decide +kernel))
  intro c
  match c with
  | 0 => obtain ⟨d, h⟩ := h0; exact ⟨d, fun q hq => by cases hq; exact h⟩
  | 1 => obtain ⟨d, h⟩ := h1; exact ⟨d, fun q hq => by cases hq; exact h⟩
  | 2 => obtain ⟨d, h⟩ := h2; exact ⟨d, fun q hq => by cases hq; exact h⟩
  | 3 => obtain ⟨d, h⟩ := h3; exact ⟨d, fun q hq => by cases hq; exact h⟩
  | 4 => obtain ⟨d, h⟩ := h4; exact ⟨d, fun q hq => by cases hq; exact h⟩
  | 5 => obtain ⟨d, h⟩ := h5; exact ⟨d, fun q hq => by cases hq; exact h⟩
  | 6 => obtain ⟨d, h⟩ := h6; exact ⟨d, fun q hq => by cases hq; exact h⟩
  | 7 => obtain ⟨d, h⟩ := h7; exact ⟨d, fun q hq => by cases hq; exact h⟩
  | 8 => obtain ⟨d, h⟩ := h8; exact ⟨d, fun q hq => by cases hq; exact h⟩
  | 9 => obtain ⟨d, h⟩ := h9; exact ⟨d, fun q hq => by cases hq; exact h⟩
  | 10 => obtain ⟨d, h⟩ := h10; exact ⟨d, fun q hq => by cases hq; exact h⟩
  | 11 => obtain ⟨d, h⟩ := h11; exact ⟨d, fun q hq => by cases hq; exact h⟩
  | 12 => obtain ⟨d, h⟩ := h12; exact ⟨d, fun q hq => by cases hq; exact h⟩
  | c + 13 => obtain ⟨d, h⟩ := h0; exact ⟨d, fun q hq => by simp [vwCl] at hq⟩
/-- the static rows -/
def stW (j : Nat) : Bool := nrw.contains (.arrayOf (.static "DeepWings" (sNm j) "[I") .int) && (nrw.contains (.eq (.length (.static "DeepWings" (sNm j) "[I")) (.int (Int32.ofNat (sVl j).length))) && ((List.range (sVl j).length).all (fun k => nrw.contains (.eq (.elem (.static "DeepWings" (sNm j) "[I") (.int (Int32.ofNat k))) (.int ((sVl j).getD k 0)))) && lw_tbl.contains (.laysStatic "DeepWings" (sNm j) "[I")))
theorem st_one {args : Array Value} {s : State} {A : Nat → Prop} (hts : ∀ w ∈ lw_tbl, w.before args s = true) (hs : ∀ w ∈ nrw, w.before args s = true) (hA : ∀ a : Nat, a < s.heap.size → ¬ A a) (j : Nat) (hn : (sVl j).length < 2 ^ 31) (h : stW j = true) :
    ∃ a : Nat, va_Z "DeepWings" (sNm j) "[I" (.ref a) A s s.heap ∧ va_T .int a (sVl j).length (fun k => .int ((sVl j).getD k 0)) A s s.heap := by
  unfold stW at h
  obtain ⟨h1, h⟩ := Bool.and_eq_true_iff.mp h
  obtain ⟨h2, h⟩ := Bool.and_eq_true_iff.mp h
  obtain ⟨h3, h4⟩ := Bool.and_eq_true_iff.mp h
  obtain ⟨t, ht, hT⟩ := va_Tof (tm := .static "DeepWings" (sNm j) "[I") (ty := .int) (N := (sVl j).length) (f := fun k => .int ((sVl j).getD k 0)) (A := A) hn (hs _ (List.contains_iff_mem.mp h1)) (va_eqt (hs _ (List.contains_iff_mem.mp h2))) (fun k hk => va_eqt (hs _ (List.contains_iff_mem.mp (List.all_eq_true.mp h3 k (List.mem_range.mpr hk))))) hA
  exact ⟨t, va_Zof (hts _ (List.contains_iff_mem.mp h4)) (tb_at hts 77 (by decide +kernel)) ht hA, hT⟩
theorem st_at {args : Array Value} {s : State} {A : Nat → Prop} (hts : ∀ w ∈ lw_tbl, w.before args s = true) (hs : ∀ w ∈ nrw, w.before args s = true) (hA : ∀ a : Nat, a < s.heap.size → ¬ A a) : ∀ j : Nat, ∃ a : Nat, j < 4 → va_Z "DeepWings" (sNm j) "[I" (.ref a) A s s.heap ∧ va_T .int a (sVl j).length (fun k => .int ((sVl j).getD k 0)) A s s.heap := by
  intro j
  match j with
  | 0 => obtain ⟨a, h⟩ := st_one hts hs hA 0 (by decide) (by decide +kernel); exact ⟨a, fun _ => h⟩
  | 1 => obtain ⟨a, h⟩ := st_one hts hs hA 1 (by decide) (by decide +kernel); exact ⟨a, fun _ => h⟩
  | 2 => obtain ⟨a, h⟩ := st_one hts hs hA 2 (by decide) (by decide +kernel); exact ⟨a, fun _ => h⟩
  | 3 => obtain ⟨a, h⟩ := st_one hts hs hA 3 (by decide) (by decide +kernel); exact ⟨a, fun _ => h⟩
  | j + 4 => exact ⟨0, fun h => absurd h (by omega)⟩
/-- the texts -/
def txT (i : Nat) : Term := if i = 0 then .string "DeepWings$OrderReader" 55 else .string "DeepWings$OrderReader" 61
def txW (i : Nat) : Bool := nrw.contains (.exactly (txT i) "java/lang/String") && (nrw.contains (.eq (.field (txT i) "java/lang/String" "coder" "B") (.int 0)) && (nrw.contains (.arrayOf (.field (txT i) "java/lang/String" "value" "[B") .byte) && (nrw.contains (.eq (.length (.field (txT i) "java/lang/String" "value" "[B")) (.int (Int32.ofNat ([9, 3].getD i 0)))) && (List.range ([9, 3].getD i 0)).all (fun k => nrw.contains (.eq (.elem (.field (txT i) "java/lang/String" "value" "[B") (.int (Int32.ofNat k))) (.int (([tBy 0, tBy 1].getD i []).getD k 0)))))))
theorem tx_one {i : Nat} (hi : i < 2) : txW i = true := by
  rcases lt2 hi with rfl | rfl <;> decide +kernel
theorem tx_at {args : Array Value} {s : State} {A : Nat → Prop} (hs : ∀ w ∈ nrw, w.before args s = true) (hA : ∀ a : Nat, a < s.heap.size → ¬ A a) : ∃ adK adV : Nat → Nat, vk_S 2 [9, 3] [tBy 0, tBy 1] adK adV A s s.heap ∧ ∀ i : Nat, i < 2 → (txT i).eval args s none [] s = some (.ref (adK i)) := by
  refine vk_Sof (N := 2) (tm := txT) (len := [9, 3]) (byt := [tBy 0, tBy 1]) (A := A) (fun i hi => ?_) (fun i hi => ?_) (fun i hi => ?_) (fun i hi => ?_) (fun i hi => ?_) (fun i hi j hj => ?_) (fun i j hi hj hij => ?_) hA
  · rcases lt2 hi with rfl | rfl <;> decide
  · exact hs _ (List.contains_iff_mem.mp (Bool.and_eq_true_iff.mp (tx_one hi)).1)
  · exact hs _ (List.contains_iff_mem.mp (Bool.and_eq_true_iff.mp (Bool.and_eq_true_iff.mp (tx_one hi)).2).1)
  · exact hs _ (List.contains_iff_mem.mp (Bool.and_eq_true_iff.mp (Bool.and_eq_true_iff.mp (Bool.and_eq_true_iff.mp (tx_one hi)).2).2).1)
  · exact hs _ (List.contains_iff_mem.mp (Bool.and_eq_true_iff.mp (Bool.and_eq_true_iff.mp (Bool.and_eq_true_iff.mp (Bool.and_eq_true_iff.mp (tx_one hi)).2).2).2).1)
  · exact hs _ (List.contains_iff_mem.mp (List.all_eq_true.mp (Bool.and_eq_true_iff.mp (Bool.and_eq_true_iff.mp (Bool.and_eq_true_iff.mp (Bool.and_eq_true_iff.mp (tx_one hi)).2).2).2).2 j (List.mem_range.mpr hj)))
  · have h01 : (Cond.not (Cond.eq (txT 0) (txT 1))).before args s = true := hs _ (by decide +kernel)
    rcases lt2 hi with rfl | rfl <;> rcases lt2 hj with rfl | rfl
    · exact absurd rfl hij
    · exact Or.inl h01
    · exact Or.inr h01
    · exact absurd rfl hij
theorem txt_at {args : Array Value} {s : State} (hts : ∀ w ∈ lw_tbl, w.before args s = true) (hs : ∀ w ∈ nrw, w.before args s = true) {k : Nat} {tx : String} (i : Nat) (h1 : decide (lw_tbl[i]? = some (.stringRef "DeepWings" k tx)) = true) (h2 : nrw.contains (.exactly (.string "DeepWings" k) "java/lang/String") = true) : ∃ a, vk_R "DeepWings" k tx a s := by
  obtain ⟨a, c, cA, kA, q1, -⟩ := Cond.exactly_spec (args := args) (first := s) (o := none) (s := s) (idx := []) (hs _ (List.contains_iff_mem.mp h2))
  exact ⟨a, vk_R.of (tb_at hts i h1) q1⟩
theorem kk_at {args : Array Value} {s : State} (hts : ∀ w ∈ lw_tbl, w.before args s = true) (hs : ∀ w ∈ nrw, w.before args s = true) : ∃ Γ : Gm, Γ.2.2.2.2 = s.heap ∧ Kk Γ s s.heap := by
  have hA : ∀ a : Nat, a < s.heap.size → ¬ (fun q : Nat => s.heap.size ≤ q) a := fun a h q => absurd q (Nat.not_le.mpr h)
  obtain ⟨dd, hd⟩ := Classical.axiomOfChoice (kn_at hts)
  obtain ⟨ad, had⟩ := Classical.axiomOfChoice (st_at hts hs hA)
  obtain ⟨adK, adV, hS, hE⟩ := tx_at hs hA
  obtain ⟨a1, b1, c1⟩ := arr_pr (tb_at hts 142 (w := .arrayClass .int) (by decide +kernel))
  obtain ⟨a2, b2, c2⟩ := arr_pr (tb_at hts 428 (w := .arrayClass .boolean) (by decide +kernel))
  obtain ⟨a6, b6, c6⟩ := arr_pr (tb_at hts 1794 (w := .arrayClass .long) (by decide +kernel))
  have o3 := tb_at hts 181 (w := .arrayOver (.object "DeepWings$Glider")) (by decide +kernel)
  have o4 := tb_at hts 183 (w := .arrayOver (.object "DeepWings$Order")) (by decide +kernel)
  have o5 := tb_at hts 443 (w := .arrayOver (.object "DeepWings$Shelf")) (by decide +kernel)
  obtain ⟨a3, b3, c3⟩ := arr_ob o3
  obtain ⟨a4, b4, c4⟩ := arr_ob o4
  obtain ⟨a5, b5, c5⟩ := arr_ob o5
  have hK : va_K (fun c => (dd c).1, fun c => (dd c).2) vwCl (tyl (fun k => match k with | 1 => a1 | 2 => a2 | 3 => a3 | 4 => a4 | 5 => a5 | _ => a6)) s := by
    refine ⟨fun c q hq => hd c q hq, fun k q hq => ?_⟩
    match k, hq with
    | 0, hq => cases hq; exact ⟨b1, c1⟩
    | 1, hq => cases hq; exact ⟨b2, c2⟩
    | 2, hq => cases hq; exact ⟨b3, c3⟩
    | 3, hq => cases hq; exact ⟨b4, c4⟩
    | 4, hq => cases hq; exact ⟨b5, c5⟩
    | 5, hq => cases hq; exact ⟨b6, c6⟩
    | k + 6, hq => simp [tyl] at hq
  refine ⟨((fun c => (dd c).1, fun c => (dd c).2), _, ad, (adK, adV), s.heap), rfl, hK, fun j hj => had j hj, ⟨hS, ?_, ?_, ?_, ?_⟩, ?_, ?_, ?_, ?_, ?_, ?_, ?_, ?_, ?_, ?_, ?_⟩
  · exact va_Zof (tb_at hts 818 (by decide +kernel)) (tb_at hts 92 (by decide +kernel)) (va_eqt (hs _ (by decide +kernel))) hA
  · exact vk_R.of (tb_at hts 804 (by decide +kernel)) (hE 0 (by omega))
  · exact vk_R.of (tb_at hts 857 (by decide +kernel)) (hE 1 (by omega))
  · exact va_Zqof (tb_at hts 834 (by decide +kernel)) (tb_at hts 94 (by decide +kernel)) (hs _ (by decide +kernel)) hA
  · intro w hw
    obtain ⟨h1, h2⟩ := List.mem_filter.mp hw
    refine va_Nw.of ?_ (hts w h1)
    cases w <;> first | rfl | cases h2
  · intro t ht
    rcases ht with rfl | rfl | rfl
    · exact va_AO.of o3
    · exact va_AO.of o4
    · exact va_AO.of o5
  · exact vx_Zqof (tb_at hts 1223 (by decide +kernel)) (tb_at hts 96 (by decide +kernel)) (hs _ (by decide +kernel)) hA
  · exact vx_Zqof (tb_at hts 1225 (by decide +kernel)) (tb_at hts 96 (by decide +kernel)) (hs _ (by decide +kernel)) hA
  · exact txt_at hts hs 1295 (by decide +kernel) (by decide +kernel)
  · exact txt_at hts hs 1314 (by decide +kernel) (by decide +kernel)
  · exact txt_at hts hs 1315 (by decide +kernel) (by decide +kernel)
  · exact txt_at hts hs 1237 (by decide +kernel) (by decide +kernel)
  · exact txt_at hts hs 1271 (by decide +kernel) (by decide +kernel)
  · exact va_Nc.of (hs _ (by decide +kernel))
  · exact va_Nc.of (hs _ (by decide +kernel))
/-- the empty memory -/
def M0 (n : Nat) : Mm := (fun _ => (0, 0), fun _ _ => 0, fun _ _ => none, fun _ _ => 0, n)
theorem sim0 {Γ : Gm} {H : Heap} (h : Γ.2.2.2.2 = H) : Sim Γ (M0 H.size) H :=
  ⟨rfl, by unfold gb; rw [h]; exact Nat.le_refl _, fun q _ => by rw [h], fun a ha => absurd rfl ha⟩
