/-! THE LAW'S LOOP: its rows -/
def bz (v : Int32) : Int32 := if v = 0 then 0 else 1
theorem lcmp_self (v : Int64) : lg_cmp v v = 0 := by simp [lg_cmp]
/-- the script stands, ahead of all that is made -/
def Scr (Γ : Gm) (X : Ct) (b L : Nat) (xs : Nat → Int32) : Prop := va_X b L xs X.2.2.2.2.1 X.2.2.2.2.1.heap ∧ b < X.2.2.2.2.1.heap.size ∧ ¬ fr Γ b
theorem i32_nn {n : Nat} (h : n ≤ 4000) : (Int32.ofNat n).toInt = n := by
  rw [Int32.toInt_ofNat_of_lt (by omega)]
theorem i32_cl {n : Nat} (h : n ≤ 4000) : (Int32.ofNat n).toNatClampNeg = n := by
  show (Int32.ofNat n).toInt.toNat = n
  rw [i32_nn h]; rfl
theorem i32_pos {n : Nat} (h : n ≤ 4000) : ¬ Int32.ofNat n < 0 := by
  rw [Int32.lt_iff_toInt_lt, i32_nn h]
  show ¬ (n : Int) < 0
  omega
/-- the words of a method with a table that is called -/
def YOkH (y : MethodName) (cy : ByteArray) (nLy : Nat) (ret : Option FieldType) (hh : List (Nat × Nat × Nat × Nat)) (n : Nat) : Prop := Cond.codeWith y cy nLy ret hh ∈ lw_g ∧ Cond.initialized y.cls ∈ lw_g ∧ (y.cls ≠ "java/lang/invoke/MethodHandle" ∧ y.cls ≠ "java/lang/invoke/VarHandle") ∧ (parseMethodDescriptor y.desc).map (fun d => d.parameters.length) = some n
theorem YOkH.good {y : MethodName} {cy : ByteArray} {nLy n : Nat} {ry : Option FieldType} {hh : List (Nat × Nat × Nat × Nat)} (h : YOkH y cy nLy ry hh n) : GoodIn lw_g (wh y cy nLy ry hh) := fun w hw => (List.mem_cons.mp hw).elim (fun e => by rw [e]; exact lw_gg _ h.1) (fun e => lw_gg _ e)
section LAWROWS
variable {Γ : Gm} {X : Ct} {cc : ByteArray} {own : String} {ret : Option FieldType} {nL : Nat} {M : Mm} {cells slots : Nat} {Q : State → Prop} {pc : Nat} {lv : List (Nat × Value)} {st : List Value}
theorem rx_VH (hC : Cx Γ X cc own ret nL) {y : MethodName} {cy : ByteArray} {nLy n idx F mc ms L F0 C0 S0 L0 t b : Nat} {ry : Option FieldType} {hh : List (Nat × Nat × Nat × Nat)} {As stk : List Value} {Qc : Array Value → State → Outcome → State → Prop} {XC : String → State → State → Prop} (hM : vx_Met X.2.1 y (wh y cy nLy ry hh) ({ frames := F, cells := mc, slots := ms, locals := L } : Room) (Pq Γ M (.ref b :: As)) Qc XC mc ms (fr Γ))
    (hy : YOkH y cy nLy ry hh n) (hl : Cond.methodLink own idx y ∈ lw_g ∧ Cond.instanceMethod y ∈ lw_g ∧ Cond.selects y.cls y y ∈ lw_g) {u : Unit} (hk : isO M b t = some u) (hcl : ∃ q : vw_C, vwCl[t]? = some q ∧ q.1 = y.cls) (hn : As.length = n) (hstk : stk = As.reverse ++ .ref b :: st) (hcat : (st.map fun v => v.category).sum ≤ 8)
    (hR : X.2.2.2.1 = ({ frames := F0, cells := C0, slots := S0, locals := L0 } : Room)) (hf : F + 1 ≤ F0 ∧ 8 + (nLy + 11) + L ≤ L0) (hc : cells + mc ≤ C0 ∧ slots + ms ≤ S0) (hdg : decode cc pc = .ok (.invokevirtual idx, 3)) : RnX Γ X M cells slots mc ms pc stk st (.ref b :: As) Qc XC := by
  intro H locs ls hS hv hsz
  have hg := hy.good
  obtain ⟨h1, h2, h3, h4⟩ := hy
  refine vx_runVX (hh := hh) hC.fx hM ⟨⟨rfl, rfl, by rw [hR]; exact hf.1, by rw [hR]; exact hf.2, pay_in hC.hts hg, List.mem_cons_self⟩, hC.hts _ h1, hC.hts _ h2, h3, fun sig h => ?_, hC.hts _ hl.1, hC.hts _ hl.2.1, hC.hts _ hl.2.2⟩ ⟨Pq_blind Γ M _, hC.rc hS (isO_e hk) hcl, (hC.pre hS hv).2⟩ rfl hn (hsz.trans hC.2.2.1) hstk (lv_room hcat) hdg (by rw [hR]; exact hc)
  rw [h] at h4
  exact (Option.some.inj h4).symm
theorem rx_SH (hC : Cx Γ X cc own ret nL) {y : MethodName} {cy : ByteArray} {nLy n idx F mc ms L F0 C0 S0 L0 : Nat} {ry : Option FieldType} {hh : List (Nat × Nat × Nat × Nat)} {As stk : List Value} {Qc : Array Value → State → Outcome → State → Prop} {XC : String → State → State → Prop} (hM : vx_Met X.2.1 y (wh y cy nLy ry hh) ({ frames := F, cells := mc, slots := ms, locals := L } : Room) (Pq Γ M As) Qc XC mc ms (fr Γ))
    (hy : YOkH y cy nLy ry hh n) (hl : Cond.methodLink own idx y ∈ lw_g ∧ Cond.static y ∈ lw_g) (hn : As.length = n) (hstk : stk = As.reverse ++ st) (hcat : (st.map fun v => v.category).sum ≤ 8)
    (hR : X.2.2.2.1 = ({ frames := F0, cells := C0, slots := S0, locals := L0 } : Room)) (hf : F + 1 ≤ F0 ∧ 8 + (nLy + 11) + L ≤ L0) (hc : cells + mc ≤ C0 ∧ slots + ms ≤ S0) (hdg : decode cc pc = .ok (.invokestatic idx, 3)) : RnX Γ X M cells slots mc ms pc stk st As Qc XC := by
  intro H locs ls hS hv hsz
  have hg := hy.good
  obtain ⟨h1, h2, h3, h4⟩ := hy
  refine vx_runSX (hh := hh) hC.fx hM ⟨⟨rfl, rfl, by rw [hR]; exact hf.1, by rw [hR]; exact hf.2, pay_in hC.hts hg, List.mem_cons_self⟩, hC.hts _ h1, hC.hts _ h2, h3, fun sig h => ?_, hC.hts _ hl.1, hC.hts _ hl.2⟩ (hC.pre hS hv) rfl hn (hsz.trans hC.2.2.1) hstk (lv_room hcat) hdg (by rw [hR]; exact hc)
  rw [h] at h4
  exact (Option.some.inj h4).symm
theorem g_calliX (hC : Cx Γ X cc own ret nL) {mc ms : Nat} {stk av : List Value} {r : Int32} {M1 : Mm} (hr : RnX Γ X M cells slots mc ms pc stk st av (Qix Γ r M1) (noX Γ)) (kk : ∀ j : Nat, G Γ X nL (jk M1 j) (cells + mc) (slots + ms) Q (pc + 3) lv (.int r :: st)) : G Γ X nL M cells slots Q pc lv stk :=
  fun H locs ls hS hv hl => vx_calli (hr H locs ls hS hv (hl.1.trans hC.2.2.1.symm)) hv (fun _ _ h => h) (fun _ h => h) (fun _ _ h => h)
    (fun E ce q9 u t H1 locs1 ht hvm hp hB hz1 hk1 hS1 h1 h2 h3 => hp.elim)
    (fun x u t H1 locs1 ht hvm hw hB hz1 hk1 hS1 => by
      subst hw
      obtain ⟨j, hs⟩ := hB
      exact kk j H1 locs1 ls (by rw [← ht]; exact hs) hS1 hl)
theorem g_sld (hC : Cx Γ X cc own ret nL) {b L : Nat} {xs : Nat → Int32} (hX : Scr Γ X b L xs) {i v : Int32} (hin : vp_in i L) (hv : xs i.toNatClampNeg = v) (hdg : decode cc pc = .ok (.iaload, 1)) (kk : G Γ X nL M cells slots Q (pc + 1) lv (.int v :: st)) : G Γ X nL M cells slots Q pc lv (.int i :: .ref b :: st) := by
  subst hv
  exact fun H locs ls a h c => va_sld hC.1 hC.2.1 hX.1 hX.2.1 hX.2.2 h hin hdg (kk H locs ls a h c)
theorem g_sldJ (hC : Cx Γ X cc own ret nL) {b L : Nat} {xs : Nat → Int32} (hX : Scr Γ X b L xs) {n j : Nat} {jj : Int32} (hj : jj = Int32.ofNat j) (hn : n + j < L) (hL : L ≤ 3584) (hdg : decode cc pc = .ok (.iaload, 1)) (kk : G Γ X nL M cells slots Q (pc + 1) lv (.int (xs (n + j)) :: st)) : G Γ X nL M cells slots Q pc lv (.int (Int32.ofNat n + jj) :: .ref b :: st) := by
  subst hj
  rw [← Int32.ofNat_add]
  refine g_sld hC hX ?_ (by rw [i32_cl (by omega)]) hdg kk
  intro h
  rcases h with h | h
  · exact i32_pos (by omega) h
  · rw [i32_cl (by omega)] at h
    omega
theorem g_sld0 (hC : Cx Γ X cc own ret nL) {b L : Nat} {xs : Nat → Int32} (hX : Scr Γ X b L xs) {n : Nat} (hn : n < L) (hL : L ≤ 3584) (hdg : decode cc pc = .ok (.iaload, 1)) (kk : G Γ X nL M cells slots Q (pc + 1) lv (.int (xs n) :: st)) : G Γ X nL M cells slots Q pc lv (.int (Int32.ofNat n) :: .ref b :: st) := by
  refine g_sld hC hX ?_ (by rw [i32_cl (by omega)]) hdg kk
  intro h
  rcases h with h | h
  · exact i32_pos (by omega) h
  · rw [i32_cl (by omega)] at h
    omega
theorem g_slen (hC : Cx Γ X cc own ret nL) {b L : Nat} {xs : Nat → Int32} (hX : Scr Γ X b L xs) (hdg : decode cc pc = .ok (.arraylength, 1)) (kk : G Γ X nL M cells slots Q (pc + 1) lv (.int (Int32.ofNat L) :: st)) : G Γ X nL M cells slots Q pc lv (.ref b :: st) :=
  fun H locs ls a h c => va_slen hC.1 hC.2.1 hX.1 hX.2.1 hX.2.2 h hdg (kk H locs ls a h c)
theorem g_bz (hC : Cx Γ X cc own ret nL) {v : Int32} (d0 : decode cc pc = .ok (.ifCond .eq 7, 3)) (d3 : decode cc (pc + 3) = .ok (.iconst 1, 1)) (d4 : decode cc (pc + 4) = .ok (.goto 4, 3)) (d7 : decode cc (pc + 7) = .ok (.iconst 0, 1)) (kk : G Γ X nL M cells slots Q (pc + 8) lv (.int (bz v) :: st)) : G Γ X nL M cells slots Q pc lv (.int v :: st) := by
  refine g_if_eq hC (pc + 7) d0 (by omega) (fun h => ?_) (fun h => ?_)
  · refine g_iconst hC 0 d7 (by decide) ?_
    rw [show bz v = 0 from if_pos h] at kk
    exact kk
  · refine g_iconst hC 1 d3 (by decide) ?_
    refine g_goto hC (pc + 8) d4 (by omega) ?_
    rw [show bz v = 1 from if_neg h] at kk
    exact kk
theorem g_drop {lv' : List (Nat × Value)} (hs : ∀ q ∈ lv', q ∈ lv) (kk : G Γ X nL M cells slots Q pc lv' st) : G Γ X nL M cells slots Q pc lv st :=
  fun H locs ls a h c => kk H locs ls a h ⟨c.1, c.2.1, fun q hq => c.2.2 q (hs q hq)⟩
end LAWROWS
