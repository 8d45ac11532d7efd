/-! System.arraycopy over rows of ints -/
theorem tnn (z : Int32) (hz : ¬ z < 0) : z.toInt = (z.toNatClampNeg : Int) := by
  have hz0 : (0 : Int) ≤ z.toInt := by
    have := Int32.not_lt.mp hz
    simpa using Int32.le_iff_toInt_le.mp this
  show z.toInt = ((z.toInt.toNat : Nat) : Int)
  omega
section COPYROW
variable {Γ : Gm} {X : Ct} {cc : ByteArray} {own : String} {ret : Option FieldType} {nL : Nat} {M : Mm} {cells slots : Nat} {Q : State → Prop} {pc : Nat} {lv : List (Nat × Value)} {st : List Value}
theorem g_copy (hC : Cx Γ X cc own ret nL) {idx Fr0 C0 S0 L0 a b : Nat} {i j n : Int32} {M1 : Mm} (e : cpI M a i b j n = some M1) (hl : Cond.methodLink own idx arraycopyName ∈ lw_g ∧ Cond.native arraycopyName ∈ lw_g ∧ Cond.static arraycopyName ∈ lw_g ∧ Cond.initialized "java/lang/System" ∈ lw_g)
    (hR : X.2.2.2.1 = ({ frames := Fr0, cells := C0, slots := S0, locals := L0 } : Room)) (hcat : (st.map fun v => v.category).sum ≤ 8) (hf : 1 ≤ Fr0 ∧ 26 ≤ L0) (hdg : decode cc pc = .ok (.invokestatic idx, 3)) (kk : G Γ X nL M1 cells slots Q (pc + 3) lv st) : G Γ X nL M cells slots Q pc lv (.int n :: .int j :: .ref b :: .int i :: .ref a :: st) := by
  obtain ⟨n0, n1, k0, k1, h1, h2, h3, h4, h5, rfl⟩ := cpI_e e
  intro H locs ls hS hv hll T hT S
  obtain ⟨-, hc0⟩ := hS.ari k0
  obtain ⟨hb, hc1⟩ := hS.ari k1
  obtain ⟨-, k0', hk0, cm0, hkk0⟩ := (hC.ar (j := 0) rfl).1 n0 (fun q => .int (mI M a q))
  obtain ⟨-, k1', hk1, cm1, hkk1⟩ := (hC.ar (j := 0) rfl).1 n1 (fun q => .int (mI M b q))
  obtain ⟨vm', X', step⟩ := S.arraycopy hC.1 hC.2.2.2.1 (hC.hts _ hl.1) (hC.hts _ hl.2.1) (hC.hts _ hl.2.2.1) (hC.hts _ hl.2.2.2) (src := a) (dst := b) (cs := arrV (Γ.2.1 1) n0 (fun q => .int (mI M a q))) (cd := arrV (Γ.2.1 1) n1 (fun q => .int (mI M b q))) (srcPos := i) (destPos := j) (n := n) (by rw [hT]; exact hc0) (by rw [hT]; exact hc1)
    (fun _ h => by cases h) (fun _ h => by cases h) (fun h => by cases h) (fun h => by cases h) hk0 hk1 hkk0 hkk1 (by simp [refKind]) h1 h2 h3
    (by rw [tnn i h1, tnn n h3, arrV_size]; omega)
    (by rw [tnn j h2, tnn n h3, arrV_size]; omega)
    (fun vm₁ _ q hq => by
      have e : (arrV (Γ.2.1 1) n0 (fun q => Value.int (mI M a q))).slots.getD (i.toNatClampNeg + q) .null = .int (mI M a (i.toNatClampNeg + q)) := by
        rw [Array.getD_eq_getD_getElem?, arrV_read _ _ (by omega)]
        rfl
      exact ⟨by rw [e]; rfl, by rw [e]; exact trivial⟩)
    (g := F0 X.2.2.2.2.2.1 pc ls (.int n :: .int j :: .ref b :: .int i :: .ref a :: st)) rfl (hll.1.trans hC.2.2.1.symm) (rest := st) rfl (by rw [hC.2.1]; exact hdg) (by rw [hR]; exact hf.1) (by
      rw [hR]
      have e7 : nativeFrameWords "java/lang/System" "arraycopy" 5 = 7 := by decide +kernel
      have e0 := hf.2
      show 2 * 0 + _ + _ ≤ _
      rw [e7]
      dsimp only
      omega)
  have e1 : copied (arrV (Γ.2.1 1) n0 (fun q => .int (mI M a q))) (arrV (Γ.2.1 1) n1 (fun q => .int (mI M b q))) i j n = arrV (Γ.2.1 1) n1 (fun q => .int (va_cpy (mI M a) (mI M b) i.toNatClampNeg j.toNatClampNeg n.toNatClampNeg q)) := va_copied (fun z => .int z) (Γ.2.1 1) (Γ.2.1 1) (mI M a) (mI M b) h4
  rw [e1] at X' step
  generalize hg : arrV (Γ.2.1 1) n1 (fun q => Value.int (va_cpy (mI M a) (mI M b) i.toNatClampNeg j.toNatClampNeg n.toNatClampNeg q)) = cN at X' step
  have hlb : b < H.size := (Array.getElem?_eq_some_iff.mp hc1).1
  have hheap : ((T.setVm vm').setCell b cN).heap = H.setIfInBounds b cN := by rw [← hT]; rfl
  have oq : ∀ q : Nat, q ≠ b → (H.setIfInBounds b cN)[q]? = H[q]? := fun q hq => by simp [Array.getElem?_setIfInBounds, Ne.symm hq]
  have hz : (H.setIfInBounds b cN).size = H.size := by simp
  have ho : (H.setIfInBounds b cN)[b]? = some cN := by simp [Array.getElem?_setIfInBounds, hlb]
  obtain ⟨t, a1, b1⟩ := kk (H.setIfInBounds b cN) _ ls (hS.put (M1 := sA M b _) rfl rfl hz oq hb (sA_o M b _) (by
      rw [k1, mI_sA, up1_s]
      show (H.setIfInBounds b cN)[b]? = some (arrV _ _ _)
      rw [ho, hg])) ⟨by rw [hz]; exact hv.1, fun q g1 g2 => by
      rw [oq q (fun e => g2 (by rw [e]; exact hb))]
      exact hv.2.1 q g1 g2, fun q hq => by
      rcases List.mem_append.mp hq with h | h
      · exact hv.2.2 q h
      · obtain ⟨z, -, hz⟩ := List.mem_map.mp h
        rw [← hz]
        exact hb⟩ hll _ hheap X'
  exact ⟨t, step t a1, b1⟩
end COPYROW
