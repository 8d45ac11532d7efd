/-! THE ROWS that read and write cells -/
/-- a class of the tables: its words, its types, its names apart -/
def ClOk (t : Nat) (q : vw_C) (ty0 : Nat → FieldType) : Prop := vwCl[t]? = some q ∧ (∀ w ∈ u_ws q.1 q.2.1 q.2.2, w ∈ lw_g) ∧ (∀ k, k < q.2.2 → parseFieldDescriptor (q.2.1 k).2.2.1 = some (ty0 k)) ∧ (∀ a, a < q.2.2 → ∀ b, b < q.2.2 → a ≠ b → (q.2.1 a).2.1 ≠ (q.2.1 b).2.1)
/-- field k of class t, as entry idx of own's pool names it -/
def FOk (own : String) (idx t k : Nat) (ty : FieldType) (fin : Bool) : Prop := ∃ (q : vw_C) (ty0 : Nat → FieldType), ClOk t q ty0 ∧ k < q.2.2 ∧ Cond.fieldLink own idx (q.2.1 k).1 (q.2.1 k).2.1 (q.2.1 k).2.2.1 ∈ lw_g ∧ ty0 k = ty ∧ (q.2.1 k).2.2.2 = fin ∧ (q.2.1 k).1 = q.1
theorem Sim.obj {Γ : Gm} {M : Mm} {H : Heap} (h : Sim Γ M H) {a t : Nat} (hk : mK M a = (t + 7, 0)) : gb Γ ≤ a ∧ ∃ q : vw_C, vwCl[t]? = some q ∧ t_OB a (Γ.1.1 t) q.2.2 (Γ.1.2 t) H (oV t (mI M a) (mR M a)) := by
  have h1 := h.2.2.2 a (by rw [hk]; exact Nat.succ_ne_zero (t + 6))
  unfold cAt at h1
  rw [hk] at h1
  exact h1
section HEAPROWS
variable {Γ : Gm} {X : Ct} {cc : ByteArray} {own : String} {ret : Option FieldType} {nL : Nat} {M : Mm} {cells slots : Nat} {Q : State → Prop} {pc : Nat} {lv : List (Nat × Value)} {st : List Value}
theorem Cx.hts (hC : Cx Γ X cc own ret nL) : ∀ w ∈ lw_g, w.before X.2.2.2.2.2.2.1 X.2.2.2.2.1 = true := hC.2.2.2.2.1
theorem Cx.kn (hC : Cx Γ X cc own ret nL) {t : Nat} {q : vw_C} (hq : vwCl[t]? = some q) : u_Kn X.2.2.2.2.1 q.1 q.2.1 q.2.2 (Γ.1.1 t) (Γ.1.2 t) := hC.2.2.2.2.2.2.2.1.1.1 t q hq
theorem Cx.ar (hC : Cx Γ X cc own ret nL) {j : Nat} {q : ClassId × FieldType} (hq : (tyl Γ.2.1)[j]? = some q) : ArrOfT X.2.2.2.2.1 q.1 q.2 ∧ va_RA X.2.2.2.2.1 q.1 q.2 := hC.2.2.2.2.2.2.2.1.1.2 j q hq
theorem g_getV (hC : Cx Γ X cc own ret nL) {a t k idx : Nat} {ty : FieldType} {fin : Bool} (hf : FOk own idx t k ty fin) (hk : mK M a = (t + 7, 0)) (hdg : decode cc pc = .ok (.getfield idx, 3)) (kk : G Γ X nL M cells slots Q (pc + 3) lv (oV t (mI M a) (mR M a) k :: st)) : G Γ X nL M cells slots Q pc lv (.ref a :: st) := by
  obtain ⟨q, ty0, ⟨hq, hin, hty, hnm⟩, hkN, hlink, -⟩ := hf
  intro H locs ls hS hv hl
  obtain ⟨-, q', hq', cell, c1, c2, c3, c4⟩ := hS.obj hk
  rw [hq] at hq'
  cases hq'
  obtain ⟨hSl, hfc, kC, hkC, hkind⟩ := hC.kn hq
  obtain ⟨cf, kf, fi, f, hi, hsl⟩ := hSl k hkN
  exact W.getf hC.1 hC.2.1 hC.2.2.2.1 (hC.hts _ hlink) hi (u_facts hfc hkC (u_lays hC.hts hin hkN) hi).1 c1 (by rw [c3]; exact fun h => by cases h) (v := oV t (mI M a) (mR M a) k) (by rw [hsl]; exact c4 k hkN) rfl rfl hdg (kk H locs ls hS hv hl)
theorem oV_i {t k : Nat} {f : Nat → Int32} {r : Nat → Option Nat} (h : fR t k = false) : oV t f r k = .int (f k) := by unfold oV; rw [h]; rfl
theorem oV_r {t k : Nat} {f : Nat → Int32} {r : Nat → Option Nat} (h : fR t k = true) : oV t f r k = va_rf (r k) := by unfold oV; rw [h]; rfl
theorem g_getI (hC : Cx Γ X cc own ret nL) {a t k idx : Nat} {ty : FieldType} {fin : Bool} {v : Int32} (e : rdI M a t k = some v) (hf : FOk own idx t k ty fin) (hr : fR t k = false) (hdg : decode cc pc = .ok (.getfield idx, 3)) (kk : G Γ X nL M cells slots Q (pc + 3) lv (.int v :: st)) : G Γ X nL M cells slots Q pc lv (.ref a :: st) := by
  obtain ⟨h1, rfl⟩ := rdI_e e
  exact g_getV hC hf h1 hdg (by rw [oV_i hr]; exact kk)
theorem g_getR (hC : Cx Γ X cc own ret nL) {a t k idx : Nat} {ty : FieldType} {fin : Bool} {v : Option Nat} (e : rdR M a t k = some v) (hf : FOk own idx t k ty fin) (hr : fR t k = true) (hdg : decode cc pc = .ok (.getfield idx, 3)) (kk : G Γ X nL M cells slots Q (pc + 3) lv (va_rf v :: st)) : G Γ X nL M cells slots Q pc lv (.ref a :: st) := by
  obtain ⟨h1, rfl⟩ := rdR_e e
  exact g_getV hC hf h1 hdg (by rw [oV_r hr]; exact kk)
/-- a field is written -/
theorem g_putV (hC : Cx Γ X cc own ret nL) {a t k idx : Nat} {ty : FieldType} {v : Value} {M1 : Mm} (hf : FOk own idx t k ty false) (hk : mK M a = (t + 7, 0)) (hn : narrow ty v = v) (hfit : fits ty v = true)
    (hK : mK M1 = mK M) (hN : mN M1 = mN M) (ho : ∀ q : Nat, q ≠ a → mI M1 q = mI M q ∧ mR M1 q = mR M q ∧ mL M1 q = mL M q) (hv : ∀ j : Nat, updV (oV t (mI M a) (mR M a)) k v j = oV t (mI M1 a) (mR M1 a) j)
    (hdg : decode cc pc = .ok (.putfield idx, 3)) (kk : G Γ X nL M1 cells slots Q (pc + 3) lv st) : G Γ X nL M cells slots Q pc lv (v :: .ref a :: st) := by
  obtain ⟨q, ty0, ⟨hq, hin, hty, hnm⟩, hkN, hlink, rfl, hfin, hdc⟩ := hf
  intro H locs ls hS hvS hl
  obtain ⟨hb, q', hq', cell, c1, c2, c3, c4⟩ := hS.obj hk
  rw [hq] at hq'
  cases hq'
  obtain ⟨hSl, hfc, kC, hkC, hkind⟩ := hC.kn hq
  obtain ⟨cf, kf, fi, f, hi, hsl⟩ := hSl k hkN
  have hap := va_apart (own := own) hC.hts hin ty0 hty hnm hC.2.2.2.2.2.2.2.1.1 hq
  have hlay := hC.hts _ (hin _ (u_in_lay hkN))
  unfold u_lay at hlay
  rw [if_neg (by rw [hfin]; decide)] at hlay
  have hst := (u_facts hfc hkC (u_lays hC.hts hin hkN) hi).1
  have h6 := u_store hfc hkC hkind hlay hi (hty k hkN) hn hfit
  refine W.putK hC.1 hC.2.1 (f := f) ⟨hC.2.2.2.1, hC.hts _ hlink, ⟨_, _, _, hi⟩, hst⟩ (by rw [c2]; exact h6) c1 c3 (by rw [hsl]; exact k2_hasslot (c4 k hkN)) rfl rfl hdg fun H' e1 e2 e3 => ?_
  rw [hsl] at e1 ⊢
  refine kk H' _ ls (hS.put hK hN e2 e3 hb ho ?_) (hvS.put e2 e3 hb) hl
  rw [hk]
  exact ⟨q, hq, t_OB.to (V := updV (oV t (mI M a) (mR M a)) k v) ⟨_, e1, c2, c3, t_set c4 hap hkN v⟩ (fun j _ => hv j)⟩
/-- a final field is written, in its class's constructor -/
theorem g_putFV (hC : Cx Γ X cc own ret nL) {a t k idx : Nat} {ty : FieldType} {v : Value} {M1 : Mm} (hf : FOk own idx t k ty true) (hown : ∀ q : vw_C, vwCl[t]? = some q → q.1 = own) (hin2 : X.2.2.2.2.2.2.2.2.1.name = "<init>") (hk : mK M a = (t + 7, 0)) (hn : narrow ty v = v) (hfit : fits ty v = true)
    (hK : mK M1 = mK M) (hN : mN M1 = mN M) (ho : ∀ q : Nat, q ≠ a → mI M1 q = mI M q ∧ mR M1 q = mR M q ∧ mL M1 q = mL M q) (hv : ∀ j : Nat, updV (oV t (mI M a) (mR M a)) k v j = oV t (mI M1 a) (mR M1 a) j)
    (hdg : decode cc pc = .ok (.putfield idx, 3)) (kk : G Γ X nL M1 cells slots Q (pc + 3) lv st) : G Γ X nL M cells slots Q pc lv (v :: .ref a :: st) := by
  obtain ⟨q, ty0, ⟨hq, hin, hty, hnm⟩, hkN, hlink, rfl, hfin, hdc⟩ := hf
  intro H locs ls hS hvS hl
  obtain ⟨hb, q', hq', cell, c1, c2, c3, c4⟩ := hS.obj hk
  rw [hq] at hq'
  cases hq'
  obtain ⟨hSl, hfc, kC, hkC, hkind⟩ := hC.kn hq
  obtain ⟨cf, kf, fi, f, hi, hsl⟩ := hSl k hkN
  have hap := va_apart (own := own) hC.hts hin ty0 hty hnm hC.2.2.2.2.2.2.2.1.1 hq
  have hlay := hC.hts _ (hin _ (u_in_lay hkN))
  unfold u_lay at hlay
  rw [if_pos hfin] at hlay
  have hst := (u_facts hfc hkC (u_lays hC.hts hin hkN) hi).1
  have hcf : X.2.2.2.2.2.1.cls = cf := by
    obtain ⟨_, _, c', _, _, _, -, -, hf', -, -, -, hown2, -⟩ := Cond.laysFinal_spec hlay
    have e1 : c' = cf := by have := hi.symm.trans hf'; simp at this; exact this.1.symm
    rw [hdc, hown q hq] at hown2
    rw [← e1]; exact Option.some.inj (hC.2.2.2.1.symm.trans hown2)
  have h6 := u_fits hfc hkC hkind (Or.inr hlay) hi (hty k hkN) hn hfit
  refine W.putFinK hC.1 hC.2.1 hC.2.2.2.1 (hC.hts _ hlink) hi hst hcf hin2 (by rw [c2]; exact h6) c1 c3 (by rw [hsl]; exact k2_hasslot (c4 k hkN)) rfl rfl hdg fun H' e1 e2 e3 => ?_
  rw [hsl] at e1 ⊢
  refine kk H' _ ls (hS.put hK hN e2 e3 hb ho ?_) (hvS.put e2 e3 hb) hl
  rw [hk]
  exact ⟨q, hq, t_OB.to (V := updV (oV t (mI M a) (mR M a)) k v) ⟨_, e1, c2, c3, t_set c4 hap hkN v⟩ (fun j _ => hv j)⟩
theorem oV_upI {t k : Nat} (h : fR t k = false) (M : Mm) (a : Nat) (v : Int32) (j : Nat) : updV (oV t (mI M a) (mR M a)) k (.int v) j = oV t (mI (sI M a k v) a) (mR (sI M a k v) a) j := by
  rw [mI_sI, mR_sI, up1_s]
  by_cases e : j = k
  · subst e; simp [updV, oV, h, up1]
  · simp [updV, oV, e, up1]
theorem oV_upR {t k : Nat} (h : fR t k = true) (M : Mm) (a : Nat) (v : Option Nat) (j : Nat) : updV (oV t (mI M a) (mR M a)) k (va_rf v) j = oV t (mI (sR M a k v) a) (mR (sR M a k v) a) j := by
  rw [mI_sR, mR_sR, up1_s]
  by_cases e : j = k
  · subst e; simp [updV, oV, h, up1]
  · simp [updV, oV, e, up1]
theorem sI_o (M : Mm) (a k : Nat) (v : Int32) (q : Nat) (hq : q ≠ a) : mI (sI M a k v) q = mI M q ∧ mR (sI M a k v) q = mR M q ∧ mL (sI M a k v) q = mL M q := ⟨by rw [mI_sI, up1_n _ _ hq], rfl, rfl⟩
theorem sR_o (M : Mm) (a k : Nat) (v : Option Nat) (q : Nat) (hq : q ≠ a) : mI (sR M a k v) q = mI M q ∧ mR (sR M a k v) q = mR M q ∧ mL (sR M a k v) q = mL M q := ⟨rfl, by rw [mR_sR, up1_n _ _ hq], rfl⟩
theorem sL_o (M : Mm) (a k : Nat) (v : Int64) (q : Nat) (hq : q ≠ a) : mI (sL M a k v) q = mI M q ∧ mR (sL M a k v) q = mR M q ∧ mL (sL M a k v) q = mL M q := ⟨rfl, rfl, by rw [mL_sL, up1_n _ _ hq]⟩
theorem sA_o (M : Mm) (a : Nat) (f : Nat → Int32) (q : Nat) (hq : q ≠ a) : mI (sA M a f) q = mI M q ∧ mR (sA M a f) q = mR M q ∧ mL (sA M a f) q = mL M q := ⟨by rw [mI_sA, up1_n _ _ hq], rfl, rfl⟩
theorem g_putI (hC : Cx Γ X cc own ret nL) {a t k idx : Nat} {v : Int32} {M1 : Mm} (e : wrI M a t k v = some M1) (hf : FOk own idx t k .int false) (hr : fR t k = false) (hdg : decode cc pc = .ok (.putfield idx, 3)) (kk : G Γ X nL M1 cells slots Q (pc + 3) lv st) : G Γ X nL M cells slots Q pc lv (.int v :: .ref a :: st) := by
  obtain ⟨h1, rfl⟩ := wrI_e e
  exact g_putV (M1 := sI M a k v) hC hf h1 rfl rfl rfl rfl (sI_o M a k v) (oV_upI hr M a v) hdg kk
theorem z_nar {v : Int32} (h : v = 0 ∨ v = 1) : narrow .boolean (.int v) = .int v ∧ fits .boolean (.int v) = true := by rcases h with rfl | rfl <;> exact ⟨rfl, rfl⟩
theorem g_putZ (hC : Cx Γ X cc own ret nL) {a t k idx : Nat} {v : Int32} {M1 : Mm} (e : wrZ M a t k v = some M1) (hf : FOk own idx t k .boolean false) (hr : fR t k = false) (hdg : decode cc pc = .ok (.putfield idx, 3)) (kk : G Γ X nL M1 cells slots Q (pc + 3) lv st) : G Γ X nL M cells slots Q pc lv (.int v :: .ref a :: st) := by
  obtain ⟨h1, h2, rfl⟩ := wrZ_e e
  exact g_putV (M1 := sI M a k v) hC hf h1 (z_nar h2).1 (z_nar h2).2 rfl rfl (sI_o M a k v) (oV_upI hr M a v) hdg kk
theorem r_nar {ty : FieldType} (h : (∃ C, ty = .object C) ∨ ∃ z, ty = .array z) (v : Option Nat) : narrow ty (va_rf v) = va_rf v ∧ fits ty (va_rf v) = true := by
  rcases h with ⟨C, rfl⟩ | ⟨z, rfl⟩ <;> cases v <;> exact ⟨rfl, rfl⟩
theorem g_putR (hC : Cx Γ X cc own ret nL) {a t k idx : Nat} {v : Option Nat} {M1 : Mm} {ty : FieldType} (e : wrR M a t k v = some M1) (hf : FOk own idx t k ty false) (hty : (∃ C, ty = .object C) ∨ ∃ z, ty = .array z) (hr : fR t k = true) (hdg : decode cc pc = .ok (.putfield idx, 3)) (kk : G Γ X nL M1 cells slots Q (pc + 3) lv st) : G Γ X nL M cells slots Q pc lv (va_rf v :: .ref a :: st) := by
  obtain ⟨h1, rfl⟩ := wrR_e e
  exact g_putV (M1 := sR M a k v) hC hf h1 (r_nar hty v).1 (r_nar hty v).2 rfl rfl (sR_o M a k v) (oV_upR hr M a v) hdg kk
theorem g_putFR (hC : Cx Γ X cc own ret nL) {a t k idx : Nat} {v : Option Nat} {M1 : Mm} {ty : FieldType} (e : wrR M a t k v = some M1) (hf : FOk own idx t k ty true) (hown : ∀ q : vw_C, vwCl[t]? = some q → q.1 = own) (hin2 : X.2.2.2.2.2.2.2.2.1.name = "<init>") (hty : (∃ C, ty = .object C) ∨ ∃ z, ty = .array z) (hr : fR t k = true) (hdg : decode cc pc = .ok (.putfield idx, 3)) (kk : G Γ X nL M1 cells slots Q (pc + 3) lv st) : G Γ X nL M cells slots Q pc lv (va_rf v :: .ref a :: st) := by
  obtain ⟨h1, rfl⟩ := wrR_e e
  exact g_putFV (M1 := sR M a k v) hC hf hown hin2 h1 (r_nar hty v).1 (r_nar hty v).2 rfl rfl (sR_o M a k v) (oV_upR hr M a v) hdg kk
theorem Sim.ari {Γ : Gm} {M : Mm} {H : Heap} (h : Sim Γ M H) {a n : Nat} (hk : mK M a = (1, n)) : gb Γ ≤ a ∧ H[a]? = some (arrV (Γ.2.1 1) n (fun j => .int (mI M a j))) := h.at (t := 0) hk
theorem Sim.arz {Γ : Gm} {M : Mm} {H : Heap} (h : Sim Γ M H) {a n : Nat} (hk : mK M a = (2, n)) : gb Γ ≤ a ∧ H[a]? = some (arrV (Γ.2.1 2) n (fun j => .int (mI M a j))) := h.at (t := 1) hk
theorem Sim.arl {Γ : Gm} {M : Mm} {H : Heap} (h : Sim Γ M H) {a n : Nat} (hk : mK M a = (6, n)) : gb Γ ≤ a ∧ H[a]? = some (arrV (Γ.2.1 6) n (fun j => .long (mL M a j))) := h.at (t := 5) hk
theorem Sim.arr {Γ : Gm} {M : Mm} {H : Heap} (h : Sim Γ M H) {a n t : Nat} (ht : t = 3 ∨ t = 4 ∨ t = 5) (hk : mK M a = (t, n)) : gb Γ ≤ a ∧ H[a]? = some (arrV (Γ.2.1 t) n (fun j => va_rf (mR M a j))) := by
  rcases ht with rfl | rfl | rfl
  · exact h.at (t := 2) hk
  · exact h.at (t := 3) hk
  · exact h.at (t := 4) hk
theorem tyl_r (ca : Nat → ClassId) {t : Nat} (ht : t = 3 ∨ t = 4 ∨ t = 5) : (tyl ca)[t - 1]? = some (ca t, .object (rCl t)) := by
  rcases ht with rfl | rfl | rfl <;> rfl
theorem vp_sz {ca : ClassId} {n : Nat} {f : Nat → Value} {i : Int32} (h : vp_in i n) : ¬ (i < 0 ∨ (arrV ca n f).slots.size ≤ i.toNatClampNeg) := by rw [arrV_size]; exact h
theorem vp_lt {n : Nat} {i : Int32} (h : vp_in i n) : i.toNatClampNeg < n := Nat.not_le.mp fun q => h (Or.inr q)
theorem g_iald (hC : Cx Γ X cc own ret nL) {a : Nat} {i v : Int32} (e : ldI M a i = some v) (hdg : decode cc pc = .ok (.iaload, 1)) (kk : G Γ X nL M cells slots Q (pc + 1) lv (.int v :: st)) : G Γ X nL M cells slots Q pc lv (.int i :: .ref a :: st) := by
  obtain ⟨n, h1, h2, rfl⟩ := ldI_e e
  exact fun H locs ls hS hv hl => W.iald (v := .int (mI M a i.toNatClampNeg)) hC.1 hC.2.1 (hS.ari h1).2 ((hC.ar (j := 0) rfl).1 n _) (fun q => by cases q) (vp_sz h2) (arrV_read _ _ (vp_lt h2)) rfl rfl hdg (kk H locs ls hS hv hl)
theorem g_zald (hC : Cx Γ X cc own ret nL) {a : Nat} {i v : Int32} (e : ldZ M a i = some v) (hdg : decode cc pc = .ok (.baload, 1)) (kk : G Γ X nL M cells slots Q (pc + 1) lv (.int v :: st)) : G Γ X nL M cells slots Q pc lv (.int i :: .ref a :: st) := by
  obtain ⟨n, h1, h2, rfl⟩ := ldZ_e e
  exact fun H locs ls hS hv hl => W.zald (v := .int (mI M a i.toNatClampNeg)) hC.1 hC.2.1 (hS.arz h1).2 ((hC.ar (j := 1) rfl).1 n _) (fun q => by cases q) (vp_sz h2) (arrV_read _ _ (vp_lt h2)) rfl rfl hdg (kk H locs ls hS hv hl)
theorem g_lald (hC : Cx Γ X cc own ret nL) {a : Nat} {i : Int32} {v : Int64} (e : ldL M a i = some v) (hdg : decode cc pc = .ok (.laload, 1)) (kk : G Γ X nL M cells slots Q (pc + 1) lv (.long v :: st)) : G Γ X nL M cells slots Q pc lv (.int i :: .ref a :: st) := by
  obtain ⟨n, h1, h2, rfl⟩ := ldL_e e
  exact fun H locs ls hS hv hl => W.lald (v := .long (mL M a i.toNatClampNeg)) hC.1 hC.2.1 (hS.arl h1).2 ((hC.ar (j := 5) rfl).1 n _) (fun q => by cases q) (vp_sz h2) (arrV_read _ _ (vp_lt h2)) rfl rfl hdg (kk H locs ls hS hv hl)
theorem g_aald (hC : Cx Γ X cc own ret nL) {a t : Nat} {i : Int32} {v : Option Nat} (e : ldR M a t i = some v) (ht : t = 3 ∨ t = 4 ∨ t = 5) (hdg : decode cc pc = .ok (.aaload, 1)) (kk : G Γ X nL M cells slots Q (pc + 1) lv (va_rf v :: st)) : G Γ X nL M cells slots Q pc lv (.int i :: .ref a :: st) := by
  obtain ⟨n, h1, h2, rfl⟩ := ldR_e e
  exact fun H locs ls hS hv hl => W.aald (v := va_rf (mR M a i.toNatClampNeg)) (ty := .object (rCl t)) hC.1 hC.2.1 (hS.arr ht h1).2 ((hC.ar (tyl_r _ ht)).1 n _) rfl (fun q => by cases q) (vp_sz h2) (arrV_read _ _ (vp_lt h2)) rfl rfl hdg (kk H locs ls hS hv hl)
theorem updV_i (f : Nat → Int32) (k : Nat) (x : Int32) : updV (fun j => .int (f j)) k (.int x) = fun j => .int (up1 f k x j) := by
  funext j; by_cases e : j = k <;> simp [updV, up1, e]
theorem updV_l (f : Nat → Int64) (k : Nat) (x : Int64) : updV (fun j => .long (f j)) k (.long x) = fun j => .long (up1 f k x j) := by
  funext j; by_cases e : j = k <;> simp [updV, up1, e]
theorem updV_r (f : Nat → Option Nat) (k : Nat) (x : Option Nat) : updV (fun j => va_rf (f j)) k (va_rf x) = fun j => va_rf (up1 f k x j) := by
  funext j; by_cases e : j = k <;> simp [updV, up1, e]
theorem g_iast (hC : Cx Γ X cc own ret nL) {a : Nat} {i v : Int32} {M1 : Mm} (e : stI M a i v = some M1) (hdg : decode cc pc = .ok (.iastore, 1)) (kk : G Γ X nL M1 cells slots Q (pc + 1) lv st) : G Γ X nL M cells slots Q pc lv (.int v :: .int i :: .ref a :: st) := by
  obtain ⟨n, h1, h2, rfl⟩ := stI_e e
  intro H locs ls hS hv hl
  obtain ⟨hb, hc⟩ := hS.ari h1
  refine W.iast hC.1 hC.2.1 hc ((hC.ar (j := 0) rfl).1 n _) (fun q => by cases q) (vp_sz h2) rfl rfl hdg fun H1 e1 z oq => ?_
  refine kk H1 _ ls (hS.put rfl rfl z oq hb (sI_o M a _ v) ?_) (hv.put z oq hb) hl
  rw [h1]
  show H1[a]? = some (arrV _ _ _)
  rw [e1, arrV_store, updV_i, mI_sI, up1_s]
theorem g_zast (hC : Cx Γ X cc own ret nL) {a : Nat} {i v : Int32} {M1 : Mm} (e : stZ M a i v = some M1) (hdg : decode cc pc = .ok (.bastore, 1)) (kk : G Γ X nL M1 cells slots Q (pc + 1) lv st) : G Γ X nL M cells slots Q pc lv (.int v :: .int i :: .ref a :: st) := by
  obtain ⟨n, h1, h2, h3, rfl⟩ := stZ_e e
  intro H locs ls hS hv hl
  obtain ⟨hb, hc⟩ := hS.arz h1
  refine W.zast hC.1 hC.2.1 hc ((hC.ar (j := 1) rfl).1 n _) (fun q => by cases q) (vp_sz h2) rfl rfl hdg fun H1 e1 z oq => ?_
  refine kk H1 _ ls (hS.put rfl rfl z oq hb (sI_o M a _ v) ?_) (hv.put z oq hb) hl
  rw [h1]
  show H1[a]? = some (arrV _ _ _)
  rw [e1, (z_nar h3).1, arrV_store, updV_i, mI_sI, up1_s]
theorem g_last (hC : Cx Γ X cc own ret nL) {a : Nat} {i : Int32} {v : Int64} {M1 : Mm} (e : stL M a i v = some M1) (hdg : decode cc pc = .ok (.lastore, 1)) (kk : G Γ X nL M1 cells slots Q (pc + 1) lv st) : G Γ X nL M cells slots Q pc lv (.long v :: .int i :: .ref a :: st) := by
  obtain ⟨n, h1, h2, rfl⟩ := stL_e e
  intro H locs ls hS hv hl
  obtain ⟨hb, hc⟩ := hS.arl h1
  refine W.last hC.1 hC.2.1 hc ((hC.ar (j := 5) rfl).1 n _) (fun q => by cases q) (vp_sz h2) rfl rfl hdg fun H1 e1 z oq => ?_
  refine kk H1 _ ls (hS.put rfl rfl z oq hb (sL_o M a _ v) ?_) (hv.put z oq hb) hl
  rw [h1]
  show H1[a]? = some (arrV _ _ _)
  rw [e1, arrV_store, updV_l, mL_sL, up1_s]
theorem g_aast (hC : Cx Γ X cc own ret nL) {a t c v : Nat} {i : Int32} {M1 : Mm} (e : stR M a t c i v = some M1) (ht : t = 3 ∨ t = 4 ∨ t = 5) (hcl : ∃ q : vw_C, vwCl[c]? = some q ∧ q.1 = rCl t) (hdg : decode cc pc = .ok (.aastore, 1)) (kk : G Γ X nL M1 cells slots Q (pc + 1) lv st) : G Γ X nL M cells slots Q pc lv (.ref v :: .int i :: .ref a :: st) := by
  obtain ⟨n, h1, h2, h3, rfl⟩ := stR_e e
  obtain ⟨q, hq, hqn⟩ := hcl
  intro H locs ls hS hv hl
  obtain ⟨hb, hc⟩ := hS.arr ht h1
  obtain ⟨-, q', hq', cellV, g1, g2, g3, -⟩ := hS.obj h3
  rw [hq] at hq'
  cases hq'
  have hcls := (hC.kn hq).2
  obtain ⟨kA, comp, k1, k2, k3, -⟩ := (hC.ar (tyl_r _ ht)).2
  have hcomp : comp = Γ.1.1 c := Option.some.inj (k3.symm.trans (by rw [← hqn]; exact hcls.1))
  subst hcomp
  obtain ⟨kC, hkC, -⟩ := hcls.2
  refine W.aast hC.1 hC.2.1 hc (fun q h => by cases h) (fun h => by cases h) k1 k2 rfl hkC ⟨fun q => h2 (Or.inl q), by rw [arrV_size]; exact vp_lt h2⟩ g1 (fun q h => by rw [g3] at h; cases h) (by rw [g2]; exact hkC) (by rw [g2]; exact va_assign hcls) rfl rfl hdg fun H1 e1 z oq => ?_
  refine kk H1 _ ls (hS.put rfl rfl z oq hb (sR_o M a _ (some v)) ?_) (hv.put z oq hb) hl
  have e2 : H1[a]? = some (arrV (Γ.2.1 t) n (fun j => va_rf (mR (sR M a i.toNatClampNeg (some v)) a j))) := by
    rw [e1, arrV_store, mR_sR, up1_s]
    exact congrArg (fun z => some (arrV (Γ.2.1 t) n z)) (updV_r (mR M a) i.toNatClampNeg (some v))
  rw [h1]
  rcases ht with rfl | rfl | rfl <;> exact e2
theorem g_alen (hC : Cx Γ X cc own ret nL) {a : Nat} {v : Int32} (e : lnI M a = some v) (hdg : decode cc pc = .ok (.arraylength, 1)) (kk : G Γ X nL M cells slots Q (pc + 1) lv (.int v :: st)) : G Γ X nL M cells slots Q pc lv (.ref a :: st) := by
  obtain ⟨n, h1, rfl⟩ := lnI_e e
  exact fun H locs ls hS hv hl => W.alen hC.1 hC.2.1 (hS.ari h1).2 ((hC.ar (j := 0) rfl).1 n _) (by rw [arrV_size]) rfl rfl hdg (kk H locs ls hS hv hl)
/-- a static row of numbers, and a place of it -/
theorem g_gets (hC : Cx Γ X cc own ret nL) {idx : Nat} (j : Nat) (hj : j < 4) (hlink : Cond.fieldLink own idx "DeepWings" (sNm j) "[I" ∈ lw_g) (hdg : decode cc pc = .ok (.getstatic idx, 3)) (kk : G Γ X nL M cells slots Q (pc + 3) lv (.ref (Γ.2.2.1 j) :: st)) : G Γ X nL M cells slots Q pc lv st :=
  fun H locs ls hS hv hl => va_gets hC.1 hC.2.1 (hC.2.2.2.2.2.2.2.1.2.1 j hj).1 hv hC.2.2.2.1 (hC.hts _ hlink) (fun _ h => h) hdg (kk H locs ls hS hv hl)
theorem g_sald (hC : Cx Γ X cc own ret nL) {j : Nat} {i v : Int32} (hj : j < 4) (e : ldS j i = some v) (hdg : decode cc pc = .ok (.iaload, 1)) (kk : G Γ X nL M cells slots Q (pc + 1) lv (.int v :: st)) : G Γ X nL M cells slots Q pc lv (.int i :: .ref (Γ.2.2.1 j) :: st) := by
  obtain ⟨h2, rfl⟩ := ldS_e e
  intro H locs ls hS hv hl
  obtain ⟨cell, h3, h4, h5, h6, h7, h8, h9⟩ := (hC.2.2.2.2.2.2.2.1.2.1 j hj).2
  have hlt := (Array.getElem?_eq_some_iff.mp h3).1
  exact W.iald (v := .int ((sVl j).getD i.toNatClampNeg 0)) hC.1 hC.2.1 (by rw [hv.2.1 _ hlt h9]; exact h3) h4 h5 (fun q => h2 (q.imp id (fun z => Nat.le_trans h6 z))) (h8 _ (vp_lt h2)) rfl rfl hdg (kk H locs ls hS hv hl)
theorem g_newO (hC : Cx Γ X cc own ret nL) {idx t n : Nat} {q : vw_C} {ty0 : Nat → FieldType} (hcl : ClOk t q ty0) (hn : q.2.2 = n) (hlink : Cond.classLink own idx q.1 ∈ lw_g) (hinst : Cond.instantiable q.1 q.2.2 ∈ lw_g) (hini : Cond.initialized q.1 ∈ lw_g)
    (hd : ∀ j : Nat, j < q.2.2 → defaultValue (ty0 j) = oV t (fun _ => 0) (fun _ => none) j) (hroom : cells + 1 ≤ X.2.2.2.1.cells ∧ slots + n ≤ X.2.2.2.1.slots) (hdg : decode cc pc = .ok (.new idx, 3)) (kk : G Γ X nL (nw M (t + 7, 0)) (cells + 1) (slots + n) Q (pc + 3) lv (.ref (mN M) :: st)) : G Γ X nL M cells slots Q pc lv st := by
  subst hn
  obtain ⟨hq, hin, hty, hnm⟩ := hcl
  intro H locs ls hS hv hl
  have hKn := hC.kn hq
  refine W.newcK hC.1 hC.2.1 hC.2.2.2.1 (hC.hts _ hlink) (hC.hts _ hinst) (hC.hts _ hini) rfl hdg hroom.1 hroom.2 hKn.2.1 hS.1 fun H1 kC hkC e1 z1 o1 => ?_
  rw [← hS.1] at e1 z1 o1
  have e2 : va_S (fr Γ) X.2.2.2.2.1.heap H1 locs := ⟨Nat.le_trans hv.1 (by omega), fun x h1 h2 => (o1 x (Nat.lt_of_lt_of_le h1 hv.1)).trans (hv.2.1 x h1 h2), hv.2.2⟩
  exact kk H1 locs ls (hS.new z1 o1 ⟨q, hq, (u_born ty0 hC.hts hin hKn hkC e1 hty).to hd⟩) e2 hl
theorem g_newI (hC : Cx Γ X cc own ret nL) {N : Nat} {i : Int32} (harr : Cond.arrayClass .int ∈ lw_g) (hi : ¬ i < 0 ∧ i.toNatClampNeg = N ∧ N * 4 ≤ 536870912) (hroom : cells + 1 ≤ X.2.2.2.1.cells ∧ slots + N ≤ X.2.2.2.1.slots) (hdg : decode cc pc = .ok (.newarray .int, 2))
    (kk : G Γ X nL (nw M (1, N)) (cells + 1) (slots + N) Q (pc + 2) lv (.ref (mN M) :: st)) : G Γ X nL M cells slots Q pc lv (.int i :: st) := by
  intro H locs ls hS hv hl
  refine va_newaK hC.1 hC.2.1 (atype := .int) (hC.hts _ harr) rfl hdg rfl hi.1 hi.2.1 hi.2.2 hroom.1 hroom.2 hS.1 fun H1 cA e1 z1 o1 hAr hNm => ?_
  rw [← hS.1] at e1 z1 o1
  have e2 : va_S (fr Γ) X.2.2.2.2.1.heap H1 locs := ⟨Nat.le_trans hv.1 (by omega), fun x h1 h2 => (o1 x (Nat.lt_of_lt_of_le h1 hv.1)).trans (hv.2.1 x h1 h2), hv.2.2⟩
  have e3 : cA = Γ.2.1 1 := Option.some.inj (hNm.symm.trans (hC.ar (j := 0) rfl).2)
  subst e3
  exact kk H1 locs ls (hS.new z1 o1 e1) e2 hl
theorem g_newZ (hC : Cx Γ X cc own ret nL) {N : Nat} {i : Int32} (harr : Cond.arrayClass .boolean ∈ lw_g) (hi : ¬ i < 0 ∧ i.toNatClampNeg = N ∧ N * 1 ≤ 536870912) (hroom : cells + 1 ≤ X.2.2.2.1.cells ∧ slots + N ≤ X.2.2.2.1.slots) (hdg : decode cc pc = .ok (.newarray .boolean, 2))
    (kk : G Γ X nL (nw M (2, N)) (cells + 1) (slots + N) Q (pc + 2) lv (.ref (mN M) :: st)) : G Γ X nL M cells slots Q pc lv (.int i :: st) := by
  intro H locs ls hS hv hl
  refine va_newaK hC.1 hC.2.1 (atype := .boolean) (hC.hts _ harr) rfl hdg rfl hi.1 hi.2.1 hi.2.2 hroom.1 hroom.2 hS.1 fun H1 cA e1 z1 o1 hAr hNm => ?_
  rw [← hS.1] at e1 z1 o1
  have e2 : va_S (fr Γ) X.2.2.2.2.1.heap H1 locs := ⟨Nat.le_trans hv.1 (by omega), fun x h1 h2 => (o1 x (Nat.lt_of_lt_of_le h1 hv.1)).trans (hv.2.1 x h1 h2), hv.2.2⟩
  have e3 : cA = Γ.2.1 2 := Option.some.inj (hNm.symm.trans (hC.ar (j := 1) rfl).2)
  subst e3
  exact kk H1 locs ls (hS.new z1 o1 e1) e2 hl
theorem g_newL (hC : Cx Γ X cc own ret nL) {N : Nat} {i : Int32} (harr : Cond.arrayClass .long ∈ lw_g) (hi : ¬ i < 0 ∧ i.toNatClampNeg = N ∧ N * 8 ≤ 536870912) (hroom : cells + 1 ≤ X.2.2.2.1.cells ∧ slots + N ≤ X.2.2.2.1.slots) (hdg : decode cc pc = .ok (.newarray .long, 2))
    (kk : G Γ X nL (nw M (6, N)) (cells + 1) (slots + N) Q (pc + 2) lv (.ref (mN M) :: st)) : G Γ X nL M cells slots Q pc lv (.int i :: st) := by
  intro H locs ls hS hv hl
  refine va_newaK hC.1 hC.2.1 (atype := .long) (hC.hts _ harr) rfl hdg rfl hi.1 hi.2.1 hi.2.2 hroom.1 hroom.2 hS.1 fun H1 cA e1 z1 o1 hAr hNm => ?_
  rw [← hS.1] at e1 z1 o1
  have e2 : va_S (fr Γ) X.2.2.2.2.1.heap H1 locs := ⟨Nat.le_trans hv.1 (by omega), fun x h1 h2 => (o1 x (Nat.lt_of_lt_of_le h1 hv.1)).trans (hv.2.1 x h1 h2), hv.2.2⟩
  have e3 : cA = Γ.2.1 6 := Option.some.inj (hNm.symm.trans (hC.ar (j := 5) rfl).2)
  subst e3
  exact kk H1 locs ls (hS.new z1 o1 e1) e2 hl
theorem g_newR (hC : Cx Γ X cc own ret nL) {N t idx : Nat} {i : Int32} (ht : t = 3 ∨ t = 4 ∨ t = 5) (hlink : Cond.classLink own idx (rCl t) ∈ lw_g) (hi : ¬ i < 0 ∧ i.toNatClampNeg = N ∧ N * 4 ≤ 536870912) (hroom : cells + 1 ≤ X.2.2.2.1.cells ∧ slots + N ≤ X.2.2.2.1.slots) (hdg : decode cc pc = .ok (.anewarray idx, 3))
    (kk : G Γ X nL (nw M (t, N)) (cells + 1) (slots + N) Q (pc + 3) lv (.ref (mN M) :: st)) : G Γ X nL M cells slots Q pc lv (.int i :: st) := by
  obtain ⟨hi1, rfl, hi3⟩ := hi
  intro H locs ls hS hv hl
  refine W.anew hC.1 hC.2.1 hC.2.2.2.1 (hC.hts _ hlink) (va_AO.use (hC.2.2.2.2.2.2.2.1.2.2.2.2.1 t ht)) rfl hdg rfl hi1 hi3 hroom.1 hroom.2 fun cA kA comp f1 f2 f3 f4 => ?_
  generalize hH1 : H.push ({ cls := cA, slots := Array.replicate i.toNatClampNeg .null, vm := .none } : Cell) = H1
  have z1 : H1.size = H.size + 1 := by rw [← hH1, Array.size_push]
  have e1 : H1[H.size]? = some (arrV cA i.toNatClampNeg (fun _ => .null)) := by rw [← hH1, Array.getElem?_push_size, ← arrV_new]
  have o1 : ∀ q : Nat, q < H.size → H1[q]? = H[q]? := fun q hq => by rw [← hH1, Array.getElem?_push, if_neg (Nat.ne_of_lt hq)]
  have e2 : va_S (fr Γ) X.2.2.2.2.1.heap H1 locs := ⟨Nat.le_trans hv.1 (by omega), fun x h1 h2 => (o1 x (Nat.lt_of_lt_of_le h1 hv.1)).trans (hv.2.1 x h1 h2), hv.2.2⟩
  obtain ⟨kA', comp', k1, k2, k3, k4⟩ := (hC.ar (tyl_r _ ht)).2
  have e3 : cA = Γ.2.1 t := Option.some.inj (f1.symm.trans k4)
  subst e3
  have kk := kk H1 locs ls (hS.new z1 o1 (by rcases ht with rfl | rfl | rfl <;> exact e1)) e2 hl
  rw [← hS.1] at kk
  exact kk
end HEAPROWS
