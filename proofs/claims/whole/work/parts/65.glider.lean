/-! glider -/
section OPG
variable {E E' : Em} {M : Mm} {J J' J2 : Jm} {a b k t n c w x m o q0 i : Nat} {S : Int → Int} {z z1 z2 z3 z4 g : Int}
theorem o_addG (hM : Mre E M J) (k0 : K0 E) (hw : W10 E w) (hV : Vw E w J S) (hi : Inv S) (h8 : S 0 < 8) {p1 p2 p3 : Int32} (t1 : p1.toInt = z1) (t2 : p2.toInt = z2) (t3 : p3.toInt = z3) : Ok (F_X10_addGlider w p1 p2 p3 M) (fun q => q.1.toInt = S 0 ∧ ∃ a E' J', GRoom E J w (S 0).toNat a E' J' ∧ Mre E' q.2 (jW (JB J' a z1 z2 z3) w 2 (S 0 + 1))) := by
  have hg := i_gli hi
  have hN : (((S 0).toNat : Nat) : Int) = S 0 := by omega
  obtain ⟨v1, e1, s1⟩ := o_rdI (k := 2) hM hw.1
  rw [v_gli hV.1] at s1
  unfold F_X10_addGlider
  refine ok_b e1 (ok_b (o_isO hM hw.1) ?_)
  obtain ⟨⟨v4, M2⟩, e2, a, E', J', q1, hM2, hG⟩ := o_roomFor (i := (S 0).toNat) hM k0 hw (s1.trans hN.symm) (by omega)
  dsimp only at q1 hM2
  subst q1
  refine ok_b e2 (ok_s ?_)
  have hw' : E'.1 w = (10 + 7, 0) := kx k0 hG.1 hw.1 (by decide)
  have wa := hG.2.2.2.2.1
  obtain ⟨M6, e6, hM6⟩ := o_begin hM2 wa t1 t2 t3
  refine ok_b (o_isO hM2 wa.1) (ok_b e6 ?_)
  obtain ⟨v8, e8, s8⟩ := o_rdI (k := 2) hM6 hw'
  have hwa : w ≠ a ∧ w ≠ a + 1 := by
    refine ⟨fun e => ?_, fun e => ?_⟩
    · have := wa.1; rw [← e, hw'] at this; cases this
    · have := wa.2.2; rw [← e, hw'] at this; cases this
  have hw0 : w < E.2.2.2 := k0 _ (by rw [hw.1]; decide)
  have hv8 : v8.toInt = S 0 := by rw [s8, JB_n hwa.1 hwa.2, hG.2.2.2.1 w hw0, v_gli hV.1]
  refine ok_b e8 ?_
  obtain ⟨M9, e9, hM9⟩ := o_wrI (k := 2) hM6 hw' (v := v8 + 1) (z := S 0 + 1) (by rw [t_add hv8 (t_n 1 (by decide)), wr_id (by omega)]; rfl) rfl
  exact ok_b e9 ⟨_, rfl, hv8, a, E', J', hG, hM9⟩
/-- the class's answer, where it refuses -/
def gRef (S : Int → Int) (z1 z2 z3 z4 : Int) : Option Int := if ¬ (0 ≤ z1 ∧ z1 ≤ 3) then some (-1) else if ¬ (0 ≤ z2 ∧ z2 < 10 ∧ 0 ≤ z3 ∧ z3 < 8) then some (-1) else if ¬ (0 ≤ z4 ∧ z4 ≤ 999) then some (-1) else if S 0 = 8 then some (-2) else if S (10 + (8 * z2 + z3)) ≤ 0 then some (-3) else none
theorem o_glider (hM : Mre E M J) (k0 : K0 E) (wx : W11 E x) (hV : Vw E (x + 1) J S) (hi : Inv S) {p1 p2 p3 p4 : Int32} (t1 : p1.toInt = z1) (t2 : p2.toInt = z2) (t3 : p3.toInt = z3) (t4 : p4.toInt = z4) : Ok (F_X11_glider x p1 p2 p3 p4 M) (fun q => (∃ r, gRef S z1 z2 z3 z4 = some r ∧ q.1.toInt = r ∧ Mre E q.2 J) ∨ (gRef S z1 z2 z3 z4 = none ∧ q.1.toInt = S 0 ∧ ∃ a E' J', GRoom E J (x + 1) (S 0).toNat a E' J' ∧ Mre E' q.2 (jW (JB J' a z1 (8 * z2 + z3) z4) (x + 1) 2 (S 0 + 1)))) := by
  have hg := i_gli hi
  have w10 := wx.2.1.2
  have w7 := w10.2.1.2
  unfold F_X11_glider gRef
  by_cases c1 : z1 < 0
  · exact ok_t ((c_lt t1 (b := 0) (B := 0) rfl).mpr c1) ⟨_, rfl, Or.inl ⟨-1, by rw [if_pos (show ¬ (0 ≤ z1 ∧ z1 ≤ 3) by omega)], rfl, hM⟩⟩
  refine ok_f (fun q => c1 ((c_lt t1 (b := 0) (B := 0) rfl).mp q)) ?_
  by_cases c2 : 3 < z1
  · exact ok_t ((c_lt (a := 3) (A := 3) rfl t1).mpr c2) ⟨_, rfl, Or.inl ⟨-1, by rw [if_pos (show ¬ (0 ≤ z1 ∧ z1 ≤ 3) by omega)], rfl, hM⟩⟩
  refine ok_f (fun q => c2 ((c_lt (a := 3) (A := 3) rfl t1).mp q)) ?_
  rw [if_neg (show ¬ ¬ (0 ≤ z1 ∧ z1 ≤ 3) by omega)]
  obtain ⟨⟨v4, M3⟩, e3, s4, hM3⟩ := h_X11_isCell hM t2 t3 (z_isCell z2 z3)
  dsimp only at s4 hM3
  refine ok_b e3 ?_
  by_cases c3 : 0 ≤ z2 ∧ z2 < 10 ∧ 0 ≤ z3 ∧ z3 < 8
  · rw [if_pos c3] at s4
    refine ok_f (fun q => absurd ((c_eq s4 (b := 0) (B := 0) rfl).mp q) (by decide)) ?_
    rw [if_neg (show ¬ ¬ (0 ≤ z2 ∧ z2 < 10 ∧ 0 ≤ z3 ∧ z3 < 8) from fun q => q c3)]
    by_cases c4 : z4 < 0
    · exact ok_t ((c_lt t4 (b := 0) (B := 0) rfl).mpr c4) ⟨_, rfl, Or.inl ⟨-1, by rw [if_pos (show ¬ (0 ≤ z4 ∧ z4 ≤ 999) by omega)], rfl, hM3⟩⟩
    refine ok_f (fun q => c4 ((c_lt t4 (b := 0) (B := 0) rfl).mp q)) ?_
    by_cases c5 : z4 ≤ 999
    · refine ok_t ((c_le t4 (b := 999) (B := 999) rfl).mpr c5) ?_
      rw [if_neg (show ¬ ¬ (0 ≤ z4 ∧ z4 ≤ 999) by omega)]
      obtain ⟨v10, e10, s10⟩ := o_rdI (k := 2) hM3 w10.1
      rw [v_gli hV.1] at s10
      refine ok_b (o_rdS hM3 wx.1 wx.2.1.1) (ok_s (ok_b e10 ?_))
      by_cases c6 : S 0 < 8
      · refine ok_t ((c_lt s10 (b := 8) (B := 8) rfl).mpr c6) ?_
        rw [if_neg (show ¬ S 0 = 8 by omega)]
        refine ok_b (o_rdS hM3 wx.1 wx.2.1.1) (ok_s (ok_b (o_rdS hM3 w10.1 w10.2.1.1) (ok_s (ok_b (o_rdS hM3 w7.1 w7.2.1.1) ?_))))
        obtain ⟨⟨v18, M17⟩, e17, s18, hM17⟩ := h_X11_cellOf hM3 t2 t3 (z_cellOf (a := z2) (b := z3) (by omega))
        dsimp only at s18 hM17
        refine ok_b e17 (ok_s ?_)
        obtain ⟨v19, e19, s19⟩ := o_ldI hM17 w7.2.1.2 (n := 80) rfl s18 (vL_dep hV.1 (z := 8 * z2 + z3) (by omega) (by omega))
        refine ok_b e19 ?_
        have hdp := i_dep hi (z := 8 * z2 + z3) (by omega) (by omega)
        by_cases c7 : S (10 + (8 * z2 + z3)) = 0
        · exact ok_t ((c_eq s19 (b := 0) (B := 0) rfl).mpr c7) ⟨_, rfl, Or.inl ⟨-3, by rw [if_pos (by omega)], rfl, hM17⟩⟩
        · refine ok_f (fun q => c7 ((c_eq s19 (b := 0) (B := 0) rfl).mp q)) ?_
          rw [if_neg (show ¬ S (10 + (8 * z2 + z3)) ≤ 0 by omega)]
          obtain ⟨⟨v24, M23⟩, e23, s24, hM23⟩ := h_X11_cellOf hM17 t2 t3 (z_cellOf (a := z2) (b := z3) (by omega))
          dsimp only at s24 hM23
          refine ok_b (o_rdS hM17 wx.1 wx.2.1.1) (ok_b e23 (ok_s (ok_b (o_isO hM23 w10.1) ?_)))
          obtain ⟨⟨v28, M26⟩, e26, s28, a, E', J', hG, hM26⟩ := o_addG hM23 k0 w10 hV hi c6 t1 s24 t4
          dsimp only at s28 hM26
          exact ok_b e26 ⟨_, rfl, Or.inr ⟨rfl, s28, a, E', J', hG, hM26⟩⟩
      · exact ok_f (fun q => c6 ((c_lt s10 (b := 8) (B := 8) rfl).mp q)) ⟨_, rfl, Or.inl ⟨-2, by rw [if_pos (show S 0 = 8 by omega)], rfl, hM3⟩⟩
    · exact ok_f (fun q => c5 ((c_le t4 (b := 999) (B := 999) rfl).mp q)) ⟨_, rfl, Or.inl ⟨-1, by rw [if_pos (show ¬ (0 ≤ z4 ∧ z4 ≤ 999) by omega)], rfl, hM3⟩⟩
  · rw [if_neg c3] at s4
    exact ok_t ((c_eq s4 (b := 0) (B := 0) rfl).mpr rfl) ⟨_, rfl, Or.inl ⟨-1, by rw [if_pos c3], rfl, hM3⟩⟩
theorem r_glider (hR : Rf m J S) (hi : Inv S) : (∀ r, gRef S z1 z2 z3 z4 = some r → H_X12_glider m z1 z2 z3 z4 J = some (r, J)) ∧ (gRef S z1 z2 z3 z4 = none → ((0 ≤ z1 ∧ z1 ≤ 3) ∧ (0 ≤ z2 ∧ z2 < 10) ∧ (0 ≤ z3 ∧ z3 < 8) ∧ (0 ≤ z4 ∧ z4 ≤ 999) ∧ S 0 < 8 ∧ 0 < S (10 + (8 * z2 + z3))) ∧ ∃ J2, H_X12_glider m z1 z2 z3 z4 J = some (S 0, J2) ∧ Rf m J2 (SG S z1 z2 z3 z4) ∧ ∀ b, b ≠ m + 1 → J2 b = J b) := by
  have hg := i_gli hi
  unfold H_X12_glider gRef H_X12_isWater
  rw [isq, Option.bind_some, z01, z_rIsCell, Option.bind_some, z01, isq, Option.bind_some, z01]
  by_cases c1 : 0 ≤ z1 ∧ z1 ≤ 3
  · rw [if_pos c1, if_neg (show ¬ ¬ (0 ≤ z1 ∧ z1 ≤ 3) from fun q => q c1)]
    by_cases c3 : 0 ≤ z2 ∧ z2 < 10 ∧ 0 ≤ z3 ∧ z3 < 8
    · rw [if_pos c3, if_neg (show ¬ ¬ (0 ≤ z2 ∧ z2 < 10 ∧ 0 ≤ z3 ∧ z3 < 8) from fun q => q c3)]
      by_cases c4 : 0 ≤ z4 ∧ z4 ≤ 999
      · rw [if_pos c4, if_neg (show ¬ ¬ (0 ≤ z4 ∧ z4 ≤ 999) from fun q => q c4), rL hR (by omega) (by omega), Option.bind_some]
        by_cases c5 : S 0 = 8
        · rw [if_pos c5, if_pos c5]
          exact ⟨fun r hr => by cases hr; rfl, fun hr => by cases hr⟩
        · rw [if_neg c5, if_neg c5, Option.bind_some, z01, if_pos c3]
          have e1 : wr (wr (10 + wr (8 * z2)) + z3) = 10 + (8 * z2 + z3) := by
            rw [wr_id (z := 8 * z2) (by omega), wr_id (z := 10 + 8 * z2) (by omega), wr_id (by omega)]; omega
          rw [e1, rL hR (by omega) (by omega), Option.bind_some]
          by_cases c6 : S (10 + (8 * z2 + z3)) ≤ 0
          · rw [if_pos c6, if_pos c6, Option.bind_some, if_pos rfl]
            exact ⟨fun r hr => by cases hr; rfl, fun hr => by cases hr⟩
          · rw [if_neg c6, if_neg c6, Option.bind_some, if_neg (show ¬ (1 : Int) = 0 by decide)]
            refine ⟨fun r hr => (by cases hr), fun _ => ⟨⟨c1, ⟨c3.1, c3.2.1⟩, c3.2.2, c4, by omega, by omega⟩, ?_⟩⟩
            have h1 := rW (v := z1) hR (z := 2170 + S 0) (by omega)
            have h2 := rW (v := z2) h1 (z := 2178 + S 0) (by omega)
            have h3 := rW (v := z3) h2 (z := 2186 + S 0) (by omega)
            have h4 := rW (v := z4) h3 (z := 2194 + S 0) (by omega)
            have h5 := rW (v := -4) h4 (z := 2226 + S 0) (by omega)
            have h6 := rW (v := -4) h5 (z := 2234 + S 0) (by omega)
            have h7 := rW (v := -4) h6 (z := 2250 + S 0) (by omega)
            have h8 := rW (v := S 0 + 1) h7 (z := 0) (by omega)
            rw [wr_id (z := 2170 + S 0) (by omega), wr_id (z := 2178 + S 0) (by omega), wr_id (z := 2186 + S 0) (by omega), wr_id (z := 2194 + S 0) (by omega), wr_id (z := 2226 + S 0) (by omega), wr_id (z := 2234 + S 0) (by omega), wr_id (z := 2250 + S 0) (by omega), zS (by omega) (by omega), Option.bind_some, zS (by omega) (by omega), Option.bind_some, zS (by omega) (by omega), Option.bind_some, zS (by omega) (by omega), Option.bind_some, zS (by omega) (by omega), Option.bind_some, zS (by omega) (by omega), Option.bind_some, zS (by omega) (by omega), Option.bind_some, rL h7 (by omega) (by omega), Option.bind_some]
            have e0 : (zU (zU (zU (zU (zU (zU (zU S (2170 + S 0) z1) (2178 + S 0) z2) (2186 + S 0) z3) (2194 + S 0) z4) (2226 + S 0) (-4)) (2234 + S 0) (-4)) (2250 + S 0) (-4)) 0 = S 0 := by simp (disch := omega) only [zU_ne]
            rw [e0, wr_id (by omega), zS (by omega) (by omega), Option.bind_some]
            exact ⟨_, rfl, h8, fun b hb => by simp (disch := omega) only [jW_ne]⟩
      · rw [if_neg c4, if_pos c4]
        exact ⟨fun r hr => by cases hr; rfl, fun hr => by cases hr⟩
    · rw [if_neg c3, if_pos c3]
      exact ⟨fun r hr => by cases hr; rfl, fun hr => by cases hr⟩
  · rw [if_neg c1, if_pos c1]
    exact ⟨fun r hr => by cases hr; rfl, fun hr => by cases hr⟩
end OPG
