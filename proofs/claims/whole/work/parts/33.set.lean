/-! THE CALLS THAT SET SOMETHING SMALL -/
/-- both sides answer alike and hold a new state -/
def Bi (E : Em) (w m : Nat) (S : Int → Int) (J Jr : Jm) (C D : Option (Int × Jm)) : Prop := ∃ (r : Int) (S' : Int → Int) (J1 J2 : Jm), C = some (r, J1) ∧ D = some (r, J2) ∧ Vw E w J1 S' ∧ Rf m J2 S' ∧ Inv S' ∧ FrC E w J J1 ∧ FrM m Jr J2
section SET
variable {E : Em} {x w m a : Nat} {J Jr : Jm} {S : Int → Int} {g : Int}
theorem bi_no {C D : Option (Int × Jm)} {r : Int} (hV : Vw E w J S) (hi : Inv S) (hR : Rf m Jr S) (h1 : C = some (r, J)) (h2 : D = some (r, Jr)) : Bi E w m S J Jr C D := ⟨r, S, J, Jr, h1, h2, hV, hR, hi, FrC.r, FrM.r⟩
theorem b1 (sp : Sp E (x + 1)) (hV : Vw E (x + 1) J S) (hi : Inv S) (hR : Rf m Jr S) (z1 z2 z3 z4 z5 z6 : Int) (h6 : z6 = 0 ∨ z6 = 1) : Bi E (x + 1) m S J Jr (H_X11_stream x z1 z2 z3 z4 z5 z6 J) (H_X12_stream m z1 z2 z3 z4 z5 z6 Jr) := by
  unfold H_X11_stream H_X12_stream
  rw [z_isCell, z_rIsCell, z_isLayer, isq, isq, isq, z_isStream, z_isStream]
  simp only [Option.bind_some, z01]
  by_cases hc : 0 ≤ z1 ∧ z1 < 10 ∧ 0 ≤ z2 ∧ z2 < 8
  · rw [if_pos hc, if_pos hc]
    by_cases h3 : 0 ≤ z3 ∧ z3 ≤ 3
    · rw [if_pos h3, if_pos h3]
      by_cases h4 : -2 ≤ z4 ∧ z4 ≤ 2
      · rw [if_pos h4, if_pos h4]
        by_cases h5 : -2 ≤ z5 ∧ z5 ≤ 2
        · rw [if_pos h5, if_pos h5]
          have e8 : wr (8 * z1) = 8 * z1 := wr_id (by omega)
          have e9 : wr (8 * z1 + z2) = 8 * z1 + z2 := wr_id (by omega)
          have e10 : wr (4 * (8 * z1 + z2)) = 4 * (8 * z1 + z2) := wr_id (by omega)
          have e11 : wr (4 * (8 * z1 + z2) + z3) = 4 * (8 * z1 + z2) + z3 := wr_id (by omega)
          rw [e8, e9, e10, e11]
          simp only [jp, nv, Option.bind_some]
          rw [z_cellOf (by omega)]
          simp only [Option.bind_some]
          rw [z_placeOf (by omega)]
          simp only [Option.bind_some]
          rcases h6 with h6 | h6
          · rw [if_pos h6, if_pos h6, if_pos h6]
            simp (disch := omega) only [wr_id, zS, Option.bind_some]
            have hV1 : Vw E (x + 1) (jW J (x + 1 + 1 + 6 + 1) (4 * (8 * z1 + z2) + z3).toNat z4) (zU S (250 + (4 * (8 * z1 + z2) + z3)) z4) := vwS hV sp hi.1 (by omega) (by omega) (vW_eas hV.1 (by omega) (by omega))
            have hi1 : Inv (zU S (250 + (4 * (8 * z1 + z2) + z3)) z4) := inv_free hi (by unfold zFree; omega) (ir_at hi.1 (r := (250, 320, -2, 2)) (by decide) (by omega) (by dsimp only; omega) h4)
            have hV2 : Vw E (x + 1) (jW (jW J (x + 1 + 1 + 6 + 1) (4 * (8 * z1 + z2) + z3).toNat z4) (x + 1 + 1 + 6 + 2) (4 * (8 * z1 + z2) + z3).toNat z5) (zU (zU S (250 + (4 * (8 * z1 + z2) + z3)) z4) (570 + (4 * (8 * z1 + z2) + z3)) z5) := vwS hV1 sp hi1.1 (by omega) (by omega) (vW_nor hV1.1 (by omega) (by omega))
            have hi2 : Inv (zU (zU S (250 + (4 * (8 * z1 + z2) + z3)) z4) (570 + (4 * (8 * z1 + z2) + z3)) z5) := inv_free hi1 (by unfold zFree; omega) (ir_at hi1.1 (r := (570, 320, -2, 2)) (by decide) (by omega) (by dsimp only; omega) h5)
            exact ⟨0, _, _, _, rfl, rfl, hV2, rW (rW hR (by omega)) (by omega), hi2, FrC.cw (FrC.cw FrC.r (by omega)) (by omega), FrM.mw (FrM.mw FrM.r (by omega)) (by omega)⟩
          · have h6' : ¬ z6 = 0 := by omega
            rw [if_neg h6', if_neg h6', if_neg h6']
            simp (disch := omega) only [wr_id, zS, Option.bind_some]
            have hV1 : Vw E (x + 1) (jW J (x + 1 + 1 + 9 + 1) (4 * (8 * z1 + z2) + z3).toNat z4) (zU S (890 + (4 * (8 * z1 + z2) + z3)) z4) := vwS hV sp hi.1 (by omega) (by omega) (vW_mea hV.1 (by omega) (by omega))
            have hi1 : Inv (zU S (890 + (4 * (8 * z1 + z2) + z3)) z4) := inv_free hi (by unfold zFree; omega) (ir_at hi.1 (r := (890, 320, -2, 2)) (by decide) (by omega) (by dsimp only; omega) h4)
            have hV2 : Vw E (x + 1) (jW (jW J (x + 1 + 1 + 9 + 1) (4 * (8 * z1 + z2) + z3).toNat z4) (x + 1 + 1 + 9 + 2) (4 * (8 * z1 + z2) + z3).toNat z5) (zU (zU S (890 + (4 * (8 * z1 + z2) + z3)) z4) (1210 + (4 * (8 * z1 + z2) + z3)) z5) := vwS hV1 sp hi1.1 (by omega) (by omega) (vW_mno hV1.1 (by omega) (by omega))
            have hi2 : Inv (zU (zU S (890 + (4 * (8 * z1 + z2) + z3)) z4) (1210 + (4 * (8 * z1 + z2) + z3)) z5) := inv_free hi1 (by unfold zFree; omega) (ir_at hi1.1 (r := (1210, 320, -2, 2)) (by decide) (by omega) (by dsimp only; omega) h5)
            exact ⟨0, _, _, _, rfl, rfl, hV2, rW (rW hR (by omega)) (by omega), hi2, FrC.cw (FrC.cw FrC.r (by omega)) (by omega), FrM.mw (FrM.mw FrM.r (by omega)) (by omega)⟩
        · rw [if_neg h5, if_neg h5]; exact bi_no hV hi hR rfl rfl
      · rw [if_neg h4, if_neg h4]; exact bi_no hV hi hR rfl rfl
    · rw [if_neg h3, if_neg h3]; exact bi_no hV hi hR rfl rfl
  · rw [if_neg hc, if_neg hc]; exact bi_no hV hi hR rfl rfl
theorem c_changeAt {n : Nat} {z v : Int} {b : Nat} (hn : (E.1 b).2 = n) (h0 : 0 ≤ z) (h1 : z < n) : H_X11_changeAt E b z v J = some (if J b z.toNat = v then 0 else 1, jW J b z.toNat v) := by
  unfold H_X11_changeAt
  rw [hn, zL h0 h1, zS h0 h1]
  simp only [Option.bind_some]
  split <;> rfl
theorem b2 (wx : W11 E x) (sp : Sp E (x + 1)) (hV : Vw E (x + 1) J S) (hi : Inv S) (hR : Rf m Jr S) (z1 z2 z3 z4 : Int) : Bi E (x + 1) m S J Jr (H_X11_salt E x z1 z2 z3 z4 J) (H_X12_salt m z1 z2 z3 z4 Jr) := by
  unfold H_X11_salt H_X12_salt
  have w7 := wx.2.1.2.2.1.2
  have k4 : (E.1 (x + 1 + 1 + 4)).2 = 320 := by rw [w7.2.2.2.2.1.2]
  have k5 : (E.1 (x + 1 + 1 + 5)).2 = 320 := by rw [w7.2.2.2.2.2.1.2]
  rw [z_isCell, z_rIsCell, z_isLayer, isq, isq]
  simp only [Option.bind_some, z01]
  by_cases hc : 0 ≤ z1 ∧ z1 < 10 ∧ 0 ≤ z2 ∧ z2 < 8
  · rw [if_pos hc, if_pos hc]
    by_cases h3 : 0 ≤ z3 ∧ z3 ≤ 3
    · rw [if_pos h3, if_pos h3]
      by_cases h4 : 0 ≤ z4 ∧ z4 ≤ 1001
      · rw [if_neg (by omega), if_pos (by omega), if_pos h4]
        have e8 : wr (8 * z1) = 8 * z1 := wr_id (by omega)
        have e9 : wr (8 * z1 + z2) = 8 * z1 + z2 := wr_id (by omega)
        have e10 : wr (4 * (8 * z1 + z2)) = 4 * (8 * z1 + z2) := wr_id (by omega)
        rw [e8, e9, e10, z_cellOf (by omega), Option.bind_some, z_placeOf (by omega), Option.bind_some]
        simp only [nv]
        by_cases h5 : 999 < z4
        · have h6 : 1000 ≤ z4 := by omega
          rw [if_pos h5, if_pos h6, if_pos h6]
          have e1 : wr (1001 - z4) = (if z4 = 1000 then 1 else 0) := by
            rw [wr_id (by omega)]
            split <;> omega
          have hv : (0 : Int) ≤ (if z4 = 1000 then 1 else 0) ∧ (if z4 = 1000 then (1 : Int) else 0) ≤ 1 := by split <;> omega
          rw [e1]
          generalize (if z4 = 1000 then (1 : Int) else 0) = v at hv ⊢
          have e2 : wr (wr (1850 + 4 * (8 * z1 + z2)) + z3) = 1850 + (4 * (8 * z1 + z2) + z3) := by rw [wr_id (z := 1850 + 4 * (8 * z1 + z2)) (by omega), wr_id (by omega)]; omega
          rw [e2, c_changeAt k5 (by omega) (by omega), rL hR (by omega) (by omega), zS (by omega) (by omega), v_net hV.1 (by omega) (by omega)]
          simp only [Option.bind_some]
          have hV1 : Vw E (x + 1) (jW J (x + 1 + 1 + 5) (4 * (8 * z1 + z2) + z3).toNat v) (zU S (1850 + (4 * (8 * z1 + z2) + z3)) v) := vwS hV sp hi.1 (by omega) (by omega) (vW_net hV.1 (by omega) (by omega))
          have hi1 : Inv (zU S (1850 + (4 * (8 * z1 + z2) + z3)) v) := inv_free hi (by unfold zFree; omega) (ir_no2 hi.1 (lo := 1850) (hi := 2170) (by omega) (by decide +kernel))
          refine ⟨_, _, _, _, rfl, ?_, hV1, rW hR (by omega), hi1, FrC.cw FrC.r (by omega), FrM.mw FrM.r (by omega)⟩
          split <;> rfl
        · have h6 : ¬ 1000 ≤ z4 := by omega
          rw [if_neg h5, if_neg h6, if_neg h6]
          have e2 : wr (wr (1530 + 4 * (8 * z1 + z2)) + z3) = 1530 + (4 * (8 * z1 + z2) + z3) := by rw [wr_id (z := 1530 + 4 * (8 * z1 + z2)) (by omega), wr_id (by omega)]; omega
          rw [e2, c_changeAt k4 (by omega) (by omega), rL hR (by omega) (by omega), zS (by omega) (by omega), v_sal hV.1 (by omega) (by omega)]
          simp only [Option.bind_some]
          have hV1 : Vw E (x + 1) (jW J (x + 1 + 1 + 4) (4 * (8 * z1 + z2) + z3).toNat z4) (zU S (1530 + (4 * (8 * z1 + z2) + z3)) z4) := vwS hV sp hi.1 (by omega) (by omega) (vW_sal hV.1 (by omega) (by omega))
          have hi1 : Inv (zU S (1530 + (4 * (8 * z1 + z2) + z3)) z4) := inv_free hi (by unfold zFree; omega) (ir_at hi.1 (r := (1530, 320, 0, 999)) (by decide) (by omega) (by dsimp only; omega) (by dsimp only; omega))
          refine ⟨_, _, _, _, rfl, ?_, hV1, rW hR (by omega), hi1, FrC.cw FrC.r (by omega), FrM.mw FrM.r (by omega)⟩
          split <;> rfl
      · rw [if_neg h4]
        by_cases h5 : z4 < 0
        · rw [if_pos h5]; exact bi_no hV hi hR rfl rfl
        · rw [if_neg h5, if_neg (by omega)]; exact bi_no hV hi hR rfl rfl
    · rw [if_neg h3, if_neg h3]; exact bi_no hV hi hR rfl rfl
  · rw [if_neg hc, if_neg hc]; exact bi_no hV hi hR rfl rfl
theorem b13 (wx : W11 E x) (sp : Sp E (x + 1)) (hV : Vw E (x + 1) J S) (hi : Inv S) (hR : Rf m Jr S) (z1 z2 : Int) : Bi E (x + 1) m S J Jr (H_X11_deaf E x z1 z2 J) (H_X12_deaf m z1 z2 Jr) := by
  unfold H_X11_deaf H_X12_deaf
  have k : (E.1 (x + 1 + 14)).2 = 401 := by rw [wx.2.1.2.2.2.2.1.2]
  rw [isq]
  simp only [Option.bind_some, z01]
  by_cases h1 : 0 ≤ z1 ∧ z1 ≤ 400
  · rw [if_neg (by omega), if_pos (by omega), if_pos h1]
    simp only [nv]
    have hv : (0 : Int) ≤ (if z2 = 0 then 0 else 1) ∧ (if z2 = 0 then (0 : Int) else 1) ≤ 1 := by split <;> omega
    generalize (if z2 = 0 then (0 : Int) else 1) = v at hv ⊢
    rw [wr_id (by omega), c_changeAt k (by omega) (by omega), rL hR (by omega) (by omega), zS (by omega) (by omega), v_dea hV.1 (by omega) (by omega)]
    simp only [Option.bind_some]
    rw [zL (by omega) (by omega), jW_at]
    simp only [Option.bind_some]
    have hV1 : Vw E (x + 1) (jW J (x + 1 + 14) z1.toNat v) (zU S (3950 + z1) v) := vwS hV sp hi.1 (by omega) (by omega) (vW_dea hV.1 (by omega) (by omega))
    have hi1 : Inv (zU S (3950 + z1) v) := inv_free hi (by unfold zFree; omega) (ir_at hi.1 (r := (3950, 401, 0, 1)) (by decide) (by omega) (by dsimp only; omega) hv)
    refine ⟨_, _, _, _, rfl, ?_, hV1, rW hR (by omega), hi1, FrC.cw FrC.r (by omega), FrM.mw FrM.r (by omega)⟩
    split <;> rfl
  · rw [if_neg h1]
    by_cases h5 : z1 < 0
    · rw [if_pos h5]; exact bi_no hV hi hR rfl rfl
    · rw [if_neg h5, if_neg (by omega)]; exact bi_no hV hi hR rfl rfl
theorem b24 (sp : Sp E (x + 1)) (hV : Vw E (x + 1) J S) (hi : Inv S) (hR : Rf m Jr S) (z1 z2 : Int) : Bi E (x + 1) m S J Jr (H_X11_ship x z1 z2 J) (H_X12_ship m z1 z2 Jr) := by
  unfold H_X11_ship H_X12_ship H_X12_isWater
  rw [z_isCell, z_rIsCell]
  simp only [Option.bind_some, z01]
  by_cases hc : 0 ≤ z1 ∧ z1 < 10 ∧ 0 ≤ z2 ∧ z2 < 8
  · have hd := i_dep hi (z := 8 * z1 + z2) (by omega) (by omega)
    have e8 : wr (8 * z1) = 8 * z1 := wr_id (by omega)
    have e9 : wr (8 * z1 + z2) = 8 * z1 + z2 := wr_id (by omega)
    have e10 : wr (wr (10 + 8 * z1) + z2) = 10 + (8 * z1 + z2) := by rw [wr_id (z := 10 + 8 * z1) (by omega), wr_id (by omega)]; omega
    rw [if_pos hc, if_pos hc, if_pos hc, z_cellOf (by omega), e8, e9, e10, rL hR (by omega) (by omega)]
    simp only [Option.bind_some]
    rw [vL_dep hV.1 (by omega) (by omega)]
    simp only [Option.bind_some, nv]
    by_cases h0 : S (10 + (8 * z1 + z2)) = 0
    · rw [if_pos h0, if_pos (by omega)]; exact bi_no hV hi hR rfl rfl
    · rw [if_neg h0, if_neg (by omega), v_shi hV.1]
      simp only [Option.bind_some]
      rw [if_neg (by decide), rL hR (by omega) (by omega), zS (by omega) (by omega)]
      simp only [Option.bind_some]
      have hV1 : Vw E (x + 1) (jW J (x + 1) 4 (8 * z1 + z2)) (zU S 6 (8 * z1 + z2)) := vwS hV sp hi.1 (by omega) (by omega) (vW_shi hV.1)
      have hi1 : Inv (zU S 6 (8 * z1 + z2)) := inv_free hi (by unfold zFree; omega) (ir_at hi.1 (r := (6, 1, 0, 79)) (z := 0) (by decide) (by omega) (by dsimp only; omega) (by dsimp only; omega))
      exact ⟨_, _, _, _, rfl, rfl, hV1, rW hR (by omega), hi1, FrC.cw FrC.r (by omega), FrM.mw FrM.r (by omega)⟩
  · rw [if_neg hc, if_neg hc]; exact bi_no hV hi hR rfl rfl
end SET
