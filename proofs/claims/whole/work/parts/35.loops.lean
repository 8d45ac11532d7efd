/-! CLEAN -/
section CLE
variable {E : Em} {x w m a : Nat} {J Jr : Jm} {S : Int → Int} {g v : Int}
theorem b17 (sp : Sp E (x + 1)) (hV : Vw E (x + 1) J S) (hi : Inv S) (hR : Rf m Jr S) (z1 z2 : Int) : Bi E (x + 1) m S J Jr (H_X11_clean E x z1 z2 J) (H_X12_clean m z1 z2 Jr) := by
  unfold H_X11_clean H_X12_clean
  have h8 := i_gli hi
  have hc := i_cle hi
  have hrr := i_rea hi
  rw [r_isG hR hi, Option.bind_some, z01, isq, Option.bind_some, z01]
  by_cases hg : 0 ≤ z1 ∧ z1 < S 0
  · obtain ⟨a, ea, ha, hG⟩ := gA_in hV hi hg
    have hwa := sp.1 _ _ ha
    rw [ea, Option.bind_some, if_pos hg]
    simp only [oe]
    rw [v_cle hV.1]
    by_cases h2 : -2000 ≤ z2 ∧ z2 ≤ 2000
    · rw [if_neg (by omega), if_pos (by omega), if_pos h2, rL hR (z := 5) (by omega) (by omega), Option.bind_some]
      by_cases h3 : S 5 < 60
      · rw [if_pos h3, if_neg (by omega)]
        unfold H_X6_addCleaning
        have a1 := v_cle hV.1
        have a2 := v_rea hV.1
        have a3 := g_fou hG
        have hf := i_fou hi (z := z1) hg.1 (by omega)
        simp (disch := omega) only [nv, jW_ne, a1, a2, a3, zS, Option.bind_some, wr_id]
        have r1 := rW (v := z1) hR (z := 3470 + S 5) (by omega)
        have r2 := rW (v := z2) r1 (z := 3530 + S 5) (by omega)
        have r3 := rW (v := S (2218 + z1)) r2 (z := 3590 + S 5) (by omega)
        have r4 := rW (v := S 2) r3 (z := 3650 + S 5) (by omega)
        have r5 := rW (v := 0) r4 (z := 2218 + z1) (by omega)
        have r6 := rW (v := S 5 + 1) r5 (z := 5) (by omega)
        have i1 := ir_no2 (v := z1) (z := 3470 + S 5) hi.1 (lo := 3470) (hi := 3530) (by omega) (by decide +kernel)
        have i2 := ir_no2 (v := z2) (z := 3530 + S 5) i1 (lo := 3530) (hi := 3590) (by omega) (by decide +kernel)
        have i3 := ir_no2 (v := S (2218 + z1)) (z := 3590 + S 5) i2 (lo := 3590) (hi := 3650) (by omega) (by decide +kernel)
        have i4 := ir_no2 (v := S 2) (z := 3650 + S 5) i3 (lo := 3650) (hi := 3710) (by omega) (by decide +kernel)
        have i5 := ir_at i4 (v := 0) (z := z1) (r := (2218, 8, 0, 999)) (by decide) (by omega) (by dsimp only; omega) (by dsimp only; omega)
        have i6 := ir_at i5 (v := S 5 + 1) (r := (5, 1, 0, 60)) (z := 0) (by decide) (by omega) (by dsimp only; omega) (by dsimp only; omega)
        dsimp only at i5 i6
        have v1 := vwS hV sp hi.1 (by omega) (by omega) (vW_cof (z := S 5) (v := z1) hV.1 (by omega) (by omega))
        have v2 := vwS v1 sp i1 (by omega) (by omega) (vW_ctm (z := S 5) (v := z2) v1.1 (by omega) (by omega))
        have v3 := vwS v2 sp i2 (by omega) (by omega) (vW_cfo (z := S 5) (v := S (2218 + z1)) v2.1 (by omega) (by omega))
        have v4 := vwS v3 sp i3 (by omega) (by omega) (vW_cat (z := S 5) (v := S 2) v3.1 (by omega) (by omega))
        have v5 := vwS v4 sp i4 (by omega) (by omega) (vW_cle (v := S 5 + 1) v4.1)
        have i5' := ir_at i4 (v := S 5 + 1) (r := (5, 1, 0, 60)) (z := 0) (by decide) (by omega) (by dsimp only; omega) (by dsimp only; omega)
        have S0 : (zU (zU (zU (zU (zU S (3470 + S 5) z1) (3530 + S 5) z2) (3590 + S 5) (S (2218 + z1))) (3650 + S 5) (S 2)) 5 (S 5 + 1)) 0 = S 0 := by simp (disch := omega) only [zU_ne]
        obtain ⟨a', ha', hG'⟩ := v5.2.1 z1 hg.1 (by rw [S0]; exact hg.2)
        have eaa : a' = a := Option.some.inj (ha'.symm.trans ha)
        subst eaa
        have v6 := vwG v5 sp i5' (by rw [S0]; exact hg) ha' (J2 := jW _ a' 5 0) (fun c h1 _ => jW_ne h1) (gpl (v := 0) 2218 (by omega)) (gW_fou (by omega) hG')
        have eS : zU (zU (zU (zU (zU (zU S (3470 + S 5) z1) (3530 + S 5) z2) (3590 + S 5) (S (2218 + z1))) (3650 + S 5) (S 2)) 5 (S 5 + 1)) (2218 + z1) 0 = zU (zU (zU (zU (zU (zU S (3470 + S 5) z1) (3530 + S 5) z2) (3590 + S 5) (S (2218 + z1))) (3650 + S 5) (S 2)) (2218 + z1) 0) 5 (S 5 + 1) := by
          funext i
          by_cases e1 : i = 5
          · rw [zU_ne (by omega), zU_eq e1, zU_eq e1]
          · by_cases e2 : i = 2218 + z1
            · rw [zU_eq e2, zU_ne e1, zU_eq e2]
            · rw [zU_ne e2, zU_ne e1, zU_ne e1, zU_ne e2]
        rw [eS] at v6
        rw [rL r2 (by omega) (by omega)]
        simp (disch := omega) only [nv, zU_ne, zS, Option.bind_some, wr_id]
        rw [rL r3 (by omega) (by omega)]
        simp (disch := omega) only [nv, zU_ne, zS, Option.bind_some, wr_id]
        rw [rL r5 (by omega) (by omega)]
        simp (disch := omega) only [nv, zU_ne, zS, Option.bind_some, wr_id]
        rw [rL r6 (by omega) (by omega), zU_at, jW_at]
        refine ⟨_, _, _, _, rfl, rfl, v6, r6, inv_clean hi hg h3 i6 (fun z q1 q2 q3 q4 q5 q6 => by rw [zU_ne q6, zU_ne q5, zU_ne q4, zU_ne q3, zU_ne q2, zU_ne q1]) ?_ ?_ ?_ ?_ zU_at, FrC.cg (FrC.cw (FrC.cw (FrC.cw (FrC.cw (FrC.cw FrC.r (by omega)) (by omega)) (by omega)) (by omega)) (by omega)) ha (Or.inl rfl), FrM.mw (FrM.mw (FrM.mw (FrM.mw (FrM.mw (FrM.mw FrM.r (by omega)) (by omega)) (by omega)) (by omega)) (by omega)) (by omega)⟩
        · simp (disch := omega) only [zU_ne, zU_at]
        · simp (disch := omega) only [zU_ne, zU_at]
        · simp (disch := omega) only [zU_ne, zU_at]
        · simp (disch := omega) only [zU_ne, zU_at]
      · rw [if_neg h3, if_pos (by omega)]; exact bi_no hV hi hR rfl rfl
    · rw [if_neg h2]
      by_cases h4 : z2 < -2000
      · rw [if_pos h4]; exact bi_no hV hi hR rfl rfl
      · rw [if_neg h4, if_neg (by omega)]; exact bi_no hV hi hR rfl rfl
  · rw [gA_no hV hg, if_neg hg]
    exact bi_no hV hi hR rfl rfl
end CLE
/-! LOOPS THAT ONLY LOOK -/
section LOOPS
variable {E : Em} {x w m a : Nat} {J Jr : Jm} {S : Int → Int} {g v : Int}
theorem nx {n : Nat} {c : Nat} (h : c < n) : ∃ k, n = k + 1 := ⟨n - 1, by omega⟩
theorem l12 (hV : Vw E w J S) (hi : Inv S) (hR : Rf m Jr S) (g : Int) : ∀ (c n n2 : Nat) (i r : Int), S 3 = i + c → 0 ≤ i → 0 ≤ r ∧ r ≤ i → c < n → c < n2 → ∃ q, H_X1_unheardBy_L4 (w + 16) g J n r i = some q ∧ H_X12_waiting_L14 m g Jr n2 r i = some q := by
  have hl := i_let hi
  intro c
  induction c with
  | zero =>
    intro n n2 i r h1 h2 hr h3 h4
    obtain ⟨n, rfl⟩ := nx h3
    obtain ⟨n2, rfl⟩ := nx h4
    rw [H_X1_unheardBy_L4, H_X12_waiting_L14, v_let hV.1, rL hR (by omega) (by omega), Option.bind_some, if_pos (by omega), if_pos (by omega)]
    exact ⟨_, rfl, rfl⟩
  | succ c ih =>
    intro n n2 i r h1 h2 hr h3 h4
    obtain ⟨n, rfl⟩ := nx h3
    obtain ⟨n2, rfl⟩ := nx h4
    rw [H_X1_unheardBy_L4, H_X12_waiting_L14, v_let hV.1, rL hR (by omega) (by omega), Option.bind_some, if_neg (by omega), if_neg (by omega)]
    simp (disch := omega) only [wr_id, vL_lto hV.1, vL_lhe hV.1, rL hR, Option.bind_some, nv]
    by_cases e : S (3710 + i) = g
    · rw [if_pos e, if_pos e]
      by_cases e2 : S (3890 + i) = 0
      · rw [if_pos e2, if_pos e2]
        exact ih n n2 (i + 1) (r + 1) (by omega) (by omega) (by omega) (by omega) (by omega)
      · rw [if_neg e2, if_neg e2, Int.add_zero]
        exact ih n n2 (i + 1) r (by omega) (by omega) (by omega) (by omega) (by omega)
    · rw [if_neg e, if_neg e]
      simp only [Int.add_zero]
      first | exact ih n n2 (i + 1) r (by omega) (by omega) (by omega) (by omega) (by omega) | (rw [wr_id (by omega)]; exact ih n n2 (i + 1) r (by omega) (by omega) (by omega) (by omega) (by omega))
theorem q12 (hV : Vw E (x + 1) J S) (hi : Inv S) (hR : Rf m Jr S) (z1 : Int) : ∃ r, H_X11_waiting E x z1 J = some r ∧ H_X12_waiting m z1 Jr = some r := by
  unfold H_X11_waiting H_X12_waiting
  have hl := i_let hi
  rw [r_isG hR hi, Option.bind_some, z01]
  by_cases hg : 0 ≤ z1 ∧ z1 < S 0
  · obtain ⟨a, ea, ha, hG⟩ := gA_in hV hi hg
    rw [ea, Option.bind_some, if_pos hg]
    simp only [oe]
    unfold H_X1_unheardBy
    obtain ⟨q, h1, h2⟩ := l12 hV hi hR z1 (S 3).toNat 1000000 1000000 0 0 (by omega) (by omega) (by omega) (by omega) (by omega)
    rw [h1, h2]
    exact ⟨_, rfl, rfl⟩
  · rw [gA_no hV hg, if_neg hg]
    exact ⟨_, rfl, rfl⟩
theorem l16 (hi : Inv S) (hR : Rf m Jr S) (hG : Gv J a g S) (hg : 0 ≤ g ∧ g < 8) : ∀ (c n n2 : Nat) (t : Int), t = (c : Int) - 1 → t < 400 → c < n → c < n2 → ∃ q, H_X0_fixBy_L8 a J n t = some q ∧ H_X12_known_L24 m g Jr n2 t = some q := by
  intro c
  induction c with
  | zero =>
    intro n n2 t h1 h2 h3 h4
    obtain ⟨n, rfl⟩ := nx h3
    obtain ⟨n2, rfl⟩ := nx h4
    rw [H_X0_fixBy_L8, H_X12_known_L24, if_pos (by omega), if_pos (by omega)]
    exact ⟨_, rfl, rfl⟩
  | succ c ih =>
    intro n n2 t h1 h2 h3 h4
    obtain ⟨n, rfl⟩ := nx h3
    obtain ⟨n2, rfl⟩ := nx h4
    have hf := g_fix hG (t := t) (by omega) (by omega)
    have e1 : wr (wr (4351 + wr (401 * g)) + t) = 4351 + (401 * g + t) := by rw [wr_id (z := 401 * g) (by omega), wr_id (z := 4351 + 401 * g) (by omega), wr_id (by omega)]; omega
    rw [H_X0_fixBy_L8, H_X12_known_L24, if_neg (by omega), if_neg (by omega), e1, rL hR (by omega) (by omega), zL (by omega) (by omega), wr_id (by omega)]
    simp only [Option.bind_some]
    rcases hf with ⟨f1, f2⟩ | ⟨f1, f2⟩
    · rw [if_pos f1, if_pos (by omega)]
      exact ih n n2 (t + -1) (by omega) (by omega) (by omega) (by omega)
    · rw [if_neg (by omega), if_neg (by omega), f2]
      exact ⟨_, rfl, rfl⟩
theorem q16 (hV : Vw E (x + 1) J S) (hi : Inv S) (hR : Rf m Jr S) (z1 z2 : Int) : ∃ r, H_X11_known E x z1 z2 J = some r ∧ H_X12_known m z1 z2 Jr = some r := by
  unfold H_X11_known H_X12_known
  have h8 := i_gli hi
  rw [r_isG hR hi, Option.bind_some, z01, isq, Option.bind_some, z01]
  by_cases hg : 0 ≤ z1 ∧ z1 < S 0
  · obtain ⟨a, ea, ha, hG⟩ := gA_in hV hi hg
    rw [ea, Option.bind_some, if_pos hg]
    simp only [oe]
    by_cases h2 : 0 ≤ z2 ∧ z2 ≤ 400
    · rw [if_neg (by omega), if_pos (by omega), if_pos h2]
      unfold H_X0_fixBy mnZ
      by_cases h4 : 399 < z2
      · have e2 : z2 = 400 := by omega
        subst e2
        rw [if_pos (by decide)]
        have e1 : wr (wr (4351 + wr (401 * z1)) + 400) = 4351 + (401 * z1 + 400) := by rw [wr_id (z := 401 * z1) (by omega), wr_id (z := 4351 + 401 * z1) (by omega), wr_id (by omega)]; omega
        obtain ⟨q, k1, k2⟩ := l16 hi hR hG (by omega) 400 1000000 999999 399 (by omega) (by omega) (by omega) (by omega)
        rw [k1, show (1000000 : Nat) = 999999 + 1 from rfl, H_X12_known_L24, if_neg (show ¬ (400 : Int) < 0 by decide), e1, rL hR (by omega) (by omega)]
        simp only [Option.bind_some]
        rw [hi.2.2.2.2.2.2.2.1 z1 (by omega) (by omega), if_pos (show (-1 : Int) < 0 by decide), wr_id (by omega)]
        exact ⟨_, rfl, k2⟩
      · rw [if_neg h4]
        obtain ⟨q, k1, k2⟩ := l16 hi hR hG (by omega) (z2 + 1).toNat 1000000 1000000 z2 (by omega) (by omega) (by omega) (by omega)
        rw [k1, k2]
        exact ⟨_, rfl, rfl⟩
    · rw [if_neg h2]
      by_cases h4 : z2 < 0
      · rw [if_pos h4]; exact ⟨_, rfl, rfl⟩
      · rw [if_neg h4, if_neg (by omega)]; exact ⟨_, rfl, rfl⟩
  · rw [gA_no hV hg, if_neg hg]
    exact ⟨_, rfl, rfl⟩
end LOOPS
