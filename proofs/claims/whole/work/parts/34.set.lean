/-! LEAK, LETTER, FETCH, CLEAN -/
section SETG
variable {E : Em} {x w m a : Nat} {J Jr : Jm} {S : Int → Int} {g v : Int}
theorem gpl (b : Int) (hb : 2170 ≤ b + g ∧ b + g < 2258 ∧ (b + g - 2170) % 8 = g) : ∀ z : Int, ¬ gPl g z → zU S (b + g) v z = S z := fun z hz => zU_ne (fun e => hz (Or.inl (by subst e; exact hb)))
theorem b7 (sp : Sp E (x + 1)) (hV : Vw E (x + 1) J S) (hi : Inv S) (hR : Rf m Jr S) (z1 z2 : Int) (h2 : z2 = 0 ∨ z2 = 1) : Bi E (x + 1) m S J Jr (H_X11_leak E x z1 z2 J) (H_X12_leak m z1 z2 Jr) := by
  unfold H_X11_leak H_X12_leak
  have h8 := i_gli hi
  rw [r_isG hR hi, Option.bind_some, z01]
  by_cases hg : 0 ≤ z1 ∧ z1 < S 0
  · obtain ⟨a, ea, ha, hG⟩ := gA_in hV hi hg
    have ez : (if z2 = 0 then (0 : Int) else 1) = z2 := by split <;> omega
    rw [ea, Option.bind_some, if_pos hg]
    simp only [oe, nv]
    rw [zZ h2, Option.bind_some, g_lea hG, ez, wr_id (by omega), rL hR (by omega) (by omega), Option.bind_some, zS (by omega) (by omega), Option.bind_some, zL (by omega) (by omega), jW_at, Option.bind_some]
    have hV1 : Vw E (x + 1) (jW J a 4 z2) (zU S (2210 + z1) z2) := vwG hV sp hi.1 hg ha (fun c h1 _ => jW_ne h1) (gpl 2210 (by omega)) (gW_lea (by omega) hG)
    have hi1 : Inv (zU S (2210 + z1) z2) := inv_free hi (by unfold zFree; omega) (ir_at hi.1 (r := (2210, 8, 0, 1)) (by decide) (by omega) (by dsimp only; omega) (by dsimp only; omega))
    by_cases h : S (2210 + z1) = z2
    · rw [if_pos h, if_pos h]
      exact ⟨_, _, _, _, rfl, rfl, hV1, rW hR (by omega), hi1, FrC.cg FrC.r ha (Or.inl rfl), FrM.mw FrM.r (by omega)⟩
    · rw [if_neg h, if_neg h]
      exact ⟨_, _, _, _, rfl, rfl, hV1, rW hR (by omega), hi1, FrC.cg FrC.r ha (Or.inl rfl), FrM.mw FrM.r (by omega)⟩
  · rw [gA_no hV hg, if_neg hg]
    exact bi_no hV hi hR rfl rfl
theorem c_steps {c s : Int} (hc : 0 ≤ c ∧ c < 80) (hs : 0 ≤ s ∧ s < 80) : H_X11_stepsBetween c s = some ((if 0 ≤ c / 8 - s / 8 then c / 8 - s / 8 else -(c / 8 - s / 8)) + (if 0 ≤ c % 8 - s % 8 then c % 8 - s % 8 else -(c % 8 - s % 8))) := by
  unfold H_X11_stepsBetween
  rw [z_xOf (by omega), z_xOf (by omega), z_yOf (by omega), z_yOf (by omega)]
  simp only [Option.bind_some]
  rw [wr_id (z := c / 8 - s / 8) (by omega), wr_id (z := c % 8 - s % 8) (by omega), z_abs (by omega), z_abs (by omega)]
  exact congrArg some (wr_id (by split <;> split <;> omega))
def offS (S : Int → Int) (g : Int) : Int := (if 0 ≤ S (2178 + g) - S 6 / 8 then S (2178 + g) - S 6 / 8 else -(S (2178 + g) - S 6 / 8)) + (if 0 ≤ S (2186 + g) - S 6 % 8 then S (2186 + g) - S 6 % 8 else -(S (2186 + g) - S 6 % 8))
theorem c_off (hi : Inv S) (hg : 0 ≤ g ∧ g < 8) (hs : Vs (x + 1) J S) (hG : Gv J a g S) : H_X11_stepsBetween (J a 1) (J (x + 1) 4) = some (offS S g) := by
  have hx := i_x hi (z := g) hg.1 hg.2
  have hy := i_y hi (z := g) hg.1 hg.2
  have hh := i_shi hi
  have e1 : (8 * S (2178 + g) + S (2186 + g)) / 8 = S (2178 + g) := by omega
  have e2 : (8 * S (2178 + g) + S (2186 + g)) % 8 = S (2186 + g) := by omega
  rw [g_cell hG, v_shi hs, c_steps (by omega) (by omega), e1, e2]
  rfl
theorem r_off (hR : Rf m Jr S) (hi : Inv S) (hg : 0 ≤ g ∧ g < 8) : H_X12_offShip m g Jr = some (offS S g) := by
  have hx := i_x hi (z := g) hg.1 hg.2
  have hy := i_y hi (z := g) hg.1 hg.2
  have hh := i_shi hi
  unfold H_X12_offShip
  rw [wr_id (z := 2178 + g) (by omega), wr_id (z := 2186 + g) (by omega), rL hR (by omega) (by omega), rL hR (by omega) (by omega), rL hR (by omega) (by omega)]
  simp only [Option.bind_some]
  rw [zD (by omega) (by omega) (by omega), zM (by omega) (by omega)]
  simp only [Option.bind_some]
  rw [wr_id (z := S (2178 + g) - S 6 / 8) (by omega), wr_id (z := S (2186 + g) - S 6 % 8) (by omega), r_abs (by omega), r_abs (by omega)]
  simp only [Option.bind_some]
  exact congrArg some (wr_id (by split <;> split <;> omega))
theorem b27 (sp : Sp E (x + 1)) (hV : Vw E (x + 1) J S) (hi : Inv S) (hR : Rf m Jr S) (z1 : Int) : Bi E (x + 1) m S J Jr (H_X11_fetch E x z1 J) (H_X12_fetch m z1 Jr) := by
  unfold H_X11_fetch H_X12_fetch
  have h8 := i_gli hi
  rw [r_isG hR hi, Option.bind_some, z01]
  by_cases hg : 0 ≤ z1 ∧ z1 < S 0
  · obtain ⟨a, ea, ha, hG⟩ := gA_in hV hi hg
    rw [ea, Option.bind_some, if_pos hg, r_isUp hR (by omega), Option.bind_some, z01]
    simp only [oe, nv]
    rw [c_off hi (by omega) hV.1 hG, Option.bind_some, g_sta hG, r_off hR hi (by omega), Option.bind_some]
    by_cases hu : S (2202 + z1) = 0
    · rw [if_pos hu, if_pos hu]
      by_cases h3 : offS S z1 ≤ 3
      · have hR1 : Rf m (jW Jr (m + 1) (2202 + z1).toNat 1) (zU S (2202 + z1) 1) := rW hR (by omega)
        have hi1 : Inv (zU S (2202 + z1) 1) := inv_sta hi hg (by decide) (ir_at hi.1 (r := (2202, 8, 0, 2)) (by decide) (by omega) (by dsimp only; omega) (by dsimp only; omega))
        have hV1 : Vw E (x + 1) (jW J a 3 1) (zU S (2202 + z1) 1) := vwG hV sp hi.1 hg ha (fun c h1 _ => jW_ne h1) (gpl 2202 (by omega)) (gW_sta (by omega) hG)
        have eo : offS (zU S (2202 + z1) 1) z1 = offS S z1 := by
          unfold offS
          rw [zU_ne (by omega), zU_ne (by omega), zU_ne (by omega)]
        rw [if_pos h3, if_pos h3, wr_id (by omega), zS (by omega) (by omega), Option.bind_some, r_off hR1 hi1 (by omega), Option.bind_some, eo]
        exact ⟨_, _, _, _, rfl, rfl, hV1, hR1, hi1, FrC.cg FrC.r ha (Or.inl rfl), FrM.mw FrM.r (by omega)⟩
      · rw [if_neg h3, if_neg h3]; exact bi_no hV hi hR rfl rfl
    · rw [if_neg hu, if_neg hu]; exact bi_no hV hi hR rfl rfl
  · rw [gA_no hV hg, if_neg hg]
    exact bi_no hV hi hR rfl rfl
theorem b11 (sp : Sp E (x + 1)) (hV : Vw E (x + 1) J S) (hi : Inv S) (hR : Rf m Jr S) (z1 z2 : Int) : Bi E (x + 1) m S J Jr (H_X11_letter E x z1 z2 J) (H_X12_letter m z1 z2 Jr) := by
  unfold H_X11_letter H_X12_letter
  have h8 := i_gli hi
  have ho := i_orc hi
  have hl := i_let hi
  rw [r_isG hR hi, Option.bind_some, z01, rL hR (z := 4) (by omega) (by omega), Option.bind_some, isq, Option.bind_some, z01, wr_id (z := S 4 - 1) (by omega)]
  by_cases hg : 0 ≤ z1 ∧ z1 < S 0
  · obtain ⟨a, ea, ha, hG⟩ := gA_in hV hi hg
    rw [ea, Option.bind_some, if_pos hg]
    simp only [oe]
    rw [v_orc hV.1, v_let hV.1, v_tim hV.1]
    by_cases h2 : 0 ≤ z2 ∧ z2 < S 4
    · rw [if_neg (show ¬ z2 < 0 by omega), if_pos (show z2 < S 4 by omega), if_pos (show 0 ≤ z2 ∧ z2 ≤ S 4 - 1 by omega), rL hR (z := 3) (by omega) (by omega), Option.bind_some]
      by_cases h3 : S 3 < 60
      · rw [if_pos h3, if_neg (by omega)]
        unfold H_X1_send
        have a1 := v_let hV.1
        simp (disch := omega) only [nv, jW_ne, a1, zS, Option.bind_some, wr_id]
        have r1 := rW (v := z1) hR (z := 3710 + S 3) (by omega)
        have r2 := rW (v := z2) r1 (z := 3770 + S 3) (by omega)
        have r3 := rW (v := S 1) r2 (z := 3830 + S 3) (by omega)
        have r4 := rW (v := 0) r3 (z := 3890 + S 3) (by omega)
        have r5 := rW (v := S 3 + 1) r4 (z := 3) (by omega)
        have i1 : Inv (zU S (3710 + S 3) z1) := inv_free hi (by unfold zFree; omega) (ir_no2 hi.1 (lo := 3710) (hi := 3770) (by omega) (by decide +kernel))
        have i2 : Inv (zU (zU S (3710 + S 3) z1) (3770 + S 3) z2) := inv_lor i1 (by rw [zU_ne (by omega)]; omega) (ir_at i1.1 (r := (3770, 60, 0, 9)) (by decide) (by omega) (by dsimp only; omega) (by dsimp only; omega))
        have i3 : Inv (zU (zU (zU S (3710 + S 3) z1) (3770 + S 3) z2) (3830 + S 3) (S 1)) := inv_free i2 (by unfold zFree; omega) (ir_no2 i2.1 (lo := 3830) (hi := 3890) (by omega) (by decide +kernel))
        have i4 : Inv (zU (zU (zU (zU S (3710 + S 3) z1) (3770 + S 3) z2) (3830 + S 3) (S 1)) (3890 + S 3) 0) := inv_free i3 (by unfold zFree; omega) (ir_at i3.1 (r := (3890, 60, 0, 1)) (by decide) (by omega) (by dsimp only; omega) (by dsimp only; omega))
        have i5 : Inv (zU (zU (zU (zU (zU S (3710 + S 3) z1) (3770 + S 3) z2) (3830 + S 3) (S 1)) (3890 + S 3) 0) 3 (S 3 + 1)) := inv_let i4 (by simp (disch := omega) only [zU_ne]) (by simp (disch := omega) only [zU_ne, zU_at]; omega) (ir_at i4.1 (r := (3, 1, 0, 60)) (z := 0) (by decide) (by omega) (by dsimp only; omega) (by dsimp only; omega))
        have v1 := vwS hV sp hi.1 (by omega) (by omega) (vW_lto (z := S 3) (v := z1) hV.1 (by omega) (by omega))
        have v2 := vwS v1 sp i1.1 (by omega) (by omega) (vW_lor (z := S 3) (v := z2) v1.1 (by omega) (by omega))
        have v3 := vwS v2 sp i2.1 (by omega) (by omega) (vW_lse (z := S 3) (v := S 1) v2.1 (by omega) (by omega))
        have v4 := vwS v3 sp i3.1 (by omega) (by omega) (vW_lhe (z := S 3) (v := 0) v3.1 (by omega) (by omega))
        have v5 := vwS v4 sp i4.1 (by omega) (by omega) (vW_let (v := S 3 + 1) v4.1)
        rw [rL r2 (by omega) (by omega)]
        simp (disch := omega) only [nv, zU_ne, zS, Option.bind_some, wr_id]
        rw [rL r4 (by omega) (by omega)]
        simp (disch := omega) only [nv, zU_ne, zS, Option.bind_some, wr_id]
        rw [rL r5 (by omega) (by omega), zU_at, jW_at]
        exact ⟨_, _, _, _, rfl, rfl, v5, r5, i5, FrC.cw (FrC.cw (FrC.cw (FrC.cw (FrC.cw FrC.r (by omega)) (by omega)) (by omega)) (by omega)) (by omega), FrM.mw (FrM.mw (FrM.mw (FrM.mw (FrM.mw FrM.r (by omega)) (by omega)) (by omega)) (by omega)) (by omega)⟩
      · rw [if_neg h3, if_pos (by omega)]; exact bi_no hV hi hR rfl rfl
    · rw [if_neg (show ¬ (0 ≤ z2 ∧ z2 ≤ S 4 - 1) by omega)]
      by_cases h4 : z2 < 0
      · rw [if_pos h4]; exact bi_no hV hi hR rfl rfl
      · rw [if_neg h4, if_neg (by omega)]; exact bi_no hV hi hR rfl rfl
  · rw [gA_no hV hg, if_neg hg]
    exact bi_no hV hi hR rfl rfl
/-- the rows of a CLEANING, all at once -/
theorem inv_clean {S' : Int → Int} (hi : Inv S) (hg : 0 ≤ g ∧ g < S 0) (hk : S 5 < 60) (hr : IvR S')
    (s0 : ∀ z : Int, z ≠ 3470 + S 5 → z ≠ 3530 + S 5 → z ≠ 3590 + S 5 → z ≠ 3650 + S 5 → z ≠ 2218 + g → z ≠ 5 → S' z = S z)
    (s1 : S' (3470 + S 5) = g) (s3 : S' (3590 + S 5) = S (2218 + g)) (s4 : S' (3650 + S 5) = S 2) (s5 : S' (2218 + g) = 0) (s6 : S' 5 = S 5 + 1) : Inv S' := by
  have hg8 := i_gli hi
  have hc := i_cle hi
  have hrr := i_rea hi
  have hl := i_let hi
  refine ⟨hr, ?_, ?_, ?_, ?_, ?_, ?_, ?_, ?_⟩
  · intro g' g0 g1
    rw [s0 0 (by omega) (by omega) (by omega) (by omega) (by omega) (by omega)] at g1
    have hx := i_x hi (z := g') g0 (by omega)
    have hy := i_y hi (z := g') g0 (by omega)
    rw [s0 (2202 + g') (by omega) (by omega) (by omega) (by omega) (by omega) (by omega), s0 (2178 + g') (by omega) (by omega) (by omega) (by omega) (by omega) (by omega), s0 (2186 + g') (by omega) (by omega) (by omega) (by omega) (by omega) (by omega), s0 (10 + _) (by omega) (by omega) (by omega) (by omega) (by omega) (by omega)]
    exact hi.2.1 g' g0 g1
  · intro g' g0 g1
    have hp := i_pow hi (z := g') g0 g1
    have := hi.2.2.1 g' g0 g1
    rw [s0 (2194 + g') (by omega) (by omega) (by omega) (by omega) (by omega) (by omega)]
    by_cases e : g' = g
    · subst e; rw [s5]; omega
    · rw [s0 (2218 + g') (by omega) (by omega) (by omega) (by omega) (by omega) (by omega)]; exact this
  · intro g' g0 g1 g2
    rw [s0 0 (by omega) (by omega) (by omega) (by omega) (by omega) (by omega)] at g0
    obtain ⟨b1, b2, b3, b4, b5⟩ := hi.2.2.2.1 g' g0 g1 g2
    rw [s0 (2202 + g') (by omega) (by omega) (by omega) (by omega) (by omega) (by omega), s0 (2210 + g') (by omega) (by omega) (by omega) (by omega) (by omega) (by omega), s0 (2218 + g') (by omega) (by omega) (by omega) (by omega) (by omega) (by omega), s0 (2242 + g') (by omega) (by omega) (by omega) (by omega) (by omega) (by omega)]
    exact ⟨b1, b2, b3, b4, fun t' t0 t1 => by rw [s0 _ (by omega) (by omega) (by omega) (by omega) (by omega) (by omega)]; exact b5 t' t0 t1⟩
  · intro g' g0 g1
    rw [s0 0 (by omega) (by omega) (by omega) (by omega) (by omega) (by omega)] at g1
    rw [s0 (2226 + g') (by omega) (by omega) (by omega) (by omega) (by omega) (by omega), s0 4 (by omega) (by omega) (by omega) (by omega) (by omega) (by omega)]
    exact hi.2.2.2.2.1 g' g0 g1
  · intro g' g0 g1
    rw [s0 0 (by omega) (by omega) (by omega) (by omega) (by omega) (by omega)] at g1
    rw [s0 (2234 + g') (by omega) (by omega) (by omega) (by omega) (by omega) (by omega), s0 1 (by omega) (by omega) (by omega) (by omega) (by omega) (by omega)]
    exact hi.2.2.2.2.2.1 g' g0 g1
  · intro k k0 k1
    rw [s0 3 (by omega) (by omega) (by omega) (by omega) (by omega) (by omega)] at k1
    rw [s0 (3770 + k) (by omega) (by omega) (by omega) (by omega) (by omega) (by omega), s0 4 (by omega) (by omega) (by omega) (by omega) (by omega) (by omega)]
    exact hi.2.2.2.2.2.2.1 k k0 k1
  · intro g' g0 g1
    rw [s0 _ (by omega) (by omega) (by omega) (by omega) (by omega) (by omega)]
    exact hi.2.2.2.2.2.2.2.1 g' g0 g1
  · refine ⟨fun k k0 k1 => ?_, ?_⟩
    · rw [s6] at k1
      rw [s0 2 (by omega) (by omega) (by omega) (by omega) (by omega) (by omega)]
      by_cases e : k = S 5
      · rw [e, s4]; exact Int.le_refl _
      · rw [s0 (3650 + k) (by omega) (by omega) (by omega) (by omega) (by omega) (by omega)]
        exact hi.2.2.2.2.2.2.2.2.1 k k0 (by omega)
    intro r r0 r1
    rw [s0 2 (by omega) (by omega) (by omega) (by omega) (by omega) (by omega)] at r1
    obtain ⟨⟨a1, a2⟩, a3⟩ := hi.2.2.2.2.2.2.2.2.2 r r0 r1
    rw [s0 (2270 + r) (by omega) (by omega) (by omega) (by omega) (by omega) (by omega), s0 0 (by omega) (by omega) (by omega) (by omega) (by omega) (by omega), s6]
    refine ⟨⟨a1, a2⟩, fun k k0 k1 hk2 => ?_⟩
    have old : ∀ j : Int, 0 ≤ j → j < k → j < S 5 → ¬ (S (3470 + j) = S (2270 + r) ∧ r < S (3650 + j)) := by
      intro j j0 j1 j2
      have := hk2 j j0 j1
      rw [s0 (3470 + j) (by omega) (by omega) (by omega) (by omega) (by omega) (by omega), s0 (3650 + j) (by omega) (by omega) (by omega) (by omega) (by omega) (by omega)] at this
      exact this
    by_cases e1 : k < S 5
    · obtain ⟨b1, -⟩ := a3 k k0 (by omega) (fun j j0 j1 => old j j0 j1 (by omega))
      rw [s0 (3470 + k) (by omega) (by omega) (by omega) (by omega) (by omega) (by omega), s0 (3650 + k) (by omega) (by omega) (by omega) (by omega) (by omega) (by omega), s0 (3590 + k) (by omega) (by omega) (by omega) (by omega) (by omega) (by omega)]
      exact ⟨fun _ => b1 e1, fun q => by omega⟩
    · obtain ⟨-, b2⟩ := a3 (S 5) (by omega) (by omega) (fun j j0 j1 => old j j0 (by omega) j1)
      by_cases e2 : k = S 5
      · subst e2
        rw [s1, s3]
        exact ⟨fun _ q _ => by rw [q]; exact b2 rfl, fun q => by omega⟩
      · refine ⟨fun q => by omega, fun _ => ?_⟩
        have := hk2 (S 5) (by omega) (by omega)
        rw [s1, s4] at this
        rw [s0 _ (by omega) (by omega) (by omega) (by omega) (fun q => this ⟨by omega, by omega⟩) (by omega)]
        exact b2 rfl
end SETG
