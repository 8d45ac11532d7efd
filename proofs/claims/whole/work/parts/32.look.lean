/-! GLIDERS FOUND; WHAT THEIR KINDS CAN -/
def zsk (k : Int) : Int := if k = 0 then 2 else if k = 2 then 3 else 1
def zgk (k : Int) : Int := if k = 0 then 2 else if k = 1 then 3 else if k = 2 then 1 else 4
def zdk (k d : Int) : Int := if k = 0 then 4 + 2 * d else if k = 1 then 2 + d else if k = 2 then 3 + 2 * d else 3 + d
def zck (k l d : Int) : Int := zdk k d + (if l = 1 then 3 else 0)
theorem zsk_r (k : Int) : 1 ≤ zsk k ∧ zsk k ≤ 3 := by
  unfold zsk; split
  · omega
  · split <;> omega
theorem zgk_r (k : Int) : 1 ≤ zgk k ∧ zgk k ≤ 4 := by
  unfold zgk; split
  · omega
  · split
    · omega
    · split <;> omega
theorem zck_r {k l d : Int} (hd : 0 ≤ d ∧ d ≤ 3) : 2 ≤ zck k l d ∧ zck k l d ≤ 13 := by
  unfold zck zdk
  have h3 : (0 : Int) ≤ (if l = 1 then 3 else 0) ∧ (if l = 1 then (3 : Int) else 0) ≤ 3 := by split <;> omega
  split
  · omega
  · split
    · omega
    · split <;> omega
section CAN
variable {E : Em} {w x m a : Nat} {J Jr : Jm} {S : Int → Int} {g d k l : Int}
theorem c_deep (hk : 0 ≤ k ∧ k ≤ 3) (e : J a 0 = k) : H_X0_deepest a J = some (zsk k) := by
  unfold H_X0_deepest
  rw [e]
  rcases four hk with h | h | h | h <;> subst h
  · rw [jT00]; rfl
  · rw [jT01]; rfl
  · rw [jT02]; rfl
  · rw [jT03]; rfl
theorem c_reach (hk : 0 ≤ k ∧ k ≤ 3) (e : J a 0 = k) : H_X0_reach a J = some (zgk k) := by
  unfold H_X0_reach
  rw [e]
  rcases four hk with h | h | h | h <;> subst h
  · rw [jT10]; rfl
  · rw [jT11]; rfl
  · rw [jT12]; rfl
  · rw [jT13]; rfl
theorem c_costOf (hk : 0 ≤ k ∧ k ≤ 3) (hd : 0 ≤ d ∧ d ≤ 3) : H_X11_costOf k d = some (zdk k d) := by
  unfold H_X11_costOf zdk
  have e1 : wr (2 * d) = 2 * d := wr_id (by omega)
  have e2 : wr (4 + 2 * d) = 4 + 2 * d := wr_id (by omega)
  have e3 : wr (4 + 2 * d - 1) = 3 + 2 * d := by rw [wr_id (by omega)]; omega
  have e4 : jD (4 + 2 * d) 2 = some (2 + d) := by rw [zD (by omega) (by omega) (by omega)]; exact congrArg some (by omega)
  have e5 : wr (2 + d + 1) = 3 + d := by rw [wr_id (by omega)]; omega
  rw [e1, e2, e3, e4, Option.bind_some, Option.bind_some, e5]
  rcases four hk with h | h | h | h <;> subst h <;> rfl
theorem c_cost (hk : 0 ≤ k ∧ k ≤ 3) (hl : 0 ≤ l ∧ l ≤ 1) (hd : 0 ≤ d ∧ d ≤ 3) (e : J a 0 = k) (e4 : J a 4 = l) : H_X0_costTo a d J = some (zck k l d) := by
  unfold H_X0_costTo
  rw [e, e4, c_costOf hk hd, Option.bind_some]
  unfold nv
  have hz := zck_r (k := k) (l := l) hd
  unfold zck at hz ⊢
  by_cases h : l = 0
  · subst h
    rw [if_pos rfl, if_neg (show ¬ (0 : Int) = 1 by decide)] at *
    exact congrArg some (wr_id (by omega))
  · have h1 : l = 1 := by omega
    subst h1
    rw [if_neg h, if_pos rfl] at *
    exact congrArg some (wr_id (by omega))
theorem gA_in (hV : Vw E w J S) (hi : Inv S) (hg : 0 ≤ g ∧ g < S 0) : ∃ a, H_X10_gliderAt E w g J = some (some a) ∧ E.2.1 (w + 13) g.toNat = some a ∧ Gv J a g S := by
  obtain ⟨a, ha, hG⟩ := hV.2.1 g hg.1 hg.2
  have h8 := i_gli hi
  refine ⟨a, ?_, ha, hG⟩
  unfold H_X10_gliderAt
  rw [if_neg (by omega), v_gli hV.1, if_neg (by omega)]
  unfold jR
  rw [if_pos (by omega), ha]; rfl
theorem gA_no (hV : Vw E w J S) (hg : ¬ (0 ≤ g ∧ g < S 0)) : H_X10_gliderAt E w g J = some none := by
  unfold H_X10_gliderAt
  by_cases h : g < 0
  · rw [if_pos h]
  · rw [if_neg h, v_gli hV.1, if_pos (by omega)]
theorem gR (hV : Vw E w J S) (hi : Inv S) (hg : 0 ≤ g ∧ g < S 0) : ∃ a, jR E (w + 13) 8 g = some (some a) ∧ E.2.1 (w + 13) g.toNat = some a ∧ Gv J a g S := by
  obtain ⟨a, ha, hG⟩ := hV.2.1 g hg.1 hg.2
  have h8 := i_gli hi
  refine ⟨a, ?_, ha, hG⟩
  unfold jR
  rw [if_pos (by omega), ha]
theorem r_isG (hR : Rf m Jr S) (hi : Inv S) : H_X12_isGlider m g Jr = some (if 0 ≤ g ∧ g < S 0 then 1 else 0) := by
  have h8 := i_gli hi
  unfold H_X12_isGlider
  rw [rL hR (by omega) (by omega), Option.bind_some, isq, wr_id (by omega), Option.bind_some, zZ01, Option.bind_some]
  by_cases h : 0 ≤ g ∧ g < S 0
  · rw [if_pos h, if_pos (by omega)]
  · rw [if_neg h, if_neg (by omega)]
theorem r_isUp (hR : Rf m Jr S) (hg : 0 ≤ g ∧ g < 8) : H_X12_isUp m g Jr = some (if S (2202 + g) = 0 then 1 else 0) := by
  unfold H_X12_isUp
  rw [wr_id (by omega), rL hR (by omega) (by omega), Option.bind_some]
  by_cases h : S (2202 + g) = 0
  · rw [if_pos h, if_pos h]
  · rw [if_neg h, if_neg h]
theorem r_sinks (hR : Rf m Jr S) (hg : 0 ≤ g ∧ g < 8) : H_X12_sinks m g Jr = some (zsk (S (2170 + g))) := by
  unfold H_X12_sinks zsk
  simp (disch := omega) only [wr_id, rL hR, Option.bind_some]
  repeat' (first | rfl | split)
theorem r_goes (hR : Rf m Jr S) (hg : 0 ≤ g ∧ g < 8) : H_X12_goes m g Jr = some (zgk (S (2170 + g))) := by
  unfold H_X12_goes zgk
  simp (disch := omega) only [wr_id, rL hR, Option.bind_some]
  repeat' (first | rfl | split)
theorem r_dry (hd : 0 ≤ d ∧ d ≤ 3) : H_X12_dry m k d = some (zdk k d) := by
  unfold H_X12_dry zdk
  simp only [nv]
  have e1 : wr (2 * d) = 2 * d := wr_id (by omega)
  have e2 : wr (4 + 2 * d) = 4 + 2 * d := wr_id (by omega)
  have e3 : wr (2 + d) = 2 + d := wr_id (by omega)
  have e4 : wr (3 + 2 * d) = 3 + 2 * d := wr_id (by omega)
  have e5 : wr (3 + d) = 3 + d := wr_id (by omega)
  rw [e1, e2, e3]
  by_cases h0 : k = 0
  · rw [if_pos h0, if_pos h0]
  · by_cases h1 : k = 1
    · rw [if_neg h0, if_neg h0, if_pos h1, if_pos h1]
    · by_cases h2 : k = 2
      · rw [if_neg h0, if_neg h0, if_neg h1, if_neg h1, if_pos h2, if_pos h2, e4]
      · rw [if_neg h0, if_neg h0, if_neg h1, if_neg h1, if_neg h2, if_neg h2, e5]
theorem r_cost (hR : Rf m Jr S) (hg : 0 ≤ g ∧ g < 8) (hd : 0 ≤ d ∧ d ≤ 3) : H_X12_cost m g d Jr = some (zck (S (2170 + g)) (S (2210 + g)) d) := by
  unfold H_X12_cost
  have hz := zck_r (k := S (2170 + g)) (l := S (2210 + g)) hd
  rw [wr_id (by omega), rL hR (by omega) (by omega), Option.bind_some, r_dry hd, Option.bind_some, wr_id (by omega), rL hR (by omega) (by omega), Option.bind_some]
  unfold nv
  unfold zck at hz ⊢
  exact congrArg some (wr_id (by omega))
theorem r_layerFor (hR : Rf m Jr S) (hg : 0 ≤ g ∧ g < 8) : H_X12_layerFor m g d Jr = some (mnZ d (zsk (S (2170 + g)))) := by
  unfold H_X12_layerFor mnZ
  rw [r_sinks hR hg, Option.bind_some]
  by_cases h : zsk (S (2170 + g)) ≤ d
  · rw [if_pos h, Option.bind_some]
    by_cases h2 : zsk (S (2170 + g)) < d
    · rw [if_pos h2]
    · rw [if_neg h2]; exact congrArg some (by omega)
  · rw [if_neg h, if_neg (by omega)]
theorem r_abs {z : Int} (h : -1000000 ≤ z ∧ z ≤ 1000000) : H_X12_abs m z = some (if 0 ≤ z then z else -z) := by
  unfold H_X12_abs
  by_cases k : 0 ≤ z
  · rw [if_pos k, if_pos k]
  · rw [if_neg k, if_neg k, wr_id (by omega)]
abbrev hdg (k e n : Int) : Prop := (if 0 ≤ e then e else -e) + (if 0 ≤ n then n else -n) ≤ zgk k
theorem c_mayDive {e n : Int} (hk : 0 ≤ k ∧ k ≤ 3) (ek : J a 0 = k) (he : -2147483648 ≤ e ∧ e ≤ 2147483647) (hn : -2147483648 ≤ n ∧ n ≤ 2147483647) : H_X0_mayDive a d e n J = some (if (0 ≤ d ∧ d ≤ zsk k) ∧ hdg k e n then 1 else 0) := by
  unfold H_X0_mayDive hdg
  have hz := zgk_r k
  rw [c_reach hk ek, Option.bind_some, c_deep hk ek, Option.bind_some, wr_id (z := -zgk k) (by omega)]
  by_cases h1 : d < 0
  · rw [if_pos h1, if_neg (by omega)]
  · rw [if_neg h1]
    by_cases h2 : zsk k < d
    · rw [if_pos h2, if_neg (by omega)]
    · rw [if_neg h2]
      by_cases h3 : e < -zgk k
      · rw [if_pos h3, if_neg]
        rintro ⟨-, q⟩
        rw [if_neg (show ¬ 0 ≤ e by omega)] at q
        split at q <;> omega
      · rw [if_neg h3]
        by_cases h4 : zgk k < e
        · rw [if_pos h4, if_neg]
          rintro ⟨-, q⟩
          rw [if_pos (show 0 ≤ e by omega)] at q
          split at q <;> omega
        · rw [if_neg h4]
          by_cases h5 : n < -zgk k
          · rw [if_pos h5, if_neg]
            rintro ⟨-, q⟩
            rw [if_neg (show ¬ 0 ≤ n by omega)] at q
            split at q <;> omega
          · rw [if_neg h5]
            by_cases h6 : zgk k < n
            · rw [if_pos h6, if_neg]
              rintro ⟨-, q⟩
              rw [if_pos (show 0 ≤ n by omega)] at q
              split at q <;> omega
            · rw [if_neg h6, z_abs (by omega), z_abs (by omega), wr_id (by split <;> split <;> omega)]
              by_cases h7 : zgk k < (if 0 ≤ e then e else -e) + (if 0 ≤ n then n else -n)
              · rw [if_pos h7, if_neg (by omega)]
              · rw [if_neg h7, if_pos (by omega)]
theorem r_isHeading {e n : Int} (hR : Rf m Jr S) (hg : 0 ≤ g ∧ g < 8) : H_X12_isHeading m g e n Jr = some (if hdg (S (2170 + g)) e n then 1 else 0) := by
  unfold H_X12_isHeading hdg
  have hz := zgk_r (S (2170 + g))
  rw [isq, isq, Option.bind_some, z01]
  by_cases h1 : -4 ≤ e ∧ e ≤ 4
  · rw [if_pos h1, Option.bind_some, z01]
    by_cases h2 : -4 ≤ n ∧ n ≤ 4
    · rw [if_pos h2, r_abs (by omega), r_abs (by omega), Option.bind_some, Option.bind_some, r_goes hR hg, Option.bind_some, wr_id (by split <;> split <;> omega)]
      by_cases h7 : zgk (S (2170 + g)) < (if 0 ≤ e then e else -e) + (if 0 ≤ n then n else -n)
      · rw [if_pos h7, if_neg (by omega)]
      · rw [if_neg h7, if_pos (by omega)]
    · rw [if_neg h2, if_neg]
      intro q
      split at q <;> split at q <;> omega
  · rw [if_neg h1, if_neg]
    intro q
    split at q <;> split at q <;> omega
end CAN
/-! THE CALLS THAT ONLY LOOK -/
section LOOK
variable {E : Em} {x m a : Nat} {J Jr : Jm} {S : Int → Int} {g : Int}
theorem q5 (hV : Vw E (x + 1) J S) (hi : Inv S) (hR : Rf m Jr S) (z1 z2 : Int) : ∃ r, H_X11_about E x z1 z2 J = some r ∧ H_X12_about m z1 z2 Jr = some r := by
  unfold H_X11_about H_X12_about
  rw [r_isG hR hi, Option.bind_some, z01]
  by_cases hg : 0 ≤ z1 ∧ z1 < S 0
  · obtain ⟨a, ea, -, hG⟩ := gA_in hV hi hg
    have h8 := i_gli hi
    have hx := i_x hi (z := z1) hg.1 (by omega)
    have hy := i_y hi (z := z1) hg.1 (by omega)
    have hl := i_lea hi (z := z1) hg.1 (by omega)
    have e1 : (8 * S (2178 + z1) + S (2186 + z1)) / 8 = S (2178 + z1) := by omega
    have e2 : (8 * S (2178 + z1) + S (2186 + z1)) % 8 = S (2186 + z1) := by omega
    have e3 : (if S (2210 + z1) = 0 then some (0 : Int) else some 1) = some (S (2210 + z1)) := by
      by_cases h : S (2210 + z1) = 0
      · rw [if_pos h, h]
      · rw [if_neg h]; exact congrArg some (by omega)
    have e4 : (if J a 10 = 0 then some (-4 : Int) else some (J a 9)) = some (S (2250 + z1)) := by
      rw [g_sho hG]
      by_cases h : J a 10 = 0
      · rw [if_pos h, if_pos h]
      · rw [if_neg h, if_neg h]
    rw [ea, Option.bind_some, if_pos hg]
    have key : z2 = 0 ∨ z2 = 1 ∨ z2 = 2 ∨ z2 = 3 ∨ z2 = 4 ∨ z2 = 5 ∨ z2 = 6 ∨ z2 = 7 ∨ z2 = 8 ∨ z2 = 9 ∨ z2 = 10 ∨ (z2 < 0 ∨ 10 < z2) := by omega
    simp only [oe, H_X11_tellAbout]
    rcases key with h | h | h | h | h | h | h | h | h | h | h | h
    all_goals first
      | (subst h
         simp (disch := omega) only [Int.reduceEq, reduceIte, wr_id, rL hR, Option.bind_some, g_kind hG, g_cell hG, g_pow hG, g_sta hG, g_lea hG, g_fou hG, g_ord hG, g_hea hG, g_div hG, z_xOf, z_yOf, e1, e2, e3, e4]
         exact ⟨_, rfl, rfl⟩)
      | (simp (disch := omega) only [if_neg, Option.bind_some]
         exact ⟨_, rfl, rfl⟩)
  · rw [gA_no hV hg, if_neg hg]
    exact ⟨-1, rfl, rfl⟩
theorem q6 (hV : Vw E (x + 1) J S) (hi : Inv S) (hR : Rf m Jr S) (z1 z2 : Int) (h2 : -2147483648 ≤ z2 ∧ z2 ≤ 2147483647) : ∃ r, H_X11_can E x z1 z2 J = some r ∧ H_X12_can m z1 z2 Jr = some r := by
  unfold H_X11_can H_X12_can
  rw [r_isG hR hi, Option.bind_some, z01, isq, Option.bind_some, z01]
  by_cases hg : 0 ≤ z1 ∧ z1 < S 0
  · obtain ⟨a, ea, -, hG⟩ := gA_in hV hi hg
    have h8 := i_gli hi
    have hk := i_kind hi (z := z1) hg.1 (by omega)
    have hl := i_lea hi (z := z1) hg.1 (by omega)
    have hs := zsk_r (S (2170 + z1))
    rw [ea, Option.bind_some, if_pos hg]
    simp only [oe]
    by_cases h3 : 0 ≤ z2 ∧ z2 ≤ 5
    · rw [if_pos h3, if_neg (by omega), if_pos (by omega), c_deep hk (g_kind hG), c_reach hk (g_kind hG), r_sinks hR (by omega), r_goes hR (by omega)]
      simp only [Option.bind_some]
      by_cases h4 : z2 = 0
      · rw [if_pos h4, if_pos h4]; exact ⟨_, rfl, rfl⟩
      · rw [if_neg h4, if_neg h4]
        by_cases h5 : z2 = 1
        · rw [if_pos h5, if_pos h5]; exact ⟨_, rfl, rfl⟩
        · rw [if_neg h5, if_neg h5, wr_id (z := z2 - 2) (by omega)]
          by_cases h6 : z2 - 2 ≤ zsk (S (2170 + z1))
          · rw [if_pos h6, if_pos h6, c_cost hk hl (by omega) (g_kind hG) (g_lea hG), r_cost hR (by omega) (by omega)]
            exact ⟨_, rfl, rfl⟩
          · rw [if_neg h6, if_neg h6]; exact ⟨_, rfl, rfl⟩
    · rw [if_neg h3]
      by_cases h4 : z2 < 0
      · rw [if_pos h4]; exact ⟨_, rfl, rfl⟩
      · rw [if_neg h4, if_neg (by omega)]; exact ⟨_, rfl, rfl⟩
  · rw [gA_no hV hg, if_neg hg]
    exact ⟨-1, rfl, rfl⟩
theorem q3 (wx : W11 E x) (hV : Vw E (x + 1) J S) (hR : Rf m Jr S) (z1 z2 z3 z4 : Int) : ∃ r, H_X11_cell E x z1 z2 z3 z4 J = some r ∧ H_X12_cell m z1 z2 z3 z4 Jr = some r := by
  unfold H_X11_cell H_X12_cell
  simp only [z_isCell, z_rIsCell, z_isLayer, isq, Option.bind_some, z01]
  by_cases hc : 0 ≤ z1 ∧ z1 < 10 ∧ 0 ≤ z2 ∧ z2 < 8
  · rw [if_pos hc, if_pos hc]
    by_cases h4 : 0 ≤ z4 ∧ z4 ≤ 8
    · rw [if_neg (by omega), if_pos (by omega), if_pos h4, z_cellOf (by omega), Option.bind_some]
      have w10 := wx.2.1.2
      have w7 := w10.2.1.2
      have k1 : ((E.1 (x + 1 + 1 + 1)).2 : Int) = 80 := by rw [w7.2.1.2]; rfl
      have k2 : ((E.1 (x + 1 + 1 + 2)).2 : Int) = 80 := by rw [w7.2.2.1.2]; rfl
      have k3 : ((E.1 (x + 1 + 1 + 3)).2 : Int) = 80 := by rw [w7.2.2.2.1.2]; rfl
      have k4 : ((E.1 (x + 1 + 1 + 4)).2 : Int) = 320 := by rw [w7.2.2.2.2.1.2]; rfl
      have k5 : ((E.1 (x + 1 + 1 + 5)).2 : Int) = 320 := by rw [w7.2.2.2.2.2.1.2]; rfl
      have k6 : ((E.1 (x + 1 + 1 + 6 + 1)).2 : Int) = 320 := by rw [w7.2.2.2.2.2.2.1.2.2.1.2]; rfl
      have k7 : ((E.1 (x + 1 + 1 + 6 + 2)).2 : Int) = 320 := by rw [w7.2.2.2.2.2.2.1.2.2.2.2]; rfl
      have k8 : ((E.1 (x + 1 + 1 + 9 + 1)).2 : Int) = 320 := by rw [w7.2.2.2.2.2.2.2.2.2.1.2]; rfl
      have k9 : ((E.1 (x + 1 + 1 + 9 + 2)).2 : Int) = 320 := by rw [w7.2.2.2.2.2.2.2.2.2.2.2]; rfl
      have h := hV.1
      simp only [jp, H_X7_cellRow, H_X7_placeRow]
      have e8 : wr (8 * z1) = 8 * z1 := wr_id (by omega)
      have e9 : wr (8 * z1 + z2) = 8 * z1 + z2 := wr_id (by omega)
      have e10 : wr (4 * (8 * z1 + z2)) = 4 * (8 * z1 + z2) := wr_id (by omega)
      rw [e8, e9, e10]
      by_cases h2 : 2 < z4
      · rw [if_pos h2, if_neg (show ¬ z4 ≤ 2 by omega)]
        by_cases hl : 0 ≤ z3 ∧ z3 ≤ 3
        · rw [if_pos hl, if_pos hl, z_placeOf (by omega), if_neg (show ¬ z4 = 0 by omega), if_neg (show ¬ z4 = 1 by omega), if_neg (show ¬ z4 = 2 by omega)]
          by_cases q3 : z4 = 3
          · rw [if_pos q3, if_pos q3]
            simp (disch := omega) only [Option.bind_some, k6, vL_eas h, wr_id, rL hR]
            refine ⟨_, rfl, ?_⟩; exact congrArg some (congrArg S (by omega))
          · rw [if_neg q3, if_neg q3]
            by_cases q4 : z4 = 4
            · rw [if_pos q4, if_pos q4]
              simp (disch := omega) only [Option.bind_some, k7, vL_nor h, wr_id, rL hR]
              refine ⟨_, rfl, ?_⟩; exact congrArg some (congrArg S (by omega))
            · rw [if_neg q4, if_neg q4]
              by_cases q5 : z4 = 5
              · rw [if_pos q5, if_pos q5]
                simp (disch := omega) only [Option.bind_some, k8, vL_mea h, wr_id, rL hR]
                refine ⟨_, rfl, ?_⟩; exact congrArg some (congrArg S (by omega))
              · rw [if_neg q5, if_neg q5]
                by_cases q6 : z4 = 6
                · rw [if_pos q6, if_pos q6]
                  simp (disch := omega) only [Option.bind_some, k9, vL_mno h, wr_id, rL hR]
                  refine ⟨_, rfl, ?_⟩; exact congrArg some (congrArg S (by omega))
                · rw [if_neg q6, if_neg q6]
                  by_cases q7 : z4 = 7
                  · rw [if_pos q7, if_pos q7]
                    simp (disch := omega) only [Option.bind_some, k4, vL_sal h, wr_id, rL hR]
                    refine ⟨_, rfl, ?_⟩; exact congrArg some (congrArg S (by omega))
                  · rw [if_neg q7, if_neg q7]
                    simp (disch := omega) only [Option.bind_some, k5, vL_net h, wr_id, rL hR]
                    refine ⟨_, rfl, ?_⟩; exact congrArg some (congrArg S (by omega))
        · rw [if_neg hl, if_neg hl]; exact ⟨_, rfl, rfl⟩
      · rw [if_neg h2, if_pos (show z4 ≤ 2 by omega)]
        by_cases q0 : z4 = 0
        · rw [if_pos q0, if_pos q0]
          simp (disch := omega) only [Option.bind_some, k1, vL_dep h, wr_id, rL hR]
          refine ⟨_, rfl, ?_⟩; exact congrArg some (congrArg S (by omega))
        · rw [if_neg q0, if_neg q0]
          by_cases q1 : z4 = 1
          · rw [if_pos q1, if_pos q1]
            simp (disch := omega) only [Option.bind_some, k2, vL_lan h, wr_id, rL hR]
            refine ⟨_, rfl, ?_⟩; exact congrArg some (congrArg S (by omega))
          · rw [if_neg q1, if_neg q1, if_pos (show z4 = 2 by omega)]
            simp (disch := omega) only [Option.bind_some, k3, vL_dou h, wr_id, rL hR]
            refine ⟨_, rfl, ?_⟩; exact congrArg some (congrArg S (by omega))
    · rw [if_neg h4]
      by_cases h5 : z4 < 0
      · rw [if_pos h5]; exact ⟨_, rfl, rfl⟩
      · rw [if_neg h5, if_neg (by omega)]; exact ⟨_, rfl, rfl⟩
  · rw [if_neg hc, if_neg hc]; exact ⟨_, rfl, rfl⟩
theorem r_isR (hR : Rf m Jr S) (hi : Inv S) : H_X12_isReading m g Jr = some (if 0 ≤ g ∧ g < S 2 then 1 else 0) := by
  have h8 := i_rea hi
  unfold H_X12_isReading
  rw [rL hR (by omega) (by omega), Option.bind_some, isq, wr_id (by omega), Option.bind_some, zZ01, Option.bind_some]
  by_cases h : 0 ≤ g ∧ g < S 2
  · rw [if_pos h, if_pos (by omega)]
  · rw [if_neg h, if_neg (by omega)]
theorem q18 (hV : Vw E (x + 1) J S) (hi : Inv S) (hR : Rf m Jr S) (z1 z2 : Int) : ∃ r, H_X11_reading x z1 z2 J = some r ∧ H_X12_reading m z1 z2 Jr = some r := by
  unfold H_X11_reading H_X12_reading
  have h8 := i_rea hi
  have h := hV.1
  rw [r_isR hR hi, Option.bind_some, z01, isq, Option.bind_some, z01, v_rea h]
  by_cases hg : 0 ≤ z1 ∧ z1 < S 2
  · rw [if_neg (by omega), if_pos (by omega), if_pos hg]
    simp (disch := omega) only [Option.bind_some, vL_rby h, vL_rti h, vL_rce h, vL_rla h, vL_rfo h, wr_id, rL hR]
    repeat' (first | exact ⟨_, rfl, rfl⟩ | (exfalso; omega) | split)
  · rw [if_neg hg]
    by_cases h5 : z1 < 0
    · rw [if_pos h5]; exact ⟨_, rfl, rfl⟩
    · rw [if_neg h5, if_neg (by omega)]; exact ⟨_, rfl, rfl⟩
theorem zq_div {p c : Int} (hp : 0 ≤ p ∧ p ≤ 999) (hc : 1 ≤ c ∧ c ≤ 100) : jD p c = some (p / c) := zD hp.1 (by omega) (by omega)
theorem c_left (hi : Inv S) (hg : 0 ≤ g ∧ g < 8) (hG : Gv J a g S) : H_X0_divesLeft a J = some (S (2194 + g) / zck (S (2170 + g)) (S (2210 + g)) 1) := by
  unfold H_X0_divesLeft
  have hk := i_kind hi (z := g) hg.1 hg.2
  have hl := i_lea hi (z := g) hg.1 hg.2
  have hp := i_pow hi (z := g) hg.1 hg.2
  have hs := zsk_r (S (2170 + g))
  have hz := zck_r (k := S (2170 + g)) (l := S (2210 + g)) (d := 1) (by omega)
  have e1 : mnZ 1 (zsk (S (2170 + g))) = 1 := by unfold mnZ; rw [if_neg (by omega)]
  rw [c_deep hk (g_kind hG), Option.bind_some, e1, c_cost hk hl (by omega) (g_kind hG) (g_lea hG), Option.bind_some, if_neg (by omega), g_pow hG, zq_div hp (by omega)]
  rfl
theorem r_left (hR : Rf m Jr S) (hi : Inv S) (hg : 0 ≤ g ∧ g < 8) : H_X12_leftOf m g Jr = some (S (2194 + g) / zck (S (2170 + g)) (S (2210 + g)) 1) := by
  unfold H_X12_leftOf
  have hp := i_pow hi (z := g) hg.1 hg.2
  have hz := zck_r (k := S (2170 + g)) (l := S (2210 + g)) (d := 1) (by omega)
  rw [wr_id (by omega), rL hR (by omega) (by omega), Option.bind_some, r_cost hR hg (by omega), Option.bind_some, zq_div hp (by omega)]
  rfl
theorem q25 (hV : Vw E (x + 1) J S) (hi : Inv S) (hR : Rf m Jr S) (z1 : Int) : ∃ r, H_X11_left E x z1 J = some r ∧ H_X12_left m z1 Jr = some r := by
  unfold H_X11_left H_X12_left
  have h8 := i_gli hi
  rw [r_isG hR hi, Option.bind_some, z01]
  by_cases hg : 0 ≤ z1 ∧ z1 < S 0
  · obtain ⟨a, ea, -, hG⟩ := gA_in hV hi hg
    rw [ea, Option.bind_some, if_pos hg, r_isUp hR (by omega), Option.bind_some, z01]
    simp only [oe]
    rw [g_sta hG, c_left hi (by omega) hG, r_left hR hi (by omega), Option.bind_some]
    repeat' (first | exact ⟨_, rfl, rfl⟩ | split)
  · rw [gA_no hV hg, if_neg hg]
    exact ⟨-1, rfl, rfl⟩
end LOOK
