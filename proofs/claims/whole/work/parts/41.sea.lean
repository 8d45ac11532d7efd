/-! KEEP -/
section KEEP
variable {E : Em} {x m a : Nat} {J : Jm} {S : Int → Int}
theorem pu31 (hx : x + 73 ≤ m) (hS : Shs x m E J) (hV : Vw E (x + 1) J S) (hi : Inv S) (hR : Rf m J S) (ga : ∀ j a, E.2.1 (x + 1 + 13) j = some a → m + 18 ≤ a) (z1 z2 z3 : Int) : ∃ (r : Int) (J1 J2 : Jm), H_X11_keep E x z1 z2 z3 J = some (r, J1) ∧ H_X12_keep m z1 z2 z3 J1 = some (r, J2) ∧ Shs x m E J2 ∧ ∀ b, ¬ ShA x m b → J2 b = J b := by
  have h8 := i_gli hi
  unfold H_X11_keep
  have refNo : ¬ (0 ≤ z1 ∧ z1 < 8) ∨ ¬ (0 ≤ z2 ∧ z2 ≤ 1) ∨ (z2 = 1 ∧ ¬ (0 ≤ z3 ∧ z3 < S 0)) → H_X12_keep m z1 z2 z3 J = some (-1, J) := by
    intro h
    unfold H_X12_keep
    rw [isS_q, Option.bind_some, z01]
    by_cases c1 : 0 ≤ z1 ∧ z1 < 8
    · rw [if_pos c1, isq, Option.bind_some, z01]
      by_cases c2 : 0 ≤ z2 ∧ z2 ≤ 1
      · rw [if_pos c2]
        rcases h with h | h | h
        · exact absurd c1 h
        · exact absurd c2 h
        · simp only [jp]
          rw [if_pos h.1, r_isG hR hi, Option.bind_some, z01, if_neg h.2]
      · rw [if_neg c2]
    · rw [if_neg c1]
  by_cases hz : 0 ≤ z1 ∧ z1 < 8
  · obtain ⟨d, rfl, hd⟩ := q_nat hz
    have hd : d < 8 := by omega
    have ed : (d : Int).toNat = d := by omega
    rw [sA_in hS hd, Option.bind_some]
    simp only [oe]
    by_cases h2 : 0 ≤ z2 ∧ z2 ≤ 1
    · rw [if_neg (show ¬ z2 < 0 by omega), if_pos (show z2 ≤ 1 by omega)]
      by_cases h0 : z2 = 0
      · rw [if_pos h0]
        simp only [nv]
        have e : H_X12_keep m (d : Int) z2 z3 (jW J (x + 57 + 2 * d) 0 0) = some (0, jW (jW J (x + 57 + 2 * d) 0 0) (m + 9) d 0) := by
          unfold H_X12_keep
          rw [isS_q, Option.bind_some, z01, if_pos (show 0 ≤ (d : Int) ∧ (d : Int) < 8 by omega), isq, Option.bind_some, z01, if_pos h2]
          simp only [jp]
          rw [if_neg (show ¬ z2 = 1 by omega), zS (by omega) (by omega), Option.bind_some, if_neg (show ¬ z2 = 1 by omega), ed, h0]
        refine ⟨0, _, _, rfl, e, fun d' hd' => ?_, fun b hb => by unfold ShA at hb; simp (disch := omega) only [jW_ne]⟩
        obtain ⟨t0, t1, t2, t3, t4, t5, t6, t7, t8⟩ := hS d' hd'
        by_cases hdd : d' = d
        · subst hdd
          refine ⟨t0, ?_, ?_, ?_, ?_, ?_, ?_, ?_, fun k' hk' => ?_⟩
          all_goals simp (disch := omega) only [jW_ne, jW_at, jW_of]
          · exact ⟨trivial, by omega, by omega⟩
          · exact t2
          · exact t3
          · exact t4
          · exact t5
          · exact t6
          · exact t7
          · exact t8 k' hk'
        · refine ⟨t0, ?_, ?_, ?_, ?_, ?_, ?_, ?_, fun k' hk' => ?_⟩
          all_goals simp (disch := omega) only [jW_ne, jW_of]
          · exact t1
          · exact t2
          · exact t3
          · exact t4
          · exact t5
          · exact t6
          · exact t7
          · exact t8 k' hk'
      · have h1 : z2 = 1 := by omega
        rw [if_neg h0]
        by_cases hg : 0 ≤ z3 ∧ z3 < S 0
        · obtain ⟨a, ea, ha, hG⟩ := gA_in hV hi hg
          have hga := ga _ _ ha
          have hk := i_kind hi (z := z3) hg.1 (by omega)
          have hp := i_pow hi (z := z3) hg.1 (by omega)
          have hs := i_sta hi (z := z3) hg.1 (by omega)
          have hX := i_x hi (z := z3) hg.1 (by omega)
          have hY := i_y hi (z := z3) hg.1 (by omega)
          rw [ea, Option.bind_some]
          simp only [H_X8_holdGlider, nv, Option.bind_some]
          simp (disch := omega) only [jW_ne]
          rw [g_kind hG, g_cell hG, g_pow hG, g_sta hG]
          generalize hJ1 : jW (jW (jW (jW (jW J (x + 57 + 2 * d) 0 1) (x + 57 + 2 * d) 4 (S (2170 + z3))) (x + 57 + 2 * d) 5 (8 * S (2178 + z3) + S (2186 + z3))) (x + 57 + 2 * d) 6 (S (2194 + z3))) (x + 57 + 2 * d) 7 (S (2202 + z3)) = J1
          have hR1 : Rf m J1 S := by
            rw [← hJ1]
            exact rN (rN (rN (rN (rN hR (by omega)) (by omega)) (by omega)) (by omega)) (by omega)
          have e : H_X12_keep m (d : Int) z2 z3 J1 = some (0, jW (jW (jW (jW (jW J1 (m + 9) d 1) (m + 10) d (S (2170 + z3))) (m + 11) d (8 * S (2178 + z3) + S (2186 + z3))) (m + 12) d (S (2194 + z3))) (m + 13) d (S (2202 + z3))) := by
            unfold H_X12_keep
            rw [isS_q, Option.bind_some, z01, if_pos (show 0 ≤ (d : Int) ∧ (d : Int) < 8 by omega), isq, Option.bind_some, z01, if_pos h2]
            simp only [jp]
            have q1 := rN (k := d) (v := 1) hR1 (show m + 9 ≠ m + 1 by omega)
            have q2 := rN (k := d) (v := S (2170 + z3)) q1 (show m + 10 ≠ m + 1 by omega)
            have q3 := rN (k := d) (v := 8 * S (2178 + z3) + S (2186 + z3)) q2 (show m + 11 ≠ m + 1 by omega)
            have q4 := rN (k := d) (v := S (2194 + z3)) q3 (show m + 12 ≠ m + 1 by omega)
            rw [if_pos h1, r_isG hR1 hi, Option.bind_some, z01, if_pos hg, zS (by omega) (by omega), Option.bind_some, if_pos h1, ed, h1, wr_id (z := 2170 + z3) (by omega), wr_id (z := 2178 + z3) (by omega), wr_id (z := 2186 + z3) (by omega), wr_id (z := 2194 + z3) (by omega), wr_id (z := 2202 + z3) (by omega), rL q1 (by omega) (by omega), Option.bind_some, zS (by omega) (by omega), Option.bind_some, ed, rL q2 (by omega) (by omega), Option.bind_some, rL q2 (by omega) (by omega), Option.bind_some, wr_id (z := 8 * S (2178 + z3)) (by omega), wr_id (z := 8 * S (2178 + z3) + _) (by omega), zS (by omega) (by omega), Option.bind_some, ed, rL q3 (by omega) (by omega), Option.bind_some, zS (by omega) (by omega), Option.bind_some, ed, rL q4 (by omega) (by omega), Option.bind_some, zS (by omega) (by omega), Option.bind_some, ed]
          refine ⟨0, _, _, rfl, e, fun d' hd' => ?_, fun b hb => by unfold ShA at hb; rw [← hJ1]; simp (disch := omega) only [jW_ne]⟩
          rw [← hJ1]
          obtain ⟨t0, t1, t2, t3, t4, t5, t6, t7, t8⟩ := hS d' hd'
          by_cases hdd : d' = d
          · subst hdd
            refine ⟨t0, ?_, ?_, ?_, ?_, ?_, ?_, ?_, fun k' hk' => ?_⟩
            all_goals simp (disch := omega) only [jW_ne, jW_at, jW_of]
            · exact ⟨trivial, by omega, by omega⟩
            · exact t2
            · exact t3
            · exact ⟨trivial, by omega, by omega⟩
            · exact ⟨trivial, by omega, by omega⟩
            · exact ⟨trivial, by omega, by omega⟩
            · exact ⟨trivial, by omega, by omega⟩
            · exact t8 k' hk'
          · refine ⟨t0, ?_, ?_, ?_, ?_, ?_, ?_, ?_, fun k' hk' => ?_⟩
            all_goals simp (disch := omega) only [jW_ne, jW_of]
            · exact t1
            · exact t2
            · exact t3
            · exact t4
            · exact t5
            · exact t6
            · exact t7
            · exact t8 k' hk'
        · rw [gA_no hV hg, Option.bind_some]
          exact ⟨-1, J, J, rfl, refNo (Or.inr (Or.inr ⟨h1, hg⟩)), hS, fun _ _ => rfl⟩
    · refine ⟨-1, J, J, ?_, refNo (Or.inr (Or.inl h2)), hS, fun _ _ => rfl⟩
      by_cases h4 : z2 < 0
      · rw [if_pos h4]
      · rw [if_neg h4, if_neg (by omega)]
  · rw [sA_out hz]
    exact ⟨-1, J, J, rfl, refNo (Or.inl hz), hS, fun _ _ => rfl⟩
end KEEP
/-! SEA -/
def bas (wh : Int) : Int := if wh = 0 then 10 else if wh = 1 then 90 else 170
def updS (S : Int → Int) (wh v p : Int) : Int → Int := if wh = 2 ∧ S (10 + p) = 0 then S else if zU S (bas wh + p) v (10 + p) = 0 then zU (zU S (bas wh + p) v) (170 + p) 0 else zU S (bas wh + p) v
def incS (S : Int → Int) (wh v p : Int) : Int := if wh = 2 ∧ S (10 + p) = 0 then 0 else if S (bas wh + p) = v then 0 else 1
def lim (wh : Int) : Int := if wh = 0 then 4 else if wh = 1 then 1 else 99
/-- no GLIDER is UP in the span, where that would matter -/
def noUp (S : Int → Int) (z1 z2 wh v : Int) : Prop := wh = 0 → v = 0 → ∀ g : Int, 0 ≤ g → g < S 0 → S (2202 + g) = 0 → ¬ (z1 / 10 ≤ S (2178 + g) ∧ S (2178 + g) ≤ z1 % 10 ∧ z2 / 10 ≤ S (2186 + g) ∧ S (2186 + g) ≤ z2 % 10)
theorem updS_ne {S : Int → Int} {wh v p i : Int} (hp : 0 ≤ p ∧ p < 80) (h : i < 10 ∨ 250 ≤ i) : updS S wh v p i = S i := by
  have hb : 10 ≤ bas wh ∧ bas wh ≤ 170 := by unfold bas; (repeat' (first | omega | split))
  unfold updS
  split
  · rfl
  · split
    · rw [zU_ne (by omega), zU_ne (by omega)]
    · rw [zU_ne (by omega)]
section SEA
variable {E : Em} {x w m a : Nat} {J Jr : Jm} {S : Int → Int} {wh v p z1 z2 : Int}
theorem inv_upd (hi : Inv S) (hw : 0 ≤ wh ∧ wh ≤ 2) (hv : 0 ≤ v ∧ v ≤ lim wh) (hp : 0 ≤ p ∧ p < 80) (hn : wh = 0 → v = 0 → ∀ g : Int, 0 ≤ g → g < S 0 → S (2202 + g) = 0 → 8 * S (2178 + g) + S (2186 + g) ≠ p) : Inv (updS S wh v p) := by
  unfold updS
  split
  · exact hi
  · have h1 : Inv (zU S (bas wh + p) v) := by
      unfold bas lim at *
      rcases three hw with h | h | h
      · subst h
        rw [if_pos rfl] at hv ⊢
        refine inv_dep hi hp ?_ (ir_at hi.1 (r := (10, 80, 0, 4)) (by decide) (by omega) (by dsimp only; omega) (by dsimp only; omega))
        by_cases k : v = 0
        · exact Or.inr (hn rfl k)
        · exact Or.inl (by omega)
      · subst h
        rw [if_neg (by decide), if_pos rfl] at hv ⊢
        exact inv_free hi (by unfold zFree; omega) (ir_no2 hi.1 (lo := 90) (hi := 170) (by omega) (by decide +kernel))
      · subst h
        rw [if_neg (by decide), if_neg (by decide)] at hv ⊢
        exact inv_free hi (by unfold zFree; omega) (ir_at hi.1 (r := (170, 80, 0, 99)) (by decide) (by omega) (by dsimp only; omega) (by dsimp only; omega))
    split
    · exact inv_free h1 (by unfold zFree; omega) (ir_at h1.1 (r := (170, 80, 0, 99)) (by decide) (by omega) (by dsimp only; omega) (by dsimp only; omega))
    · exact h1
/-- the class's row of what is changed -/
def rowA (w : Nat) (wh : Int) : Nat := if wh = 0 then w + 1 + 1 else if wh = 1 then w + 1 + 2 else w + 1 + 3
theorem rowA_v (wx : W10 E w) (hV : Vw E w J S) (sp : Sp E w) (hr : IvR S) (hw : 0 ≤ wh ∧ wh ≤ 2) (hp : 0 ≤ p ∧ p < 80) : ((E.1 (rowA w wh)).2 = 80) ∧ J (rowA w wh) p.toNat = S (bas wh + p) ∧ ∀ v : Int, Vw E w (jW J (rowA w wh) p.toNat v) (zU S (bas wh + p) v) := by
  have w7 := wx.2.1.2
  have k1 : (E.1 (w + 1 + 1)).2 = 80 := by rw [w7.2.1.2]
  have k2 : (E.1 (w + 1 + 2)).2 = 80 := by rw [w7.2.2.1.2]
  have k3 : (E.1 (w + 1 + 3)).2 = 80 := by rw [w7.2.2.2.1.2]
  unfold rowA bas
  rcases three hw with h | h | h
  · subst h
    rw [if_pos rfl, if_pos rfl]
    exact ⟨k1, v_dep hV.1 hp.1 hp.2, fun v => vwS hV sp hr (by omega) (by omega) (vW_dep hV.1 hp.1 hp.2)⟩
  · subst h
    rw [if_neg (by decide), if_pos rfl, if_neg (by decide), if_pos rfl]
    exact ⟨k2, v_lan hV.1 hp.1 hp.2, fun v => vwS hV sp hr (by omega) (by omega) (vW_lan hV.1 hp.1 hp.2)⟩
  · subst h
    rw [if_neg (by decide), if_neg (by decide), if_neg (by decide), if_neg (by decide)]
    exact ⟨k3, v_dou hV.1 hp.1 hp.2, fun v => vwS hV sp hr (by omega) (by omega) (vW_dou hV.1 hp.1 hp.2)⟩
theorem c_sea1 (wx : W10 E w) (sp : Sp E w) (hV : Vw E w J S) (hi : Inv S) (hw : 0 ≤ wh ∧ wh ≤ 2) (hv : 0 ≤ v ∧ v ≤ lim wh) (k : Int → Jm → Option (Int × Jm)) {X Y n : Int} (hX : 0 ≤ X ∧ X < 10) (hY : 0 ≤ Y ∧ Y < 8) (hp : p = 8 * X + Y) (h2 : 0 ≤ z2 ∧ z2 < 100) (hy : Y ≤ z2 % 10) (hn : 0 ≤ n ∧ n ≤ 100) (hu : wh = 0 → v = 0 → ∀ g : Int, 0 ≤ g → g < S 0 → S (2202 + g) = 0 → 8 * S (2178 + g) + S (2186 + g) ≠ p) (fu : Nat) :
    ∃ J2, H_X7_change_L31 k E (w + 1) z1 z2 wh v (some (rowA w wh)) X (fu + 1) n Y J = H_X7_change_L31 k E (w + 1) z1 z2 wh v (some (rowA w wh)) X fu (n + incS S wh v p) (Y + 1) J2 ∧ Vw E w J2 (updS S wh v p) ∧ ∀ b, (b < w ∨ w + 31 < b) → J2 b = J b := by
  have hpr : 0 ≤ p ∧ p < 80 := by omega
  obtain ⟨e80, eJ, eV⟩ := rowA_v wx hV sp hi.1 hw hpr
  have hra : w ≤ rowA w wh ∧ rowA w wh ≤ w + 31 := by unfold rowA; (repeat' (first | omega | split))
  have hb : bas wh = 10 ∧ wh = 0 ∨ bas wh = 90 ∧ wh = 1 ∨ bas wh = 170 ∧ wh = 2 := by
    unfold bas
    rcases three hw with h | h | h
    · exact Or.inl ⟨by rw [if_pos h], h⟩
    · exact Or.inr (Or.inl ⟨by rw [if_neg (by omega), if_pos h], h⟩)
    · exact Or.inr (Or.inr ⟨by rw [if_neg (by omega), if_neg (by omega)], h⟩)
  have hd := i_dep hi (z := p) hpr.1 hpr.2
  rw [H_X7_change_L31, zM h2.1 (by decide), Option.bind_some, if_neg (by omega), z_cellOf (by omega), Option.bind_some, ← hp, wr_id (z := Y + 1) (by omega)]
  simp only [Option.bind_some]
  have core : ¬ (wh = 2 ∧ S (10 + p) = 0) → ∃ J2, ((H_X11_changeAt E (rowA w wh) p v J).bind fun (zv17, J16) => (jL J16 (w + 1 + 1) 80 p).bind fun zv19 => if zv19 = 0 then (jS J16 (w + 1 + 3) 80 p 0).bind fun J23 => H_X7_change_L31 k E (w + 1) z1 z2 wh v (some (rowA w wh)) X fu (wr (n + zv17)) (Y + 1) J23 else H_X7_change_L31 k E (w + 1) z1 z2 wh v (some (rowA w wh)) X fu (wr (n + zv17)) (Y + 1) J16) = H_X7_change_L31 k E (w + 1) z1 z2 wh v (some (rowA w wh)) X fu (n + incS S wh v p) (Y + 1) J2 ∧ Vw E w J2 (updS S wh v p) ∧ ∀ b, (b < w ∨ w + 31 < b) → J2 b = J b := by
    intro hne
    have hV1 := eV v
    have hr1 : IvR (zU S (bas wh + p) v) := by
      rcases hb with ⟨q, r⟩ | ⟨q, r⟩ | ⟨q, r⟩
      · rw [q]; subst r; unfold lim at hv; rw [if_pos rfl] at hv
        exact ir_at hi.1 (r := (10, 80, 0, 4)) (by decide) (by omega) (by dsimp only; omega) (by dsimp only; omega)
      · rw [q]
        exact ir_no2 hi.1 (lo := 90) (hi := 170) (by omega) (by decide +kernel)
      · rw [q]; subst r; unfold lim at hv; rw [if_neg (by decide), if_neg (by decide)] at hv
        exact ir_at hi.1 (r := (170, 80, 0, 99)) (by decide) (by omega) (by dsimp only; omega) (by dsimp only; omega)
    rw [c_changeAt e80 hpr.1 (by omega), Option.bind_some]
    dsimp only
    rw [eJ, vL_dep hV1.1 hpr.1 hpr.2, Option.bind_some]
    unfold updS incS
    rw [if_neg hne, if_neg hne, wr_id (z := n + _) (by split <;> omega)]
    by_cases h0 : zU S (bas wh + p) v (10 + p) = 0
    · rw [if_pos h0, if_pos h0, zS (by omega) (by omega), Option.bind_some]
      exact ⟨_, rfl, vwS hV1 sp hr1 (by omega) (by omega) (vW_dou hV1.1 hpr.1 hpr.2), fun b hb => by rw [jW_ne (by omega), jW_ne (by omega)]⟩
    · rw [if_neg h0, if_neg h0]
      exact ⟨_, rfl, hV1, fun b hb => jW_ne (by omega)⟩
  by_cases h2 : wh = 2
  · rw [if_pos h2, vL_dep hV.1 hpr.1 hpr.2, Option.bind_some]
    by_cases h0 : S (10 + p) = 0
    · rw [if_pos h0]
      refine ⟨J, ?_, ?_, fun _ _ => rfl⟩
      · unfold incS; rw [if_pos ⟨h2, h0⟩, Int.add_zero]
      · unfold updS; rw [if_pos ⟨h2, h0⟩]; exact hV
    · rw [if_neg h0]
      exact core (fun q => h0 q.2)
  · rw [if_neg h2]
    exact core (fun q => h2 q.1)
theorem r_sea1 (hR : Rf m Jr S) (hw : 0 ≤ wh ∧ wh ≤ 2) {n : Int} (hp : 0 ≤ p ∧ p < 80) (h1 : 0 ≤ z1 ∧ z1 < 100) (h2 : 0 ≤ z2 ∧ z2 < 100) (hx : z1 / 10 ≤ p / 8 ∧ p / 8 ≤ z1 % 10) (hy : z2 / 10 ≤ p % 8 ∧ p % 8 ≤ z2 % 10) (hn : 0 ≤ n ∧ n ≤ 100) (fu : Nat) :
    ∃ J2, H_X12_sea_L205 m z1 z2 wh v (fu + 1) n p Jr = H_X12_sea_L205 m z1 z2 wh v fu (n + incS S wh v p) (p + 1) J2 ∧ Rf m J2 (updS S wh v p) ∧ ∀ b, b ≠ m + 1 → J2 b = Jr b := by
  have hb : 10 ≤ bas wh ∧ bas wh ≤ 170 := by unfold bas; (repeat' (first | omega | split))
  rw [H_X12_sea_L205, if_neg (by omega), zD hp.1 (by omega) (by decide), zD h1.1 (by omega) (by decide), zM h1.1 (by decide), zM hp.1 (by decide), zD h2.1 (by omega) (by decide), zM h2.1 (by decide)]
  simp only [Option.bind_some, isq, z01]
  rw [if_pos hx, if_pos hy, wr_id (z := p + 1) (by omega), wr_id (z := 10 + p) (by omega), wr_id (z := 170 + p) (by omega), rL hR (by omega) (by omega)]
  simp only [Option.bind_some, nv]
  rw [show (if wh = 0 then (10 : Int) else if wh = 1 then 90 else 170) = bas wh from rfl, wr_id (z := bas wh + p) (by omega), rL hR (by omega) (by omega)]
  simp only [Option.bind_some]
  have core : ¬ (wh = 2 ∧ S (10 + p) = 0) → ∃ J2, ((jS Jr (m + 1) 8369 (bas wh + p) v).bind fun J86 => (jL J86 (m + 1) 8369 (10 + p)).bind fun zv89 => if zv89 = 0 then (jS J86 (m + 1) 8369 (170 + p) 0).bind fun J93 => H_X12_sea_L205 m z1 z2 wh v fu (wr (n + if S (bas wh + p) = v then 0 else 1)) (p + 1) J93 else H_X12_sea_L205 m z1 z2 wh v fu (wr (n + if S (bas wh + p) = v then 0 else 1)) (p + 1) J86) = H_X12_sea_L205 m z1 z2 wh v fu (n + incS S wh v p) (p + 1) J2 ∧ Rf m J2 (updS S wh v p) ∧ ∀ b, b ≠ m + 1 → J2 b = Jr b := by
    intro hne
    have r1 := rW (v := v) hR (z := bas wh + p) (by omega)
    rw [zS (by omega) (by omega), Option.bind_some, rL r1 (by omega) (by omega), Option.bind_some]
    unfold updS incS
    rw [if_neg hne, if_neg hne, wr_id (z := n + _) (by split <;> omega)]
    by_cases h0 : zU S (bas wh + p) v (10 + p) = 0
    · rw [if_pos h0, if_pos h0, zS (by omega) (by omega), Option.bind_some]
      exact ⟨_, rfl, rW r1 (by omega), fun b hb => by rw [jW_ne hb, jW_ne hb]⟩
    · rw [if_neg h0, if_neg h0]
      exact ⟨_, rfl, r1, fun b hb => jW_ne hb⟩
  by_cases h2 : wh = 2
  · rw [if_pos h2]
    by_cases h0 : S (10 + p) = 0
    · rw [if_pos h0]
      refine ⟨Jr, ?_, ?_, fun _ _ => rfl⟩
      · unfold incS; rw [if_pos ⟨h2, h0⟩, Int.add_zero]
      · unfold updS; rw [if_pos ⟨h2, h0⟩]; exact hR
    · rw [if_neg h0]
      exact core (fun q => h0 q.2)
  · rw [if_neg h2]
    exact core (fun q => h2 q.1)
theorem r_skip (h1 : 0 ≤ z1 ∧ z1 < 100) (h2 : 0 ≤ z2 ∧ z2 < 100) {n : Int} : ∀ (t fu : Nat) (p : Int), 0 ≤ p → p + t ≤ 80 → (∀ i : Int, p ≤ i → i < p + t → ¬ ((z1 / 10 ≤ i / 8 ∧ i / 8 ≤ z1 % 10) ∧ (z2 / 10 ≤ i % 8 ∧ i % 8 ≤ z2 % 10))) → H_X12_sea_L205 m z1 z2 wh v (fu + t) n p Jr = H_X12_sea_L205 m z1 z2 wh v fu n (p + t) Jr := by
  intro t
  induction t with
  | zero => intro fu p h0 h3 h4; rw [show p + ((0 : Nat) : Int) = p by omega]; rfl
  | succ t ih =>
    intro fu p h0 h3 h4
    have hn := h4 p (by omega) (by omega)
    rw [show fu + (t + 1) = (fu + t) + 1 by omega, H_X12_sea_L205, if_neg (by omega), zD h0 (by omega) (by decide), zD h1.1 (by omega) (by decide), zM h1.1 (by decide), zM h0 (by decide), zD h2.1 (by omega) (by decide), zM h2.1 (by decide)]
    simp only [Option.bind_some, isq, z01]
    rw [wr_id (z := p + 1) (by omega)]
    have go := ih fu (p + 1) (by omega) (by omega) (fun i i0 i1 => h4 i (by omega) (by omega))
    rw [show p + ((t + 1 : Nat) : Int) = p + 1 + (t : Int) by omega]
    by_cases c1 : z1 / 10 ≤ p / 8 ∧ p / 8 ≤ z1 % 10
    · rw [if_pos c1, if_neg (fun q => hn ⟨c1, q⟩)]; exact go
    · rw [if_neg c1]; exact go
/-- both sides under way -/
def SeaSt (E : Em) (w m : Nat) (z1 z2 wh v : Int) (J0 Jr0 J Jr : Jm) (S : Int → Int) : Prop := Vw E w J S ∧ Rf m Jr S ∧ Inv S ∧ noUp S z1 z2 wh v ∧ (∀ b, (b < w ∨ w + 31 < b) → J b = J0 b) ∧ ∀ b, b ≠ m + 1 → Jr b = Jr0 b
theorem seaY (wx : W10 E w) (sp : Sp E w) (hw : 0 ≤ wh ∧ wh ≤ 2) (hv : 0 ≤ v ∧ v ≤ lim wh) (k : Int → Jm → Option (Int × Jm)) {X : Int} (hX : z1 / 10 ≤ X ∧ X ≤ z1 % 10) (h1 : 0 ≤ z1 ∧ z1 < 100) (h2 : 0 ≤ z2 ∧ z2 < 100 ∧ z2 % 10 < 8) {J0 Jr0 : Jm} : ∀ (t fu fu2 : Nat) (n Y : Int) (J Jr : Jm) (S : Int → Int), SeaSt E w m z1 z2 wh v J0 Jr0 J Jr S → z2 / 10 ≤ Y → Y + t = z2 % 10 + 1 → 0 ≤ n → n ≤ 8 * X + Y → t < fu → ∃ (n' : Int) (S' : Int → Int) (J' Jr' : Jm), H_X7_change_L31 k E (w + 1) z1 z2 wh v (some (rowA w wh)) X fu n Y J = k n' J' ∧ H_X12_sea_L205 m z1 z2 wh v (fu2 + t) n (8 * X + Y) Jr = H_X12_sea_L205 m z1 z2 wh v fu2 n' (8 * X + (z2 % 10 + 1)) Jr' ∧ SeaSt E w m z1 z2 wh v J0 Jr0 J' Jr' S' ∧ 0 ≤ n' ∧ n' ≤ 8 * X + (z2 % 10 + 1) := by
  intro t
  induction t with
  | zero =>
    intro fu fu2 n Y J Jr S hS a1 a2 a3 a4 a5
    obtain ⟨fu, rfl⟩ := nx a5
    rw [H_X7_change_L31, zM h2.1 (by decide), Option.bind_some, if_pos (by omega)]
    refine ⟨n, S, J, Jr, rfl, ?_, hS, a3, by omega⟩
    rw [show Y = z2 % 10 + 1 by omega]; rfl
  | succ t ih =>
    intro fu fu2 n Y J Jr S hS a1 a2 a3 a4 a5
    obtain ⟨fu, rfl⟩ := nx a5
    obtain ⟨s1, s2, s3, s4, s5, s6⟩ := hS
    have hg8 := i_gli s3
    have hu : wh = 0 → v = 0 → ∀ g : Int, 0 ≤ g → g < S 0 → S (2202 + g) = 0 → 8 * S (2178 + g) + S (2186 + g) ≠ 8 * X + Y := by
      intro u1 u2 g g0 g1 g2 ge
      have hx := i_x s3 (z := g) g0 (by omega)
      have hy := i_y s3 (z := g) g0 (by omega)
      exact s4 u1 u2 g g0 g1 g2 (by omega)
    obtain ⟨J1, c1, c2, c3⟩ := c_sea1 (z1 := z1) (z2 := z2) (n := n) wx sp s1 s3 hw hv k (X := X) (Y := Y) (by omega) (by omega) rfl ⟨h2.1, h2.2.1⟩ (by omega) (by omega) hu fu
    obtain ⟨Jr1, d1, d2, d3⟩ := r_sea1 (z1 := z1) (z2 := z2) (v := v) (n := n) (p := 8 * X + Y) s2 hw (by omega) h1 ⟨h2.1, h2.2.1⟩ (by omega) (by omega) (by omega) (fu2 + t)
    have hinc : 0 ≤ incS S wh v (8 * X + Y) ∧ incS S wh v (8 * X + Y) ≤ 1 := by unfold incS; (repeat' (first | omega | split))
    have hn1 : noUp (updS S wh v (8 * X + Y)) z1 z2 wh v := by
      intro u1 u2 g g0 g1 g2
      rw [updS_ne (by omega) (by omega)] at g1 g2
      rw [updS_ne (i := 2178 + g) (by omega) (by omega), updS_ne (i := 2186 + g) (by omega) (by omega)]
      exact s4 u1 u2 g g0 g1 g2
    obtain ⟨n', S', J', Jr', e1, e2, e3, e4, e5⟩ := ih fu fu2 (n + incS S wh v (8 * X + Y)) (Y + 1) J1 Jr1 _ ⟨c2, d2, inv_upd s3 hw hv (by omega) hu, hn1, fun b hb => (c3 b hb).trans (s5 b hb), fun b hb => (d3 b hb).trans (s6 b hb)⟩ (by omega) (by omega) (by omega) (by omega) (by omega)
    refine ⟨n', S', J', Jr', c1.trans e1, ?_, e3, e4, e5⟩
    rw [show fu2 + (t + 1) = (fu2 + t) + 1 by omega, d1, show 8 * X + Y + 1 = 8 * X + (Y + 1) by omega]
    exact e2
theorem seaX (wx : W10 E w) (sp : Sp E w) (hw : 0 ≤ wh ∧ wh ≤ 2) (hv : 0 ≤ v ∧ v ≤ lim wh) (h1 : 0 ≤ z1 ∧ z1 < 100 ∧ z1 / 10 ≤ z1 % 10) (h2 : 0 ≤ z2 ∧ z2 < 100 ∧ z2 / 10 ≤ z2 % 10 ∧ z2 % 10 < 8) {J0 Jr0 : Jm} : ∀ (t fu fu2 : Nat) (n X : Int) (J Jr : Jm) (S : Int → Int), SeaSt E w m z1 z2 wh v J0 Jr0 J Jr S → z1 / 10 ≤ X → X + t = z1 % 10 + 1 → 0 ≤ n → n ≤ 8 * X → t < fu → ∃ (n' : Int) (S' : Int → Int) (J' Jr' : Jm), H_X7_change_L16 E (w + 1) z1 z2 wh v (some (rowA w wh)) fu n X J = some (n', J') ∧ H_X12_sea_L205 m z1 z2 wh v (fu2 + 8 * t) n (8 * X) Jr = H_X12_sea_L205 m z1 z2 wh v fu2 n' (8 * (z1 % 10 + 1)) Jr' ∧ SeaSt E w m z1 z2 wh v J0 Jr0 J' Jr' S' := by
  intro t
  induction t with
  | zero =>
    intro fu fu2 n X J Jr S hS a1 a2 a3 a4 a5
    obtain ⟨fu, rfl⟩ := nx a5
    rw [H_X7_change_L16, zM h1.1 (by decide), Option.bind_some, if_pos (by omega)]
    refine ⟨n, S, J, Jr, rfl, ?_, hS⟩
    rw [show X = z1 % 10 + 1 by omega]; rfl
  | succ t ih =>
    intro fu fu2 n X J Jr S hS a1 a2 a3 a4 a5
    obtain ⟨fu, rfl⟩ := nx a5
    rw [H_X7_change_L16, zM h1.1 (by decide), Option.bind_some, if_neg (by omega), zD h2.1 (by omega) (by decide), Option.bind_some, wr_id (z := X + 1) (by omega)]
    have sk1 := r_skip (m := m) (wh := wh) (v := v) (Jr := Jr) (n := n) ⟨h1.1, h1.2.1⟩ ⟨h2.1, h2.2.1⟩ (z2 / 10).toNat (fu2 + 8 * t + (8 - (z2 / 10).toNat)) (8 * X) (by omega) (by omega) (fun i i0 i1 => by omega)
    obtain ⟨n1, S1, J1, Jr1, c1, c2, c3, c4, c5⟩ := seaY (m := m) wx sp hw hv (fun (zy39 : Int) (J40 : Jm) => H_X7_change_L16 E (w + 1) z1 z2 wh v (some (rowA w wh)) fu zy39 (X + 1) J40) (X := X) (by omega) ⟨h1.1, h1.2.1⟩ ⟨h2.1, h2.2.1, h2.2.2.2⟩ (z2 % 10 + 1 - z2 / 10).toNat 1000000 (fu2 + 8 * t + (7 - (z2 % 10).toNat)) n (z2 / 10) J Jr S hS (by omega) (by omega) a3 (by omega) (by omega)
    have sk2 := r_skip (m := m) (wh := wh) (v := v) (Jr := Jr1) (n := n1) ⟨h1.1, h1.2.1⟩ ⟨h2.1, h2.2.1⟩ (7 - (z2 % 10).toNat) (fu2 + 8 * t) (8 * X + (z2 % 10 + 1)) (by omega) (by omega) (fun i i0 i1 => by omega)
    obtain ⟨n', S', J', Jr', e1, e2, e3⟩ := ih fu fu2 n1 (X + 1) J1 Jr1 S1 c3 (by omega) (by omega) c4 (by omega) (by omega)
    refine ⟨n', S', J', Jr', c1.trans e1, ?_, e3⟩
    rw [show fu2 + 8 * (t + 1) = fu2 + 8 * t + (8 - (z2 / 10).toNat) + (z2 / 10).toNat by omega, sk1, show 8 * X + (((z2 / 10).toNat : Nat) : Int) = 8 * X + z2 / 10 by omega, show fu2 + 8 * t + (8 - (z2 / 10).toNat) = fu2 + 8 * t + (7 - (z2 % 10).toNat) + (z2 % 10 + 1 - z2 / 10).toNat by omega, c2, sk2, show 8 * X + (z2 % 10 + 1) + ((7 - (z2 % 10).toNat : Nat) : Int) = 8 * (X + 1) by omega]
    exact e2
theorem z_isSpan {z n : Int} : H_X11_isSpan z n = some (if 0 ≤ z ∧ z < 100 ∧ z / 10 ≤ z % 10 ∧ z % 10 < n then 1 else 0) := by
  unfold H_X11_isSpan
  by_cases h1 : z < 0
  · rw [if_pos h1, if_neg (by omega)]
  · rw [if_neg h1]
    by_cases h2 : 100 ≤ z
    · rw [if_pos h2, if_neg (by omega)]
    · rw [if_neg h2, zD (by omega) (by omega) (by decide), zM (by omega) (by decide)]
      simp only [Option.bind_some]
      by_cases h3 : z % 10 < z / 10
      · rw [if_pos h3, if_neg (by omega)]
      · rw [if_neg h3]
        by_cases h4 : n ≤ z % 10
        · rw [if_pos h4, if_neg (by omega)]
        · rw [if_neg h4, if_pos (by omega)]
theorem z_seaVal : H_X11_isSeaValue wh v = some (if (0 ≤ wh ∧ wh ≤ 2) ∧ 0 ≤ v ∧ v ≤ lim wh then 1 else 0) := by
  unfold H_X11_isSeaValue lim
  by_cases h0 : wh = 0
  · subst h0
    simp only [reduceIte]
    by_cases h1 : v < 0
    · rw [if_pos h1, if_neg (by omega)]
    · rw [if_neg h1]
      by_cases h2 : 4 < v
      · rw [if_pos h2, if_neg (by omega)]
      · rw [if_neg h2, if_pos (by omega)]
  · rw [if_neg h0, if_neg h0]
    by_cases h1 : wh = 1
    · rw [if_pos h1, if_pos h1]
      by_cases h2 : v = 0
      · rw [if_pos h2, if_pos (by omega)]
      · rw [if_neg h2]
        by_cases h3 : v = 1
        · rw [if_pos h3, if_pos (by omega)]
        · rw [if_neg h3, if_neg (by omega)]
    · rw [if_neg h1, if_neg h1]
      by_cases h2 : wh = 2
      · rw [if_pos h2]
        by_cases h3 : v < 0
        · rw [if_pos h3, if_neg (by omega)]
        · rw [if_neg h3]
          by_cases h4 : 99 < v
          · rw [if_pos h4, if_neg (by omega)]
          · rw [if_neg h4, if_pos (by omega)]
      · rw [if_neg h2, if_neg (by omega)]
theorem upL (hV : Vw E w J S) (hi : Inv S) (hR : Rf m Jr S) (h1 : 0 ≤ z1 ∧ z1 < 100) (h2 : 0 ≤ z2 ∧ z2 < 100) (k : Jm → Option (Int × Jm)) : ∀ (t fu fu2 : Nat) (i : Int), S 0 = i + t → 0 ≤ i → (∀ g : Int, 0 ≤ g → g < i → S (2202 + g) = 0 → ¬ (z1 / 10 ≤ S (2178 + g) ∧ S (2178 + g) ≤ z1 % 10 ∧ z2 / 10 ≤ S (2186 + g) ∧ S (2186 + g) ≤ z2 % 10)) → t < fu → t < fu2 →
    (H_X10_isAnyUpWithin_L2 E w z1 z2 J fu i = some 1 ∧ H_X12_sea_L104 k m z1 z2 0 0 fu2 i Jr = some (-3, Jr)) ∨ (H_X10_isAnyUpWithin_L2 E w z1 z2 J fu i = some 0 ∧ H_X12_sea_L104 k m z1 z2 0 0 fu2 i Jr = k Jr ∧ noUp S z1 z2 0 0) := by
  have h8 := i_gli hi
  intro t
  induction t with
  | zero =>
    intro fu fu2 i a1 a2 a3 a4 a5
    obtain ⟨fu, rfl⟩ := nx a4
    obtain ⟨fu2, rfl⟩ := nx a5
    rw [H_X10_isAnyUpWithin_L2, H_X12_sea_L104, v_gli hV.1, rL hR (by omega) (by omega), Option.bind_some, if_pos (by omega), if_pos (by omega)]
    exact Or.inr ⟨rfl, rfl, fun _ _ g g0 g1 => a3 g g0 (by omega)⟩
  | succ t ih =>
    intro fu fu2 i a1 a2 a3 a4 a5
    obtain ⟨fu, rfl⟩ := nx a4
    obtain ⟨fu2, rfl⟩ := nx a5
    obtain ⟨a, ea, -, hG⟩ := gR hV hi (g := i) (by omega)
    have hx := i_x hi (z := i) a2 (by omega)
    have hy := i_y hi (z := i) a2 (by omega)
    have e1 : (8 * S (2178 + i) + S (2186 + i)) / 8 = S (2178 + i) := by omega
    have e2 : (8 * S (2178 + i) + S (2186 + i)) % 8 = S (2186 + i) := by omega
    rw [H_X10_isAnyUpWithin_L2, H_X12_sea_L104, v_gli hV.1, rL hR (z := 0) (by omega) (by omega), Option.bind_some, if_neg (show ¬ S 0 ≤ i by omega), if_neg (show ¬ S 0 ≤ i by omega), ea]
    simp only [Option.bind_some]
    rw [g_cell hG, z_xOf (by omega), z_yOf (by omega), e1, e2, g_sta hG, zD h1.1 (by omega) (by decide), zD h2.1 (by omega) (by decide), zM h1.1 (by decide), zM h2.1 (by decide), wr_id (z := 2202 + i) (by omega), wr_id (z := 2178 + i) (by omega), wr_id (z := 2186 + i) (by omega), wr_id (z := i + 1) (by omega), rL hR (by omega) (by omega), rL hR (by omega) (by omega), rL hR (by omega) (by omega)]
    simp only [Option.bind_some, isq, z01, reduceIte]
    have go : (S (2202 + i) = 0 → ¬ (z1 / 10 ≤ S (2178 + i) ∧ S (2178 + i) ≤ z1 % 10 ∧ z2 / 10 ≤ S (2186 + i) ∧ S (2186 + i) ≤ z2 % 10)) → _ := fun hn => ih fu fu2 (i + 1) (by omega) (by omega) (fun g g0 g1 => by
      by_cases e : g = i
      · subst e; exact hn
      · exact a3 g g0 (by omega)) (by omega) (by omega)
    by_cases hu : S (2202 + i) = 0
    · rw [if_pos hu, if_pos hu]
      by_cases c1 : z1 / 10 ≤ S (2178 + i) ∧ S (2178 + i) ≤ z1 % 10
      · rw [if_neg (show ¬ S (2178 + i) < z1 / 10 by omega), if_neg (show ¬ z1 % 10 < S (2178 + i) by omega), if_pos c1]
        by_cases c2 : z2 / 10 ≤ S (2186 + i) ∧ S (2186 + i) ≤ z2 % 10
        · rw [if_neg (show ¬ S (2186 + i) < z2 / 10 by omega), if_neg (show ¬ z2 % 10 < S (2186 + i) by omega), if_pos c2]
          exact Or.inl ⟨rfl, rfl⟩
        · rw [if_neg c2]
          have g := go (fun _ q => c2 ⟨q.2.2.1, q.2.2.2⟩)
          by_cases c3 : S (2186 + i) < z2 / 10
          · rw [if_pos c3]; exact g
          · rw [if_neg c3, if_pos (by omega)]; exact g
      · rw [if_neg c1]
        have g := go (fun _ q => c1 ⟨q.1, q.2.1⟩)
        by_cases c3 : S (2178 + i) < z1 / 10
        · rw [if_pos c3]; exact g
        · rw [if_neg c3, if_pos (by omega)]; exact g
    · rw [if_neg hu, if_neg hu]
      exact go (fun q => absurd q hu)
theorem upN (hi : Inv S) (hR : Rf m Jr S) (k : Jm → Option (Int × Jm)) (hn : ¬ (wh = 0 ∧ v = 0)) : ∀ (t fu2 : Nat) (i : Int), S 0 = i + t → 0 ≤ i → t < fu2 → H_X12_sea_L104 k m z1 z2 wh v fu2 i Jr = k Jr := by
  have h8 := i_gli hi
  intro t
  induction t with
  | zero =>
    intro fu2 i a1 a2 a5
    obtain ⟨fu2, rfl⟩ := nx a5
    rw [H_X12_sea_L104, rL hR (by omega) (by omega), Option.bind_some, if_pos (by omega)]
  | succ t ih =>
    intro fu2 i a1 a2 a5
    obtain ⟨fu2, rfl⟩ := nx a5
    rw [H_X12_sea_L104, rL hR (z := 0) (by omega) (by omega), Option.bind_some, if_neg (show ¬ S 0 ≤ i by omega), wr_id (z := i + 1) (by omega)]
    have g := ih fu2 (i + 1) (by omega) (by omega) (by omega)
    by_cases c1 : wh = 0
    · rw [if_pos c1, if_neg (fun q => hn ⟨c1, q⟩)]; exact g
    · rw [if_neg c1]; exact g
theorem b0 (wx : W11 E x) (sp : Sp E (x + 1)) (hV : Vw E (x + 1) J S) (hi : Inv S) (hR : Rf m Jr S) (z1 z2 z3 z4 : Int) (h1r : -2147483648 ≤ z1 ∧ z1 ≤ 2147483647) (h2r : -2147483648 ≤ z2 ∧ z2 ≤ 2147483647) : Bi E (x + 1) m S J Jr (H_X11_sea E x z1 z2 z3 z4 J) (H_X12_sea m z1 z2 z3 z4 Jr) := by
  have h8 := i_gli hi
  have w10 := wx.2.1.2
  unfold H_X11_sea
  rw [z_isSpan, z_isSpan, z_seaVal]
  simp only [Option.bind_some, z01, jp]
  by_cases hall : ((0 ≤ z1 ∧ z1 < 100 ∧ z1 / 10 ≤ z1 % 10 ∧ z1 % 10 < 10) ∧ (0 ≤ z2 ∧ z2 < 100 ∧ z2 / 10 ≤ z2 % 10 ∧ z2 % 10 < 8)) ∧ (0 ≤ z3 ∧ z3 ≤ 2) ∧ 0 ≤ z4 ∧ z4 ≤ lim z3
  · obtain ⟨⟨h1, h2⟩, h3, h4⟩ := hall
    rw [if_pos h1, if_pos h2, if_pos ⟨h3, h4⟩]
    have ref : ∀ Jr : Jm, H_X12_sea m z1 z2 z3 z4 Jr = H_X12_sea_L104 (fun (J60 : Jm) => H_X12_sea_L205 m z1 z2 z3 z4 1000000 0 0 J60) m z1 z2 z3 z4 1000000 0 Jr := by
      intro Jr
      unfold H_X12_sea
      rw [if_neg (show ¬ z1 < 0 by omega), if_neg (show ¬ z2 < 0 by omega), zD h1.1 (by omega) (by decide), zD h2.1 (by omega) (by decide), zM h1.1 (by decide), zM h2.1 (by decide)]
      simp only [Option.bind_some, z_rIsCell, z01, isq, nv]
      rw [if_pos (show 0 ≤ z1 / 10 ∧ z1 / 10 < 10 ∧ 0 ≤ z2 / 10 ∧ z2 / 10 < 8 by omega), if_pos (show 0 ≤ z1 % 10 ∧ z1 % 10 < 10 ∧ 0 ≤ z2 % 10 ∧ z2 % 10 < 8 by omega), if_neg (show ¬ z1 % 10 < z1 / 10 by omega), if_neg (show ¬ z2 % 10 < z2 / 10 by omega), if_pos h3]
      exact if_pos h4
    rw [ref]
    have main : noUp S z1 z2 z3 z4 → Bi E (x + 1) m S J Jr ((H_X7_change E (x + 1 + 1) z1 z2 z3 z4 J).bind fun (zv18, J16) => some (zv18, J16)) (H_X12_sea_L205 m z1 z2 z3 z4 1000000 0 0 Jr) := by
      intro hno
      unfold H_X7_change
      have er : H_X7_cellRow (x + 1 + 1) z3 = some (some (rowA (x + 1) z3)) := by
        unfold H_X7_cellRow rowA
        split
        · rfl
        · split <;> rfl
      rw [er, Option.bind_some, zD h1.1 (by omega) (by decide), Option.bind_some]
      have sk1 := r_skip (m := m) (wh := z3) (v := z4) (Jr := Jr) (n := 0) ⟨h1.1, h1.2.1⟩ ⟨h2.1, h2.2.1⟩ (8 * (z1 / 10)).toNat (1000000 - (8 * (z1 / 10)).toNat) 0 (by omega) (by omega) (fun i i0 i1 => by omega)
      obtain ⟨n', S', J', Jr', e1, e2, e3⟩ := seaX (m := m) w10 sp h3 h4 ⟨h1.1, h1.2.1, h1.2.2.1⟩ ⟨h2.1, h2.2.1, h2.2.2.1, h2.2.2.2⟩ (z1 % 10 + 1 - z1 / 10).toNat 1000000 (1000000 - (8 * (z1 % 10 + 1)).toNat) 0 (z1 / 10) J Jr S ⟨hV, hR, hi, hno, fun _ _ => rfl, fun _ _ => rfl⟩ (by omega) (by omega) (by omega) (by omega) (by omega)
      have sk2 := r_skip (m := m) (wh := z3) (v := z4) (Jr := Jr') (n := n') ⟨h1.1, h1.2.1⟩ ⟨h2.1, h2.2.1⟩ (80 - (8 * (z1 % 10 + 1)).toNat) (1000000 - 80) (8 * (z1 % 10 + 1)) (by omega) (by omega) (fun i i0 i1 => by omega)
      rw [e1, show (1000000 : Nat) = 1000000 - (8 * (z1 / 10)).toNat + (8 * (z1 / 10)).toNat by omega, sk1, show (0 : Int) + (((8 * (z1 / 10)).toNat : Nat) : Int) = 8 * (z1 / 10) by omega, show 1000000 - (8 * (z1 / 10)).toNat = 1000000 - (8 * (z1 % 10 + 1)).toNat + 8 * (z1 % 10 + 1 - z1 / 10).toNat by omega, e2, show 1000000 - (8 * (z1 % 10 + 1)).toNat = 1000000 - 80 + (80 - (8 * (z1 % 10 + 1)).toNat) by omega, sk2, show 8 * (z1 % 10 + 1) + ((80 - (8 * (z1 % 10 + 1)).toNat : Nat) : Int) = 80 by omega, show (1000000 : Nat) - 80 = 999919 + 1 from rfl, H_X12_sea_L205, if_pos (by decide)]
      obtain ⟨s1, s2, s3, s4, s5, s6⟩ := e3
      exact ⟨n', S', J', Jr', rfl, rfl, s1, s2, s3, fun b hb _ => s5 b (by omega), ⟨fun b hb => s6 b (by omega), by rw [s6 m (by omega)], fun h p hp => by rw [s6 (m + 8) (by omega)]; exact h p hp⟩⟩
    by_cases c3 : z3 = 0
    · rw [if_pos c3]
      by_cases c4 : z4 = 0
      · rw [if_pos c4]
        unfold H_X10_isAnyUpWithin
        have hup := upL hV hi hR ⟨h1.1, h1.2.1⟩ ⟨h2.1, h2.2.1⟩ (fun (J60 : Jm) => H_X12_sea_L205 m z1 z2 z3 z4 1000000 0 0 J60) (S 0).toNat 1000000 1000000 0 (by omega) (by omega) (fun g g0 g1 => by omega) (by omega) (by omega)
        have e34 : H_X12_sea_L104 (fun (J60 : Jm) => H_X12_sea_L205 m z1 z2 z3 z4 1000000 0 0 J60) m z1 z2 z3 z4 1000000 0 Jr = H_X12_sea_L104 (fun (J60 : Jm) => H_X12_sea_L205 m z1 z2 z3 z4 1000000 0 0 J60) m z1 z2 0 0 1000000 0 Jr := by rw [c3, c4]
        rw [e34]
        rcases hup with ⟨u1, u2⟩ | ⟨u1, u2, u3⟩
        · rw [u1, u2, Option.bind_some, if_neg (by decide)]
          exact bi_no hV hi hR rfl rfl
        · rw [u1, u2, Option.bind_some, if_pos rfl]
          exact main (by rw [c3, c4]; exact u3)
      · rw [if_neg c4, upN hi hR _ (fun q => c4 q.2) (S 0).toNat 1000000 0 (by omega) (by omega) (by omega)]
        exact main (fun _ q => absurd q c4)
    · rw [if_neg c3, upN hi hR _ (fun q => c3 q.1) (S 0).toNat 1000000 0 (by omega) (by omega) (by omega)]
      exact main (fun q => absurd q c3)
  · have hcl : (if 0 ≤ z1 ∧ z1 < 100 ∧ z1 / 10 ≤ z1 % 10 ∧ z1 % 10 < 10 then (if 0 ≤ z2 ∧ z2 < 100 ∧ z2 / 10 ≤ z2 % 10 ∧ z2 % 10 < 8 then (if (0 ≤ z3 ∧ z3 ≤ 2) ∧ 0 ≤ z4 ∧ z4 ≤ lim z3 then (0 : Int) else 1) else 1) else 1) = 1 := by
      split
      · rename_i q1
        split
        · rename_i q2
          split
          · rename_i q3
            exact absurd ⟨⟨q1, q2⟩, q3.1, q3.2⟩ hall
          · rfl
        · rfl
      · rfl
    have hre : H_X12_sea m z1 z2 z3 z4 Jr = some (-1, Jr) := by
      unfold H_X12_sea
      by_cases q1 : z1 < 0
      · rw [if_pos q1]
      · rw [if_neg q1]
        by_cases q2 : z2 < 0
        · rw [if_pos q2]
        · rw [if_neg q2, zD (by omega) (by omega) (by decide), zD (by omega) (by omega) (by decide), zM (by omega) (by decide), zM (by omega) (by decide)]
          simp only [Option.bind_some, z_rIsCell, z01, isq, nv]
          rw [show (if z3 = 0 then (4 : Int) else if z3 = 1 then 1 else 99) = lim z3 from rfl]
          split
          · split
            · split
              · rfl
              · split
                · rfl
                · split
                  · split
                    · rename_i k1 k2 k3 k4 k5 k6
                      exact absurd ⟨⟨by omega, by omega⟩, k5, k6⟩ hall
                    · rfl
                  · rfl
            · rfl
          · rfl
    rw [hre]
    refine bi_no hV hi hR ?_ rfl
    by_cases q1 : 0 ≤ z1 ∧ z1 < 100 ∧ z1 / 10 ≤ z1 % 10 ∧ z1 % 10 < 10
    · rw [if_pos q1]
      by_cases q2 : 0 ≤ z2 ∧ z2 < 100 ∧ z2 / 10 ≤ z2 % 10 ∧ z2 % 10 < 8
      · rw [if_pos q2, if_neg (fun q3 => hall ⟨⟨q1, q2⟩, q3⟩)]
      · rw [if_neg q2]
    · rw [if_neg q1]
end SEA
