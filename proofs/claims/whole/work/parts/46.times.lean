/-! GLIDERS ACT; TIMES -/
section ACT
variable {E : Em} {w x m a q : Nat} {J0 J Jr : Jm} {S : Int → Int} {n g p v t f k : Int}
theorem cutq {z k : Int} (hz : -100 ≤ z ∧ z ≤ 100) (hk : 0 ≤ k ∧ k ≤ 100) : ∃ c : Int, H_X10_cut z k = some c ∧ H_X12_cut m z k = some c ∧ -k ≤ c ∧ c ≤ k := by
  unfold H_X10_cut H_X12_cut mxZ mnZ
  rw [wr_id (z := -k) (by omega)]
  by_cases h1 : z ≤ k
  · by_cases h2 : -k ≤ z
    · exact ⟨z, congrArg some (by (repeat' split) <;> omega), by rw [if_pos h1, if_pos h2], h2, h1⟩
    · exact ⟨-k, congrArg some (by (repeat' split) <;> omega), by rw [if_pos h1, if_neg h2], by omega, by omega⟩
  · exact ⟨k, congrArg some (by (repeat' split) <;> omega), by rw [if_neg h1], by omega, by omega⟩
theorem goq {z y k : Int} (hz : -100 ≤ z ∧ z ≤ 100) (hy : -100 ≤ y ∧ y ≤ 100) (hk : 0 ≤ k ∧ k ≤ 4) : ∃ ce cn A : Int, H_X10_cut z k = some ce ∧ H_X12_cut m z k = some ce ∧ abZ ce = A ∧ H_X12_abs m ce = some A ∧ wr (k - A) = k - A ∧ H_X10_cut y (k - A) = some cn ∧ H_X12_cut m y (k - A) = some cn ∧ -4 ≤ ce ∧ ce ≤ 4 ∧ -4 ≤ cn ∧ cn ≤ 4 := by
  obtain ⟨ce, x1, x2, x3, x4⟩ := cutq (m := m) hz (k := k) ⟨hk.1, by omega⟩
  have hA : ∃ A : Int, A = (if 0 ≤ ce then ce else -ce) ∧ 0 ≤ A ∧ A ≤ k := ⟨_, rfl, by split <;> omega, by split <;> omega⟩
  obtain ⟨A, hA, a0, a1⟩ := hA
  obtain ⟨cn, y1, y2, y3, y4⟩ := cutq (m := m) hy (k := k - A) ⟨by omega, by omega⟩
  have b1 : -4 ≤ ce := by omega
  have b2 : ce ≤ 4 := by omega
  have b3 : -4 ≤ cn := by omega
  have b4 : cn ≤ 4 := by omega
  exact ⟨ce, cn, A, x1, x2, (z_abs (by omega)).trans hA.symm, (r_abs (by omega)).trans (congrArg some hA.symm), wr_id (by omega), y1, y2, b1, b2, b3, b4⟩
theorem bik_no {r : Int} {C D : Option (Int × Jm)} {Jr2 : Jm} (hV : Vw E w J S) (hi : Inv S) (hR : Rf m Jr2 S) (hF : FrM m Jr Jr2) (h1 : C = some (r, J)) (h2 : D = some (r, Jr2)) : BiK E w m S J Jr C D := ⟨r, S, J, Jr2, h1, h2, hV, hR, hi, FrC.r, hF, rfl⟩
theorem aRul_at : ∀ (l : List Ru) (i j : Nat) (z : Int × Ru) (vf : Int → Int), aRul J q l i j → chV vf l (i : Int) = some z → ∃ zn : Nat, z.1 = (zn : Int) ∧ i ≤ zn ∧ zn < i + l.length ∧ wfA z.2.2 ∧ J (q + 2) zn = (if z.2.2.1 = 117 then 0 else if z.2.2.1 = 115 then 1 else 2) ∧ J (q + 3) zn = 8 * z.2.2.2.1 + z.2.2.2.2.1 ∧ J (q + 4) zn = z.2.2.2.2.2
  | [], _, _, _, _, _, h => by cases h
  | r :: l, i, j, z, vf, h1, h => by
    obtain ⟨⟨aw, a1, a2, a3, a4⟩, a5, a6⟩ := h1
    unfold chV at h
    split at h
    · obtain ⟨zn, b1, b2, b3, b4⟩ := aRul_at l (i + 1) _ z vf a6 (by rw [show ((i + 1 : Nat) : Int) = (i : Int) + 1 by omega]; exact h)
      exact ⟨zn, b1, by omega, by rw [List.length_cons]; omega, b4⟩
    · cases h
      exact ⟨i, rfl, Nat.le_refl _, by rw [List.length_cons]; omega, aw, a2, a3, a4⟩
theorem b_obey (sp : Sp E w) (hV : Vw E w J S) (hi : Inv S) (hR : Rf m Jr S) (hg : 0 ≤ g ∧ g < S 0) (ha : E.2.1 (w + 13) g.toNat = some a) (hu : S (2202 + g) = 0) (hor : 0 ≤ S (2226 + g) ∧ S (2226 + g) < S 4) (hO : OrdA J q (oT S (S (2226 + g))) (S (8359 + S (2226 + g)))) : BiK E w m S J Jr (H_X10_obey E w a q J) (H_X12_acts m g Jr) := by
  obtain ⟨L, c3, c4, c5, c6⟩ := hO
  have h8 := i_gli hi
  have ho := i_orc hi
  have hG := gCur hV hg ha
  have hk := i_kind hi (z := g) hg.1 (by omega)
  have hl := i_lea hi (z := g) hg.1 (by omega)
  have hx := i_x hi (z := g) hg.1 (by omega)
  have hy := i_y hi (z := g) hg.1 (by omega)
  have hs := zsk_r (S (2170 + g))
  have hgo := zgk_r (S (2170 + g))
  have e1 : (8 * S (2178 + g) + S (2186 + g)) / 8 = S (2178 + g) := by omega
  have e2 : (8 * S (2178 + g) + S (2186 + g)) % 8 = S (2186 + g) := by omega
  unfold H_X10_obey H_X12_acts
  rw [c_ruleFor hV.1 hi hg hG c4 c5 c6, Option.bind_some, wr_id (z := 2226 + g) (by omega), rL hR (by omega) (by omega), Option.bind_some, if_neg (show ¬ S (2226 + g) < 0 by omega), Option.bind_some]
  obtain ⟨J2, f1, f2, f3, f4⟩ := r_goes1 hi hR (k := S (2226 + g)) (by omega) (show 0 ≤ g ∧ g < 8 by omega)
  rw [c3] at f1 f4
  have f4 := f4 rfl
  rw [f1, Option.bind_some]
  dsimp only at f4 ⊢
  rw [if_pos rfl, if_neg (show ¬ (1 : Int) = 0 by decide)]
  cases hch : chV (fvS S g) L 0 with
  | none =>
    dsimp only
    rw [f4.1 hch, if_pos (show (-4 : Int) < 0 by decide), if_pos (show (-4 : Int) < 0 by decide)]
    exact bik_no hV hi f2 f3 rfl rfl
  | some z =>
    obtain ⟨i, r⟩ := z
    obtain ⟨g1, g2, g3, g4, g5⟩ := f4.2 i r hch
    obtain ⟨zn, b1, b2, b3, ⟨w1, w2, w3, w4⟩, b5, b6, b7⟩ := aRul_at L 0 0 (i, r) (fvS S g) c4.2 hch
    dsimp only at b1 b5 b6 b7 w1 w2 w3 w4 ⊢
    subst b1
    obtain ⟨ac, hac⟩ : ∃ ac : Int, (if r.2.1 = 117 then (0 : Int) else if r.2.1 = 115 then 1 else 2) = ac := ⟨_, rfl⟩
    rw [hac] at b5
    rw [if_neg (show ¬ ((zn : Int) < 0) by omega), q_jL (by omega), b5, Option.bind_some, g1, if_neg (show ¬ ((zn : Int) < 0) by omega), g2]
    by_cases a0 : r.2.1 = 117
    · rw [if_pos a0] at hac
      rw [if_pos hac.symm, if_pos a0]
      exact bik_no hV hi f2 f3 rfl rfl
    · have na : ¬ ac = 0 := by rw [← hac, if_neg a0]; split <;> decide
      rw [if_neg na, if_neg a0, q_jL (by omega), b7, Option.bind_some, c_deep hk (g_kind hG), Option.bind_some, g5, r_layerFor f2 (by omega), Option.bind_some, wr_id (z := 2194 + g) (by omega), rL f2 (by omega) (by omega), Option.bind_some]
      have hd : 0 ≤ mnZ r.2.2.2.2 (zsk (S (2170 + g))) ∧ mnZ r.2.2.2.2 (zsk (S (2170 + g))) ≤ 3 := by unfold mnZ; split <;> omega
      generalize mnZ r.2.2.2.2 (zsk (S (2170 + g))) = d at hd ⊢
      rw [c_cost hk hl hd (g_kind hG) (g_lea hG), r_cost f2 (by omega) hd, g_pow hG]
      simp only [Option.bind_some]
      by_cases hp : zck (S (2170 + g)) (S (2210 + g)) d ≤ S (2194 + g)
      · rw [if_pos hp, if_pos hp]
        simp only [jp, Option.bind_some]
        have dv : ∀ e n : Int, -4 ≤ e → e ≤ 4 → -4 ≤ n → n ≤ 4 → BiK E w m S J Jr ((H_X10_descend E w a d e n J).bind fun (zv29, J27) => some ((1 : Int), J27)) ((H_X12_dives m g d e n J2).bind fun (zv37, J35) => some ((1 : Int), J35)) := by
          intro e n e0 e1 n0 n1
          obtain ⟨r, S', K1, K2, b1, b2, b3, b4, b5, b6, b7, b8⟩ := b_dive sp hV hi f2 hg ha hu hd hp (e := e) (n := n) ⟨e0, e1⟩ ⟨n0, n1⟩
          rw [b1, b2]
          exact ⟨1, S', K1, K2, rfl, rfl, b3, b4, b5, b6, f3.t b7, b8⟩
        by_cases a1 : r.2.1 = 115
        · have e2 : ¬ ac = 2 := by rw [← hac, if_neg a0, if_pos a1]; decide
          rw [if_neg e2, g2, if_pos a1, if_pos a1]
          exact dv 0 0 (by omega) (by omega) (by omega) (by omega)
        · have e3 : ac = 2 := by rw [← hac, if_neg a0, if_neg a1]
          have xg : (8 * r.2.2.1 + r.2.2.2.1) / 8 = r.2.2.1 := by omega
          have yg : (8 * r.2.2.1 + r.2.2.2.1) % 8 = r.2.2.2.1 := by omega
          obtain ⟨ce, cn, A, x1, x2, x3, x4, x5, x6, x7, x8, x9, x10, x11⟩ := goq (m := m) (z := r.2.2.1 - S (2178 + g)) (y := r.2.2.2.1 - S (2186 + g)) (k := zgk (S (2170 + g))) (by omega) (by omega) (by omega)
          have y1 : wr (r.2.2.1 - S (2178 + g)) = r.2.2.1 - S (2178 + g) := wr_id (by omega)
          have y2 : wr (r.2.2.2.1 - S (2186 + g)) = r.2.2.2.1 - S (2186 + g) := wr_id (by omega)
          have y3 : wr (2178 + g) = 2178 + g := wr_id (by omega)
          have y4 : wr (2186 + g) = 2186 + g := wr_id (by omega)
          have w5 : H_X11_xOf (8 * r.2.2.1 + r.2.2.2.1) = some r.2.2.1 := (z_xOf (by omega)).trans (congrArg some xg)
          have w6 : H_X11_yOf (8 * r.2.2.1 + r.2.2.2.1) = some r.2.2.2.1 := (z_yOf (by omega)).trans (congrArg some yg)
          have w7 : H_X11_xOf (J a 1) = some (S (2178 + g)) := by rw [g_cell hG]; exact (z_xOf (by omega)).trans (congrArg some e1)
          have w8 : H_X11_yOf (J a 1) = some (S (2186 + g)) := by rw [g_cell hG]; exact (z_yOf (by omega)).trans (congrArg some e2)
          have w9 : jL J (q + 3) 6 (zn : Int) = some (8 * r.2.2.1 + r.2.2.2.1) := by rw [q_jL (by omega), b6]
          have u1 : jL J2 (m + 1) 8369 (2178 + g) = some (S (2178 + g)) := rL f2 (by omega) (by omega)
          have u2 : jL J2 (m + 1) 8369 (2186 + g) = some (S (2186 + g)) := rL f2 (by omega) (by omega)
          have u3 : H_X12_goes m g J2 = some (zgk (S (2170 + g))) := r_goes f2 (by omega)
          have goal := dv ce cn x8 x9 x10 x11
          rw [if_pos e3, g2, if_neg a1, w9, Option.bind_some, w5, Option.bind_some, w7, Option.bind_some, c_reach hk (g_kind hG), Option.bind_some, y1, x1, Option.bind_some, Option.bind_some, w6, Option.bind_some, w8, Option.bind_some, Option.bind_some, y2, x3, x5, x6, Option.bind_some, y3, u1, Option.bind_some, u3, Option.bind_some, g3, y1, x2, Option.bind_some, if_neg a1, y4, u2, Option.bind_some, Option.bind_some, x4, Option.bind_some, g4, y2, x5, x7, Option.bind_some]
          exact goal
      · rw [if_neg hp, if_neg hp]
        exact bik_no hV hi f2 f3 rfl rfl
theorem acts_r (h : H_X12_acts m g Jr = some (v, J)) : v = 0 ∨ v = 1 := by
  unfold H_X12_acts at h
  cases h1 : jL Jr (m + 1) 8369 (wr (2226 + g)) with
  | none => rw [h1] at h; cases h
  | some z =>
    rw [h1, Option.bind_some] at h
    by_cases c1 : z < 0
    · rw [if_pos c1] at h; cases h; exact Or.inl rfl
    · rw [if_neg c1, Option.bind_some] at h
      cases h2 : H_X12_goesOrder m z g Jr with
      | none => rw [h2] at h; cases h
      | some y =>
        obtain ⟨y, J8⟩ := y
        rw [h2, Option.bind_some] at h
        dsimp only at h
        by_cases c2 : y = 0
        · rw [if_pos c2] at h; cases h; exact Or.inl rfl
        · rw [if_neg c2] at h
          by_cases c3 : J8 m 16 < 0
          · rw [if_pos c3] at h; cases h; exact Or.inl rfl
          · rw [if_neg c3] at h
            by_cases c4 : J8 m 17 = 117
            · rw [if_pos c4] at h; cases h; exact Or.inl rfl
            · rw [if_neg c4] at h
              cases h3 : H_X12_layerFor m g (J8 m 20) J8 with
              | none => rw [h3] at h; cases h
              | some d =>
                rw [h3, Option.bind_some] at h
                cases h4 : jL J8 (m + 1) 8369 (wr (2194 + g)) with
                | none => rw [h4] at h; cases h
                | some po =>
                  rw [h4, Option.bind_some] at h
                  cases h5 : H_X12_cost m g d J8 with
                  | none => rw [h5] at h; cases h
                  | some co =>
                    rw [h5, Option.bind_some] at h
                    by_cases c5 : co ≤ po
                    · rw [if_pos c5] at h
                      simp only [jp] at h
                      have fin : ∀ (e n : Int) (J9 : Jm), ((H_X12_dives m g d e n J9).bind fun (zv37, J35) => some ((1 : Int), J35)) = some (v, J) → v = 1 := by
                        intro e n J9 hh
                        cases h6 : H_X12_dives m g d e n J9 with
                        | none => rw [h6] at hh; cases hh
                        | some u => rw [h6] at hh; cases hh; rfl
                      by_cases c6 : J8 m 17 = 115
                      · rw [if_pos c6, if_pos c6] at h
                        exact Or.inr (fin _ _ _ h)
                      · simp only [if_neg c6] at h
                        cases h7 : jL J8 (m + 1) 8369 (wr (2178 + g)) with
                        | none => rw [h7] at h; cases h
                        | some u1 =>
                          rw [h7, Option.bind_some] at h
                          cases h8 : H_X12_goes m g J8 with
                          | none => rw [h8] at h; cases h
                          | some u2 =>
                            rw [h8, Option.bind_some] at h
                            cases h9 : H_X12_cut m (wr (J8 m 18 - u1)) u2 with
                            | none => rw [h9] at h; cases h
                            | some u3 =>
                              rw [h9, Option.bind_some] at h
                              cases h10 : jL J8 (m + 1) 8369 (wr (2186 + g)) with
                              | none => rw [h10] at h; cases h
                              | some u4 =>
                                rw [h10, Option.bind_some, Option.bind_some] at h
                                cases h11 : H_X12_abs m u3 with
                                | none => rw [h11] at h; cases h
                                | some u5 =>
                                  rw [h11, Option.bind_some] at h
                                  cases h12 : H_X12_cut m (wr (J8 m 19 - u4)) (wr (u2 - u5)) with
                                  | none => rw [h12] at h; cases h
                                  | some u6 =>
                                    rw [h12, Option.bind_some] at h
                                    exact Or.inr (fin _ _ _ h)
                    · rw [if_neg c5] at h; cases h; exact Or.inl rfl
theorem b_obeyL (sp : Sp E w) (K : Int → Jm → Option (Int × Jm)) {J0 Jr0 : Jm} {S0 : Int → Int} : ∀ (n fu fu2 : Nat) (i r : Int) (J Jr : Jm) (S : Int → Int), Tw E w m J0 Jr0 J Jr S0 S → S 0 = i + n → 0 ≤ i → (0 ≤ r ∧ r ≤ i) → n < fu → n < fu2 → ∃ (r' : Int) (S' : Int → Int) (J1 J2 : Jm), H_X10_obeyAll_L4 E w fu r i J = some (r', J1) ∧ H_X12_goTime_L53 K m fu2 r i Jr = K r' J2 ∧ Tw E w m J0 Jr0 J1 J2 S0 S' ∧ 0 ≤ r' ∧ r' ≤ 8 := by
  intro n
  induction n with
  | zero =>
    intro fu fu2 i r J Jr S hT h1 h2 hr h3 h4
    obtain ⟨fu, rfl⟩ := nx h3
    obtain ⟨fu2, rfl⟩ := nx h4
    have hT' := hT
    obtain ⟨t1, t2, t3, t4, t5, t6⟩ := hT
    have h8 := i_gli t3
    rw [H_X10_obeyAll_L4, H_X12_goTime_L53, v_gli t1.1, rL t2 (by omega) (by omega), Option.bind_some, if_pos (by omega), if_pos (by omega)]
    exact ⟨r, S, J, Jr, rfl, rfl, hT', by omega, by omega⟩
  | succ n ih =>
    intro fu fu2 i r J Jr S hT h1 h2 hr h3 h4
    obtain ⟨fu, rfl⟩ := nx h3
    obtain ⟨fu2, rfl⟩ := nx h4
    have hT' := hT
    obtain ⟨t1, t2, t3, t4, t5, t6, t7⟩ := hT
    have h8 := i_gli t3
    obtain ⟨a, ea, ha, hG⟩ := gR t1 t3 (g := i) (by omega)
    have no := ih fu fu2 (i + 1) r J Jr S hT' (by omega) (by omega) (by omega) (by omega) (by omega)
    rw [H_X10_obeyAll_L4, H_X12_goTime_L53, v_gli t1.1, rL t2 (z := 0) (by omega) (by omega), Option.bind_some, if_neg (show ¬ S 0 ≤ i by omega), if_neg (show ¬ S 0 ≤ i by omega), ea]
    simp only [Option.bind_some]
    rw [g_sta hG, r_isUp t2 (by omega), Option.bind_some, z01, wr_id (z := i + 1) (by omega)]
    by_cases hu : S (2202 + i) = 0
    · rw [if_pos hu]
      rcases c_orderOf t1 t3 (g := i) (by omega) hG with ⟨c1, c2⟩ | ⟨q, c1, c2, c3⟩
      · rw [c2, Option.bind_some, if_pos hu]
        unfold H_X12_acts
        rw [wr_id (z := 2226 + i) (by omega), rL t2 (by omega) (by omega), Option.bind_some, if_pos (show S (2226 + i) < 0 by omega), Option.bind_some]
        simp only [oe, nv]
        rw [if_pos trivial, Int.add_zero, wr_id (z := r) (by omega)]
        exact no
      · rw [c2, Option.bind_some, if_pos hu]
        simp only [oe, nv]
        obtain ⟨v, S', J1, J2, b1, b2, b3, b4, b5, b6, b7, b8⟩ := b_obey sp t1 t3 t2 (g := i) (by omega) ha hu c1 c3
        have hv := acts_r b2
        have e0 : S' 0 = S 0 := by rw [← v_gli b3.1, ← v_gli t1.1, b8]
        have e1 : S' 1 = S 1 := by rw [← v_tim b3.1, ← v_tim t1.1, b8]
        have hT2 : Tw E w m J0 Jr0 J1 J2 S0 S' := ⟨b3, b4, b5, t4.t b6, t5.t b7, e0.trans t6, e1.trans t7⟩
        rw [b1, b2, Option.bind_some, Option.bind_some]
        dsimp only
        rcases hv with hv | hv
        · subst hv
          rw [if_pos rfl, if_pos rfl, Int.add_zero, wr_id (z := r) (by omega)]
          exact ih fu fu2 (i + 1) r J1 J2 S' hT2 (by omega) (by omega) (by omega) (by omega) (by omega)
        · subst hv
          rw [if_neg (by decide), if_neg (by decide), wr_id (z := r + 1) (by omega)]
          exact ih fu fu2 (i + 1) (r + 1) J1 J2 S' hT2 (by omega) (by omega) (by omega) (by omega) (by omega)
    · rw [if_neg hu]
      cases hc : H_X10_orderOf E w a J with
      | none =>
        rcases c_orderOf t1 t3 (g := i) (by omega) hG with ⟨c1, c2⟩ | ⟨q, c1, c2, c3⟩ <;> rw [hc] at c2 <;> cases c2
      | some u =>
        rw [Option.bind_some, if_neg hu, Int.add_zero, wr_id (z := r) (by omega)]
        exact no
/-- one TIME, both sides -/
theorem b_time (sp : Sp E w) (hV : Vw E w J S) (hi : Inv S) (hR : Rf m Jr S) (ht : S 1 < 400) : ∃ (r : Int) (S' : Int → Int) (J1 J2 : Jm), ((H_X10_hearAll E w J).bind fun J11 => (H_X10_obeyAll E w J11).bind fun (zv17, J15) => (H_X7_growDoubt (w + 1) J15).bind fun J22 => nv (jW J22 w 3 (wr ((J22 w 3) + 1))) fun J27 => some (zv17, J27)) = some (r, J1) ∧ H_X12_goTime m Jr = some (r, J2) ∧ Vw E w J1 S' ∧ Rf m J2 S' ∧ Inv S' ∧ FrC E w J J1 ∧ FrM m Jr J2 ∧ S' 1 = S 1 + 1 ∧ 0 ≤ r ∧ r ≤ 8 := by
  have h8 := i_gli hi
  have h1 := i_tim hi
  have hde := i_dea hi (z := S 1) (by omega) (by omega)
  have start : ∃ (S1 : Int → Int) (J1 J2 : Jm), H_X10_hearAll E w J = some J1 ∧ H_X12_goTime m Jr = H_X12_goTime_L53 (fun (zy35 : Int) (J36 : Jm) => H_X12_goTime_L95 m zy35 1000000 0 J36) m 1000000 0 0 J2 ∧ Tw E w m J Jr J1 J2 S S1 := by
    unfold H_X10_hearAll H_X12_goTime
    rw [v_tim hV.1, vL_dea hV.1 (by omega) (by omega), Option.bind_some]
    by_cases hd : S (3950 + S 1) = 1
    · rw [if_pos hd, r_deafL _ 0 hi hR (by omega) (by omega) (S 0).toNat 1000000 0 (by omega) (by omega) (by omega)]
      exact ⟨S, J, Jr, rfl, rfl, hV, hR, hi, FrC.r, FrM.r, rfl, rfl⟩
    · rw [if_neg hd]
      obtain ⟨S1, J1, J2, f1, f2, f3⟩ := b_hearL sp (fun (J19 : Jm) => H_X12_goTime_L53 (fun (zy35 : Int) (J36 : Jm) => H_X12_goTime_L95 m zy35 1000000 0 J36) m 1000000 0 0 J19) 0 (J0 := J) (Jr0 := Jr) ht (by omega) (S 0).toNat 1000000 1000000 0 J Jr S ⟨hV, hR, hi, FrC.r, FrM.r, rfl, rfl⟩ (by omega) (by omega) (by omega) (by omega) (by omega)
      exact ⟨S1, J1, J2, f1, f2, f3⟩
  obtain ⟨S1, J1, J2, f1, f2, f3⟩ := start
  have h81 := i_gli f3.2.2.1
  obtain ⟨r, S2, J3, J4, g1, g2, g3, g4, g5⟩ := b_obeyL sp (fun (zy35 : Int) (J36 : Jm) => H_X12_goTime_L95 m zy35 1000000 0 J36) (S1 0).toNat 1000000 1000000 0 0 J1 J2 S1 f3 (by omega) (by omega) (by omega) (by omega) (by omega)
  obtain ⟨u1, u2, u3, u4, u5, u6, u7⟩ := g3
  obtain ⟨S3, J5, J6, k1, k2, k3, k4, k5, k6, k7, k8⟩ := b_grow sp r 80 1000000 1000000 0 J3 J4 S2 u1 u2 u3 (by omega) (by omega) (by omega) (by omega)
  have e1 : S3 1 = S 1 := (k8 1 (by omega)).trans u7
  have v9 := vwS k3 sp k5.1 (by omega) (by omega) (vW_tim (v := S 1 + 1) k3.1)
  have i9 : Inv (zU S3 1 (S 1 + 1)) := inv_tim k5 (by omega) (ir_at k5.1 (r := (1, 1, 0, 400)) (z := 0) (by decide) (by omega) (by dsimp only; omega) (by dsimp only; omega))
  refine ⟨r, zU S3 1 (S 1 + 1), _, _, ?_, ?_, v9, rW k4 (by omega), i9, ?_, ?_, zU_at, g4, g5⟩
  · have ea : H_X10_obeyAll E w J1 = some (r, J3) := g1
    have eb : H_X7_growDoubt (w + 1) J3 = some J5 := k1
    rw [f1, Option.bind_some, ea, Option.bind_some]
    dsimp only
    rw [eb, Option.bind_some]
    simp only [nv]
    rw [v_tim k3.1, e1, wr_id (by omega)]
  · rw [f2, g2, k2, u7, wr_id (by omega)]
    rfl
  · exact FrC.cw (u4.t (fun b hb _ => k6 b (by omega))) (by omega)
  · exact FrM.mw (u5.t ⟨fun b hb => k7 b (by omega), by rw [k7 m (by omega)], fun h p hp => by rw [k7 (m + 8) (by omega)]; exact h p hp⟩) (by omega)
theorem b_timesL (sp : Sp E (x + 1)) (N : Int) (hN : N ≤ 40) {J0 Jr0 : Jm} : ∀ (n fu fu2 : Nat) (i r : Int) (J Jr : Jm) (S : Int → Int), Vw E (x + 1) J S → Rf m Jr S → Inv S → FrC E (x + 1) J0 J → FrM m Jr0 Jr → N = i + n → 0 ≤ i → S 1 + n ≤ 400 → (0 ≤ r ∧ r ≤ 8 * i) → n < fu → n < fu2 → ∃ (r' : Int) (S' : Int → Int) (J1 J2 : Jm), H_X11_times_L35 E x N fu r i J = some (r', J1) ∧ H_X12_times_L34 m N fu2 r i Jr = some (r', J2) ∧ Vw E (x + 1) J1 S' ∧ Rf m J2 S' ∧ Inv S' ∧ FrC E (x + 1) J0 J1 ∧ FrM m Jr0 J2 := by
  intro n
  induction n with
  | zero =>
    intro fu fu2 i r J Jr S hV hR hi hF hM h1 h2 h5 hr h3 h4
    obtain ⟨fu, rfl⟩ := nx h3
    obtain ⟨fu2, rfl⟩ := nx h4
    rw [H_X11_times_L35, H_X12_times_L34, if_pos (by omega), if_pos (by omega)]
    exact ⟨r, S, J, Jr, rfl, rfl, hV, hR, hi, hF, hM⟩
  | succ n ih =>
    intro fu fu2 i r J Jr S hV hR hi hF hM h1 h2 h5 hr h3 h4
    obtain ⟨fu, rfl⟩ := nx h3
    obtain ⟨fu2, rfl⟩ := nx h4
    obtain ⟨v, S', J1, J2, b1, b2, b3, b4, b5, b6, b7, b8, b9, b10⟩ := b_time sp hV hi hR (by omega)
    have hE : H_X11_times_L35 E x N fu (wr (r + v)) (wr (i + 1)) J1 = ((H_X10_hearAll E (x + 1) J).bind fun J11 => (H_X10_obeyAll E (x + 1) J11).bind fun (zv17, J15) => (H_X7_growDoubt (x + 1 + 1) J15).bind fun J22 => nv (jW J22 (x + 1) 3 (wr ((J22 (x + 1) 3) + 1))) fun J27 => H_X11_times_L35 E x N fu (wr (r + zv17)) (wr (i + 1)) J27) := by
      cases q1 : H_X10_hearAll E (x + 1) J with
      | none => rw [q1] at b1; cases b1
      | some J11 =>
        rw [q1] at b1
        simp only [Option.bind_some] at b1 ⊢
        cases q2 : H_X10_obeyAll E (x + 1) J11 with
        | none => rw [q2] at b1; cases b1
        | some u =>
          rw [q2] at b1
          simp only [Option.bind_some] at b1 ⊢
          cases q3 : H_X7_growDoubt (x + 1 + 1) u.2 with
          | none => rw [q3] at b1; cases b1
          | some J22 =>
            rw [q3] at b1
            cases b1
            rfl
    rw [H_X11_times_L35, H_X12_times_L34, if_neg (by omega), if_neg (by omega), ← hE, b2, Option.bind_some]
    dsimp only
    rw [wr_id (z := i + 1) (by omega), wr_id (z := r + v) (by omega)]
    exact ih fu fu2 (i + 1) (r + v) J1 J2 S' b3 b4 b5 (hF.t b6) (hM.t b7) (by omega) (by omega) (by omega) (by omega) (by omega) (by omega)
theorem b15 (sp : Sp E (x + 1)) (hV : Vw E (x + 1) J S) (hi : Inv S) (hR : Rf m Jr S) (z1 : Int) : Bi E (x + 1) m S J Jr (H_X11_times E x z1 J) (H_X12_times m z1 Jr) := by
  have h1 := i_tim hi
  unfold H_X11_times H_X12_times
  rw [isq, Option.bind_some, z01, v_tim hV.1, rL hR (by omega) (by omega), Option.bind_some]
  by_cases hz : 1 ≤ z1 ∧ z1 ≤ 40
  · rw [if_neg (show ¬ z1 < 1 by omega), if_pos (show z1 ≤ 40 by omega), if_pos hz, wr_id (z := S 1 + z1) (by omega)]
    by_cases ht : S 1 + z1 ≤ 400
    · rw [if_pos ht, if_pos ht]
      obtain ⟨r', S', J1, J2, k1, k2, k3, k4, k5, k6, k7⟩ := b_timesL sp z1 hz.2 z1.toNat 1000000 1000000 0 0 J Jr S hV hR hi FrC.r FrM.r (by omega) (by omega) (by omega) (by omega) (by omega) (by omega)
      exact ⟨r', S', J1, J2, k1, k2, k3, k4, k5, k6, k7⟩
    · rw [if_neg ht, if_neg ht]; exact bi_no hV hi hR rfl rfl
  · rw [if_neg hz]
    by_cases h2 : z1 < 1
    · rw [if_pos h2]; exact bi_no hV hi hR rfl rfl
    · rw [if_neg h2, if_neg (by omega)]; exact bi_no hV hi hR rfl rfl
end ACT
