/-! AN ORDER THAT IS HELD: which RULE is done, both sides -/
section RUL
variable {E : Em} {w x m a q : Nat} {J0 J Jr : Jm} {S : Int → Int} {c : Int → Int} {n g p v t f k : Int}
theorem oT_c (h : 0 ≤ S (8359 + k) ∧ S (8359 + k) ≤ 80) (hT : ∀ i : Int, 0 ≤ i → i < S (8359 + k) → True) : Cn (oT S k) (S (8359 + k)) := by
  refine ⟨h, fun p hp => ?_⟩
  unfold oT cT at hp
  by_cases e : 0 ≤ p ∧ p < S (8359 + k)
  · exact e
  · rw [if_neg e] at hp; exact absurd rfl hp
theorem r_goes1 (hi : Inv S) (hR : Rf m Jr S) (hk : 0 ≤ k ∧ k < 10) (hg : 0 ≤ g ∧ g < 8) : ∃ J2, H_X12_goesOrder m k g Jr = some (if (pText (oT S k) (S (8359 + k)) 8 0 []).1 = true then 1 else 0, J2) ∧ Rf m J2 S ∧ FrM m Jr J2 ∧ ((pText (oT S k) (S (8359 + k)) 8 0 []).1 = true → RS m J2 (chV (fvS S g) (pText (oT S k) (S (8359 + k)) 8 0 []).2.2 0)) := by
  have hl := i_len hi (z := k) hk.1 hk.2
  unfold H_X12_goesOrder
  simp only [nv, jp]
  rw [if_pos hk.1, zZ (Or.inl rfl), Option.bind_some, jW_at, if_pos rfl, jW_of (k := 10) (j := 13) (by decide), jW_at, if_pos rfl, wr_id (z := 8359 + k) (by omega), rL (rN (rN hR (by omega)) (by omega)) (by omega) (by omega), Option.bind_some, wr_id (z := 80 * k) (by omega), wr_id (z := 7559 + 80 * k) (by omega)]
  generalize hQ : jW (jW (jW (jW (jW Jr m 13 0) m 10 (7559 + 80 * k)) m 11 (S (8359 + k))) m 12 0) m 16 (-4) = Q
  have hRQ : Rf m Q S := by rw [← hQ]; exact rN (rN (rN (rN (rN hR (by omega)) (by omega)) (by omega)) (by omega)) (by omega)
  have q13 : Q m 13 = 0 := by rw [← hQ]; simp (disch := omega) only [jW_of, jW_at]
  have q10 : Q m 10 = 7559 + 80 * k := by rw [← hQ]; simp (disch := omega) only [jW_of, jW_at]
  have q11 : Q m 11 = S (8359 + k) := by rw [← hQ]; simp (disch := omega) only [jW_of, jW_at]
  have q12 : Q m 12 = 0 := by rw [← hQ]; simp (disch := omega) only [jW_of, jW_at]
  have q16 : Q m 16 = -4 := by rw [← hQ]; simp (disch := omega) only [jW_of, jW_at]
  have hA : At m (oT S k) Q := by
    intro J hJ h0
    unfold H_X12_at
    rw [hJ.2 11 (by omega), hJ.2 13 (by omega), hJ.2 10 (by omega), q11, q13, q10, if_pos rfl]
    unfold oT cT
    by_cases h : J m 12 < S (8359 + k)
    · rw [if_pos h, if_pos ⟨h0, h⟩, wr_id (by omega), rL (rE hRQ (hJ.1 _ (by omega))) (by omega) (by omega), Option.bind_some]
      exact congrArg some (congrArg S (by omega))
    · rw [if_neg h, if_neg (fun q => h q.2)]
  obtain ⟨J2, f1, f2, f3, f4, f5⟩ := r_text (g := g) (oT_c hl (fun _ _ _ => trivial)) hA q11 (vf_at hRQ hi hg) 8 1000000 0 Q [] Fx.r q12 (by omega) (by omega) (by decide) (by decide) (by decide) ⟨fun _ => q16, fun i r h => (by cases h)⟩
  refine ⟨J2, f1, rE hRQ (f2.1 _ (by omega)), ?_, f5⟩
  have fQ : FrM m Jr Q := by rw [← hQ]; exact FrM.mw (FrM.mw (FrM.mw (FrM.mw (FrM.mw FrM.r (by omega)) (by omega)) (by omega)) (by omega)) (by omega)
  exact fQ.t ⟨fun b hb => f2.1 b (by omega), f2.2 3 (by omega), fun h p hp => by rw [f2.1 (m + 8) (by omega)]; exact h p hp⟩
theorem c_sensed (hV : Vs w J S) (hi : Inv S) (hg : 0 ≤ g ∧ g < S 0) (hG : Gv J a g S) (f : Int) : H_X10_sensed w a f J = some (fvS S g f) := by
  have h8 := i_gli hi
  have hx := i_x hi (z := g) hg.1 (by omega)
  have hy := i_y hi (z := g) hg.1 (by omega)
  have hl := i_lea hi (z := g) hg.1 (by omega)
  have ht := i_tim hi
  have hh := hi.2.2.2.2.2.1 g hg.1 hg.2
  have hc := clS_r hi (g := g) (by omega)
  have e1 : (8 * S (2178 + g) + S (2186 + g)) / 8 = S (2178 + g) := by omega
  have e2 : (8 * S (2178 + g) + S (2186 + g)) % 8 = S (2186 + g) := by omega
  have e3 : J a 9 = if 0 ≤ S (2250 + g) then S (2250 + g) else 0 := by
    have h1 := g_sho hG
    have h2 := g_l0 hG
    have h3 := g_lm hG
    by_cases h : J a 10 = 0
    · rw [if_pos h] at h1
      rw [h3 h, if_neg (by omega)]
    · rw [if_neg h] at h1
      rw [h1, if_pos h2]
  unfold H_X10_sensed fvS
  rw [g_fou hG, g_hea hG, g_lea hG, g_pow hG, e3, v_tim hV, g_cell hG, z_xOf (by omega), z_yOf (by omega), e1, e2, zM (by omega) (by decide), wr_id (z := S 1 - S (2234 + g)) (by omega)]
  have ed : jL J (w + 1 + 1) 80 (8 * S (2178 + g) + S (2186 + g)) = some (S (10 + clS S g)) := vL_dep hV hc.1 hc.2
  rw [ed]
  simp only [Option.bind_some]
  by_cases f1 : f = 102
  · rw [if_pos f1, if_pos f1]
  · rw [if_neg f1, if_neg f1]
    by_cases f2 : f = 104
    · rw [if_pos f2, if_pos f2]
      by_cases h : S (2234 + g) = -4
      · rw [if_pos h, if_neg (by omega)]
      · rw [if_neg h, if_pos (by omega)]
    · rw [if_neg f2, if_neg f2]
      by_cases f3 : f = 108
      · rw [if_pos f3, if_pos f3]
        by_cases h : S (2210 + g) = 0
        · rw [if_pos h, h]
        · rw [if_neg h]; exact congrArg some (by omega)
      · rw [if_neg f3, if_neg f3]
        repeat' (first | rfl | split)
theorem c_holds {kk : Ck} {j : Int} {jn : Nat} (hj : j = (jn : Int)) (hb : jn < 20) (h6 : J (q + 6) jn = kk.2.2.1) (h7 : J (q + 7) jn = kk.2.2.2) (h8 : J (q + 8) jn = kk.1) (v : Int) : H_X2_holds q j v J = some (if soP v kk.2.2.1 kk.2.2.2 = kk.1 then 0 else 1) := by
  subst hj
  unfold H_X2_holds soP
  rw [q_jL (by omega), q_jL (by omega), q_jL (by omega), h6, h7, h8]
  simp only [Option.bind_some, jp, nv]
  by_cases h1 : kk.2.2.1 = 60
  · rw [if_pos h1, if_pos h1]
    have e : (if kk.2.2.2 ≤ v then (0 : Int) else 1) = if v < kk.2.2.2 then 1 else 0 := by split <;> split <;> omega
    rw [e]
    split <;> split <;> rfl
  · rw [if_neg h1, if_neg h1]
    by_cases h2 : kk.2.2.1 = 62
    · rw [if_pos h2, if_pos h2]
      have e : (if v ≤ kk.2.2.2 then (0 : Int) else 1) = if kk.2.2.2 < v then 1 else 0 := by split <;> split <;> omega
      rw [e]
      split <;> split <;> rfl
    · rw [if_neg h2, if_neg h2]
      split <;> split <;> rfl
theorem c_l17 (hV : Vs w J S) (hi : Inv S) (hg : 0 ≤ g ∧ g < S 0) (hG : Gv J a g S) (K : Int → Int → Option Int) {rule : Int} {rn : Nat} (hr : rule = (rn : Int)) (hrn : rn < 6) : ∀ (l : List Ck) (j fu : Nat) (fl : Int), aChk J q l j → J (q + 1) rn = ((j + l.length : Nat) : Int) → j + l.length ≤ 20 → l.length < fu → (fl = 0 ∨ fl = 1) → H_X10_ruleFor_L17 K w a q rule J fu (j : Int) fl = K ((j + l.length : Nat) : Int) (if fl = 0 then 0 else alV (fvS S g) l) := by
  subst hr
  intro l
  induction l with
  | nil =>
    intro j fu fl h1 h2 h3 h4 h5
    obtain ⟨fu, rfl⟩ : ∃ f, fu = f + 1 := ⟨fu - 1, by simp only [List.length_nil] at h4; omega⟩
    rw [H_X10_ruleFor_L17, q_jL (by omega), h2, Option.bind_some]
    simp only [List.length_nil, Nat.add_zero]
    rw [if_pos (Int.le_refl _)]
    have e : (if fl = 0 then 0 else alV (fvS S g) []) = fl := by
      rcases h5 with h | h
      · rw [if_pos h, h]
      · rw [if_neg (by omega), h]; rfl
    rw [e]
  | cons kk l ih =>
    intro j fu fl h1 h2 h3 h4 h5
    rw [List.length_cons] at h2 h3 h4
    obtain ⟨⟨a5, a6, a7, a8⟩, a9⟩ := h1
    obtain ⟨fu, rfl⟩ : ∃ f, fu = f + 1 := ⟨fu - 1, by omega⟩
    rw [H_X10_ruleFor_L17, q_jL (by omega), h2, Option.bind_some, if_neg (by omega), wr_id (z := (j : Int) + 1) (by omega), show (j : Int) + 1 = ((j + 1 : Nat) : Int) by omega, List.length_cons, show j + (l.length + 1) = j + 1 + l.length by omega]
    by_cases h0 : fl = 0
    · rw [if_pos h0, if_pos h0]
      have := ih (j + 1) fu 0 a9 (by rw [h2]; omega) (by omega) (by omega) (Or.inl rfl)
      rw [if_pos rfl] at this
      exact this
    · rw [if_neg h0, if_neg h0, q_jL (by omega), a5, Option.bind_some, c_sensed hV hi hg hG, Option.bind_some, c_holds rfl (by omega) a6 a7 a8, Option.bind_some]
      simp only [nv]
      have e : (if (if soP (fvS S g kk.2.1) kk.2.2.1 kk.2.2.2 = kk.1 then (0 : Int) else 1) = 0 then (0 : Int) else 1) = ckV (fvS S g) kk := by
        unfold ckV
        split <;> rfl
      rw [e]
      have := ih (j + 1) fu (ckV (fvS S g) kk) a9 (by rw [h2]; omega) (by omega) (by omega) (ckV_r _ _)
      exact this
theorem c_l5 (hV : Vs w J S) (hi : Inv S) (hg : 0 ≤ g ∧ g < S 0) (hG : Gv J a g S) : ∀ (l : List Ru) (i j fu : Nat), aRul J q l i j → J q 0 = ((i + l.length : Nat) : Int) → i + l.length ≤ 6 → j + nCk l ≤ 20 → l.length < fu → H_X10_ruleFor_L5 w a q J fu (j : Int) (i : Int) = some (match chV (fvS S g) l (i : Int) with | none => -4 | some z => z.1) := by
  intro l
  induction l with
  | nil =>
    intro i j fu h1 h2 h3 h4 h5
    obtain ⟨fu, rfl⟩ : ∃ f, fu = f + 1 := ⟨fu - 1, by simp only [List.length_nil] at h5; omega⟩
    rw [H_X10_ruleFor_L5, h2]
    simp only [List.length_nil, Nat.add_zero]
    rw [if_pos (Int.le_refl _)]
    rfl
  | cons r l ih =>
    intro i j fu h1 h2 h3 h4 h5
    rw [List.length_cons] at h2 h3 h5
    obtain ⟨⟨aw, a1, a2, a3, a4⟩, a5, a6⟩ := h1
    obtain ⟨fu, rfl⟩ : ∃ f, fu = f + 1 := ⟨fu - 1, by omega⟩
    have h4' : j + (r.1.length + nCk l) ≤ 20 := h4
    rw [H_X10_ruleFor_L5, h2, if_neg (by omega), c_l17 hV hi hg hG _ (rule := (i : Int)) rfl (by omega) r.1 j 1000000 1 a5 a1 (by omega) (by omega) (Or.inr rfl), if_neg (show ¬ (1 : Int) = 0 by decide)]
    unfold chV
    by_cases h : alV (fvS S g) r.1 = 0
    · rw [if_pos h, if_pos h, wr_id (by omega), show (i : Int) + 1 = ((i + 1 : Nat) : Int) by omega]
      exact ih (i + 1) (j + r.1.length) fu a6 (by rw [h2]; omega) (by omega) (by omega) (by omega)
    · rw [if_neg h, if_neg h]
theorem c_ruleFor (hV : Vs w J S) (hi : Inv S) (hg : 0 ≤ g ∧ g < S 0) (hG : Gv J a g S) {L : List Ru} (hA : Arr J q L) (h6 : L.length ≤ 6) (h20 : nCk L ≤ 20) : H_X10_ruleFor w a q J = some (match chV (fvS S g) L 0 with | none => -4 | some z => z.1) := by
  unfold H_X10_ruleFor
  exact c_l5 hV hi hg hG L 0 0 1000000 hA.2 (by rw [Nat.zero_add]; exact hA.1) (by omega) (by omega) (by omega)
theorem c_orderOf (hV : Vw E w J S) (hi : Inv S) (hg : 0 ≤ g ∧ g < S 0) (hG : Gv J a g S) : (S (2226 + g) = -4 ∧ H_X10_orderOf E w a J = some none) ∨ (∃ q, (0 ≤ S (2226 + g) ∧ S (2226 + g) < S 4) ∧ H_X10_orderOf E w a J = some (some q) ∧ OrdA J q (oT S (S (2226 + g))) (S (8359 + S (2226 + g)))) := by
  have h4 := hi.2.2.2.2.1 g hg.1 hg.2
  have ho := i_orc hi
  unfold H_X10_orderOf
  rw [g_ord hG, v_orc hV.1]
  rcases h4 with h | h
  · exact Or.inl ⟨h, by rw [if_pos (by omega)]⟩
  · obtain ⟨q, hq, hO⟩ := hV.2.2 _ h.1 h.2
    refine Or.inr ⟨q, h, ?_, hO⟩
    rw [if_neg (by omega), if_neg (by omega)]
    unfold jR
    rw [if_pos (by omega), hq]; rfl
theorem bc_14 (hV : Vw E (x + 1) J S) (hi : Inv S) (hR : Rf m Jr S) (z1 : Int) : ∃ (r : Int) (J2 : Jm), H_X11_rule E x z1 J = some r ∧ H_X12_rule m z1 Jr = some (r, J2) ∧ Rf m J2 S ∧ FrM m Jr J2 := by
  unfold H_X11_rule H_X12_rule
  have h8 := i_gli hi
  have ho := i_orc hi
  rw [r_isG hR hi, Option.bind_some, z01]
  by_cases hg : 0 ≤ z1 ∧ z1 < S 0
  · obtain ⟨a, ea, ha, hG⟩ := gA_in hV hi hg
    rw [ea, Option.bind_some, if_pos hg, r_isUp hR (by omega), Option.bind_some, z01, wr_id (z := 2226 + z1) (by omega), rL hR (by omega) (by omega), Option.bind_some]
    simp only [oe]
    rw [g_sta hG]
    rcases c_orderOf hV hi hg hG with ⟨c1, c2⟩ | ⟨q, c1, c2, L, c3, c4, c5, c6⟩
    · rw [c2, Option.bind_some]
      by_cases hu : S (2202 + z1) = 0
      · rw [if_pos hu, if_pos hu, if_neg (by omega)]
        exact ⟨_, _, rfl, rfl, hR, FrM.r⟩
      · rw [if_neg hu, if_neg hu]
        exact ⟨_, _, rfl, rfl, hR, FrM.r⟩
    · rw [c2, Option.bind_some]
      by_cases hu : S (2202 + z1) = 0
      · rw [if_pos hu, if_pos hu, if_pos c1.1]
        obtain ⟨J2, f1, f2, f3, f4⟩ := r_goes1 hi hR (k := S (2226 + z1)) (by omega) (show 0 ≤ z1 ∧ z1 < 8 by omega)
        rw [c3] at f1 f4
        have f4 := f4 rfl
        rw [Option.bind_some, f1, Option.bind_some]
        dsimp only at f4 ⊢
        rw [c_ruleFor hV.1 hi hg hG c4 c5 c6, Option.bind_some]
        refine ⟨_, J2, rfl, ?_, f2, f3⟩
        rw [if_pos rfl, if_neg (show ¬ (1 : Int) = 0 by decide)]
        cases hch : chV (fvS S z1) L 0 with
        | none => rw [f4.1 hch]
        | some z =>
          obtain ⟨i, r⟩ := z
          rw [(f4.2 i r hch).1]
      · rw [if_neg hu, if_neg hu]
        exact ⟨_, _, rfl, rfl, hR, FrM.r⟩
  · rw [gA_no hV hg, if_neg hg]
    exact ⟨_, _, rfl, rfl, hR, FrM.r⟩
end RUL
