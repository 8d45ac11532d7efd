/-! DIVE, COUNT, NEXT, WHOLE, READ -/
section CALLS
variable {E : Em} {x w m a : Nat} {J Jr : Jm} {S : Int → Int} {c e n d l g p s v q f : Int}
theorem bc_8 (sp : Sp E (x + 1)) (hV : Vw E (x + 1) J S) (hi : Inv S) (hR : Rf m Jr S) (z1 z2 z3 z4 : Int) (h3 : -2147483648 ≤ z3 ∧ z3 ≤ 2147483647) (h4 : -2147483648 ≤ z4 ∧ z4 ≤ 2147483647) : Bi E (x + 1) m S J Jr (H_X11_dive E x z1 z2 z3 z4 J) (H_X12_dive m z1 z2 z3 z4 Jr) := by
  unfold H_X11_dive H_X12_dive
  have h8 := i_gli hi
  rw [r_isG hR hi, Option.bind_some, z01]
  by_cases hg : 0 ≤ z1 ∧ z1 < S 0
  · obtain ⟨a, ea, ha, hG⟩ := gA_in hV hi hg
    have hk := i_kind hi (z := z1) hg.1 (by omega)
    have hl := i_lea hi (z := z1) hg.1 (by omega)
    have hs := zsk_r (S (2170 + z1))
    rw [ea, Option.bind_some, if_pos hg, r_sinks hR (by omega), Option.bind_some, isq, Option.bind_some, z01, r_isHeading hR (by omega), Option.bind_some, z01, r_isUp hR (by omega), Option.bind_some, z01]
    simp only [oe]
    rw [c_mayDive hk (g_kind hG) h3 h4, Option.bind_some, z01, g_sta hG, g_pow hG]
    by_cases h2 : 0 ≤ z2 ∧ z2 ≤ zsk (S (2170 + z1))
    · rw [if_pos h2]
      by_cases hh : hdg (S (2170 + z1)) z3 z4
      · rw [if_pos ⟨h2, hh⟩, if_pos hh]
        by_cases hu : S (2202 + z1) = 0
        · rw [if_pos hu, if_pos hu, c_cost hk hl (by omega) (g_kind hG) (g_lea hG), Option.bind_some, wr_id (z := 2194 + z1) (by omega), rL hR (by omega) (by omega), Option.bind_some, r_cost hR (by omega) (by omega), Option.bind_some]
          by_cases hp : zck (S (2170 + z1)) (S (2210 + z1)) z2 ≤ S (2194 + z1)
          · rw [if_pos hp, if_pos hp]
            obtain ⟨q3, q4⟩ := hdg_r hh
            obtain ⟨r, S', J1, J2, k1, k2, k3, k4, k5, k6, k7, -⟩ := b_dive sp hV hi hR hg ha hu (d := z2) (e := z3) (n := z4) (by omega) hp q3 q4
            rw [k1, k2]
            exact ⟨r, S', J1, J2, rfl, rfl, k3, k4, k5, k6, k7⟩
          · rw [if_neg hp, if_neg hp]; exact bi_no hV hi hR rfl rfl
        · rw [if_neg hu, if_neg hu]; exact bi_no hV hi hR rfl rfl
      · rw [if_neg (fun q => hh q.2), if_neg hh]; exact bi_no hV hi hR rfl rfl
    · rw [if_neg h2, if_neg (fun q => h2 q.1)]; exact bi_no hV hi hR rfl rfl
  · rw [gA_no hV hg, if_neg hg]
    exact bi_no hV hi hR rfl rfl
theorem l30a (hV : Vw E w J S) (hi : Inv S) (hR : Rf m Jr S) (k : Int) (hk : 1 ≤ k ∧ k ≤ 3) : ∀ (t fu fu2 : Nat) (i r : Int), S 0 = i + t → 0 ≤ i → 0 ≤ r ∧ r ≤ i → t < fu → t < fu2 → ∃ q, H_X10_howMany_L4 E w (k - 1) J fu r i = some q ∧ H_X12_count_L69 m k Jr fu2 r i = some q := by
  have h8 := i_gli hi
  intro t
  induction t with
  | zero =>
    intro fu fu2 i r h1 h2 h3 h4 h5
    obtain ⟨fu, rfl⟩ := nx h4
    obtain ⟨fu2, rfl⟩ := nx h5
    rw [H_X10_howMany_L4, H_X12_count_L69, v_gli hV.1, rL hR (by omega) (by omega), Option.bind_some, if_pos (by omega), if_pos (by omega)]
    exact ⟨_, rfl, rfl⟩
  | succ t ih =>
    intro fu fu2 i r h1 h2 h3 h4 h5
    obtain ⟨fu, rfl⟩ := nx h4
    obtain ⟨fu2, rfl⟩ := nx h5
    obtain ⟨a, ea, -, hG⟩ := gR hV hi (g := i) (by omega)
    rw [H_X10_howMany_L4, H_X12_count_L69, v_gli hV.1, rL hR (z := 0) (by omega) (by omega), Option.bind_some, if_neg (show ¬ S 0 ≤ i by omega), if_neg (show ¬ S 0 ≤ i by omega), ea, Option.bind_some, Option.bind_some, g_sta hG, wr_id (z := 2202 + i) (by omega), rL hR (by omega) (by omega), Option.bind_some, wr_id (z := k - 1) (by omega), wr_id (z := i + 1) (by omega)]
    simp only [nv]
    by_cases h : S (2202 + i) = k - 1
    · rw [if_pos h, if_pos h, wr_id (by omega)]
      exact ih fu fu2 (i + 1) (r + 1) (by omega) (by omega) (by omega) (by omega) (by omega)
    · rw [if_neg h, if_neg h, Int.add_zero, wr_id (z := r) (by omega)]
      exact ih fu fu2 (i + 1) r (by omega) (by omega) (by omega) (by omega) (by omega)
theorem l30b (hV : Vw E w J S) (hR : Rf m Jr S) : ∀ (t fu fu2 : Nat) (i r : Int), 80 = i + t → 0 ≤ i → t < fu → t < fu2 → ∃ q, H_X7_allDoubt_L4 (w + 1) J fu r i = some q ∧ H_X12_count_L141 m Jr fu2 r i = some q := by
  intro t
  induction t with
  | zero =>
    intro fu fu2 i r h1 h2 h4 h5
    obtain ⟨fu, rfl⟩ := nx h4
    obtain ⟨fu2, rfl⟩ := nx h5
    rw [H_X7_allDoubt_L4, H_X12_count_L141, if_pos (by omega), if_pos (by omega)]
    exact ⟨_, rfl, rfl⟩
  | succ t ih =>
    intro fu fu2 i r h1 h2 h4 h5
    obtain ⟨fu, rfl⟩ := nx h4
    obtain ⟨fu2, rfl⟩ := nx h5
    rw [H_X7_allDoubt_L4, H_X12_count_L141, if_neg (show ¬ 80 ≤ i by omega), if_neg (show ¬ 80 ≤ i by omega), vL_dou hV.1 (by omega) (by omega), Option.bind_some, wr_id (z := 170 + i) (by omega), rL hR (by omega) (by omega), Option.bind_some, wr_id (z := i + 1) (by omega)]
    exact ih fu fu2 (i + 1) _ (by omega) (by omega) (by omega) (by omega)
theorem l30c (hV : Vw E w J S) (hi : Inv S) (hR : Rf m Jr S) : ∀ (t fu fu2 : Nat) (i r : Int), S 0 = i + t → 0 ≤ i → t < fu → t < fu2 → ∃ q, H_X10_allPower_L4 E w J fu r i = some q ∧ H_X12_count_L177 m Jr fu2 r i = some q := by
  have h8 := i_gli hi
  intro t
  induction t with
  | zero =>
    intro fu fu2 i r h1 h2 h4 h5
    obtain ⟨fu, rfl⟩ := nx h4
    obtain ⟨fu2, rfl⟩ := nx h5
    rw [H_X10_allPower_L4, H_X12_count_L177, v_gli hV.1, rL hR (by omega) (by omega), Option.bind_some, if_pos (by omega), if_pos (by omega)]
    exact ⟨_, rfl, rfl⟩
  | succ t ih =>
    intro fu fu2 i r h1 h2 h4 h5
    obtain ⟨fu, rfl⟩ := nx h4
    obtain ⟨fu2, rfl⟩ := nx h5
    obtain ⟨a, ea, -, hG⟩ := gR hV hi (g := i) (by omega)
    rw [H_X10_allPower_L4, H_X12_count_L177, v_gli hV.1, rL hR (z := 0) (by omega) (by omega), Option.bind_some, if_neg (show ¬ S 0 ≤ i by omega), if_neg (show ¬ S 0 ≤ i by omega), ea, Option.bind_some, Option.bind_some, g_pow hG, wr_id (z := 2194 + i) (by omega), rL hR (by omega) (by omega), Option.bind_some, wr_id (z := i + 1) (by omega)]
    exact ih fu fu2 (i + 1) _ (by omega) (by omega) (by omega) (by omega)
theorem q30 (hV : Vw E (x + 1) J S) (hi : Inv S) (hR : Rf m Jr S) (z1 : Int) : ∃ r, H_X11_count E x z1 J = some r ∧ H_X12_count m z1 Jr = some r := by
  have h8 := i_gli hi
  unfold H_X11_count H_X12_count
  rw [v_gli hV.1, v_tim hV.1, v_rea hV.1, v_let hV.1, v_orc hV.1, v_cle hV.1]
  unfold H_X10_howMany H_X10_allPower H_X7_allDoubt
  have key : z1 = 0 ∨ z1 = 1 ∨ z1 = 2 ∨ z1 = 3 ∨ z1 = 4 ∨ z1 = 5 ∨ z1 = 6 ∨ z1 = 7 ∨ z1 = 8 ∨ z1 = 9 ∨ z1 = 10 ∨ (z1 < 0 ∨ 10 < z1) := by omega
  rcases key with h | h | h | h | h | h | h | h | h | h | h | h
  · subst h
    simp (disch := omega) only [Int.reduceEq, reduceIte, rL hR, Option.bind_some]
    exact ⟨_, rfl, rfl⟩
  · subst h
    obtain ⟨q, k1, k2⟩ := l30a hV hi hR 1 (by omega) (S 0).toNat 1000000 1000000 0 0 (by omega) (by omega) (by omega) (by omega) (by omega)
    rw [show (1 : Int) - 1 = 0 from rfl] at k1
    simp (disch := omega) only [Int.reduceEq, reduceIte, true_or, k1, k2, Option.bind_some]
    exact ⟨_, rfl, rfl⟩
  · subst h
    obtain ⟨q, k1, k2⟩ := l30a hV hi hR 2 (by omega) (S 0).toNat 1000000 1000000 0 0 (by omega) (by omega) (by omega) (by omega) (by omega)
    rw [show (2 : Int) - 1 = 1 from rfl] at k1
    simp (disch := omega) only [Int.reduceEq, reduceIte, true_or, or_true, k1, k2, Option.bind_some]
    exact ⟨_, rfl, rfl⟩
  · subst h
    obtain ⟨q, k1, k2⟩ := l30a hV hi hR 3 (by omega) (S 0).toNat 1000000 1000000 0 0 (by omega) (by omega) (by omega) (by omega) (by omega)
    rw [show (3 : Int) - 1 = 2 from rfl] at k1
    simp (disch := omega) only [Int.reduceEq, reduceIte, or_true, k1, k2, Option.bind_some]
    exact ⟨_, rfl, rfl⟩
  · subst h
    simp (disch := omega) only [Int.reduceEq, reduceIte, or_self, rL hR, Option.bind_some]
    exact ⟨_, rfl, rfl⟩
  · subst h
    simp (disch := omega) only [Int.reduceEq, reduceIte, or_self, rL hR, Option.bind_some]
    exact ⟨_, rfl, rfl⟩
  · subst h
    simp (disch := omega) only [Int.reduceEq, reduceIte, or_self, rL hR, Option.bind_some]
    exact ⟨_, rfl, rfl⟩
  · subst h
    simp (disch := omega) only [Int.reduceEq, reduceIte, or_self, rL hR, Option.bind_some]
    exact ⟨_, rfl, rfl⟩
  · subst h
    obtain ⟨q, k1, k2⟩ := l30b (w := x + 1) hV hR 80 1000000 1000000 0 0 (by omega) (by omega) (by omega) (by omega)
    simp (disch := omega) only [Int.reduceEq, reduceIte, or_self, k1, k2, Option.bind_some]
    exact ⟨_, rfl, rfl⟩
  · subst h
    simp (disch := omega) only [Int.reduceEq, reduceIte, or_self, rL hR, Option.bind_some]
    exact ⟨_, rfl, rfl⟩
  · subst h
    obtain ⟨q, k1, k2⟩ := l30c hV hi hR (S 0).toNat 1000000 1000000 0 0 (by omega) (by omega) (by omega) (by omega)
    simp (disch := omega) only [Int.reduceEq, reduceIte, or_self, k1, k2, Option.bind_some]
    exact ⟨_, rfl, rfl⟩
  · refine ⟨-1, ?_, ?_⟩
    · simp (disch := omega) only [if_neg]
    · simp (disch := omega) only [if_neg]
def lefS (S : Int → Int) (g : Int) : Int := S (2194 + g) / zck (S (2170 + g)) (S (2210 + g)) 1
theorem l26 (hV : Vw E (x + 1) J S) (hi : Inv S) (hR : Rf m Jr S) : ∀ (t fu fu2 : Nat) (i b bl bs : Int), S 0 = i + t → 0 ≤ i → (b = -4 ∨ (0 ≤ b ∧ b < i ∧ bl = lefS S b ∧ bs = offS S b)) → t < fu → t < fu2 → ∃ q, H_X11_next_L10 E x J fu b bl bs i = some q ∧ H_X12_next_L5 m Jr fu2 b i = some q := by
  have h8 := i_gli hi
  intro t
  induction t with
  | zero =>
    intro fu fu2 i b bl bs h1 h2 h3 h4 h5
    obtain ⟨fu, rfl⟩ := nx h4
    obtain ⟨fu2, rfl⟩ := nx h5
    rw [H_X11_next_L10, H_X12_next_L5, v_gli hV.1, rL hR (by omega) (by omega), Option.bind_some, if_pos (by omega), if_pos (by omega)]
    exact ⟨_, rfl, rfl⟩
  | succ t ih =>
    intro fu fu2 i b bl bs h1 h2 h3 h4 h5
    obtain ⟨fu, rfl⟩ := nx h4
    obtain ⟨fu2, rfl⟩ := nx h5
    obtain ⟨a, ea, -, hG⟩ := gR hV hi (g := i) (by omega)
    rw [H_X11_next_L10, H_X12_next_L5, v_gli hV.1, rL hR (z := 0) (by omega) (by omega), Option.bind_some, if_neg (show ¬ S 0 ≤ i by omega), if_neg (show ¬ S 0 ≤ i by omega), ea, Option.bind_some, Option.bind_some, g_sta hG, r_isUp hR (by omega), Option.bind_some, z01, wr_id (z := i + 1) (by omega)]
    by_cases hu : S (2202 + i) = 0
    · rw [if_pos hu, if_pos hu, c_left hi (by omega) hG, Option.bind_some, c_off hi (by omega) hV.1 hG, Option.bind_some]
      have yes := ih fu fu2 (i + 1) i (lefS S i) (offS S i) (by omega) (by omega) (Or.inr ⟨by omega, by omega, rfl, rfl⟩) (by omega) (by omega)
      rcases h3 with h3 | ⟨h3, h3', h6, h7⟩
      · rw [if_pos h3, if_pos (show b < 0 by omega)]
        exact yes
      · have no := ih fu fu2 (i + 1) b bl bs (by omega) (by omega) (Or.inr ⟨by omega, by omega, h6, h7⟩) (by omega) (by omega)
        rw [if_neg (show ¬ b = -4 by omega), if_neg (show ¬ b < 0 by omega), r_left hR hi (by omega), Option.bind_some, r_left hR hi (by omega), Option.bind_some, r_off hR hi (by omega), r_off hR hi (by omega), Option.bind_some, Option.bind_some]
        have f1 : S (2194 + i) / zck (S (2170 + i)) (S (2210 + i)) 1 = lefS S i := rfl
        have f2 : S (2194 + b) / zck (S (2170 + b)) (S (2210 + b)) 1 = lefS S b := rfl
        rw [f1, f2, h6, h7]
        simp only [Option.bind_some]
        rw [h6, h7] at no
        by_cases c1 : lefS S i < lefS S b
        · rw [if_pos c1, if_pos c1]; exact yes
        · rw [if_neg c1, if_neg c1]
          by_cases c2 : lefS S i = lefS S b
          · rw [if_pos c2, if_pos c2]
            by_cases c3 : offS S b ≤ offS S i
            · rw [if_pos c3, if_pos c3]; exact no
            · rw [if_neg c3, if_neg c3]; exact yes
          · rw [if_neg c2, if_neg c2]; exact no
    · rw [if_neg hu, if_neg hu]
      exact ih fu fu2 (i + 1) b bl bs (by omega) (by omega) (h3.imp id (fun ⟨k1, k2, k3⟩ => ⟨k1, by omega, k3⟩)) (by omega) (by omega)
theorem q26 (hV : Vw E (x + 1) J S) (hi : Inv S) (hR : Rf m Jr S) : ∃ r, H_X11_next E x J = some r ∧ H_X12_next m Jr = some r := by
  have h8 := i_gli hi
  exact l26 hV hi hR (S 0).toNat 1000000 1000000 0 (-4) 0 0 (by omega) (by omega) (Or.inl rfl) (by omega) (by omega)
/-- what comes in from a CELL beside -/
def flw (S : Int → Int) (l q v : Int) : Int := if 0 ≤ q ∧ l < S (10 + q) then (if 0 < v then v else 0) else 0
theorem c_w1 (hV : Vw E w J S) (hi : Inv S) (hp : 0 ≤ p ∧ p < 80) (hl : 0 ≤ l ∧ l ≤ 3) (k : Int → Option Int) {side sE sN r : Int} (o : Int) (hs : 1 ≤ side ∧ side ≤ 4) (hb : H_X7_beside (w + 1) p side = some q) (hq : q = -1 ∨ 0 ≤ q ∧ q < 80) (h2 : jT 2 side = some sE) (h3 : jT 3 side = some sN) (hsE : -1 ≤ sE ∧ sE ≤ 1) (hsN : -1 ≤ sN ∧ sN ≤ 1) (hr : 0 ≤ r ∧ r ≤ 100) (fu : Nat) :
    H_X7_isWhole_L39 k (w + 1) p l o J (fu + 1) r side = H_X7_isWhole_L39 k (w + 1) p l o J fu (r + flw S l q (-(S (890 + (4 * q + l)) * sE + S (1210 + (4 * q + l)) * sN))) (side + 1) := by
  unfold flw
  rw [H_X7_isWhole_L39, if_neg (by omega), hb, Option.bind_some, wr_id (z := side + 1) (by omega)]
  by_cases h0 : q < 0
  · rw [if_pos h0, if_neg (by omega), Int.add_zero]
  · rw [if_neg h0, c_has hV.1 (by omega), Option.bind_some, z10]
    by_cases h4 : S (10 + q) ≤ l
    · rw [if_pos h4, if_neg (show ¬ (0 ≤ q ∧ l < S (10 + q)) by omega), Int.add_zero]
    · have bE := i_mea hi (z := 4 * q + l) (by omega) (by omega)
      have bN := i_mno hi (z := 4 * q + l) (by omega) (by omega)
      have mE : -2 ≤ S (890 + (4 * q + l)) * sE ∧ S (890 + (4 * q + l)) * sE ≤ 2 := by
        rcases (show sE = -1 ∨ sE = 0 ∨ sE = 1 by omega) with h | h | h <;> subst h <;> omega
      have mN : -2 ≤ S (1210 + (4 * q + l)) * sN ∧ S (1210 + (4 * q + l)) * sN ≤ 2 := by
        rcases (show sN = -1 ∨ sN = 0 ∨ sN = 1 by omega) with h | h | h <;> subst h <;> omega
      rw [if_neg h4, if_pos (show 0 ≤ q ∧ l < S (10 + q) by omega), z_placeOf (by omega), Option.bind_some, vL_mea hV.1 (by omega) (by omega), Option.bind_some, h2, Option.bind_some, vL_mno hV.1 (by omega) (by omega), Option.bind_some, h3, Option.bind_some]
      generalize S (890 + (4 * q + l)) * sE = u1 at mE ⊢
      generalize S (1210 + (4 * q + l)) * sN = u2 at mN ⊢
      rw [wr_id (z := u1) (by omega), wr_id (z := u2) (by omega), wr_id (z := u1 + u2) (by omega), wr_id (z := -(u1 + u2)) (by omega)]
      have em : mxZ 0 (-(u1 + u2)) = if 0 < -(u1 + u2) then -(u1 + u2) else 0 := rfl
      rw [em, wr_id (by split <;> omega)]
theorem r_w1 (hR : Rf m Jr S) (hi : Inv S) (hp : 0 ≤ p ∧ p < 80) (hl : 0 ≤ l ∧ l ≤ 3) {way r v : Int} (hs : 0 ≤ way ∧ way ≤ 3) (hb : H_X12_besideOf m p way = some q) (hq : q = -1 ∨ 0 ≤ q ∧ q < 80) (hv : (if 2 ≤ way then (if way % 2 = 0 then S (890 + (4 * q + l)) else S (1210 + (4 * q + l))) else -(if way % 2 = 0 then S (890 + (4 * q + l)) else S (1210 + (4 * q + l)))) = v) (hr : 0 ≤ r ∧ r ≤ 100) (fu : Nat) :
    H_X12_comesTo_L5 m p l Jr (fu + 1) r way = H_X12_comesTo_L5 m p l Jr fu (r + flw S l q v) (way + 1) := by
  unfold flw
  rw [H_X12_comesTo_L5, if_neg (by omega), hb, Option.bind_some, wr_id (z := way + 1) (by omega)]
  by_cases h0 : q < 0
  · rw [if_pos h0, if_neg (by omega), Int.add_zero]
  · rw [if_neg h0, wr_id (z := 10 + q) (by omega), rL hR (by omega) (by omega), Option.bind_some]
    by_cases h4 : S (10 + q) ≤ l
    · rw [if_neg (show ¬ l < S (10 + q) by omega), if_neg (show ¬ (0 ≤ q ∧ l < S (10 + q)) by omega), Int.add_zero]
    · have bE := i_mea hi (z := 4 * q + l) (by omega) (by omega)
      have bN := i_mno hi (z := 4 * q + l) (by omega) (by omega)
      have x1 : wr (wr (890 + wr (4 * q)) + l) = 890 + (4 * q + l) := by rw [wr_id (z := 4 * q) (by omega), wr_id (z := 890 + 4 * q) (by omega), wr_id (by omega)]; omega
      have x2 : wr (wr (1210 + wr (4 * q)) + l) = 1210 + (4 * q + l) := by rw [wr_id (z := 4 * q) (by omega), wr_id (z := 1210 + 4 * q) (by omega), wr_id (by omega)]; omega
      rw [if_pos (show l < S (10 + q) by omega), if_pos (show 0 ≤ q ∧ l < S (10 + q) by omega), zM (by omega) (by omega), Option.bind_some, x1, x2, rL hR (by omega) (by omega), rL hR (by omega) (by omega)]
      simp only [Option.bind_some, jp, nv]
      have fin : ∀ u : Int, -2 ≤ u → u ≤ 2 → (if 2 ≤ way then u else -u) = v → H_X12_comesTo_L5 m p l Jr fu (wr (r + (if (if 2 ≤ way then u else wr (-u)) ≤ 0 then 0 else (if 2 ≤ way then u else wr (-u))))) (way + 1) = H_X12_comesTo_L5 m p l Jr fu (r + if 0 < v then v else 0) (way + 1) := by
        intro u u0 u1 hu
        rw [wr_id (z := -u) (by omega), hu]
        have hvb : -2 ≤ v ∧ v ≤ 2 := by rw [← hu]; split <;> omega
        have e1 : (if v ≤ 0 then 0 else v) = if 0 < v then v else 0 := by split <;> split <;> omega
        rw [e1, wr_id (by split <;> omega)]
      by_cases h5 : way % 2 = 0
      · rw [if_pos h5] at hv ⊢
        exact fin _ bE.1 bE.2 hv
      · rw [if_neg h5] at hv ⊢
        exact fin _ bN.1 bN.2 hv
def inS (S : Int → Int) (p l : Int) : Int := flw S l (bsd p 1 0) (-S (890 + (4 * bsd p 1 0 + l))) + flw S l (bsd p 0 1) (-S (1210 + (4 * bsd p 0 1 + l))) + flw S l (bsd p (-1) 0) (S (890 + (4 * bsd p (-1) 0 + l))) + flw S l (bsd p 0 (-1)) (S (1210 + (4 * bsd p 0 (-1) + l)))
theorem flw_r {q v : Int} (hv : -2 ≤ v ∧ v ≤ 2 ∨ q < 0) : 0 ≤ flw S l q v ∧ flw S l q v ≤ 2 := by
  unfold flw
  split
  · split <;> omega
  · omega
theorem inS_r (hi : Inv S) (hp : 0 ≤ p ∧ p < 80) (hl : 0 ≤ l ∧ l ≤ 3) : (0 ≤ flw S l (bsd p 1 0) (-S (890 + (4 * bsd p 1 0 + l))) ∧ flw S l (bsd p 1 0) (-S (890 + (4 * bsd p 1 0 + l))) ≤ 2) ∧ (0 ≤ flw S l (bsd p 0 1) (-S (1210 + (4 * bsd p 0 1 + l))) ∧ flw S l (bsd p 0 1) (-S (1210 + (4 * bsd p 0 1 + l))) ≤ 2) ∧ (0 ≤ flw S l (bsd p (-1) 0) (S (890 + (4 * bsd p (-1) 0 + l))) ∧ flw S l (bsd p (-1) 0) (S (890 + (4 * bsd p (-1) 0 + l))) ≤ 2) ∧ (0 ≤ flw S l (bsd p 0 (-1)) (S (1210 + (4 * bsd p 0 (-1) + l))) ∧ flw S l (bsd p 0 (-1)) (S (1210 + (4 * bsd p 0 (-1) + l))) ≤ 2) := by
  have f : ∀ q : Int, q = -1 ∨ 0 ≤ q ∧ q < 80 → (-2 ≤ S (890 + (4 * q + l)) ∧ S (890 + (4 * q + l)) ≤ 2 ∨ q < 0) ∧ (-2 ≤ S (1210 + (4 * q + l)) ∧ S (1210 + (4 * q + l)) ≤ 2 ∨ q < 0) := by
    intro q hq
    by_cases h : q < 0
    · exact ⟨Or.inr h, Or.inr h⟩
    · exact ⟨Or.inl (i_mea hi (by omega) (by omega)), Or.inl (i_mno hi (by omega) (by omega))⟩
  have f1 := f _ (bsd_r (c := p) (e := 1) (n := 0))
  have f2 := f _ (bsd_r (c := p) (e := 0) (n := 1))
  have f3 := f _ (bsd_r (c := p) (e := -1) (n := 0))
  have f4 := f _ (bsd_r (c := p) (e := 0) (n := -1))
  exact ⟨flw_r (by omega), flw_r (by omega), flw_r (by omega), flw_r (by omega)⟩
theorem c_isWhole (hV : Vw E w J S) (hi : Inv S) (hp : 0 ≤ p ∧ p < 80) (hl : 0 ≤ l ∧ l ≤ 3) : H_X7_isWhole (w + 1) p l J = some (if abz (S (890 + (4 * p + l))) + abz (S (1210 + (4 * p + l))) = inS S p l then 1 else 0) := by
  have bE := i_mea hi (z := 4 * p + l) (by omega) (by omega)
  have bN := i_mno hi (z := 4 * p + l) (by omega) (by omega)
  have a1 : abZ (S (890 + (4 * p + l))) = abz (S (890 + (4 * p + l))) := z_abs (by omega)
  have a2 : abZ (S (1210 + (4 * p + l))) = abz (S (1210 + (4 * p + l))) := z_abs (by omega)
  have b1 : 0 ≤ abz (S (890 + (4 * p + l))) ∧ abz (S (890 + (4 * p + l))) ≤ 2 := by unfold abz; split <;> omega
  have b2 : 0 ≤ abz (S (1210 + (4 * p + l))) ∧ abz (S (1210 + (4 * p + l))) ≤ 2 := by unfold abz; split <;> omega
  obtain ⟨g1, g2, g3, g4⟩ := inS_r hi hp hl
  unfold H_X7_isWhole
  rw [z_placeOf (by omega), Option.bind_some, vL_mea hV.1 (by omega) (by omega), Option.bind_some, vL_mno hV.1 (by omega) (by omega), Option.bind_some, a1, a2, wr_id (by omega)]
  have e1 : -(S (890 + (4 * bsd p 1 0 + l)) * 1 + S (1210 + (4 * bsd p 1 0 + l)) * 0) = -S (890 + (4 * bsd p 1 0 + l)) := by omega
  have e2 : -(S (890 + (4 * bsd p (-1) 0 + l)) * -1 + S (1210 + (4 * bsd p (-1) 0 + l)) * 0) = S (890 + (4 * bsd p (-1) 0 + l)) := by omega
  have e3 : -(S (890 + (4 * bsd p 0 1 + l)) * 0 + S (1210 + (4 * bsd p 0 1 + l)) * 1) = -S (1210 + (4 * bsd p 0 1 + l)) := by omega
  have e4 : -(S (890 + (4 * bsd p 0 (-1) + l)) * 0 + S (1210 + (4 * bsd p 0 (-1) + l)) * -1) = S (1210 + (4 * bsd p 0 (-1) + l)) := by omega
  rw [show (1000000 : Nat) = 999999 + 1 from rfl, c_w1 hV hi hp hl _ _ (by omega) (cb1 hp) bsd_r jT2_1 jT3_1 (by decide) (by decide) (by omega) 999999, e1, show (999999 : Nat) = 999998 + 1 from rfl, show (1 : Int) + 1 = 2 from rfl, c_w1 hV hi hp hl _ _ (by omega) (cb2 hp) bsd_r jT2_2 jT3_2 (by decide) (by decide) (by omega) 999998, e2, show (999998 : Nat) = 999997 + 1 from rfl, show (2 : Int) + 1 = 3 from rfl, c_w1 hV hi hp hl _ _ (by omega) (cb3 hp) bsd_r jT2_3 jT3_3 (by decide) (by decide) (by omega) 999997, e3, show (999997 : Nat) = 999996 + 1 from rfl, show (3 : Int) + 1 = 4 from rfl, c_w1 hV hi hp hl _ _ (by omega) (cb4 hp) bsd_r jT2_4 jT3_4 (by decide) (by decide) (by omega) 999996, e4, show (999996 : Nat) = 999995 + 1 from rfl, show (4 : Int) + 1 = 5 from rfl, H_X7_isWhole_L39, if_pos (by decide)]
  unfold inS
  by_cases h : abz (S (890 + (4 * p + l))) + abz (S (1210 + (4 * p + l))) = flw S l (bsd p 1 0) (-S (890 + (4 * bsd p 1 0 + l))) + flw S l (bsd p 0 1) (-S (1210 + (4 * bsd p 0 1 + l))) + flw S l (bsd p (-1) 0) (S (890 + (4 * bsd p (-1) 0 + l))) + flw S l (bsd p 0 (-1)) (S (1210 + (4 * bsd p 0 (-1) + l)))
  · rw [if_pos h, if_pos (by omega)]
  · rw [if_neg h, if_neg (by omega)]
theorem r_comes (hR : Rf m Jr S) (hi : Inv S) (hp : 0 ≤ p ∧ p < 80) (hl : 0 ≤ l ∧ l ≤ 3) : H_X12_comesTo m p l Jr = some (inS S p l) := by
  obtain ⟨g1, g2, g3, g4⟩ := inS_r hi hp hl
  unfold H_X12_comesTo inS
  rw [show (1000000 : Nat) = 999999 + 1 from rfl, r_w1 hR hi hp hl (by omega) (rb0 hp) bsd_r rfl (by omega) 999999, show (999999 : Nat) = 999998 + 1 from rfl, show (0 : Int) + 1 = 1 from rfl, r_w1 hR hi hp hl (by omega) (rb1 hp) bsd_r rfl (by first | omega | (show 0 ≤ 0 + flw S l (bsd p 1 0) (-S (890 + (4 * bsd p 1 0 + l))) ∧ 0 + flw S l (bsd p 1 0) (-S (890 + (4 * bsd p 1 0 + l))) ≤ 100; omega)) 999998, show (999998 : Nat) = 999997 + 1 from rfl, show (1 : Int) + 1 = 2 from rfl, r_w1 hR hi hp hl (by omega) (rb2 hp) bsd_r rfl (by first | omega | (show 0 ≤ 0 + flw S l (bsd p 1 0) (-S (890 + (4 * bsd p 1 0 + l))) + flw S l (bsd p 0 1) (-S (1210 + (4 * bsd p 0 1 + l))) ∧ 0 + flw S l (bsd p 1 0) (-S (890 + (4 * bsd p 1 0 + l))) + flw S l (bsd p 0 1) (-S (1210 + (4 * bsd p 0 1 + l))) ≤ 100; omega)) 999997, show (999997 : Nat) = 999996 + 1 from rfl, show (2 : Int) + 1 = 3 from rfl, r_w1 hR hi hp hl (by omega) (rb3 hp) bsd_r rfl (by first | omega | (show 0 ≤ 0 + flw S l (bsd p 1 0) (-S (890 + (4 * bsd p 1 0 + l))) + flw S l (bsd p 0 1) (-S (1210 + (4 * bsd p 0 1 + l))) + flw S l (bsd p (-1) 0) (S (890 + (4 * bsd p (-1) 0 + l))) ∧ 0 + flw S l (bsd p 1 0) (-S (890 + (4 * bsd p 1 0 + l))) + flw S l (bsd p 0 1) (-S (1210 + (4 * bsd p 0 1 + l))) + flw S l (bsd p (-1) 0) (S (890 + (4 * bsd p (-1) 0 + l))) ≤ 100; omega)) 999996, show (999996 : Nat) = 999995 + 1 from rfl, show (3 : Int) + 1 = 4 from rfl, H_X12_comesTo_L5, if_pos (by decide)]
  refine congrArg some ?_
  show 0 + flw S l (bsd p 1 0) (-S (890 + (4 * bsd p 1 0 + l))) + flw S l (bsd p 0 1) (-S (1210 + (4 * bsd p 0 1 + l))) + flw S l (bsd p (-1) 0) (S (890 + (4 * bsd p (-1) 0 + l))) + flw S l (bsd p 0 (-1)) (S (1210 + (4 * bsd p 0 (-1) + l))) = _
  omega
theorem l23 (hV : Vw E (x + 1) J S) (hi : Inv S) (hR : Rf m Jr S) (hl : 0 ≤ l ∧ l ≤ 3) : ∀ (t fu fu2 : Nat) (i r : Int), 80 = i + t → 0 ≤ i → t < fu → t < fu2 → ∃ q, H_X11_whole_L13 x l J fu r i = some q ∧ H_X12_whole_L16 m l Jr fu2 r i = some q := by
  intro t
  induction t with
  | zero =>
    intro fu fu2 i r h1 h2 h4 h5
    obtain ⟨fu, rfl⟩ := nx h4
    obtain ⟨fu2, rfl⟩ := nx h5
    rw [H_X11_whole_L13, H_X12_whole_L16, if_pos (by omega), if_pos (by omega)]
    exact ⟨_, rfl, rfl⟩
  | succ t ih =>
    intro fu fu2 i r h1 h2 h4 h5
    obtain ⟨fu, rfl⟩ := nx h4
    obtain ⟨fu2, rfl⟩ := nx h5
    have bE := i_mea hi (z := 4 * i + l) (by omega) (by omega)
    have bN := i_mno hi (z := 4 * i + l) (by omega) (by omega)
    have x1 : wr (wr (890 + wr (4 * i)) + l) = 890 + (4 * i + l) := by rw [wr_id (z := 4 * i) (by omega), wr_id (z := 890 + 4 * i) (by omega), wr_id (by omega)]; omega
    have x2 : wr (wr (1210 + wr (4 * i)) + l) = 1210 + (4 * i + l) := by rw [wr_id (z := 4 * i) (by omega), wr_id (z := 1210 + 4 * i) (by omega), wr_id (by omega)]; omega
    have b1 : 0 ≤ abz (S (890 + (4 * i + l))) ∧ abz (S (890 + (4 * i + l))) ≤ 2 := by unfold abz; split <;> omega
    have b2 : 0 ≤ abz (S (1210 + (4 * i + l))) ∧ abz (S (1210 + (4 * i + l))) ≤ 2 := by unfold abz; split <;> omega
    have a1 : H_X12_abs m (S (890 + (4 * i + l))) = some (abz (S (890 + (4 * i + l)))) := r_abs (by omega)
    have a2 : H_X12_abs m (S (1210 + (4 * i + l))) = some (abz (S (1210 + (4 * i + l)))) := r_abs (by omega)
    rw [H_X11_whole_L13, H_X12_whole_L16, if_neg (show ¬ 80 ≤ i by omega), if_neg (show ¬ 80 ≤ i by omega), c_has hV.1 (by omega), Option.bind_some, z10, c_isWhole hV hi (by omega) hl, Option.bind_some, z01, wr_id (z := 10 + i) (by omega), rL hR (by omega) (by omega), Option.bind_some, wr_id (z := i + 1) (by omega), x1, x2, rL hR (by omega) (by omega), Option.bind_some, a1, Option.bind_some, rL hR (by omega) (by omega), Option.bind_some, a2, Option.bind_some, r_comes hR hi (by omega) hl, Option.bind_some, wr_id (z := abz _ + abz _) (by omega)]
    by_cases c1 : S (10 + i) ≤ l
    · rw [if_pos c1, if_pos c1]
      exact ih fu fu2 (i + 1) _ (by omega) (by omega) (by omega) (by omega)
    · rw [if_neg c1, if_neg c1]
      by_cases c2 : abz (S (890 + (4 * i + l))) + abz (S (1210 + (4 * i + l))) = inS S i l
      · rw [if_pos c2, if_pos c2]
        exact ih fu fu2 (i + 1) _ (by omega) (by omega) (by omega) (by omega)
      · rw [if_neg c2, if_neg c2]
        exact ih fu fu2 (i + 1) _ (by omega) (by omega) (by omega) (by omega)
theorem q23 (hV : Vw E (x + 1) J S) (hi : Inv S) (hR : Rf m Jr S) (z1 : Int) : ∃ r, H_X11_whole x z1 J = some r ∧ H_X12_whole m z1 Jr = some r := by
  unfold H_X11_whole H_X12_whole
  rw [z_isLayer, isq, Option.bind_some, z01, Option.bind_some, z01]
  by_cases h : 0 ≤ z1 ∧ z1 ≤ 3
  · rw [if_pos h, if_pos h]
    exact l23 hV hi hR h 80 1000000 1000000 0 0 (by omega) (by omega) (by omega) (by omega)
  · rw [if_neg h, if_neg h]
    exact ⟨_, rfl, rfl⟩
/-! READ -/
theorem l19 (hV : Vw E w J S) (hR : Rf m Jr S) (hi : Inv S) (hg : 0 ≤ g ∧ g < S 2) (k k2 : Int → Option Int) (k1 : Option Int) (q : Int)
    (hk1 : k1 = some (wr (S (3270 + g) - wr (3 * S (3070 + g)))))
    (hkk : ∀ i : Int, 0 ≤ i → i < S 5 → 0 < S (3590 + i) → ∃ u, k i = some u ∧ k2 i = some u) :
    ∀ (t fu fu2 : Nat) (i : Int), S 5 = i + t → 0 ≤ i → (∀ j : Int, 0 ≤ j → j < i → ¬ (S (3470 + j) = S (2270 + g) ∧ g < S (3650 + j))) → t < fu → t < fu2 → ∃ u, H_X6_putRight_L2 k (w + 21) g J fu i = some u ∧ H_X12_rightOf_L2 k1 k2 m g Jr fu2 i = some u := by
  have hc := i_cle hi
  have hrr := i_rea hi
  intro t
  induction t with
  | zero =>
    intro fu fu2 i h1 h2 h3 h4 h5
    obtain ⟨fu, rfl⟩ := nx h4
    obtain ⟨fu2, rfl⟩ := nx h5
    rw [H_X6_putRight_L2, H_X12_rightOf_L2, v_cle hV.1, rL hR (by omega) (by omega), Option.bind_some, if_pos (by omega), if_pos (by omega), vL_rsh hV.1 hg.1 (by omega), Option.bind_some, vL_rfo hV.1 hg.1 (by omega), Option.bind_some, hk1]
    exact ⟨_, rfl, rfl⟩
  | succ t ih =>
    intro fu fu2 i h1 h2 h3 h4 h5
    obtain ⟨fu, rfl⟩ := nx h4
    obtain ⟨fu2, rfl⟩ := nx h5
    rw [H_X6_putRight_L2, H_X12_rightOf_L2, v_cle hV.1, rL hR (z := 5) (by omega) (by omega), Option.bind_some, if_neg (show ¬ S 5 ≤ i by omega), if_neg (show ¬ S 5 ≤ i by omega), vL_cof hV.1 h2 (by omega), vL_rby hV.1 hg.1 (by omega), vL_cfo hV.1 h2 (by omega), vL_cat hV.1 h2 (by omega), wr_id (z := 3470 + i) (by omega), wr_id (z := 2270 + g) (by omega), wr_id (z := 3650 + i) (by omega), wr_id (z := i + 1) (by omega), rL hR (by omega) (by omega), rL hR (by omega) (by omega), rL hR (by omega) (by omega)]
    simp only [Option.bind_some, jp]
    have go : ¬ (S (3470 + i) = S (2270 + g) ∧ g < S (3650 + i)) → ∃ u, H_X6_putRight_L2 k (w + 21) g J fu (i + 1) = some u ∧ H_X12_rightOf_L2 k1 k2 m g Jr fu2 (i + 1) = some u := fun hn => ih fu fu2 (i + 1) (by omega) (by omega) (fun j j0 j1 => by
      by_cases e : j = i
      · subst e; exact hn
      · exact h3 j j0 (by omega)) (by omega) (by omega)
    by_cases c1 : S (3470 + i) = S (2270 + g)
    · rw [if_pos c1, if_pos c1]
      by_cases c2 : S (3650 + i) ≤ g
      · rw [if_pos c2, if_pos c2]
        exact go (by omega)
      · rw [if_neg c2, if_neg c2]
        have hpos := ((hi.2.2.2.2.2.2.2.2.2 g hg.1 hg.2).2 i h2 (by omega) h3).1 (by omega) c1 (by omega)
        obtain ⟨u, u1, u2⟩ := hkk i h2 (by omega) hpos
        rw [if_neg (show ¬ (1 : Int) = 0 by decide), if_neg (by omega), u1, u2]
        exact ⟨_, rfl, rfl⟩
    · rw [if_neg c1, if_neg c1]
      exact go (fun h => c1 h.1)
theorem q19 (hV : Vw E (x + 1) J S) (hi : Inv S) (hR : Rf m Jr S) (z1 z2 : Int) (h2 : z2 = 0 ∨ z2 = 1) : ∃ (k : Nat) (r : Int) (J2 : Jm), k ≤ 1 ∧ H_X11_read x z1 z2 J = some (k, r) ∧ H_X12_read m z1 z2 Jr = some (r, J2) ∧ J2 m 0 = (k : Int) ∧ J2 = jW Jr m 0 (k : Int) := by
  have hrr := i_rea hi
  unfold H_X11_read H_X12_read
  rw [r_isR hR hi, Option.bind_some, v_rea hV.1]
  simp only [nv]
  by_cases hg : 0 ≤ z1 ∧ z1 < S 2
  · have hR1 : Rf m (jW Jr m 0 0) S := rN hR (by omega)
    rw [if_pos hg, if_pos hg, if_neg (show ¬ (1 : Int) = 0 by decide), jW_at, if_pos (show (0 : Int) ≤ 0 by decide)]
    rcases h2 with h | h
    · rw [if_pos h, if_pos h, vL_rsh hV.1 hg.1 (by omega), wr_id (by omega), rL hR1 (by omega) (by omega)]
      exact ⟨0, _, _, by decide, rfl, rfl, jW_at, rfl⟩
    · have h' : ¬ z2 = 0 := by omega
      rw [if_neg h', if_neg h']
      unfold H_X6_putRight H_X12_rightOf
      rw [wr_id (z := 3270 + z1) (by omega), wr_id (z := 3070 + z1) (by omega), rL hR1 (z := 3270 + z1) (by omega) (by omega), Option.bind_some, rL hR1 (z := 3070 + z1) (by omega) (by omega), Option.bind_some]
      obtain ⟨u, u1, u2⟩ := l19 (w := x + 1) hV hR1 hi hg
        (fun (zy30 : Int) => (jL J (x + 1 + 21 + 6) 200 z1).bind fun zv33 => (jL J (x + 1 + 21 + 8) 60 zy30).bind fun zv36 => (jL J (x + 1 + 21 + 5) 200 z1).bind fun zv39 => (jL J (x + 1 + 21 + 9) 60 zy30).bind fun zv42 => (jD (wr (zv36 * (wr (zv39 + 1)))) zv42).bind fun zv44 => some (wr (zv33 - zv44)))
        (fun (zy24 : Int) => (some (S (3270 + z1))).bind fun zv27 => (jL (jW Jr m 0 0) (m + 1) 8369 (wr (3530 + zy24))).bind fun zv30 => (some (S (3070 + z1))).bind fun zv33 => (jL (jW Jr m 0 0) (m + 1) 8369 (wr (3590 + zy24))).bind fun zv36 => (jD (wr (zv30 * (wr (zv33 + 1)))) zv36).bind fun zv38 => some (wr (zv27 - zv38)))
        (some (wr (S (3270 + z1) - wr (3 * S (3070 + z1))))) 0 rfl
        (by
          intro i i0 i1 hpos
          have hc := i_cle hi
          simp only [Option.bind_some]
          rw [vL_rsh hV.1 hg.1 (by omega), Option.bind_some, vL_ctm hV.1 i0 (by omega), Option.bind_some, vL_rfo hV.1 hg.1 (by omega), Option.bind_some, vL_cfo hV.1 i0 (by omega), Option.bind_some, wr_id (z := 3530 + i) (by omega), wr_id (z := 3590 + i) (by omega), rL hR1 (by omega) (by omega), Option.bind_some, rL hR1 (by omega) (by omega), Option.bind_some]
          have ej : ∃ d, jD (wr (S (3530 + i) * wr (S (3070 + z1) + 1))) (S (3590 + i)) = some d := by
            unfold jD
            rw [if_neg (by omega)]
            exact ⟨_, rfl⟩
          obtain ⟨d, hd⟩ := ej
          rw [hd]
          exact ⟨_, rfl, rfl⟩)
        (S 5).toNat 1000000 1000000 0 (by have := i_cle hi; omega) (by omega) (fun j j0 j1 => by omega) (by have := i_cle hi; omega) (by have := i_cle hi; omega)
      rw [u1, u2]
      exact ⟨0, _, _, by decide, rfl, rfl, jW_at, rfl⟩
  · rw [if_neg hg, if_neg hg, if_pos rfl, jW_at, if_neg (show ¬ (1 : Int) ≤ 0 by decide)]
    exact ⟨1, 0, _, by decide, rfl, rfl, jW_at, rfl⟩
end CALLS
