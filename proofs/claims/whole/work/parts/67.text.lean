/-! A SHELF'S TEXT, THE REFERENCE -/
def cX (J : Jm) (m d : Nat) : Int → Int := cT (fun i => J (m + 16) (80 * d + i.toNat)) (J (m + 15) d)
def ltX (a b : Int) : Int := if a = 0 then -11 else if a = 2 then (if b = 0 then 0 else -12) else -12
section LOOKT
variable {E : Em} {x m d n rd q0 tx w b : Nat} {J J2 : Jm} {v : Option Nat}
theorem r_lt (hd : d < 8) : H_X12_lacksText m (d : Int) J = some (ltX (J (m + 9) d) (J (m + 14) d)) := by
  have q9 : jL J (m + 9) 8 (d : Int) = some (J (m + 9) d) := q_jL (by omega)
  have q14 : jL J (m + 14) 8 (d : Int) = some (J (m + 14) d) := q_jL (by omega)
  unfold H_X12_lacksText ltX
  rw [isq, Option.bind_some, z01, if_pos (by omega), q9, Option.bind_some, Option.bind_some, q14, Option.bind_some]
  split
  · rfl
  · split
    · split <;> rfl
    · rfl
theorem r_lt0 {z : Int} (hz : ¬ (0 ≤ z ∧ z ≤ 7)) : H_X12_lacksText m z J = some (-1) := by
  unfold H_X12_lacksText
  rw [isq, Option.bind_some, z01, if_neg hz]
theorem r_bringL (hd : d < 8) (hn : n ≤ 80) : ∀ (t fu i : Nat) (J : Jm), n = i + t → t < fu → J (m + 15) d = (n : Int) → (∀ j : Nat, j < i → J (m + 3) j = J (m + 16) (80 * d + j)) → ∃ J2, H_X12_bring_L12 m (d : Int) fu (i : Int) J = some J2 ∧ (∀ j : Nat, j < n → J2 (m + 3) j = J (m + 16) (80 * d + j)) ∧ ∀ b, b ≠ m + 3 → J2 b = J b
  | 0, fu, i, J, h1, h2, h3, h4 => by
    obtain ⟨fu, rfl⟩ := nx h2
    rw [H_X12_bring_L12, q_jL (by omega), Option.bind_some, h3, if_pos (by omega)]
    exact ⟨J, rfl, fun j hj => h4 j (by omega), fun _ _ => rfl⟩
  | t + 1, fu, i, J, h1, h2, h3, h4 => by
    obtain ⟨fu, rfl⟩ := nx h2
    rw [H_X12_bring_L12, q_jL (by omega), Option.bind_some, h3, if_neg (by omega), show wr (wr (80 * (d : Int)) + (i : Int)) = ((80 * d + i : Nat) : Int) by rw [wr_id (z := 80 * (d : Int)) (by omega), wr_id (by omega)]; omega, q_jL (by omega), Option.bind_some, zS (by omega) (by omega), Option.bind_some, wr_id (z := (i : Int) + 1) (by omega), show (i : Int) + 1 = ((i + 1 : Nat) : Int) by omega, show ((i : Nat) : Int).toNat = i by omega]
    obtain ⟨J2, a1, a2, a3⟩ := r_bringL hd hn t fu (i + 1) (jW J (m + 3) i (J (m + 16) (80 * d + i))) (by omega) (by omega) (by rw [jW_ne (by omega)]; exact h3) (fun j hj => by
      rw [jW_ne (a := m + 3) (b := m + 16) (by omega)]
      by_cases e : j = i
      · subst e; exact jW_at
      · rw [jW_of e]; exact h4 j (by omega))
    exact ⟨J2, a1, fun j hj => by rw [a2 j hj, jW_ne (by omega)], fun b hb => by rw [a3 b hb, jW_ne hb]⟩
theorem r_look (hd : d < 8) (hn : n ≤ 80) (h15 : J (m + 15) d = (n : Int)) : ∃ J5 J7, H_X12_bring m (d : Int) J = some J5 ∧ H_X12_goesOrder m (-1) (-1) J5 = some (if (pText (cX J m d) (n : Int) 8 0 []).1 = true then 1 else 0, J7) ∧ J7 m 12 = (pText (cX J m d) (n : Int) 8 0 []).2.1 ∧ J7 m 9 = (n : Int) ∧ (∀ i : Nat, i < n → J7 (m + 3) i = J (m + 16) (80 * d + i)) ∧ (∀ b, b ≠ m → b ≠ m + 3 → J7 b = J b) ∧ J7 m 3 = J m 3 := by
  unfold H_X12_bring
  simp only [nv]
  rw [q_jL (by omega), Option.bind_some, h15]
  obtain ⟨J5, a1, a2, a3⟩ := r_bringL (m := m) hd hn n 1000000 0 (jW J m 9 (n : Int)) (by omega) (by omega) (by rw [jW_ne (by omega)]; exact h15) (fun j hj => by omega)
  have e5 : ∀ b, b ≠ m → b ≠ m + 3 → J5 b = J b := fun b h1 h2 => by rw [a3 b h2, jW_ne h1]
  have q9 : J5 m 9 = (n : Int) := by rw [a3 m (by omega), jW_at]
  refine ⟨J5, ?_⟩
  unfold H_X12_goesOrder
  simp only [nv, jp]
  rw [if_neg (show ¬ 0 ≤ (-1 : Int) by decide), zZ (Or.inr rfl), Option.bind_some, jW_at, if_neg (show ¬ (1 : Int) = 0 by decide), jW_of (k := 10) (j := 13) (by decide), jW_at, if_neg (show ¬ (1 : Int) = 0 by decide), jW_of (k := 10) (j := 9) (by decide), jW_of (k := 13) (j := 9) (by decide), q9]
  generalize hQ : jW (jW (jW (jW (jW J5 m 13 1) m 10 0) m 11 (n : Int)) m 12 0) m 16 (-4) = Q
  have q13 : Q m 13 = 1 := by rw [← hQ]; simp (disch := omega) only [jW_of, jW_at]
  have q11 : Q m 11 = (n : Int) := by rw [← hQ]; simp (disch := omega) only [jW_of, jW_at]
  have q12 : Q m 12 = 0 := by rw [← hQ]; simp (disch := omega) only [jW_of, jW_at]
  have q16 : Q m 16 = -4 := by rw [← hQ]; simp (disch := omega) only [jW_of, jW_at]
  have q09 : Q m 9 = (n : Int) := by rw [← hQ]; simp (disch := omega) only [jW_of]; exact q9
  have q03 : Q m 3 = J m 3 := by rw [← hQ]; simp (disch := omega) only [jW_of]; rw [a3 m (by omega), jW_of (by decide)]
  have eQ : ∀ b, b ≠ m → Q b = J5 b := fun b hb => by rw [← hQ]; simp (disch := omega) only [jW_ne]
  have hA : At m (cX J m d) Q := by
    intro J9 hJ h0
    unfold H_X12_at
    rw [hJ.2 11 (by omega), hJ.2 13 (by omega), q11, q13, if_neg (show ¬ (1 : Int) = 0 by decide)]
    unfold cX cT
    rw [h15]
    by_cases h : J9 m 12 < (n : Int)
    · rw [if_pos h, if_pos ⟨h0, h⟩, zL (by omega) (by omega), Option.bind_some, hJ.1 _ (by omega), eQ _ (by omega)]
      have := a2 (J9 m 12).toNat (by omega)
      rw [this, jW_ne (by omega)]
    · rw [if_neg h, if_neg (fun q => h q.2)]
  have hc : Cn (cX J m d) (n : Int) := by
    refine ⟨by omega, fun p hp => ?_⟩
    unfold cX cT at hp
    rw [h15] at hp
    by_cases e : 0 ≤ p ∧ p < (n : Int)
    · exact e
    · rw [if_neg e] at hp; exact absurd rfl hp
  obtain ⟨J7, f1, f2, f3, f4, f5⟩ := r_text (g := -1) hc hA q11 (vf_no (by decide)) 8 1000000 0 Q [] Fx.r q12 (by omega) (by omega) (by decide) (by decide) (by decide) ⟨fun _ => q16, fun i r h => (by cases h)⟩
  refine ⟨J7, a1, f1, f3, by rw [f2.2 9 (by omega)]; exact q09, fun i hi => ?_, fun b h1 h2 => by rw [f2.1 b h1, eQ b h1, e5 b h1 h2], by rw [f2.2 3 (by omega)]; exact q03⟩
  rw [f2.1 _ (by omega), eQ _ (by omega), a2 i hi, jW_ne (by omega)]
/-! THE READER'S ORDER LIES APART -/
theorem nd_q {q : Nat} (h : W2 E q) (hd : dkb (E.1 b) = false) : b < q ∨ q + 8 < b := by
  by_cases h1 : b < q
  · exact Or.inl h1
  · by_cases h2 : q + 8 < b
    · exact Or.inr h2
    · exfalso
      have := dk_o h (b - q) (by omega)
      rw [show q + (b - q) = b by omega] at this
      exact tf (ok_dk this) hd
theorem ng_q {q : Nat} (h : W2 E q) (hd : gkb (E.1 b) = true) : b < q ∨ q + 8 < b := by
  by_cases h1 : b < q
  · exact Or.inl h1
  · by_cases h2 : q + 8 < b
    · exact Or.inr h2
    · exfalso
      have := dk_o h (b - q) (by omega)
      rw [show q + (b - q) = b by omega] at this
      exact gk_ok hd this
theorem row_o {q : Nat} (h : W2 E q) : ∀ k : Nat, k < 8 → (E.1 (q + (k + 1))).1 ≠ 9
  | 0, _ => by rw [show E.1 (q + (0 + 1)) = _ from h.2.1.2]; decide
  | 1, _ => by rw [show E.1 (q + (1 + 1)) = _ from h.2.2.1.2]; decide
  | 2, _ => by rw [show E.1 (q + (2 + 1)) = _ from h.2.2.2.1.2]; decide
  | 3, _ => by rw [show E.1 (q + (3 + 1)) = _ from h.2.2.2.2.1.2]; decide
  | 4, _ => by rw [show E.1 (q + (4 + 1)) = _ from h.2.2.2.2.2.1.2]; decide
  | 5, _ => by rw [show E.1 (q + (5 + 1)) = _ from h.2.2.2.2.2.2.1.2]; decide
  | 6, _ => by rw [show E.1 (q + (6 + 1)) = _ from h.2.2.2.2.2.2.2.1.2]; decide
  | 7, _ => by rw [show E.1 (q + (7 + 1)) = _ from h.2.2.2.2.2.2.2.2.2]; decide
  | k + 8, q => absurd q (by omega)
theorem o_ap {p q : Nat} (hp : W2 E p) (hq : W2 E q) (hne : p ≠ q) : p + 8 < q ∨ q + 8 < p := by
  by_cases h1 : p + 8 < q
  · exact Or.inl h1
  · by_cases h2 : q + 8 < p
    · exact Or.inr h2
    · exfalso
      by_cases h3 : p < q
      · have := row_o hp (q - p - 1) (by omega)
        rw [show p + (q - p - 1 + 1) = q by omega, hq.1] at this
        exact this rfl
      · have := row_o hq (p - q - 1) (by omega)
        rw [show q + (p - q - 1 + 1) = p by omega, hp.1] at this
        exact this rfl
theorem kw_q (h : W10 E w) (hq : W2 E q0) (hn : ∀ j, E.2.1 (w + 15) j ≠ some q0) (hb : Kw E w b) : b < q0 ∨ q0 + 8 < b := by
  rcases hb with hb | ⟨j, a, ha, hb⟩ | ⟨j, q, i, hj, hi, hb⟩
  · exact nd_q hq (st_w2 h hb.1 (by omega))
  · have g := dk_g (h.2.2.1.2.2 j a ha)
    rcases hb with hb | hb <;> subst hb
    · exact ng_q hq g.1
    · exact ng_q hq g.2
  · have := o_ap (h.2.2.2.2.1.2.2 j q hj) hq (fun e => hn j (by rw [← e]; exact hj))
    omega
theorem kw_rd (wx : W11 E x) (h : W10 E w) (hw : w + 31 < x + 45 ∨ x + 45 < w) (hb : Kw E w b) : b ≠ x + 45 := fun e => by
  have := kw_st h hb (by rw [e]; exact st_x wx (by omega) (by omega))
  omega
/-- the reader and its ORDER may be others -/
theorem rel_q {o : Nat} (wx : W11 E x) (wm : W12 E m) (hI : RelI x m o E J) (hq0 : E.2.1 (x + 45) 0 = some q0) (fr : ∀ b, b ≠ x + 45 → (b < q0 ∨ q0 + 8 < b) → J2 b = J b) : RelI x m o E J2 := by
  obtain ⟨i1, i2, i3, io, i4, i5, ⟨q1, k1, k2, k3, k4⟩, i7⟩ := hI
  have e : q1 = q0 := by rw [k1] at hq0; cases hq0; rfl
  subst e
  have w2 := wx.2.2.2.1.2.2.1 _ k1
  have fm : ∀ b, m ≤ b → b ≤ m + 17 → J2 b = J b := fun b h1 h2 => fr b (by omega) (nd_q w2 (st_m2 wm h1 h2))
  refine ⟨i1, i2, i3, io, sh_fr i4 (fun b hb => ?_), i5, ⟨q1, k1, k2, wdK k3 (fun b hb => fr b (kw_rd wx wx.2.1.2 (by omega) hb) (kw_q wx.2.1.2 w2 k2.2.2 hb)) (fm _ (by omega) (by omega)), ?_⟩, fun p hp => by rw [fm _ (by omega) (by omega)]; exact i7 p hp⟩
  · rcases hb with hb | hb
    · exact fr b (by omega) (nd_q w2 (st_s wx i4 hb.1 hb.2))
    · exact fm b (by omega) (by omega)
  · rcases k4 with ⟨a1, a2⟩ | ⟨a1, w', a2, a3, a4, a5, a6⟩
    · exact Or.inl ⟨by rw [fm m (by omega) (by omega)]; exact a1, a2⟩
    · have w10 := wx.2.2.2.2.2 w' a2
      exact Or.inr ⟨by rw [fm m (by omega) (by omega)]; exact a1, w', a2, a3, a4, a5, wdK a6 (fun b hb => fr b (kw_rd wx w10 (by omega) hb) (kw_q w10 w2 a4.2.2 hb)) (fm _ (by omega) (by omega))⟩
theorem wd_E {E' : Em} {r : Nat} (h : Wd E w J r) (eg : E'.2.1 (w + 13) = E.2.1 (w + 13)) (eo : E'.2.1 (w + 15) = E.2.1 (w + 15)) : Wd E' w J r := by
  obtain ⟨S, s1, s2, s3⟩ := h
  exact ⟨S, vw_R s1 eg eo, s2, s3⟩
/-- the text that the reader reads may be another -/
theorem rel_R {o : Nat} (hI : RelI x m o E J) : RelI x m o (eR E (x + 45) 1 v) J := by
  obtain ⟨i1, i2, i3, io, i4, i5, ⟨q0, k1, k2, k3, k4⟩, i7⟩ := hI
  refine ⟨i1, i2, i3, io, sh_E i4 (eR_n (by omega)), by rw [eR_n (by omega)]; exact i5, ⟨q0, by rw [eR_o (by decide)]; exact k1, ?_, wd_E k3 (eR_n (by omega)) (eR_n (by omega)), ?_⟩, i7⟩
  · unfold Wp
    rw [eR_n (by omega), eR_n (by omega)]; exact k2
  · rcases k4 with ⟨a1, a2⟩ | ⟨a1, w', a2, a3, a4, a5, a6⟩
    · exact Or.inl ⟨a1, by rw [eR_n (by omega)]; exact a2⟩
    · refine Or.inr ⟨a1, w', by rw [eR_n (by omega)]; exact a2, a3, ?_, ?_, wd_E a6 (eR_n (by omega)) (eR_n (by omega))⟩
      · unfold Wp
        rw [eR_n (by omega), eR_n (by omega)]; exact a4
      · rw [eR_n (by omega), eR_n (by omega)]; exact a5
theorem w11_R (wx : W11 E x) (hI : K0 E) (hp : E.2.1 (x + 34) 0 = some (x + 1) ∧ E.2.1 (x + 34) 1 = some (x + 1 + 1)) (hw : ∀ w', E.2.1 x 4 = some w' → x + 45 < w') (ht : Wa E tx) : Xk E (eR E (x + 45) 1 (some tx)) ∧ W11 (eR E (x + 45) 1 (some tx)) x := by
  have X : Xk E (eR E (x + 45) 1 (some tx)) := ⟨k0_R hI, Nat.le_refl _, fun _ _ => rfl, fun b _ _ _ h10 _ => eR_n (fun e => h10 (by rw [e, wx.2.2.2.1.2.1]))⟩
  refine ⟨X, w11_x hI X wx hp (w10_s hI X wx.2.1.2 (eR_n (by omega)) (eR_n (by omega))) (fun q hq => ?_) (fun q hq => ?_) (fun i _ => by rw [eR_n (by omega)]) (fun q hq => ?_)⟩
  · rw [eR_o (by decide)] at hq
    exact w2_x hI X (wx.2.2.2.1.2.2.1 q hq)
  · rw [eR_s] at hq
    cases hq
    exact wa_x hI X ht
  · rw [eR_n (by omega)] at hq
    have := hw q hq
    exact w10_s hI X (wx.2.2.2.2.2 q hq) (eR_n (by omega)) (eR_n (by omega))
end LOOKT
