/-! THE TWO SIDES' RELATION -/
def gkb (k : Nat × Nat) : Bool := k == (7, 0) || k == (1, 400)
def okb (k : Nat × Nat) : Bool := k == (9, 0) || k == (1, 6) || k == (1, 20) || k == (2, 20)
/-- the kinds of a GLIDER's and an ORDER's cells -/
def dkb (k : Nat × Nat) : Bool := gkb k || okb k

theorem st_w {E : Em} {w : Nat} (h : W10 E w) : ∀ k : Nat, k < 33 → dkb (E.1 (w + k)) = false
  | 0, _ => (congrArg dkb (show E.1 (w + 0) = _ from h.1)).trans rfl
  | 1, _ => (congrArg dkb (show E.1 (w + 1) = _ from h.2.1.2.1)).trans rfl
  | 2, _ => (congrArg dkb (show E.1 (w + 2) = _ from h.2.1.2.2.1.2)).trans rfl
  | 3, _ => (congrArg dkb (show E.1 (w + 3) = _ from h.2.1.2.2.2.1.2)).trans rfl
  | 4, _ => (congrArg dkb (show E.1 (w + 4) = _ from h.2.1.2.2.2.2.1.2)).trans rfl
  | 5, _ => (congrArg dkb (show E.1 (w + 5) = _ from h.2.1.2.2.2.2.2.1.2)).trans rfl
  | 6, _ => (congrArg dkb (show E.1 (w + 6) = _ from h.2.1.2.2.2.2.2.2.1.2)).trans rfl
  | 7, _ => (congrArg dkb (show E.1 (w + 7) = _ from h.2.1.2.2.2.2.2.2.2.1.2.1)).trans rfl
  | 8, _ => (congrArg dkb (show E.1 (w + 8) = _ from h.2.1.2.2.2.2.2.2.2.1.2.2.1.2)).trans rfl
  | 9, _ => (congrArg dkb (show E.1 (w + 9) = _ from h.2.1.2.2.2.2.2.2.2.1.2.2.2.2)).trans rfl
  | 10, _ => (congrArg dkb (show E.1 (w + 10) = _ from h.2.1.2.2.2.2.2.2.2.2.2.1)).trans rfl
  | 11, _ => (congrArg dkb (show E.1 (w + 11) = _ from h.2.1.2.2.2.2.2.2.2.2.2.2.1.2)).trans rfl
  | 12, _ => (congrArg dkb (show E.1 (w + 12) = _ from h.2.1.2.2.2.2.2.2.2.2.2.2.2.2)).trans rfl
  | 13, _ => (congrArg dkb (show E.1 (w + 13) = _ from h.2.2.1.2.1)).trans rfl
  | 14, _ => (congrArg dkb (show E.1 (w + 14) = _ from h.2.2.2.1.2)).trans rfl
  | 15, _ => (congrArg dkb (show E.1 (w + 15) = _ from h.2.2.2.2.1.2.1)).trans rfl
  | 16, _ => (congrArg dkb (show E.1 (w + 16) = _ from h.2.2.2.2.2.1.2.1)).trans rfl
  | 17, _ => (congrArg dkb (show E.1 (w + 17) = _ from h.2.2.2.2.2.1.2.2.1.2)).trans rfl
  | 18, _ => (congrArg dkb (show E.1 (w + 18) = _ from h.2.2.2.2.2.1.2.2.2.1.2)).trans rfl
  | 19, _ => (congrArg dkb (show E.1 (w + 19) = _ from h.2.2.2.2.2.1.2.2.2.2.1.2)).trans rfl
  | 20, _ => (congrArg dkb (show E.1 (w + 20) = _ from h.2.2.2.2.2.1.2.2.2.2.2.2)).trans rfl
  | 21, _ => (congrArg dkb (show E.1 (w + 21) = _ from h.2.2.2.2.2.2.1.2.1)).trans rfl
  | 22, _ => (congrArg dkb (show E.1 (w + 22) = _ from h.2.2.2.2.2.2.1.2.2.1.2)).trans rfl
  | 23, _ => (congrArg dkb (show E.1 (w + 23) = _ from h.2.2.2.2.2.2.1.2.2.2.1.2)).trans rfl
  | 24, _ => (congrArg dkb (show E.1 (w + 24) = _ from h.2.2.2.2.2.2.1.2.2.2.2.1.2)).trans rfl
  | 25, _ => (congrArg dkb (show E.1 (w + 25) = _ from h.2.2.2.2.2.2.1.2.2.2.2.2.1.2)).trans rfl
  | 26, _ => (congrArg dkb (show E.1 (w + 26) = _ from h.2.2.2.2.2.2.1.2.2.2.2.2.2.1.2)).trans rfl
  | 27, _ => (congrArg dkb (show E.1 (w + 27) = _ from h.2.2.2.2.2.2.1.2.2.2.2.2.2.2.1.2)).trans rfl
  | 28, _ => (congrArg dkb (show E.1 (w + 28) = _ from h.2.2.2.2.2.2.1.2.2.2.2.2.2.2.2.1.2)).trans rfl
  | 29, _ => (congrArg dkb (show E.1 (w + 29) = _ from h.2.2.2.2.2.2.1.2.2.2.2.2.2.2.2.2.1.2)).trans rfl
  | 30, _ => (congrArg dkb (show E.1 (w + 30) = _ from h.2.2.2.2.2.2.1.2.2.2.2.2.2.2.2.2.2.1.2)).trans rfl
  | 31, _ => (congrArg dkb (show E.1 (w + 31) = _ from h.2.2.2.2.2.2.1.2.2.2.2.2.2.2.2.2.2.2.2)).trans rfl
  | 32, _ => (congrArg dkb (show E.1 (w + 32) = _ from h.2.2.2.2.2.2.2.2)).trans rfl
  | k + 33, q => absurd q (by omega)

theorem st_p {E : Em} {w : Nat} (h : W5 E w) : ∀ k : Nat, k < 11 → dkb (E.1 (w + k)) = false
  | 0, _ => (congrArg dkb (show E.1 (w + 0) = _ from h.1)).trans rfl
  | 1, _ => (congrArg dkb (show E.1 (w + 1) = _ from h.2.2.2.1.2)).trans rfl
  | 2, _ => (congrArg dkb (show E.1 (w + 2) = _ from h.2.2.2.2.1.2)).trans rfl
  | 3, _ => (congrArg dkb (show E.1 (w + 3) = _ from h.2.2.2.2.2.1.2)).trans rfl
  | 4, _ => (congrArg dkb (show E.1 (w + 4) = _ from h.2.2.2.2.2.2.1.2)).trans rfl
  | 5, _ => (congrArg dkb (show E.1 (w + 5) = _ from h.2.2.2.2.2.2.2.1.2)).trans rfl
  | 6, _ => (congrArg dkb (show E.1 (w + 6) = _ from h.2.2.2.2.2.2.2.2.1.2)).trans rfl
  | 7, _ => (congrArg dkb (show E.1 (w + 7) = _ from h.2.2.2.2.2.2.2.2.2.1.2)).trans rfl
  | 8, _ => (congrArg dkb (show E.1 (w + 8) = _ from h.2.2.2.2.2.2.2.2.2.2.1.2)).trans rfl
  | 9, _ => (congrArg dkb (show E.1 (w + 9) = _ from h.2.2.2.2.2.2.2.2.2.2.2.1.2)).trans rfl
  | 10, _ => (congrArg dkb (show E.1 (w + 10) = _ from h.2.2.2.2.2.2.2.2.2.2.2.2.2)).trans rfl
  | k + 11, q => absurd q (by omega)

theorem st_m {E : Em} {w : Nat} (h : W12 E w) : ∀ k : Nat, k < 18 → dkb (E.1 (w + k)) = false
  | 0, _ => (congrArg dkb (show E.1 (w + 0) = _ from h.1)).trans rfl
  | 1, _ => (congrArg dkb (show E.1 (w + 1) = _ from h.2.1.2)).trans rfl
  | 2, _ => (congrArg dkb (show E.1 (w + 2) = _ from h.2.2.1.2)).trans rfl
  | 3, _ => (congrArg dkb (show E.1 (w + 3) = _ from h.2.2.2.1.2)).trans rfl
  | 4, _ => (congrArg dkb (show E.1 (w + 4) = _ from h.2.2.2.2.1.2)).trans rfl
  | 5, _ => (congrArg dkb (show E.1 (w + 5) = _ from h.2.2.2.2.2.1.2)).trans rfl
  | 6, _ => (congrArg dkb (show E.1 (w + 6) = _ from h.2.2.2.2.2.2.1.2)).trans rfl
  | 7, _ => (congrArg dkb (show E.1 (w + 7) = _ from h.2.2.2.2.2.2.2.1.2)).trans rfl
  | 8, _ => (congrArg dkb (show E.1 (w + 8) = _ from h.2.2.2.2.2.2.2.2.1.2)).trans rfl
  | 9, _ => (congrArg dkb (show E.1 (w + 9) = _ from h.2.2.2.2.2.2.2.2.2.1.2)).trans rfl
  | 10, _ => (congrArg dkb (show E.1 (w + 10) = _ from h.2.2.2.2.2.2.2.2.2.2.1.2)).trans rfl
  | 11, _ => (congrArg dkb (show E.1 (w + 11) = _ from h.2.2.2.2.2.2.2.2.2.2.2.1.2)).trans rfl
  | 12, _ => (congrArg dkb (show E.1 (w + 12) = _ from h.2.2.2.2.2.2.2.2.2.2.2.2.1.2)).trans rfl
  | 13, _ => (congrArg dkb (show E.1 (w + 13) = _ from h.2.2.2.2.2.2.2.2.2.2.2.2.2.1.2)).trans rfl
  | 14, _ => (congrArg dkb (show E.1 (w + 14) = _ from h.2.2.2.2.2.2.2.2.2.2.2.2.2.2.1.2)).trans rfl
  | 15, _ => (congrArg dkb (show E.1 (w + 15) = _ from h.2.2.2.2.2.2.2.2.2.2.2.2.2.2.2.1.2)).trans rfl
  | 16, _ => (congrArg dkb (show E.1 (w + 16) = _ from h.2.2.2.2.2.2.2.2.2.2.2.2.2.2.2.2.1.2)).trans rfl
  | 17, _ => (congrArg dkb (show E.1 (w + 17) = _ from h.2.2.2.2.2.2.2.2.2.2.2.2.2.2.2.2.2.2)).trans rfl
  | k + 18, q => absurd q (by omega)

theorem dk_g {E : Em} {a : Nat} (h : W0 E a) : gkb (E.1 a) = true ∧ gkb (E.1 (a + 1)) = true := ⟨(congrArg gkb h.1).trans rfl, (congrArg gkb h.2.2).trans rfl⟩
theorem dk_o {E : Em} {q : Nat} (h : W2 E q) : ∀ k : Nat, k ≤ 8 → okb (E.1 (q + k)) = true
  | 0, _ => (congrArg okb (show E.1 (q + 0) = _ from h.1)).trans rfl
  | 1, _ => (congrArg okb h.2.1.2).trans rfl
  | 2, _ => (congrArg okb h.2.2.1.2).trans rfl
  | 3, _ => (congrArg okb h.2.2.2.1.2).trans rfl
  | 4, _ => (congrArg okb h.2.2.2.2.1.2).trans rfl
  | 5, _ => (congrArg okb h.2.2.2.2.2.1.2).trans rfl
  | 6, _ => (congrArg okb h.2.2.2.2.2.2.1.2).trans rfl
  | 7, _ => (congrArg okb h.2.2.2.2.2.2.2.1.2).trans rfl
  | 8, _ => (congrArg okb h.2.2.2.2.2.2.2.2.2).trans rfl
  | k + 9, q => absurd q (by omega)
theorem gk_dk {k : Nat × Nat} (h : gkb k = true) : dkb k = true := by unfold dkb; rw [h]; rfl
theorem ok_dk {k : Nat × Nat} (h : okb k = true) : dkb k = true := by unfold dkb; rw [h]; cases gkb k <;> rfl
theorem gk_ok {k : Nat × Nat} (h : gkb k = true) (h2 : okb k = true) : False := by
  unfold gkb at h
  simp only [Bool.or_eq_true, beq_iff_eq] at h
  rcases h with h | h <;> rw [h] at h2 <;> exact absurd h2 (by decide)
theorem tf {b : Bool} (h : b = true) (h2 : b = false) : False := by rw [h] at h2; cases h2
section RELA
variable {E : Em} {x w m o q0 r : Nat} {J J2 : Jm} {S : Int → Int}
/-- a world's cells -/
def Kw (E : Em) (w b : Nat) : Prop := (w ≤ b ∧ b ≤ w + 31) ∨ (∃ j a, E.2.1 (w + 13) j = some a ∧ (b = a ∨ b = a + 1)) ∨ ∃ j q i, E.2.1 (w + 15) j = some q ∧ i ≤ 8 ∧ b = q + i
theorem vwK (h : Vw E w J S) (e : ∀ b, Kw E w b → J2 b = J b) : Vw E w J2 S := vwE h (fun c c1 c2 => e c (Or.inl ⟨c1, c2⟩)) (fun j a ha => ⟨e a (Or.inr (Or.inl ⟨j, a, ha, Or.inl rfl⟩)), e _ (Or.inr (Or.inl ⟨j, a, ha, Or.inr rfl⟩))⟩) (fun j q hq i hi => e _ (Or.inr (Or.inr ⟨j, q, i, hq, hi, rfl⟩)))
/-- a world and a row of the reference hold the same -/
def Wd (E : Em) (w : Nat) (J : Jm) (r : Nat) : Prop := ∃ S, Vw E w J S ∧ Rf r J S ∧ Inv S
theorem wdK (h : Wd E w J r) (e : ∀ b, Kw E w b → J2 b = J b) (er : J2 (r + 1) = J (r + 1)) : Wd E w J2 r := by
  obtain ⟨S, h1, h2, h3⟩ := h
  exact ⟨S, vwK h1 e, rE h2 er, h3⟩
/-- a world's objects -/
def Wp (E : Em) (w m q0 : Nat) : Prop := (∀ i j a, E.2.1 (w + 13) i = some a → E.2.1 (w + 13) j = some a → i = j) ∧ (∀ j a, E.2.1 (w + 13) j = some a → m + 18 < a) ∧ ∀ j, E.2.1 (w + 15) j ≠ some q0
def RelI : Iv := fun x m o E J => (∀ a, (E.1 a).1 ≠ 0 → a < E.2.2.2) ∧ m = x + 73 ∧ o = m + 18 ∧ (E.1 o).1 ≠ 0 ∧ Shs x m E J ∧ (E.2.1 (x + 34) 0 = some (x + 1) ∧ E.2.1 (x + 34) 1 = some (x + 1 + 1)) ∧ (∃ q0, E.2.1 (x + 45) 0 = some q0 ∧ Wp E (x + 1) m q0 ∧ Wd E (x + 1) J m ∧ (J m 3 = 0 ∧ E.2.1 x 4 = none ∨ J m 3 = 1 ∧ ∃ w', E.2.1 x 4 = some w' ∧ m + 18 < w' ∧ Wp E w' m q0 ∧ (∀ i j a, E.2.1 (x + 1 + 13) i = some a → E.2.1 (w' + 13) j ≠ some a) ∧ Wd E w' J (m + 1))) ∧ ∀ p : Nat, p < 80 → J (m + 8) p = 0
/-- a world's cells are no one else's -/
theorem kw_st (h : W10 E w) {b : Nat} (hb : Kw E w b) (hd : dkb (E.1 b) = false) : w ≤ b ∧ b ≤ w + 31 := by
  rcases hb with hb | ⟨j, a, ha, hb⟩ | ⟨j, q, i, hq, hi, hb⟩
  · exact hb
  · exfalso
    have g := dk_g (h.2.2.1.2.2 j a ha)
    rcases hb with hb | hb <;> subst hb
    · exact tf (gk_dk g.1) hd
    · exact tf (gk_dk g.2) hd
  · exfalso
    subst hb
    exact tf (ok_dk (dk_o (h.2.2.2.2.1.2.2 j q hq) i hi)) hd
theorem st_w2 (h : W10 E w) {b : Nat} (h1 : w ≤ b) (h2 : b ≤ w + 32) : dkb (E.1 b) = false := by
  have := st_w h (b - w) (by omega)
  rw [show w + (b - w) = b by omega] at this; exact this
theorem st_p2 (h : W5 E w) {b : Nat} (h1 : w ≤ b) (h2 : b ≤ w + 10) : dkb (E.1 b) = false := by
  have := st_p h (b - w) (by omega)
  rw [show w + (b - w) = b by omega] at this; exact this
theorem st_m2 (h : W12 E w) {b : Nat} (h1 : w ≤ b) (h2 : b ≤ w + 17) : dkb (E.1 b) = false := by
  have := st_m h (b - w) (by omega)
  rw [show w + (b - w) = b by omega] at this; exact this
theorem st_x (wx : W11 E x) {b : Nat} (h1 : x ≤ b) (h2 : b ≤ x + 45) : dkb (E.1 b) = false := by
  by_cases e : b = x
  · subst e; exact (congrArg dkb wx.1).trans rfl
  · by_cases e2 : b ≤ x + 33
    · exact st_w2 wx.2.1.2 (by omega) (by omega)
    · by_cases e3 : b ≤ x + 44
      · exact st_p2 wx.2.2.1.2 (by omega) (by omega)
      · have e4 : b = x + 45 := by omega
        subst e4; exact (congrArg dkb wx.2.2.2.1.2.1).trans rfl
theorem st_s (wx : W11 E x) (hS : Shs x m E J) {b : Nat} (h1 : x + 57 ≤ b) (h2 : b < x + 73) : dkb (E.1 b) = false := by
  have hd : (b - (x + 57)) / 2 < 8 := by omega
  have w8 := wx.2.2.2.2.1.2.2 _ _ (hS _ hd).1
  by_cases e : b = x + 57 + 2 * ((b - (x + 57)) / 2)
  · rw [e]; exact (congrArg dkb w8.1).trans rfl
  · rw [show b = x + 57 + 2 * ((b - (x + 57)) / 2) + 1 by omega]; exact (congrArg dkb w8.2.2).trans rfl
theorem rel_ag (wx : W11 E x) (hW : Wp E (x + 1) m q0) (hm : m = x + 73) : ∀ j a, E.2.1 (x + 1 + 13) j = some a → a + 1 < x + 1 ∨ x + 1 + 43 < a := fun j a ha => by have := hW.2.1 j a ha; omega
theorem rel_ao (wx : W11 E x) : ∀ j q, E.2.1 (x + 1 + 15) j = some q → q + 8 < x + 1 ∨ x + 1 + 43 < q := fun j q hq => by
  have w2 := wx.2.1.2.2.2.2.2.1.2.2 j q hq
  by_cases h1 : q + 8 < x + 1
  · exact Or.inl h1
  · by_cases h2 : x + 1 + 43 < q
    · exact Or.inr h2
    · exfalso
      by_cases h3 : x + 1 ≤ q
      · exact tf (ok_dk (dk_o w2 0 (by omega))) (st_x wx (b := q + 0) (by omega) (by omega))
      · have := dk_o w2 (x + 1 - q) (by omega)
        rw [show q + (x + 1 - q) = x + 1 by omega] at this
        exact tf (ok_dk this) (st_x wx (by omega) (by omega))
theorem w_sp (h : W10 E w) (hj : ∀ i j a, E.2.1 (w + 13) i = some a → E.2.1 (w + 13) j = some a → i = j) : Sp E w := by
  refine ⟨fun j a ha => ?_, fun j a i b ha hb hji => ?_, fun j q hq => ?_, fun j a i q ha hq => ?_⟩
  · have g := dk_g (h.2.2.1.2.2 j a ha)
    by_cases h1 : a + 1 < w
    · exact Or.inl h1
    · by_cases h2 : w + 32 < a
      · exact Or.inr h2
      · exfalso
        by_cases h3 : w ≤ a
        · exact tf (gk_dk g.1) (st_w2 h h3 (by omega))
        · exact tf (gk_dk g.2) (st_w2 h (by omega) (by omega))
  · have wa := h.2.2.1.2.2 j a ha
    have wb := h.2.2.1.2.2 i b hb
    by_cases h1 : a + 1 < b
    · exact Or.inl h1
    · by_cases h2 : b + 1 < a
      · exact Or.inr h2
      · exfalso
        by_cases e : a = b
        · subst e; exact hji (hj _ _ _ ha hb)
        · by_cases e2 : a = b + 1
          · have := wa.1; rw [e2, wb.2.2] at this; cases this
          · have e3 : b = a + 1 := by omega
            have := wb.1; rw [e3, wa.2.2] at this; cases this
  · have w2 := h.2.2.2.2.1.2.2 j q hq
    by_cases h1 : q + 8 < w
    · exact Or.inl h1
    · by_cases h2 : w + 32 < q
      · exact Or.inr h2
      · exfalso
        by_cases h3 : w ≤ q
        · exact tf (ok_dk (dk_o w2 0 (by omega))) (st_w2 h (b := q + 0) (by omega) (by omega))
        · have := dk_o w2 (w - q) (by omega)
          rw [show q + (w - q) = w by omega] at this
          exact tf (ok_dk this) (st_w2 h (by omega) (by omega))
  · have g := dk_g (h.2.2.1.2.2 j a ha)
    have w2 := h.2.2.2.2.1.2.2 i q hq
    by_cases h1 : a + 1 < q
    · exact Or.inl h1
    · by_cases h2 : q + 8 < a
      · exact Or.inr h2
      · exfalso
        by_cases h3 : q ≤ a
        · have := dk_o w2 (a - q) (by omega)
          rw [show q + (a - q) = a by omega] at this
          exact gk_ok g.1 this
        · have := dk_o w2 (a + 1 - q) (by omega)
          rw [show q + (a + 1 - q) = a + 1 by omega] at this
          exact gk_ok g.2 this
theorem sh_fr (hS : Shs x m E J) (e : ∀ b, ShA x m b → J2 b = J b) : Shs x m E J2 := fun d hd => by
  have h := hS d hd
  unfold ShD at h ⊢
  unfold ShA at e
  rw [e (x + 57 + 2 * d) (by omega), e (x + 57 + 2 * d + 1) (by omega), e (m + 9) (by omega), e (m + 10) (by omega), e (m + 11) (by omega), e (m + 12) (by omega), e (m + 13) (by omega), e (m + 14) (by omega), e (m + 15) (by omega), e (m + 16) (by omega)]
  exact h
/-- where the kept world's cells lie -/
theorem kw_k {w' : Nat} (wx : W11 E x) (wm : W12 E m) (hS : Shs x m E J) (hm : m = x + 73) (h4 : E.2.1 x 4 = some w') (hw : m + 18 < w') (hcr : ∀ i j a, E.2.1 (x + 1 + 13) i = some a → E.2.1 (w' + 13) j ≠ some a) {b : Nat} (hb : Kw E w' b) : ¬ (x ≤ b ∧ b ≤ x + 45) ∧ ¬ (m ≤ b ∧ b ≤ m + 17) ∧ ¬ ShA x m b ∧ ∀ j a, E.2.1 (x + 1 + 13) j = some a → b ≠ a ∧ b ≠ a + 1 := by
  have w10 := wx.2.2.2.2.2 w' h4
  have n1 : ¬ (x ≤ b ∧ b ≤ x + 45) := fun q => by
    have := kw_st w10 hb (st_x wx q.1 q.2)
    omega
  have n2 : ¬ (m ≤ b ∧ b ≤ m + 17) := fun q => by
    have := kw_st w10 hb (st_m2 wm q.1 q.2)
    omega
  have n3 : ¬ ShA x m b := fun q => by
    rcases q with q | q
    · have := kw_st w10 hb (st_s wx hS q.1 q.2)
      omega
    · exact n2 ⟨by omega, q.2⟩
  refine ⟨n1, n2, n3, fun j a ha => ?_⟩
  have wa := wx.2.1.2.2.2.1.2.2 j a ha
  have g := dk_g wa
  rcases hb with hb | ⟨j2, a2, ha2, hb⟩ | ⟨j2, q, i, hq, hi, hb⟩
  · have s := st_w2 w10 hb.1 (by omega)
    refine ⟨fun e => ?_, fun e => ?_⟩ <;> subst e
    · exact tf (gk_dk g.1) s
    · exact tf (gk_dk g.2) s
  · have wa2 := w10.2.2.1.2.2 j2 a2 ha2
    have hne : a ≠ a2 := fun e => hcr j j2 a ha (by rw [e]; exact ha2)
    rcases hb with hb | hb <;> subst hb
    · refine ⟨fun e => hne e.symm, fun e => ?_⟩
      have := wa2.1; rw [e, wa.2.2] at this; cases this
    · refine ⟨fun e => ?_, fun e => hne (by omega)⟩
      have := wa.1; rw [← e, wa2.2.2] at this; cases this
  · subst hb
    have s := dk_o (w10.2.2.2.2.1.2.2 j2 q hq) i hi
    refine ⟨fun e => ?_, fun e => ?_⟩
    · rw [e] at s; exact gk_ok g.1 s
    · rw [e] at s; exact gk_ok g.2 s
/-- where the now world's cells lie -/
theorem kw_n (wx : W11 E x) (wm : W12 E m) (hS : Shs x m E J) (hm : m = x + 73) {b : Nat} (hb : Kw E (x + 1) b) : ¬ (m ≤ b ∧ b ≤ m + 17) ∧ ¬ ShA x m b := by
  have w10 := wx.2.1.2
  have n2 : ¬ (m ≤ b ∧ b ≤ m + 17) := fun q => by
    have := kw_st w10 hb (st_m2 wm q.1 q.2)
    omega
  refine ⟨n2, fun q => ?_⟩
  rcases q with q | q
  · have := kw_st w10 hb (st_s wx hS q.1 q.2)
    omega
  · exact n2 ⟨by omega, q.2⟩
/-- the relation holds on: the world of now may be another -/
theorem rel_fr (wx : W11 E x) (wm : W12 E m) (hI : RelI x m o E J) (fr : ∀ b, ¬ (x + 1 ≤ b ∧ b ≤ x + 44) → ¬ (m ≤ b ∧ b < m + 9 ∧ b ≠ m + 2) → (∀ j a, E.2.1 (x + 1 + 13) j = some a → b ≠ a ∧ b ≠ a + 1) → J2 b = J b) (h3 : J2 m 3 = J m 3) (hz : ∀ p : Nat, p < 80 → J2 (m + 8) p = 0) (hW : Wd E (x + 1) J2 m) : RelI x m o E J2 := by
  obtain ⟨i1, i2, i3, io, i4, i5, ⟨q0, k1, k2, k3, k4⟩, i7⟩ := hI
  have gm := k2.2.1
  have fm : ∀ b, m + 9 ≤ b → b ≤ m + 18 → J2 b = J b := fun b b1 b2 => fr b (by omega) (by omega) (fun j a ha => by have := gm j a ha; omega)
  have fx : ∀ b, x + 45 ≤ b → b < m → J2 b = J b := fun b b1 b2 => fr b (by omega) (by omega) (fun j a ha => by have := gm j a ha; omega)
  refine ⟨i1, i2, i3, io, sh_fr i4 (fun b hb => ?_), i5, ⟨q0, k1, k2, hW, ?_⟩, hz⟩
  · rcases hb with hb | hb
    · exact fx b (by omega) (by omega)
    · exact fm b (by omega) (by omega)
  · rcases k4 with ⟨a1, a2⟩ | ⟨a1, w', a2, a3, a4, a5, a6⟩
    · exact Or.inl ⟨h3.trans a1, a2⟩
    · refine Or.inr ⟨h3.trans a1, w', a2, a3, a4, a5, wdK a6 (fun b hb => ?_) (fr _ (by omega) (by omega) (fun j a ha => by have := gm j a ha; omega))⟩
      obtain ⟨n1, n2, n3, n4⟩ := kw_k wx wm i4 i2 a2 a3 a5 hb
      exact fr b (by omega) (by omega) n4
/-- the relation holds on: the shelves may be others -/
theorem rel_sh (wx : W11 E x) (wm : W12 E m) (hI : RelI x m o E J) (hS : Shs x m E J2) (fr : ∀ b, ¬ ShA x m b → J2 b = J b) : RelI x m o E J2 := by
  obtain ⟨i1, i2, i3, io, i4, i5, ⟨q0, k1, k2, k3, k4⟩, i7⟩ := hI
  have e3 : J2 m = J m := fr m (by unfold ShA; omega)
  have e8 : J2 (m + 8) = J (m + 8) := fr _ (by unfold ShA; omega)
  refine ⟨i1, i2, i3, io, hS, i5, ⟨q0, k1, k2, wdK k3 (fun b hb => fr b (kw_n wx wm i4 i2 hb).2) (fr _ (by unfold ShA; omega)), ?_⟩, fun p hp => by rw [e8]; exact i7 p hp⟩
  rcases k4 with ⟨a1, a2⟩ | ⟨a1, w', a2, a3, a4, a5, a6⟩
  · exact Or.inl ⟨by rw [e3]; exact a1, a2⟩
  · exact Or.inr ⟨by rw [e3]; exact a1, w', a2, a3, a4, a5, wdK a6 (fun b hb => fr b (kw_k wx wm i4 i2 a2 a3 a5 hb).2.2.1) (fr _ (by unfold ShA; omega))⟩
/-- the relation speaks of kinds and references, and that the next free cell lies behind all -/
theorem rel_E (hI : RelI x m o E J) {E2 : Em} (e1 : E2.1 = E.1) (e2 : E2.2.1 = E.2.1) (e3 : E.2.2.2 ≤ E2.2.2.2) : RelI x m o E2 J := by
  obtain ⟨k, rf, lg, n⟩ := E
  obtain ⟨k2, rf2, lg2, n2⟩ := E2
  dsimp only at e1 e2 e3
  subst e1 e2
  obtain ⟨i1, i2, i3, io, i4, i5, i6, i7⟩ := hI
  exact ⟨fun a ha => Nat.lt_of_lt_of_le (i1 a ha) e3, i2, i3, io, i4, i5, i6, i7⟩
/-- both sides, one after the other -/
theorem comb (wx : W11 E x) (wm : W12 E m) (hI : RelI x m o E J) {C : Option (Int × Jm)} {D : Jm → Option (Int × Jm)} (hB : ∀ (S : Int → Int) (Jr : Jm), Sp E (x + 1) → (∀ j a, E.2.1 (x + 1 + 13) j = some a → a + 1 < x + 1 ∨ x + 1 + 43 < a) → (∀ j q, E.2.1 (x + 1 + 15) j = some q → q + 8 < x + 1 ∨ x + 1 + 43 < q) → Vw E (x + 1) J S → Inv S → Rf m Jr S → (∀ p : Nat, p < 80 → Jr (m + 8) p = 0) → Bi E (x + 1) m S J Jr C (D Jr)) : ∃ (r : Int) (J1 J2 : Jm), C = some (r, J1) ∧ D J1 = some (r, J2) ∧ RelI x m o E J2 := by
  have hI0 := hI
  obtain ⟨i1, i2, i3, io, i4, i5, ⟨q0, k1, k2, ⟨S, s1, s2, s3⟩, k4⟩, i7⟩ := hI
  have gm := k2.2.1
  have sp := w_sp wx.2.1.2 k2.1
  have ag := rel_ag wx k2 i2
  have ao := rel_ao wx
  obtain ⟨r, S1, J1, Jx, c1, c2, c3, c4, c5, c6, c7⟩ := hB S J sp ag ao s1 s3 s2 i7
  have f1 : ∀ b, m ≤ b → b ≤ m + 18 → J1 b = J b := fun b b1 b2 => c6 b (by omega) (fun j a ha => by have := gm j a ha; omega)
  obtain ⟨r', S2, J1', J2, d1, d2, d3, d4, d5, d6, d7⟩ := hB S J1 sp ag ao s1 s3 (rE s2 (f1 _ (by omega) (by omega))) (fun p hp => by rw [f1 _ (by omega) (by omega)]; exact i7 p hp)
  rw [c1] at d1
  cases d1
  refine ⟨r, J1, J2, c1, d2, rel_fr wx wm hI0 (fun b b1 b2 b3 => ?_) (d7.2.1.trans (by rw [f1 m (by omega) (by omega)])) (d7.2.2 (fun p hp => by rw [f1 _ (by omega) (by omega)]; exact i7 p hp)) ⟨S2, vwK d3 (fun b hb => d7.1 b (by have := (kw_n wx wm i4 i2 hb).1; omega)), d4, d5⟩⟩
  rw [d7.1 b (by omega), c6 b (by omega) b3]
end RELA
