/-! THE CLASS READS AN ORDER'S TEXT -/
theorem aChk_C {J J2 : Jm} {q : Nat} : ∀ (l : List Ck) (j : Nat), (∀ r i : Nat, 5 ≤ r → r ≤ 8 → i < j + l.length → J2 (q + r) i = J (q + r) i) → aChk J q l j → aChk J2 q l j
  | [], _, _, _ => trivial
  | k :: l, j, h, ⟨h1, h2⟩ => by
    rw [List.length_cons] at h
    exact ⟨by rw [h 5 j (by omega) (by omega) (by omega), h 6 j (by omega) (by omega) (by omega), h 7 j (by omega) (by omega) (by omega), h 8 j (by omega) (by omega) (by omega)]; exact h1, aChk_C l (j + 1) (fun r i r0 r1 hi => h r i r0 r1 (by omega)) h2⟩
theorem aRul_C {J J2 : Jm} {q : Nat} : ∀ (l : List Ru) (i j : Nat), (∀ r k : Nat, 1 ≤ r → r ≤ 4 → k < i + l.length → J2 (q + r) k = J (q + r) k) → (∀ r k : Nat, 5 ≤ r → r ≤ 8 → k < j + nCk l → J2 (q + r) k = J (q + r) k) → aRul J q l i j → aRul J2 q l i j
  | [], _, _, _, _, _ => trivial
  | s :: l, i, j, h, g, ⟨h1, h2, h3⟩ => by
    rw [List.length_cons] at h
    have g' : ∀ r k : Nat, 5 ≤ r → r ≤ 8 → k < j + (s.1.length + nCk l) → J2 (q + r) k = J (q + r) k := g
    exact ⟨by rw [h 1 i (by omega) (by omega) (by omega), h 2 i (by omega) (by omega) (by omega), h 3 i (by omega) (by omega) (by omega), h 4 i (by omega) (by omega) (by omega)]; exact h1, aChk_C s.1 j (fun r k r0 r1 hk => g' r k r0 r1 (by omega)) h2, aRul_C l (i + 1) (j + s.1.length) (fun r k r0 r1 hk => h r k r0 r1 (by omega)) (fun r k r0 r1 hk => g' r k r0 r1 (by omega)) h3⟩
theorem aChk_a {J : Jm} {q : Nat} {k : Ck} : ∀ (l : List Ck) (j : Nat), aChk J q l j → (J (q + 5) (j + l.length) = k.2.1 ∧ J (q + 6) (j + l.length) = k.2.2.1 ∧ J (q + 7) (j + l.length) = k.2.2.2 ∧ J (q + 8) (j + l.length) = k.1) → aChk J q (l ++ [k]) j
  | [], _, _, h => ⟨h, trivial⟩
  | s :: l, j, ⟨h1, h2⟩, h => ⟨h1, aChk_a l (j + 1) h2 (by rw [List.length_cons, show j + (l.length + 1) = j + 1 + l.length by omega] at h; exact h)⟩
theorem aRul_a {J : Jm} {q : Nat} {s : Ru} : ∀ (l : List Ru) (i j : Nat), aRul J q l i j → (wfA s.2 ∧ J (q + 1) (i + l.length) = ((j + nCk l + s.1.length : Nat) : Int) ∧ J (q + 2) (i + l.length) = (if s.2.1 = 117 then 0 else if s.2.1 = 115 then 1 else 2) ∧ J (q + 3) (i + l.length) = 8 * s.2.2.1 + s.2.2.2.1 ∧ J (q + 4) (i + l.length) = s.2.2.2.2) → aChk J q s.1 (j + nCk l) → aRul J q (l ++ [s]) i j
  | [], i, j, _, h, h2 => ⟨h, h2, trivial⟩
  | u :: l, i, j, ⟨h1, h2, h3⟩, h, h4 => by
    have e1 : nCk (u :: l) = u.1.length + nCk l := rfl
    rw [List.length_cons, e1, show i + (l.length + 1) = i + 1 + l.length by omega, ← Nat.add_assoc] at h
    rw [e1, ← Nat.add_assoc] at h4
    exact ⟨h1, h2, aRul_a l (i + 1) (j + u.1.length) h3 h h4⟩
theorem nCk_a (s : Ru) : ∀ l : List Ru, nCk (l ++ [s]) = nCk l + s.1.length
  | [] => by show s.1.length + 0 = 0 + s.1.length; omega
  | u :: l => by show u.1.length + nCk (l ++ [s]) = u.1.length + nCk l + s.1.length; rw [nCk_a s l]; omega
/-- the ORDER under way: RULES read, CHECKS of the next one -/
def Pst (J : Jm) (q : Nat) (l : List Ru) (cs : List Ck) : Prop := J q 0 = (l.length : Int) ∧ J q 1 = ((nCk l + cs.length : Nat) : Int) ∧ aRul J q l 0 0 ∧ aChk J q cs (nCk l)
/-- the reader at rd, its ORDER under way at q, its text -/
def Rdr (E : Em) (rd q tx : Nat) (c : Int → Int) (n : Int) : Prop := Cn c n ∧ E.2.1 rd 0 = some q ∧ E.2.1 rd 1 = some tx ∧ n ≤ ((E.1 tx).2 : Int) ∧ (rd < q ∨ q + 8 < rd) ∧ (tx < q ∨ q + 8 < tx) ∧ tx ≠ rd
/-- what the reader's memory says of the text -/
def Rdm (J : Jm) (rd tx : Nat) (c : Int → Int) (n p : Int) : Prop := J rd 2 = n ∧ J rd 3 = p ∧ (0 ≤ p ∧ p ≤ n) ∧ ∀ i : Int, 0 ≤ i → i < n → J tx i.toNat = c i
section RDC
variable {E : Em} {rd q tx : Nat} {J : Jm} {c : Int → Int} {n p v t s : Int} {l : List Ru} {cs : List Ck}
theorem Rdm.adv (h : Rdm J rd tx c n p) (ht : tx ≠ rd) {p2 : Int} (hp : 0 ≤ p2 ∧ p2 ≤ n) : Rdm (jW J rd 3 p2) rd tx c n p2 := ⟨by rw [jW_of (by decide)]; exact h.1, jW_at, hp, fun i i0 i1 => by rw [jW_ne ht]; exact h.2.2.2 i i0 i1⟩
theorem Rdm.oth (h : Rdm J rd tx c n p) {b k : Nat} (hb : b ≠ rd) (ht : b ≠ tx) : Rdm (jW J b k v) rd tx c n p := ⟨by rw [jW_ne (Ne.symm hb)]; exact h.1, by rw [jW_ne (Ne.symm hb)]; exact h.2.1, h.2.2.1, fun i i0 i1 => by rw [jW_ne (Ne.symm ht)]; exact h.2.2.2 i i0 i1⟩
theorem Pst.adv (h : Pst J q l cs) (hq : rd < q ∨ q + 8 < rd) : Pst (jW J rd 3 v) q l cs := by
  obtain ⟨h1, h2, h3, h4⟩ := h
  exact ⟨by rw [jW_ne (by omega)]; exact h1, by rw [jW_ne (by omega)]; exact h2, aRul_E (fun i hi => jW_ne (by omega)) l 0 0 h3, aChk_E (fun i hi => jW_ne (by omega)) cs _ h4⟩
theorem k_take (hr : Rdr E rd q tx c n) (hm : Rdm J rd tx c n p) (hs : s ≠ -1) : H_X3_take E rd s J = if c p = s then some (1, jW J rd 3 (p + 1)) else some (0, J) := by
  obtain ⟨hc, h0, h1, h2, -, -, -⟩ := hr
  obtain ⟨m1, m2, m3, m4⟩ := hm
  have hn := hc.1
  unfold H_X3_take
  rw [m1, m2]
  by_cases h : n ≤ p
  · rw [if_pos h, if_neg]
    intro e
    have := hc.2 p (by omega)
    omega
  · rw [if_neg h, h1, Option.bind_some, zL (by omega) (by omega), Option.bind_some, m4 p (by omega) (by omega)]
    simp only [nv]
    rw [wr_id (by omega)]
theorem k_digit (hr : Rdr E rd q tx c n) (hm : Rdm J rd tx c n p) {mo : Int} (ho : 0 ≤ mo ∧ mo ≤ 9) : H_X3_takeDigit E rd mo J = if 48 ≤ c p ∧ c p ≤ 48 + mo then some (c p - 48, jW J rd 3 (p + 1)) else some (-1, J) := by
  obtain ⟨hc, h0, h1, h2, -, -, h6⟩ := hr
  obtain ⟨m1, m2, m3, m4⟩ := hm
  have hn := hc.1
  unfold H_X3_takeDigit
  rw [m1, m2]
  by_cases h : n ≤ p
  · rw [if_pos h, if_neg]
    intro e
    have := hc.2 p (by omega)
    omega
  · rw [if_neg h, h1, Option.bind_some, zL (by omega) (by omega), Option.bind_some, m4 p (by omega) (by omega)]
    simp only [nv, Option.bind_some]
    by_cases k1 : c p < 48
    · rw [if_pos k1, if_neg (by omega)]
    · rw [if_neg k1, wr_id (z := 48 + mo) (by omega), wr_id (z := p + 1) (by omega), zL (by omega) (by omega), Option.bind_some, m4 p (by omega) (by omega)]
      by_cases k2 : c p ≤ 48 + mo
      · rw [if_pos k2, if_pos (show 48 ≤ c p ∧ c p ≤ 48 + mo by omega), jW_at, wr_id (z := p + 1 - 1) (by omega), show p + 1 - 1 = p by omega, zL (by omega) (by omega), jW_ne h6, Option.bind_some, m4 p (by omega) (by omega), wr_id (by omega)]
      · rw [if_neg k2, if_neg (by omega)]
theorem k_one1 (hr : Rdr E rd q tx c n) (hm : Rdm J rd tx c n p) {j : Nat} {N i ch : Int} (hN : jtL j = some N) (hi : 0 ≤ i ∧ i < N ∧ N ≤ 20) (hc : jtC j i = some ch) (hs : ch ≠ -1) (fu : Nat) : H_X3_takeOneOf_L2 E rd j (fu + 1) i J = if c p = ch then some (ch, jW J rd 3 (p + 1)) else H_X3_takeOneOf_L2 E rd j fu (i + 1) J := by
  rw [H_X3_takeOneOf_L2, hN, Option.bind_some, if_neg (by omega), hc, Option.bind_some, k_take hr hm hs]
  by_cases h : c p = ch
  · rw [if_pos h, if_pos h, Option.bind_some]
    dsimp only
    rw [if_neg (by decide), Option.bind_some]
  · rw [if_neg h, if_neg h, Option.bind_some]
    dsimp only
    rw [if_pos rfl, wr_id (by omega)]

theorem jtL0 : jtL 0 = some 9 := by decide
theorem jtL1 : jtL 1 = some 3 := by decide
theorem jtC0_0 : jtC 0 0 = some 112 := by decide
theorem jtC0_1 : jtC 0 1 = some 120 := by decide
theorem jtC0_2 : jtC 0 2 = some 121 := by decide
theorem jtC0_3 : jtC 0 3 = some 108 := by decide
theorem jtC0_4 : jtC 0 4 = some 102 := by decide
theorem jtC0_5 : jtC 0 5 = some 104 := by decide
theorem jtC0_6 : jtC 0 6 = some 116 := by decide
theorem jtC0_7 : jtC 0 7 = some 115 := by decide
theorem jtC0_8 : jtC 0 8 = some 100 := by decide
theorem jtC1_0 : jtC 1 0 = some 60 := by decide
theorem jtC1_1 : jtC 1 1 = some 62 := by decide
theorem jtC1_2 : jtC 1 2 = some 61 := by decide
theorem k_field (hr : Rdr E rd q tx c n) (hm : Rdm J rd tx c n p) : H_X3_takeOneOf E rd 0 J = if isF (c p) then some (c p, jW J rd 3 (p + 1)) else some (-1, J) := by
  unfold H_X3_takeOneOf isF
  rw [show (1000000 : Nat) = 999999 + 1 from rfl, k_one1 hr hm jtL0 (i := 0) (by omega) jtC0_0 (by decide)]
  by_cases k0 : c p = 112
  · rw [if_pos k0, if_pos (by omega), k0]
  rw [if_neg k0]
  rw [show (0 : Int) + 1 = 1 from rfl]
  rw [show (999999 : Nat) = 999998 + 1 from rfl, k_one1 hr hm jtL0 (i := 1) (by omega) jtC0_1 (by decide)]
  by_cases k1 : c p = 120
  · rw [if_pos k1, if_pos (by omega), k1]
  rw [if_neg k1]
  rw [show (1 : Int) + 1 = 2 from rfl]
  rw [show (999998 : Nat) = 999997 + 1 from rfl, k_one1 hr hm jtL0 (i := 2) (by omega) jtC0_2 (by decide)]
  by_cases k2 : c p = 121
  · rw [if_pos k2, if_pos (by omega), k2]
  rw [if_neg k2]
  rw [show (2 : Int) + 1 = 3 from rfl]
  rw [show (999997 : Nat) = 999996 + 1 from rfl, k_one1 hr hm jtL0 (i := 3) (by omega) jtC0_3 (by decide)]
  by_cases k3 : c p = 108
  · rw [if_pos k3, if_pos (by omega), k3]
  rw [if_neg k3]
  rw [show (3 : Int) + 1 = 4 from rfl]
  rw [show (999996 : Nat) = 999995 + 1 from rfl, k_one1 hr hm jtL0 (i := 4) (by omega) jtC0_4 (by decide)]
  by_cases k4 : c p = 102
  · rw [if_pos k4, if_pos (by omega), k4]
  rw [if_neg k4]
  rw [show (4 : Int) + 1 = 5 from rfl]
  rw [show (999995 : Nat) = 999994 + 1 from rfl, k_one1 hr hm jtL0 (i := 5) (by omega) jtC0_5 (by decide)]
  by_cases k5 : c p = 104
  · rw [if_pos k5, if_pos (by omega), k5]
  rw [if_neg k5]
  rw [show (5 : Int) + 1 = 6 from rfl]
  rw [show (999994 : Nat) = 999993 + 1 from rfl, k_one1 hr hm jtL0 (i := 6) (by omega) jtC0_6 (by decide)]
  by_cases k6 : c p = 116
  · rw [if_pos k6, if_pos (by omega), k6]
  rw [if_neg k6]
  rw [show (6 : Int) + 1 = 7 from rfl]
  rw [show (999993 : Nat) = 999992 + 1 from rfl, k_one1 hr hm jtL0 (i := 7) (by omega) jtC0_7 (by decide)]
  by_cases k7 : c p = 115
  · rw [if_pos k7, if_pos (by omega), k7]
  rw [if_neg k7]
  rw [show (7 : Int) + 1 = 8 from rfl]
  rw [show (999992 : Nat) = 999991 + 1 from rfl, k_one1 hr hm jtL0 (i := 8) (by omega) jtC0_8 (by decide)]
  by_cases k8 : c p = 100
  · rw [if_pos k8, if_pos (by omega), k8]
  rw [if_neg k8]
  rw [show (8 : Int) + 1 = 9 from rfl]
  rw [show (999991 : Nat) = 999990 + 1 from rfl, H_X3_takeOneOf_L2, jtL0, Option.bind_some, if_pos (by decide), if_neg (by omega)]
theorem k_sign (hr : Rdr E rd q tx c n) (hm : Rdm J rd tx c n p) : H_X3_takeOneOf E rd 1 J = if c p = 60 ∨ c p = 61 ∨ c p = 62 then some (c p, jW J rd 3 (p + 1)) else some (-1, J) := by
  unfold H_X3_takeOneOf
  rw [show (1000000 : Nat) = 999999 + 1 from rfl, k_one1 hr hm jtL1 (i := 0) (by omega) jtC1_0 (by decide)]
  by_cases k0 : c p = 60
  · rw [if_pos k0, if_pos (by omega), k0]
  rw [if_neg k0]
  rw [show (0 : Int) + 1 = 1 from rfl]
  rw [show (999999 : Nat) = 999998 + 1 from rfl, k_one1 hr hm jtL1 (i := 1) (by omega) jtC1_1 (by decide)]
  by_cases k1 : c p = 62
  · rw [if_pos k1, if_pos (by omega), k1]
  rw [if_neg k1]
  rw [show (1 : Int) + 1 = 2 from rfl]
  rw [show (999998 : Nat) = 999997 + 1 from rfl, k_one1 hr hm jtL1 (i := 2) (by omega) jtC1_2 (by decide)]
  by_cases k2 : c p = 61
  · rw [if_pos k2, if_pos (by omega), k2]
  rw [if_neg k2]
  rw [show (2 : Int) + 1 = 3 from rfl]
  rw [show (999997 : Nat) = 999996 + 1 from rfl, H_X3_takeOneOf_L2, jtL1, Option.bind_some, if_pos (by decide), if_neg (by omega)]
/-- what the reading may change -/
def Fq (rd q : Nat) (J J2 : Jm) : Prop := (∀ b, b ≠ rd → (b < q ∨ q + 8 < b) → J2 b = J b)
theorem Fq.r : Fq rd q J J := fun _ _ _ => rfl
theorem Fq.tt {J1 J2 : Jm} (h1 : Fq rd q J J1) (h2 : Fq rd q J1 J2) : Fq rd q J J2 := fun b h3 h4 => (h2 b h3 h4).trans (h1 b h3 h4)
theorem Fq.ww {J1 : Jm} {b k : Nat} (h1 : Fq rd q J J1) (hb : b = rd ∨ q ≤ b ∧ b ≤ q + 8) : Fq rd q J (jW J1 b k v) := fun d h3 h4 => by rw [jW_ne (by omega)]; exact h1 d h3 h4
theorem k_bang (hr : Rdr E rd q tx c n) (K : Int → Jm → Option (Int × Jm)) : ∀ (k fu : Nat) (t i p : Int) (J : Jm), Rdm J rd tx c n p → (0 ≤ i ∧ i ≤ p) → n - p < k → n - p < fu → (t = 0 ∨ t = 1) → ∃ J2, H_X3_takeCheck_L4 K E rd fu t i J = K (pBang c k p t).2 J2 ∧ Rdm J2 rd tx c n (pBang c k p t).1 ∧ p ≤ (pBang c k p t).1 ∧ ((pBang c k p t).2 = 0 ∨ (pBang c k p t).2 = 1) ∧ ∀ b, b ≠ rd → J2 b = J b := by
  have hn := hr.1.1
  intro k
  induction k with
  | zero => intro fu t i p J hm h1 h2 h3 h4; have := hm.2.2.1; omega
  | succ k ih =>
    intro fu t i p J hm h1 h2 h3 h4
    have hp := hm.2.2.1
    obtain ⟨fu, rfl⟩ : ∃ f, fu = f + 1 := ⟨fu - 1, by omega⟩
    rw [H_X3_takeCheck_L4, hm.1]
    unfold pBang
    by_cases k1 : n ≤ i
    · rw [if_pos k1, if_neg]
      · exact ⟨J, rfl, hm, Int.le_refl _, h4, fun _ _ => rfl⟩
      · intro e
        have := hr.1.2 p (by omega)
        omega
    · rw [if_neg k1, k_take hr hm (by decide)]
      by_cases k2 : c p = 33
      · have hq := hr.1.2 p (by omega)
        rw [if_pos k2, if_pos k2, Option.bind_some]
        dsimp only
        rw [if_neg (by decide)]
        simp only [nv]
        have e1 : (if t = 0 then (1 : Int) else 0) = 1 - t := by split <;> omega
        rw [e1, wr_id (by omega)]
        obtain ⟨J2, f1, f2, f3, f4, f5⟩ := ih fu (1 - t) (i + 1) (p + 1) _ (hm.adv hr.2.2.2.2.2.2 (by omega)) (by omega) (by omega) (by omega) (by omega)
        exact ⟨J2, f1, f2, by omega, f4, fun b hb => by rw [f5 b hb, jW_ne hb]⟩
      · rw [if_neg k2, if_neg k2, Option.bind_some]
        dsimp only
        rw [if_pos rfl]
        exact ⟨J, rfl, hm, Int.le_refl _, h4, fun _ _ => rfl⟩
theorem k_numL (hr : Rdr E rd q tx c n) : ∀ (k fu : Nat) (v ix p : Int) (J : Jm), Rdm J rd tx c n p → ix + k = 3 → 0 ≤ ix → k < fu → (0 ≤ v ∧ ((k = 2 ∧ v ≤ 9) ∨ (k = 1 ∧ v ≤ 99) ∨ (k = 0 ∧ v ≤ 999))) → ∃ J2, H_X3_takeNumber_L9 E rd fu v ix J = some ((pMore c k v p).1, J2) ∧ Rdm J2 rd tx c n (pMore c k v p).2 ∧ p ≤ (pMore c k v p).2 ∧ 0 ≤ (pMore c k v p).1 ∧ ∀ b, b ≠ rd → J2 b = J b := by
  have hn := hr.1.1
  intro k
  induction k with
  | zero =>
    intro fu v ix p J hm h1 h2 h3 h4
    obtain ⟨fu, rfl⟩ := nx h3
    rw [H_X3_takeNumber_L9, if_pos (by omega)]
    exact ⟨J, rfl, hm, Int.le_refl _, h4.1, fun _ _ => rfl⟩
  | succ k ih =>
    intro fu v ix p J hm h1 h2 h3 h4
    obtain ⟨fu, rfl⟩ := nx h3
    have hp := hm.2.2.1
    rw [H_X3_takeNumber_L9, if_neg (by omega)]
    unfold pMore
    by_cases k1 : v ≤ 0
    · rw [if_pos k1, if_neg (by omega)]
      exact ⟨J, rfl, hm, Int.le_refl _, h4.1, fun _ _ => rfl⟩
    · rw [if_neg k1, k_digit hr hm (mo := 9) (by omega)]
      by_cases k2 : 48 ≤ c p ∧ c p ≤ 48 + 9
      · have hq := hr.1.2 p (by omega)
        rw [if_pos k2, if_pos (show 0 < v ∧ 48 ≤ c p ∧ c p ≤ 57 by omega), Option.bind_some]
        dsimp only
        rw [if_pos (by omega), wr_id (z := 10 * v) (by omega), wr_id (z := 10 * v + (c p - 48)) (by omega), wr_id (z := ix + 1) (by omega)]
        obtain ⟨J2, f1, f2, f3, f4, f5⟩ := ih fu (10 * v + (c p - 48)) (ix + 1) (p + 1) _ (hm.adv hr.2.2.2.2.2.2 (by omega)) (by omega) (by omega) (by omega) (by omega)
        exact ⟨J2, f1, f2, by omega, f4, fun b hb => by rw [f5 b hb, jW_ne hb]⟩
      · rw [if_neg k2, if_neg (show ¬ (0 < v ∧ 48 ≤ c p ∧ c p ≤ 57) by omega), Option.bind_some]
        dsimp only
        rw [if_neg (show ¬ (0 : Int) ≤ -1 by decide)]
        exact ⟨J, rfl, hm, Int.le_refl _, h4.1, fun _ _ => rfl⟩
theorem k_num (hr : Rdr E rd q tx c n) (hm : Rdm J rd tx c n p) : (¬ (48 ≤ c p ∧ c p ≤ 57) → H_X3_takeNumber E rd J = some (-1, J)) ∧ ((48 ≤ c p ∧ c p ≤ 57) → ∃ J2, H_X3_takeNumber E rd J = some ((pMore c 2 (c p - 48) (p + 1)).1, J2) ∧ Rdm J2 rd tx c n (pMore c 2 (c p - 48) (p + 1)).2 ∧ p + 1 ≤ (pMore c 2 (c p - 48) (p + 1)).2 ∧ 0 ≤ (pMore c 2 (c p - 48) (p + 1)).1 ∧ ∀ b, b ≠ rd → J2 b = J b) := by
  have hp := hm.2.2.1
  refine ⟨fun h => ?_, fun h => ?_⟩
  · unfold H_X3_takeNumber
    rw [k_digit hr hm (mo := 9) (by omega), if_neg (by omega), Option.bind_some]
    dsimp only
    rw [show (1000000 : Nat) = 999999 + 1 from rfl, H_X3_takeNumber_L9, if_neg (by decide), if_pos (by decide)]
  · have hq := hr.1.2 p (by omega)
    unfold H_X3_takeNumber
    rw [k_digit hr hm (mo := 9) (by omega), if_pos (by omega), Option.bind_some]
    dsimp only
    obtain ⟨J2, f1, f2, f3, f4, f5⟩ := k_numL hr 2 1000000 (c p - 48) 1 (p + 1) _ (hm.adv hr.2.2.2.2.2.2 (by omega)) (by omega) (by omega) (by omega) (by omega)
    exact ⟨J2, f1, f2, f3, f4, fun b hb => by rw [f5 b hb, jW_ne hb]⟩
theorem k_addC (hP : Pst J q l cs) (h20 : nCk l + cs.length < 20) {k : Ck} (ht : k.1 = 0 ∨ k.1 = 1) : ∃ J2, H_X2_addCheck q k.2.1 k.2.2.1 k.2.2.2 k.1 J = some J2 ∧ Pst J2 q l (cs ++ [k]) ∧ ∀ b, (b < q ∨ q + 8 < b) → J2 b = J b := by
  obtain ⟨h1, h2, h3, h4⟩ := hP
  unfold H_X2_addCheck
  rw [h2, if_neg (by omega)]
  simp (disch := omega) only [nv, jW_ne, h2, zS, Option.bind_some, zZ ht]
  rw [wr_id (by omega)]
  have ei : ((nCk l + cs.length : Nat) : Int).toNat = nCk l + cs.length := by omega
  rw [ei]
  refine ⟨_, rfl, ⟨?_, ?_, ?_, ?_⟩, fun b hb => by simp (disch := omega) only [jW_ne]⟩
  · rw [jW_of (by decide), jW_ne (by omega), jW_ne (by omega), jW_ne (by omega), jW_ne (by omega)]; exact h1
  · rw [jW_at, List.length_append, List.length_singleton]; omega
  · exact aRul_C l 0 0 (fun r k r0 r1 hk => by simp (disch := omega) only [jW_ne]) (fun r k r0 r1 hk => by
      rw [jW_ne (by omega)]
      have e : ∀ (J9 : Jm) (b : Nat) (v : Int), jW J9 b (nCk l + cs.length) v (q + r) k = J9 (q + r) k := fun J9 b v => by
        by_cases eb : q + r = b
        · rw [← eb, jW_of (by omega)]
        · rw [jW_ne eb]
      rw [e, e, e, e]) h3
  · refine aChk_a cs _ (aChk_C cs _ (fun r k r0 r1 hk => ?_) h4) ⟨?_, ?_, ?_, ?_⟩
    · rw [jW_ne (by omega)]
      have e : ∀ (J9 : Jm) (b : Nat) (v : Int), jW J9 b (nCk l + cs.length) v (q + r) k = J9 (q + r) k := fun J9 b v => by
        by_cases eb : q + r = b
        · rw [← eb, jW_of (by omega)]
        · rw [jW_ne eb]
      rw [e, e, e, e]
    · simp (disch := omega) only [jW_ne, jW_at]
    · simp (disch := omega) only [jW_ne, jW_at]
    · simp (disch := omega) only [jW_ne, jW_at]
    · simp (disch := omega) only [jW_ne, jW_at]
theorem k_addR (hP : Pst J q l cs) (h6 : l.length < 6) {ac x y la : Int} (hw : wfA (ac, x, y, la)) : ∃ J2, H_X2_addRule q (if ac = 117 then 0 else if ac = 115 then 1 else 2) (8 * x + y) la J = some J2 ∧ Pst J2 q (l ++ [(cs, ac, x, y, la)]) [] ∧ ∀ b, (b < q ∨ q + 8 < b) → J2 b = J b := by
  obtain ⟨h1, h2, h3, h4⟩ := hP
  unfold H_X2_addRule
  rw [h1, if_neg (by omega)]
  simp (disch := omega) only [nv, jW_ne, h1, h2, zS, Option.bind_some]
  rw [wr_id (by omega)]
  have ei : ((l.length : Nat) : Int).toNat = l.length := by omega
  rw [ei]
  refine ⟨_, rfl, ⟨?_, ?_, ?_, trivial⟩, fun b hb => by simp (disch := omega) only [jW_ne]⟩
  · rw [jW_at, List.length_append, List.length_singleton]; omega
  · rw [jW_of (by decide), jW_ne (by omega), jW_ne (by omega), jW_ne (by omega), jW_ne (by omega), nCk_a]; exact h2
  · have e : ∀ (J9 : Jm) (b r k : Nat) (v : Int), k < l.length → jW J9 b l.length v (q + r) k = J9 (q + r) k := fun J9 b r k v hk => by
      by_cases eb : q + r = b
      · rw [← eb, jW_of (by omega)]
      · rw [jW_ne eb]
    refine aRul_a l 0 0 (aRul_C l 0 0 (fun r k r0 r1 hk => ?_) (fun r k r0 r1 hk => ?_) h3) ⟨hw, ?_, ?_, ?_, ?_⟩ (aChk_C cs _ (fun r k r0 r1 hk => ?_) (by rw [Nat.zero_add]; exact h4))
    · rw [jW_ne (by omega), e _ _ _ _ _ (by omega), e _ _ _ _ _ (by omega), e _ _ _ _ _ (by omega), e _ _ _ _ _ (by omega)]
    · simp (disch := omega) only [jW_ne]
    · rw [Nat.zero_add, Nat.zero_add]
      simp (disch := omega) only [jW_ne, jW_at]
    · rw [Nat.zero_add]
      simp (disch := omega) only [jW_ne, jW_at]
    · rw [Nat.zero_add]
      simp (disch := omega) only [jW_ne, jW_at]
    · rw [Nat.zero_add]
      simp (disch := omega) only [jW_ne, jW_at]
    · simp (disch := omega) only [jW_ne]
theorem Pst.oth {J2 : Jm} (h : Pst J q l cs) (e : ∀ b, q ≤ b → b ≤ q + 8 → J2 b = J b) : Pst J2 q l cs := by
  obtain ⟨h1, h2, h3, h4⟩ := h
  exact ⟨by rw [e q (by omega) (by omega)]; exact h1, by rw [e q (by omega) (by omega)]; exact h2, aRul_E (fun i hi => e _ (by omega) (by omega)) l 0 0 h3, aChk_E (fun i hi => e _ (by omega) (by omega)) cs _ h4⟩
theorem k_chk (hr : Rdr E rd q tx c n) (hm : Rdm J rd tx c n p) (hP : Pst J q l cs) (h4 : 4 * ((nCk l + cs.length : Nat) : Int) ≤ p) : ∃ J2, H_X3_takeCheck E rd J = some (if (pChk c p).1 = true then 1 else 0, J2) ∧ Rdm J2 rd tx c n (pChk c p).2.1 ∧ ((pChk c p).1 = true → p + 3 ≤ (pChk c p).2.1 ∧ Pst J2 q l (cs ++ [(pChk c p).2.2])) ∧ Fq rd q J J2 := by
  have hn := hr.1.1
  have hp := hm.2.2.1
  have hrq := hr.2.2.2.2.1
  have htq := hr.2.2.2.2.2.1
  have htr := hr.2.2.2.2.2.2
  unfold H_X3_takeCheck
  obtain ⟨J1, b1, b2, b3, b4, b5⟩ := k_bang hr (fun (zy11 : Int) (J12 : Jm) =>
    (H_X3_takeOneOf E rd 0 J12).bind fun (zv15, J13) =>
    if 0 ≤ zv15 then
      (H_X3_takeOneOf E rd 1 J13).bind fun (zv19, J17) =>
      if 0 ≤ zv19 then
        (H_X3_takeNumber E rd J17).bind fun (zv23, J21) =>
        if 0 ≤ zv23 then
          (E.2.1 rd 0).bind fun a26 =>
          (H_X2_addCheck a26 zv15 zv19 zv23 zy11 J21).bind fun J27 =>
          some ((1 : Int), J27)
        else
          some ((0 : Int), J21)
      else
        some ((0 : Int), J17)
    else
      some ((0 : Int), J13)) 81 1000000 0 0 p J hm (by omega) (by omega) (by omega) (Or.inl rfl)
  rw [b1]
  unfold pChk
  generalize pBang c 81 p 0 = B at b2 b3 b4 ⊢
  obtain ⟨p1, t⟩ := B
  dsimp only at b2 b3 b4 ⊢
  have hp1 := b2.2.2.1
  have F1 : Fq rd q J J1 := fun b h1 _ => b5 b h1
  rw [k_field hr b2]
  by_cases k1 : isF (c p1)
  · have hf : 0 ≤ c p1 := by rcases k1 with h | h | h | h | h | h | h | h | h <;> omega
    have hq1 := hr.1.2 p1 (by omega)
    rw [if_pos k1, if_pos k1, Option.bind_some]
    dsimp only
    rw [if_pos hf]
    have m2 := b2.adv htr (p2 := p1 + 1) (by omega)
    rw [k_sign hr m2]
    by_cases k2 : c (p1 + 1) = 60 ∨ c (p1 + 1) = 61 ∨ c (p1 + 1) = 62
    · have hq2 := hr.1.2 (p1 + 1) (by omega)
      rw [if_pos k2, if_pos k2, Option.bind_some]
      dsimp only
      rw [if_pos (show 0 ≤ c (p1 + 1) by omega)]
      have m3 := m2.adv htr (p2 := p1 + 1 + 1) (by omega)
      obtain ⟨n1, n2⟩ := k_num hr m3
      rw [show p1 + 1 + 1 = p1 + 2 by omega] at n1 n2 m3 ⊢
      by_cases k3 : 48 ≤ c (p1 + 2) ∧ c (p1 + 2) ≤ 57
      · obtain ⟨J4, g1, g2, g3, g4, g5⟩ := n2 k3
        rw [if_pos k3, g1, Option.bind_some]
        dsimp only
        rw [show p1 + 2 + 1 = p1 + 3 by omega] at g1 g2 g3 g4 ⊢
        generalize pMore c 2 (c (p1 + 2) - 48) (p1 + 3) = M at g2 g3 g4 ⊢
        obtain ⟨v, p4⟩ := M
        dsimp only at g2 g3 g4 ⊢
        have hp4 := g2.2.2.1
        rw [if_pos g4, hr.2.1, Option.bind_some]
        have hP4 : Pst J4 q l cs := hP.oth (fun b h1 h2 => by rw [g5 b (by omega), jW_ne (by omega), jW_ne (by omega), b5 b (by omega)])
        obtain ⟨J5, a1, a2, a3⟩ := k_addC hP4 (by omega) (k := (t, c p1, c (p1 + 1), v)) b4
        dsimp only at a1
        rw [a1, Option.bind_some]
        refine ⟨J5, rfl, ⟨by rw [a3 rd hrq]; exact g2.1, by rw [a3 rd hrq]; exact g2.2.1, hp4, fun i i0 i1 => by rw [a3 tx htq]; exact g2.2.2.2 i i0 i1⟩, fun _ => ⟨by omega, a2⟩, fun b h1 h2 => by rw [a3 b h2, g5 b h1, jW_ne h1, jW_ne h1, b5 b h1]⟩
      · rw [if_neg k3, n1 k3, Option.bind_some]
        dsimp only
        rw [if_neg (show ¬ (0 : Int) ≤ -1 by decide)]
        exact ⟨_, rfl, m3, fun q => (by cases q), (F1.ww (Or.inl rfl)).ww (Or.inl rfl)⟩
    · rw [if_neg k2, if_neg k2, Option.bind_some]
      dsimp only
      rw [if_neg (show ¬ (0 : Int) ≤ -1 by decide)]
      exact ⟨_, rfl, m2, fun q => (by cases q), F1.ww (Or.inl rfl)⟩
  · rw [if_neg k1, if_neg k1, Option.bind_some]
    dsimp only
    rw [if_neg (show ¬ (0 : Int) ≤ -1 by decide)]
    exact ⟨_, rfl, b2, fun q => (by cases q), F1⟩
end RDC
