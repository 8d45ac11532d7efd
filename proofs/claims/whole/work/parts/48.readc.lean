/-! THE CLASS READS A RULE, A WHOLE TEXT -/
section RDC2
variable {E : Em} {rd q tx : Nat} {J : Jm} {c : Int → Int} {n p v t s : Int} {l : List Ru} {cs : List Ck}
theorem k_testL (hr : Rdr E rd q tx c n) (h1n : 1 ≤ n) (K : Jm → Option (Int × Jm)) : ∀ (k fu : Nat) (i p : Int) (J : Jm) (cs : List Ck), Rdm J rd tx c n p → Pst J q l cs → 4 * ((nCk l + cs.length : Nat) : Int) ≤ p → (0 ≤ i ∧ 4 * i ≤ p) → n - p < k → n - p + 1 < fu → ∃ J2, H_X3_takeRule_L4 K E rd fu 1 i J = (if (pTest c k p cs).1 = true then K J2 else some (0, J2)) ∧ Rdm J2 rd tx c n (pTest c k p cs).2.1 ∧ ((pTest c k p cs).1 = true → p + 3 ≤ (pTest c k p cs).2.1 ∧ Pst J2 q l (pTest c k p cs).2.2 ∧ 4 * ((nCk l + (pTest c k p cs).2.2.length : Nat) : Int) ≤ (pTest c k p cs).2.1 + 1) ∧ Fq rd q J J2 := by
  have hn := hr.1.1
  have hrq := hr.2.2.2.2.1
  have htr := hr.2.2.2.2.2.2
  intro k
  induction k with
  | zero => intro fu i p J cs hm hP h4 hi h1 h2; have := hm.2.2.1; omega
  | succ k ih =>
    intro fu i p J cs hm hP h4 hi h1 h2
    have hp := hm.2.2.1
    obtain ⟨fu, rfl⟩ : ∃ f, fu = f + 1 := ⟨fu - 1, by omega⟩
    rw [H_X3_takeRule_L4, if_neg (show ¬ (1 : Int) = 0 by decide), hm.1, if_neg (show ¬ n ≤ i by omega)]
    obtain ⟨J1, a1, a2, a3, a4⟩ := k_chk hr hm hP h4
    rw [a1, Option.bind_some]
    unfold pTest
    generalize pChk c p = Q at a2 a3 ⊢
    obtain ⟨ok, p1, kk⟩ := Q
    dsimp only at a2 a3 ⊢
    cases ok with
    | false =>
      rw [if_neg (show ¬ false = true by decide), if_neg (show ¬ false = true by decide), if_pos rfl]
      exact ⟨J1, rfl, a2, fun q => (by cases q), a4⟩
    | true =>
      obtain ⟨a5, a6⟩ := a3 rfl
      have hp1 := a2.2.2.1
      rw [if_pos rfl, if_pos rfl, if_neg (show ¬ (1 : Int) = 0 by decide), k_take hr a2 (by decide), wr_id (z := i + 1) (by omega)]
      by_cases k1 : c p1 = 38
      · have hq1 := hr.1.2 p1 (by omega)
        rw [if_pos k1, if_pos k1, Option.bind_some]
        dsimp only
        obtain ⟨J2, f1, f2, f3, f4⟩ := ih fu (i + 1) (p1 + 1) _ (cs ++ [kk]) (a2.adv htr (by omega)) (a6.adv hrq) (by rw [List.length_append, List.length_singleton]; omega) (by omega) (by omega) (by omega)
        exact ⟨J2, f1, f2, fun z => ⟨by have := (f3 z).1; omega, (f3 z).2⟩, (a4.ww (Or.inl rfl)).tt f4⟩
      · rw [if_neg k1, if_neg k1, Option.bind_some]
        dsimp only
        obtain ⟨fu, rfl⟩ : ∃ f, fu = f + 1 := ⟨fu - 1, by omega⟩
        rw [H_X3_takeRule_L4, if_pos rfl]
        exact ⟨J1, (if_pos rfl).symm, a2, fun _ => ⟨a5, a6, by rw [List.length_append, List.length_singleton]; omega⟩, a4⟩
theorem k_layer (hr : Rdr E rd q tx c n) (hm : Rdm J rd tx c n p) (hP : Pst J q l cs) (h6 : l.length < 6) {ac x y : Int} (hac : ac = 115 ∨ ac = 103) (hx : 0 ≤ x ∧ x ≤ 9) (hy : 0 ≤ y ∧ y ≤ 7) {a g : Int} (ha : a = (if ac = 117 then 0 else if ac = 115 then 1 else 2)) (hg : g = 8 * x + y) : (¬ (48 ≤ c p ∧ c p ≤ 51) → H_X3_takeLayer E rd a g J = some (0, J)) ∧ ((48 ≤ c p ∧ c p ≤ 51) → ∃ J2, H_X3_takeLayer E rd a g J = some (1, J2) ∧ Rdm J2 rd tx c n (p + 1) ∧ Pst J2 q (l ++ [(cs, ac, x, y, c p - 48)]) [] ∧ Fq rd q J J2) := by
  have hp := hm.2.2.1
  have hrq := hr.2.2.2.2.1
  have htq := hr.2.2.2.2.2.1
  have htr := hr.2.2.2.2.2.2
  refine ⟨fun h => ?_, fun h => ?_⟩
  · unfold H_X3_takeLayer
    rw [k_digit hr hm (mo := 3) (by omega), if_neg (by omega), Option.bind_some]
    dsimp only
    rw [if_neg (by decide)]
  · have hq := hr.1.2 p (by omega)
    unfold H_X3_takeLayer
    rw [k_digit hr hm (mo := 3) (by omega), if_pos (by omega), Option.bind_some]
    dsimp only
    rw [if_pos (by omega), hr.2.1, Option.bind_some, ha, hg]
    obtain ⟨J2, f1, f2, f3⟩ := k_addR (hP.adv (v := p + 1) hrq) h6 (ac := ac) (x := x) (y := y) (la := c p - 48) ⟨Or.inr hac, hx, hy, by dsimp only; omega⟩
    have m2 := hm.adv htr (p2 := p + 1) (by omega)
    rw [f1, Option.bind_some]
    exact ⟨J2, rfl, ⟨by rw [f3 rd hrq]; exact m2.1, by rw [f3 rd hrq]; exact m2.2.1, m2.2.2.1, fun i i0 i1 => by rw [f3 tx htq]; exact m2.2.2.2 i i0 i1⟩, f2, fun b h1 h2 => by rw [f3 b h2, jW_ne h1]⟩
theorem k_act (hr : Rdr E rd q tx c n) (hm : Rdm J rd tx c n p) (hP : Pst J q l cs) (h6 : l.length < 6) : ∃ J2, H_X3_takeAct E rd J = some (if (pAct c p).1 = true then 1 else 0, J2) ∧ Rdm J2 rd tx c n (pAct c p).2.1 ∧ ((pAct c p).1 = true → p + 1 ≤ (pAct c p).2.1 ∧ Pst J2 q (l ++ [(cs, (pAct c p).2.2)]) []) ∧ Fq rd q J J2 := by
  have hp := hm.2.2.1
  have hrq := hr.2.2.2.2.1
  have htq := hr.2.2.2.2.2.1
  have htr := hr.2.2.2.2.2.2
  unfold H_X3_takeAct pAct
  rw [k_take hr hm (by decide)]
  by_cases k1 : c p = 117
  · have hq := hr.1.2 p (by omega)
    have m2 := hm.adv htr (p2 := p + 1) (by omega)
    rw [if_pos k1, if_pos k1, Option.bind_some]
    dsimp only
    rw [if_neg (by decide), hr.2.1, Option.bind_some]
    obtain ⟨J2, f1, f2, f3⟩ := k_addR (hP.adv (v := p + 1) hrq) h6 (ac := 117) (x := 0) (y := 0) (la := 0) ⟨Or.inl rfl, by decide, by decide, by decide⟩
    have f1' : H_X2_addRule q 0 0 0 (jW J rd 3 (p + 1)) = some J2 := f1
    rw [f1', Option.bind_some]
    exact ⟨J2, rfl, ⟨by rw [f3 rd hrq]; exact m2.1, by rw [f3 rd hrq]; exact m2.2.1, m2.2.2.1, fun i i0 i1 => by rw [f3 tx htq]; exact m2.2.2.2 i i0 i1⟩, fun _ => ⟨Int.le_refl _, f2⟩, fun b h1 h2 => by rw [f3 b h2, jW_ne h1]⟩
  · rw [if_neg k1, if_neg k1, Option.bind_some]
    dsimp only
    rw [if_pos rfl, k_take hr hm (by decide)]
    by_cases k2 : c p = 115
    · have hq := hr.1.2 p (by omega)
      have m2 := hm.adv htr (p2 := p + 1) (by omega)
      rw [if_pos k2, if_pos k2, Option.bind_some]
      dsimp only
      rw [if_neg (by decide)]
      obtain ⟨g1, g2⟩ := k_layer hr m2 (hP.adv (v := p + 1) hrq) h6 (ac := 115) (x := 0) (y := 0) (Or.inl rfl) (by decide) (by decide) (a := 1) (g := 0) rfl rfl
      by_cases k3 : 48 ≤ c (p + 1) ∧ c (p + 1) ≤ 51
      · obtain ⟨J2, f1, f2, f3, f4⟩ := g2 k3
        rw [if_pos k3, f1, Option.bind_some]
        dsimp only
        rw [zZ (Or.inr rfl), Option.bind_some, show p + 1 + 1 = p + 2 by omega] at *
        exact ⟨J2, rfl, f2, fun _ => ⟨by omega, f3⟩, (Fq.r.ww (Or.inl rfl)).tt f4⟩
      · rw [if_neg k3, g1 k3, Option.bind_some]
        dsimp only
        rw [zZ (Or.inl rfl), Option.bind_some]
        exact ⟨_, rfl, m2, fun q => (by cases q), Fq.r.ww (Or.inl rfl)⟩
    · rw [if_neg k2, if_neg k2, Option.bind_some]
      dsimp only
      rw [if_pos rfl, k_take hr hm (by decide)]
      by_cases k3 : c p = 103
      · have hq := hr.1.2 p (by omega)
        have m2 := hm.adv htr (p2 := p + 1) (by omega)
        rw [if_pos k3, if_pos k3, Option.bind_some]
        dsimp only
        rw [if_neg (by decide), k_digit hr m2 (mo := 9) (by omega)]
        by_cases k4 : 48 ≤ c (p + 1) ∧ c (p + 1) ≤ 57
        · have hq1 := hr.1.2 (p + 1) (by omega)
          have m3 := m2.adv htr (p2 := p + 1 + 1) (by omega)
          rw [if_pos k4, if_pos (show 48 ≤ c (p + 1) ∧ c (p + 1) ≤ 48 + 9 by omega), Option.bind_some]
          dsimp only
          rw [if_pos (show 0 ≤ c (p + 1) - 48 by omega), k_digit hr m3 (mo := 7) (by omega), show p + 1 + 1 = p + 2 by omega] at *
          by_cases k5 : 48 ≤ c (p + 2) ∧ c (p + 2) ≤ 55
          · have hq2 := hr.1.2 (p + 2) (by omega)
            have m4 := m3.adv htr (p2 := p + 2 + 1) (by omega)
            rw [if_pos k5, if_pos (show 48 ≤ c (p + 2) ∧ c (p + 2) ≤ 48 + 7 by omega), Option.bind_some]
            dsimp only
            rw [if_neg (show ¬ (c (p + 2) - 48 < 0) by omega), z_cellOf (by omega), Option.bind_some, show p + 2 + 1 = p + 3 by omega] at *
            obtain ⟨g1, g2⟩ := k_layer hr m4 (((hP.adv (v := p + 1) hrq).adv (v := p + 2) hrq).adv (v := p + 3) hrq) h6 (ac := 103) (x := c (p + 1) - 48) (y := c (p + 2) - 48) (Or.inr rfl) (by omega) (by omega) (a := 2) (g := 8 * (c (p + 1) - 48) + (c (p + 2) - 48)) rfl rfl
            by_cases k6 : 48 ≤ c (p + 3) ∧ c (p + 3) ≤ 51
            · obtain ⟨J2, f1, f2, f3, f4⟩ := g2 k6
              rw [if_pos k6, f1, Option.bind_some]
              dsimp only
              rw [if_neg (by decide), show p + 3 + 1 = p + 4 by omega] at *
              exact ⟨J2, rfl, f2, fun _ => ⟨by omega, f3⟩, (((Fq.r.ww (Or.inl rfl)).ww (Or.inl rfl)).ww (Or.inl rfl)).tt f4⟩
            · rw [if_neg k6, g1 k6, Option.bind_some]
              dsimp only
              rw [if_pos rfl]
              exact ⟨_, rfl, m4, fun q => (by cases q), ((Fq.r.ww (Or.inl rfl)).ww (Or.inl rfl)).ww (Or.inl rfl)⟩
          · rw [if_neg k5, if_neg (show ¬ (48 ≤ c (p + 2) ∧ c (p + 2) ≤ 48 + 7) by omega), Option.bind_some]
            dsimp only
            rw [if_pos (by decide)]
            exact ⟨_, rfl, m3, fun q => (by cases q), (Fq.r.ww (Or.inl rfl)).ww (Or.inl rfl)⟩
        · rw [if_neg k4, if_neg (show ¬ (48 ≤ c (p + 1) ∧ c (p + 1) ≤ 48 + 9) by omega), Option.bind_some]
          dsimp only
          rw [if_neg (show ¬ (0 : Int) ≤ -1 by decide)]
          exact ⟨_, rfl, m2, fun q => (by cases q), Fq.r.ww (Or.inl rfl)⟩
      · rw [if_neg k3, if_neg k3, Option.bind_some]
        dsimp only
        rw [if_pos rfl]
        exact ⟨J, rfl, hm, fun q => (by cases q), Fq.r⟩
theorem k_rule (hr : Rdr E rd q tx c n) (hm : Rdm J rd tx c n p) (hP : Pst J q l []) (h6 : l.length < 6) (h4 : 4 * (nCk l : Int) ≤ p) (h1n : 1 ≤ n) : ∃ J2, H_X3_takeRule E rd J = some (if (pRule c p).1 = true then 1 else 0, J2) ∧ Rdm J2 rd tx c n (pRule c p).2.1 ∧ ((pRule c p).1 = true → p < (pRule c p).2.1 ∧ Pst J2 q (l ++ [(pRule c p).2.2]) [] ∧ 4 * (nCk (l ++ [(pRule c p).2.2]) : Int) ≤ (pRule c p).2.1) ∧ Fq rd q J J2 := by
  have hn := hr.1.1
  have hp := hm.2.2.1
  have hrq := hr.2.2.2.2.1
  have htr := hr.2.2.2.2.2.2
  unfold H_X3_takeRule
  obtain ⟨J1, a1, a2, a3, a4⟩ := k_testL (l := l) hr h1n (fun (J12 : Jm) =>
    (H_X3_take E rd 63 J12).bind fun (zv15, J13) =>
    if zv15 = 0 then
      some ((0 : Int), J13)
    else
      (H_X3_takeAct E rd J13).bind fun (zv19, J17) =>
      if zv19 = 0 then
        some ((0 : Int), J17)
      else
        (H_X3_take E rd 59 J17).bind fun (zv23, J21) =>
        if zv23 = 0 then
          some ((0 : Int), J21)
        else
          some ((1 : Int), J21)) 81 1000000 0 p J [] hm hP (by rw [List.length_nil, Nat.add_zero]; exact h4) (by omega) (by omega) (by omega)
  rw [a1]
  unfold pRule
  generalize pTest c 81 p [] = Q at a2 a3 ⊢
  obtain ⟨ok, p1, L⟩ := Q
  dsimp only at a2 a3 ⊢
  cases ok with
  | false =>
    rw [if_neg (show ¬ false = true by decide), if_neg (show ¬ false = true by decide)]
    exact ⟨J1, rfl, a2, fun q => (by cases q), a4⟩
  | true =>
    obtain ⟨a5, a6, a7⟩ := a3 rfl
    have hp1 := a2.2.2.1
    rw [if_pos rfl, if_pos rfl, k_take hr a2 (by decide)]
    by_cases k1 : c p1 = 63
    · have hq1 := hr.1.2 p1 (by omega)
      have m2 := a2.adv htr (p2 := p1 + 1) (by omega)
      rw [if_pos k1, if_pos k1, Option.bind_some]
      dsimp only
      rw [if_neg (show ¬ (1 : Int) = 0 by decide)]
      obtain ⟨J2, b1, b2, b3, b4⟩ := k_act hr m2 (a6.adv (v := p1 + 1) hrq) h6
      rw [b1, Option.bind_some]
      generalize pAct c (p1 + 1) = A at b2 b3 ⊢
      obtain ⟨ok2, p2, A⟩ := A
      dsimp only at b2 b3 ⊢
      cases ok2 with
      | false =>
        rw [if_neg (show ¬ false = true by decide), if_neg (show ¬ false = true by decide), if_pos rfl]
        exact ⟨J2, rfl, b2, fun q => (by cases q), (a4.ww (Or.inl rfl)).tt b4⟩
      | true =>
        obtain ⟨b5, b6⟩ := b3 rfl
        have hp2 := b2.2.2.1
        rw [if_pos rfl, if_pos rfl, if_neg (show ¬ (1 : Int) = 0 by decide), k_take hr b2 (by decide)]
        by_cases k2 : c p2 = 59
        · have hq2 := hr.1.2 p2 (by omega)
          rw [if_pos k2, if_pos k2, Option.bind_some]
          dsimp only
          rw [if_neg (show ¬ (1 : Int) = 0 by decide)]
          have e : nCk (l ++ [(L, A)]) = nCk l + L.length := nCk_a _ _
          exact ⟨_, rfl, b2.adv htr (by omega), fun _ => ⟨by omega, b6.adv hrq, by rw [e]; omega⟩, ((a4.ww (Or.inl rfl)).tt b4).ww (Or.inl rfl)⟩
        · rw [if_neg k2, if_neg k2, Option.bind_some]
          dsimp only
          rw [if_pos rfl]
          exact ⟨J2, rfl, b2, fun q => (by cases q), (a4.ww (Or.inl rfl)).tt b4⟩
    · rw [if_neg k1, if_neg k1, Option.bind_some]
      dsimp only
      rw [if_pos rfl]
      exact ⟨J1, rfl, a2, fun q => (by cases q), a4⟩
/-- the reader's own loop, over whole numbers -/
def H_X3_scanL (E : Em) (rd : Nat) : Nat → Int → Jm → Option (Int × Jm)
  | 0, _, _ => none
  | fu + 1, ix, J =>
    if J rd 2 ≤ J rd 3 then
      (E.2.1 rd 0).bind fun a => if J a 0 ≤ 0 then some (J rd 3, J) else some (-4, J)
    else if 6 ≤ ix then some (J rd 3, J)
    else (H_X3_takeRule E rd J).bind fun (z, J1) => if z = 0 then some (J1 rd 3, J1) else H_X3_scanL E rd fu (wr (ix + 1)) J1
theorem k_text (hr : Rdr E rd q tx c n) : ∀ (k fu : Nat) (p : Int) (J : Jm) (l : List Ru), Rdm J rd tx c n p → Pst J q l [] → l.length ≤ 6 → 4 * (nCk l : Int) ≤ p → 7 ≤ k + l.length → 7 ≤ fu + l.length → ∃ J2, H_X3_scanL E rd fu (l.length : Int) J = some (if (pText c n k p l).1 = true then -4 else (pText c n k p l).2.1, J2) ∧ ((pText c n k p l).1 = true → (pText c n k p l).2.1 = n ∧ Arr J2 q (pText c n k p l).2.2 ∧ (pText c n k p l).2.2.length ≤ 6 ∧ nCk (pText c n k p l).2.2 ≤ 20) ∧ (0 ≤ (pText c n k p l).2.1 ∧ (pText c n k p l).2.1 ≤ n) ∧ Fq rd q J J2 := by
  have hn := hr.1.1
  intro k
  induction k with
  | zero => intro fu p J l hm hP h6 h4 h1 h2; omega
  | succ k ih =>
    intro fu p J l hm hP h6 h4 h1 h2
    have hp := hm.2.2.1
    obtain ⟨fu, rfl⟩ : ∃ f, fu = f + 1 := ⟨fu - 1, by omega⟩
    rw [H_X3_scanL, hm.1, hm.2.1]
    unfold pText
    by_cases k1 : n ≤ p
    · rw [if_pos k1, if_pos k1, hr.2.1, Option.bind_some, hP.1]
      dsimp only
      have epn : p = n := by omega
      by_cases k2 : (l.length : Int) ≤ 0
      · have e : decide (0 < l.length) = false := decide_eq_false (by omega)
        rw [if_pos k2, e, if_neg (by decide)]
        exact ⟨J, rfl, fun q => (by cases q), hp, Fq.r⟩
      · have e : decide (0 < l.length) = true := decide_eq_true (by omega)
        rw [if_neg k2, e, if_pos rfl]
        exact ⟨J, rfl, fun _ => ⟨epn, ⟨hP.1, hP.2.2.1⟩, h6, by omega⟩, hp, Fq.r⟩
    · rw [if_neg k1, if_neg k1]
      by_cases k2 : l.length = 6
      · rw [if_pos (show 6 ≤ (l.length : Int) by omega), if_pos k2, if_neg (show ¬ false = true by decide)]
        exact ⟨J, rfl, fun q => (by cases q), hp, Fq.r⟩
      · rw [if_neg (show ¬ 6 ≤ (l.length : Int) by omega), if_neg k2, wr_id (z := (l.length : Int) + 1) (by omega)]
        obtain ⟨J1, a1, a2, a3, a4⟩ := k_rule hr hm hP (by omega) h4 (by omega)
        rw [a1, Option.bind_some]
        generalize pRule c p = Q at a2 a3 ⊢
        obtain ⟨ok, p1, r⟩ := Q
        dsimp only at a2 a3 ⊢
        have hp1 := a2.2.2.1
        cases ok with
        | false =>
          rw [if_neg (show ¬ false = true by decide), if_neg (show ¬ false = true by decide), if_pos rfl, if_neg (show ¬ false = true by decide), a2.2.1]
          exact ⟨J1, rfl, fun q => (by cases q), hp1, a4⟩
        | true =>
          obtain ⟨a5, a6, a7⟩ := a3 rfl
          rw [if_pos rfl, if_pos rfl, if_neg (show ¬ (1 : Int) = 0 by decide)]
          obtain ⟨J2, f1, f2, f3, f4⟩ := ih fu p1 J1 (l ++ [r]) a2 a6 (by rw [List.length_append, List.length_singleton]; omega) a7 (by rw [List.length_append, List.length_singleton]; omega) (by rw [List.length_append, List.length_singleton]; omega)
          rw [List.length_append, List.length_singleton, show ((l.length + 1 : Nat) : Int) = (l.length : Int) + 1 by omega] at f1
          exact ⟨J2, f1, f2, f3, a4.tt f4⟩
end RDC2
