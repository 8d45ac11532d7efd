/-! ACTS; A WHOLE TEXT -/
/-- the first RULE whose TEST holds -/
def chV (vf : Int → Int) : List Ru → Int → Option (Int × Ru)
  | [], _ => none
  | r :: l, i => if alV vf r.1 = 0 then chV vf l (i + 1) else some (i, r)
theorem chV_a (vf : Int → Int) (r : Ru) : ∀ (l : List Ru) (i : Int), chV vf (l ++ [r]) i = (match chV vf l i with | some q => some q | none => if alV vf r.1 = 0 then none else some (i + (l.length : Int), r))
  | [], i => by
    show (if alV vf r.1 = 0 then none else some (i, r)) = if alV vf r.1 = 0 then none else some (i + ((0 : Nat) : Int), r)
    rw [show i + ((0 : Nat) : Int) = i by omega]
  | s :: l, i => by
    show (if alV vf s.1 = 0 then chV vf (l ++ [r]) (i + 1) else some (i, s)) = (match (if alV vf s.1 = 0 then chV vf l (i + 1) else some (i, s)) with | some q => some q | none => if alV vf r.1 = 0 then none else some (i + ((l.length + 1 : Nat) : Int), r))
    by_cases h : alV vf s.1 = 0
    · rw [if_pos h, if_pos h, chV_a vf r l (i + 1), show i + ((l.length + 1 : Nat) : Int) = i + 1 + (l.length : Int) by omega]
    · rw [if_neg h, if_neg h]
theorem chV_r (vf : Int → Int) : ∀ (l : List Ru) (i : Int) (q : Int × Ru), chV vf l i = some q → i ≤ q.1 ∧ q.1 < i + (l.length : Int)
  | [], _, _, h => by cases h
  | s :: l, i, q, h => by
    unfold chV at h
    split at h
    · have := chV_r vf l (i + 1) q h
      rw [List.length_cons]; omega
    · cases h
      rw [List.length_cons]
      dsimp only; omega
/-- the reference's fields tell the RULE that is done -/
def RS (m : Nat) (J : Jm) (q : Option (Int × Ru)) : Prop := (q = none → J m 16 = -4) ∧ ∀ i r, q = some (i, r) → J m 16 = i ∧ J m 17 = r.2.1 ∧ J m 18 = r.2.2.1 ∧ J m 19 = r.2.2.2.1 ∧ J m 20 = r.2.2.2.2
section RTX2
variable {m : Nat} {J0 J : Jm} {c : Int → Int} {n g p v t : Int}
theorem r_act (hc : Cn c n) (hA : At m c J0) (hJ : Fx m J0 J) (hp : J m 12 = p) (h0 : 0 ≤ p) (h1 : p ≤ n) (rule : Int) :
    ∃ J2, H_X12_takesAct m rule J = some (if (pAct c p).1 = true then 1 else 0, J2) ∧ Fx m J0 J2 ∧ J2 m 12 = (pAct c p).2.1 ∧ (p ≤ J2 m 12 ∧ J2 m 12 ≤ n) ∧ ((pAct c p).1 = true → p < J2 m 12 ∧ ((J m 15 = 0 ∨ ¬ J m 16 < 0) → ∀ i, 16 ≤ i → i ≤ 20 → J2 m i = J m i) ∧ (J m 15 ≠ 0 → J m 16 < 0 → J2 m 16 = rule ∧ J2 m 17 = (pAct c p).2.2.1 ∧ J2 m 18 = (pAct c p).2.2.2.1 ∧ J2 m 19 = (pAct c p).2.2.2.2.1 ∧ J2 m 20 = (pAct c p).2.2.2.2.2)) := by
  have hn := hc.1
  have fin : ∀ (ac x y l pos : Int) (J3 : Jm), Fx m J0 J3 → J3 m 12 = pos → p < pos → pos ≤ n → J3 m 15 = J m 15 → (∀ i, 16 ≤ i → i ≤ 20 → J3 m i = J m i) → ∃ J2, (if (J3 m 15) = 0 then some ((1 : Int), J3) else if (J3 m 16) < 0 then some ((1 : Int), jW (jW (jW (jW (jW J3 m 16 rule) m 17 ac) m 18 x) m 19 y) m 20 l) else some ((1 : Int), J3)) = some (1, J2) ∧ Fx m J0 J2 ∧ J2 m 12 = pos ∧ ((J m 15 = 0 ∨ ¬ J m 16 < 0) → ∀ i, 16 ≤ i → i ≤ 20 → J2 m i = J m i) ∧ (J m 15 ≠ 0 → J m 16 < 0 → J2 m 16 = rule ∧ J2 m 17 = ac ∧ J2 m 18 = x ∧ J2 m 19 = y ∧ J2 m 20 = l) := by
    intro ac x y l pos J3 g1 g2 g3 g4 g5 g6
    rw [g5, g6 16 (by decide) (by decide)]
    by_cases q1 : J m 15 = 0
    · rw [if_pos q1]
      exact ⟨J3, rfl, g1, g2, fun _ => g6, fun q => absurd q1 q⟩
    · rw [if_neg q1]
      by_cases q2 : J m 16 < 0
      · rw [if_pos q2]
        refine ⟨_, rfl, ((((g1.ww (by omega)).ww (by omega)).ww (by omega)).ww (by omega)).ww (by omega), by simp (disch := omega) only [jW_of]; exact g2, fun q => q.elim (fun q => absurd q q1) (fun q => absurd q2 q), fun _ _ => ?_⟩
        refine ⟨?_, ?_, ?_, ?_, ?_⟩ <;> simp (disch := omega) only [jW_of, jW_at]
      · rw [if_neg q2]
        exact ⟨J3, rfl, g1, g2, fun _ => g6, fun _ q => absurd q q2⟩
  unfold H_X12_takesAct
  rw [hA J hJ (by omega), hp, Option.bind_some]
  simp only [jp, nv]
  rw [hp]
  unfold pAct
  by_cases k1 : c p = 117
  · have hq := hc.2 p (by omega)
    rw [if_neg (show ¬ c p = 115 by omega), if_neg (show ¬ c p = 103 by omega), if_pos k1, if_neg (show ¬ c p = 103 by omega), if_pos k1, if_pos k1, wr_id (z := p + 1) (by omega), k1]
    obtain ⟨J2, f1, f2, f3, f4, f5⟩ := fin 117 0 0 0 (p + 1) (jW J m 12 (p + 1)) (hJ.ww (by omega)) jW_at (by omega) (by omega) (jW_of (by decide)) (fun i i0 i1 => jW_of (by omega))
    exact ⟨J2, f1, f2, f3, by omega, fun _ => ⟨by omega, f4, f5⟩⟩
  · simp only [if_neg k1]
    by_cases k2 : c p = 115
    · have hq := hc.2 p (by omega)
      have F1 : Fx m J0 (jW J m 12 (p + 1)) := hJ.ww (by omega)
      obtain ⟨t1, t2⟩ := r_takes (p := p + 1) hc hA F1 jW_at (by omega) (by omega) (lo := 0) (hi := 3) (by omega)
      rw [if_pos k2, if_neg (show ¬ c p = 103 by omega), if_pos k2, wr_id (z := p + 1) (by omega)]
      by_cases k3 : 48 ≤ c (p + 1) ∧ c (p + 1) ≤ 51
      · obtain ⟨t3, t4⟩ := t2 (by omega)
        rw [if_pos k3, t3, Option.bind_some]
        dsimp only
        rw [if_neg (show ¬ (1 : Int) = 0 by decide), show p + 1 + 1 = p + 2 by omega, jW_of (k := 12) (j := 14) (by decide), jW_at, k2]
        obtain ⟨J2, f1, f2, f3, f4, f5⟩ := fin 115 0 0 (c (p + 1) - 48) (p + 2) (jW (jW (jW J m 12 (p + 1)) m 14 (c (p + 1) - 48)) m 12 (p + 2)) ((F1.ww (by omega)).ww (by omega)) jW_at (by omega) (by omega) (by simp (disch := omega) only [jW_of]) (fun i i0 i1 => by simp (disch := omega) only [jW_of])
        exact ⟨J2, f1, f2, f3, by omega, fun _ => ⟨by omega, f4, f5⟩⟩
      · rw [if_neg k3, t1 (by omega), Option.bind_some]
        dsimp only
        rw [if_pos rfl]
        exact ⟨_, rfl, F1, jW_at, by rw [jW_at]; omega, fun q => (by cases q)⟩
    · simp only [if_neg k2]
      by_cases k3 : c p = 103
      · have hq := hc.2 p (by omega)
        have F1 : Fx m J0 (jW J m 12 (p + 1)) := hJ.ww (by omega)
        obtain ⟨t1, t2⟩ := r_takes (p := p + 1) hc hA F1 jW_at (by omega) (by omega) (lo := 0) (hi := 9) (by omega)
        simp only [if_pos k3]
        rw [wr_id (z := p + 1) (by omega)]
        by_cases k4 : 48 ≤ c (p + 1) ∧ c (p + 1) ≤ 57
        · obtain ⟨t3, t4⟩ := t2 (by omega)
          have F2 : Fx m J0 (jW (jW (jW J m 12 (p + 1)) m 14 (c (p + 1) - 48)) m 12 (p + 2)) := (F1.ww (by omega)).ww (by omega)
          obtain ⟨u1, u2⟩ := r_takes (p := p + 2) hc hA F2 jW_at (by omega) (by omega) (lo := 0) (hi := 7) (by omega)
          rw [if_pos k4, t3, Option.bind_some]
          dsimp only
          rw [if_neg (show ¬ (1 : Int) = 0 by decide), show p + 1 + 1 = p + 2 by omega]
          by_cases k5 : 48 ≤ c (p + 2) ∧ c (p + 2) ≤ 55
          · obtain ⟨u3, u4⟩ := u2 (by omega)
            have F3 : Fx m J0 (jW (jW (jW (jW (jW J m 12 (p + 1)) m 14 (c (p + 1) - 48)) m 12 (p + 2)) m 14 (c (p + 2) - 48)) m 12 (p + 3)) := (F2.ww (by omega)).ww (by omega)
            obtain ⟨w1, w2⟩ := r_takes (p := p + 3) hc hA F3 jW_at (by omega) (by omega) (lo := 0) (hi := 3) (by omega)
            rw [if_pos k5, u3, Option.bind_some]
            dsimp only
            rw [if_neg (show ¬ (1 : Int) = 0 by decide), show p + 2 + 1 = p + 3 by omega]
            by_cases k6 : 48 ≤ c (p + 3) ∧ c (p + 3) ≤ 51
            · obtain ⟨w3, w4⟩ := w2 (by omega)
              rw [if_pos k6, w3, Option.bind_some]
              dsimp only
              rw [if_neg (show ¬ (1 : Int) = 0 by decide), show p + 3 + 1 = p + 4 by omega, k3]
              have z1 : jW (jW (jW J m 12 (p + 1)) m 14 (c (p + 1) - 48)) m 12 (p + 2) m 14 = c (p + 1) - 48 := by rw [jW_of (by decide), jW_at]
              have z2 : jW (jW (jW (jW (jW J m 12 (p + 1)) m 14 (c (p + 1) - 48)) m 12 (p + 2)) m 14 (c (p + 2) - 48)) m 12 (p + 3) m 14 = c (p + 2) - 48 := by rw [jW_of (by decide), jW_at]
              have z3 : jW (jW (jW (jW (jW (jW (jW J m 12 (p + 1)) m 14 (c (p + 1) - 48)) m 12 (p + 2)) m 14 (c (p + 2) - 48)) m 12 (p + 3)) m 14 (c (p + 3) - 48)) m 12 (p + 4) m 14 = c (p + 3) - 48 := by rw [jW_of (by decide), jW_at]
              rw [z1, z2, z3]
              obtain ⟨J2, f1, f2, f3, f4, f5⟩ := fin 103 (c (p + 1) - 48) (c (p + 2) - 48) (c (p + 3) - 48) (p + 4) (jW (jW (jW (jW (jW (jW (jW J m 12 (p + 1)) m 14 (c (p + 1) - 48)) m 12 (p + 2)) m 14 (c (p + 2) - 48)) m 12 (p + 3)) m 14 (c (p + 3) - 48)) m 12 (p + 4)) ((F3.ww (by omega)).ww (by omega)) jW_at (by omega) (by omega) (by simp (disch := omega) only [jW_of]) (fun i i0 i1 => by simp (disch := omega) only [jW_of])
              exact ⟨J2, f1, f2, f3, by omega, fun _ => ⟨by omega, f4, f5⟩⟩
            · rw [if_neg k6, w1 (by omega), Option.bind_some]
              dsimp only
              rw [if_pos rfl]
              exact ⟨_, rfl, F3, jW_at, by rw [jW_at]; omega, fun q => (by cases q)⟩
          · rw [if_neg k5, u1 (by omega), Option.bind_some]
            dsimp only
            rw [if_pos rfl]
            exact ⟨_, rfl, F2, jW_at, by rw [jW_at]; omega, fun q => (by cases q)⟩
        · rw [if_neg k4, t1 (by omega), Option.bind_some]
          dsimp only
          rw [if_pos rfl]
          exact ⟨_, rfl, F1, jW_at, by rw [jW_at]; omega, fun q => (by cases q)⟩
      · simp only [if_neg k3]
        exact ⟨J, rfl, hJ, hp, by omega, fun q => (by cases q)⟩
theorem r_rule1 (hc : Cn c n) (hA : At m c J0) {vf : Int → Int} (hv : Vf m g J0 vf) (hJ : Fx m J0 J) (hp : J m 12 = p) (h0 : 0 ≤ p) (h1 : p ≤ n) {l : List Ru} (hR : RS m J (chV vf l 0)) (K : Jm → Option (Int × Jm)) :
    ∃ J2, ((H_X12_takesTest m g J).bind fun (zv22, J20) =>
      if zv22 = 0 then
        some ((0 : Int), J20)
      else
        (H_X12_at m J20).bind fun zv26 =>
        if zv26 = 63 then
          nv (jW J20 m 12 (wr ((J20 m 12) + 1))) fun J29 =>
          (H_X12_takesAct m (l.length : Int) J29).bind fun (zv32, J30) =>
          if zv32 = 0 then
            some ((0 : Int), J30)
          else
            (H_X12_at m J30).bind fun zv36 =>
            if zv36 = 59 then
              nv (jW J30 m 12 (wr ((J30 m 12) + 1))) fun J39 => K J39
            else
              some ((0 : Int), J30)
        else
          some ((0 : Int), J20)) = (if (pRule c p).1 = true then K J2 else some (0, J2)) ∧ Fx m J0 J2 ∧ J2 m 12 = (pRule c p).2.1 ∧ (p ≤ J2 m 12 ∧ J2 m 12 ≤ n) ∧ ((pRule c p).1 = true → p < J2 m 12 ∧ RS m J2 (chV vf (l ++ [(pRule c p).2.2]) 0)) := by
  have hn := hc.1
  obtain ⟨J1, a1, a2, a3, a4, a5, a6⟩ := r_test (g := g) hc hA hv hJ hp h0 h1
  rw [a1, Option.bind_some]
  unfold pRule
  generalize pTest c 81 p [] = Q at a3 a5 ⊢
  obtain ⟨ok, q, L⟩ := Q
  dsimp only at a3 a5 ⊢
  cases ok with
  | false =>
    rw [if_neg (show ¬ false = true by decide), if_neg (show ¬ false = true by decide), if_pos rfl]
    exact ⟨J1, rfl, a2, a3, a4, fun q => (by cases q)⟩
  | true =>
    obtain ⟨a7, a8⟩ := a5 rfl
    rw [if_pos rfl, if_pos rfl, if_neg (show ¬ (1 : Int) = 0 by decide), hA J1 a2 (by omega), a3, Option.bind_some]
    by_cases k1 : c q = 63
    · have hq := hc.2 q (by omega)
      rw [if_pos k1, if_pos k1]
      simp only [nv]
      rw [wr_id (z := q + 1) (by omega)]
      have F1 : Fx m J0 (jW J1 m 12 (q + 1)) := a2.ww (by omega)
      obtain ⟨J2, b1, b2, b3, b4, b5⟩ := r_act hc hA F1 jW_at (by omega) (by omega) (l.length : Int)
      rw [b1, Option.bind_some]
      generalize pAct c (q + 1) = A at b3 b5 ⊢
      obtain ⟨ok2, q2, A⟩ := A
      dsimp only at b3 b5 ⊢
      cases ok2 with
      | false =>
        rw [if_neg (show ¬ false = true by decide), if_neg (show ¬ false = true by decide), if_pos rfl]
        exact ⟨J2, rfl, b2, b3, by omega, fun q => (by cases q)⟩
      | true =>
        obtain ⟨b6, b7, b8⟩ := b5 rfl
        rw [if_pos rfl, if_pos rfl, if_neg (show ¬ (1 : Int) = 0 by decide), hA J2 b2 (by omega), b3, Option.bind_some]
        by_cases k2 : c q2 = 59
        · have hq2 := hc.2 q2 (by omega)
          rw [if_pos k2, if_pos k2, wr_id (z := q2 + 1) (by omega)]
          refine ⟨_, (if_pos rfl).symm, b2.ww (by omega), jW_at, by rw [jW_at]; omega, fun _ => ⟨by rw [jW_at]; omega, ?_⟩⟩
          have e16 : ∀ i, 16 ≤ i → i ≤ 20 → jW J1 m 12 (q + 1) m i = J m i := fun i i0 i1 => by rw [jW_of (by omega)]; exact a6 i i0 i1
          have e15 : jW J1 m 12 (q + 1) m 15 = alV vf L := by rw [jW_of (by decide)]; exact a8
          rw [e15, e16 16 (by decide) (by decide)] at b7 b8
          obtain ⟨r1, r2⟩ := hR
          rw [chV_a]
          cases hch : chV vf l 0 with
          | some w =>
            obtain ⟨i, r⟩ := w
            obtain ⟨s1, s2, s3, s4, s5⟩ := r2 i r hch
            have hi := chV_r vf l 0 _ hch
            dsimp only at hi
            have e := b7 (Or.inr (by omega))
            refine ⟨fun q => (by cases q), fun i' r' hq => ?_⟩
            cases hq
            refine ⟨?_, ?_, ?_, ?_, ?_⟩
            · rw [jW_of (by decide), e 16 (by decide) (by decide), e16 16 (by decide) (by decide)]; exact s1
            · rw [jW_of (by decide), e 17 (by decide) (by decide), e16 17 (by decide) (by decide)]; exact s2
            · rw [jW_of (by decide), e 18 (by decide) (by decide), e16 18 (by decide) (by decide)]; exact s3
            · rw [jW_of (by decide), e 19 (by decide) (by decide), e16 19 (by decide) (by decide)]; exact s4
            · rw [jW_of (by decide), e 20 (by decide) (by decide), e16 20 (by decide) (by decide)]; exact s5
          | none =>
            have s1 := r1 hch
            dsimp only
            by_cases k3 : alV vf L = 0
            · rw [if_pos k3]
              have e := b7 (Or.inl k3)
              refine ⟨fun _ => ?_, fun i' r' hq => (by cases hq)⟩
              rw [jW_of (by decide), e 16 (by decide) (by decide), e16 16 (by decide) (by decide)]; exact s1
            · rw [if_neg k3]
              obtain ⟨t1, t2, t3, t4, t5⟩ := b8 k3 (by omega)
              refine ⟨fun q => (by cases q), fun i' r' hq => ?_⟩
              cases hq
              rw [Int.zero_add]
              refine ⟨?_, ?_, ?_, ?_, ?_⟩ <;> rw [jW_of (by decide)]
              · exact t1
              · exact t2
              · exact t3
              · exact t4
              · exact t5
        · rw [if_neg k2, if_neg k2]
          exact ⟨J2, rfl, b2, b3, by omega, fun q => (by cases q)⟩
    · rw [if_neg k1, if_neg k1]
      exact ⟨J1, rfl, a2, a3, a4, fun q => (by cases q)⟩
theorem r_text (hc : Cn c n) (hA : At m c J0) (h11 : J0 m 11 = n) {vf : Int → Int} (hv : Vf m g J0 vf) : ∀ (k fu : Nat) (p : Int) (J : Jm) (l : List Ru), Fx m J0 J → J m 12 = p → 0 ≤ p → p ≤ n → l.length ≤ 6 → 7 ≤ k + l.length → 7 ≤ fu + l.length → RS m J (chV vf l 0) →
    ∃ J2, H_X12_goesOrder_L77 (fun (zy40 : Int) (J41 : Jm) => if zy40 ≤ 0 then some ((0 : Int), J41) else some ((1 : Int), J41)) m g fu (l.length : Int) J = some (if (pText c n k p l).1 = true then 1 else 0, J2) ∧ Fx m J0 J2 ∧ J2 m 12 = (pText c n k p l).2.1 ∧ (0 ≤ J2 m 12 ∧ J2 m 12 ≤ n) ∧ ((pText c n k p l).1 = true → RS m J2 (chV vf (pText c n k p l).2.2 0)) := by
  have hn := hc.1
  intro k
  induction k with
  | zero => intro fu p J l h1 h2 h3 h4 h5 h6; omega
  | succ k ih =>
    intro fu p J l h1 h2 h3 h4 h5 h6 h7 h8
    obtain ⟨fu, rfl⟩ : ∃ f, fu = f + 1 := ⟨fu - 1, by omega⟩
    rw [H_X12_goesOrder_L77, h1.2 11 (by omega), h11, h2]
    unfold pText
    by_cases k1 : n ≤ p
    · rw [if_pos k1, if_pos k1]
      dsimp only
      by_cases k2 : (l.length : Int) ≤ 0
      · rw [if_pos k2]
        have e : decide (0 < l.length) = false := decide_eq_false (by omega)
        rw [e, if_neg (by decide)]
        exact ⟨J, rfl, h1, h2, by omega, fun q => (by cases q)⟩
      · rw [if_neg k2]
        have e : decide (0 < l.length) = true := decide_eq_true (by omega)
        rw [e, if_pos rfl]
        exact ⟨J, rfl, h1, h2, by omega, fun _ => h8⟩
    · rw [if_neg k1, if_neg k1]
      by_cases k2 : l.length = 6
      · rw [if_pos (show (l.length : Int) = 6 by omega), if_pos k2, if_neg (show ¬ false = true by decide)]
        exact ⟨J, rfl, h1, h2, by omega, fun q => (by cases q)⟩
      · rw [if_neg (show ¬ (l.length : Int) = 6 by omega), if_neg k2, wr_id (z := (l.length : Int) + 1) (by omega)]
        obtain ⟨J1, a1, a2, a3, a4, a5⟩ := r_rule1 hc hA hv h1 h2 h3 h4 h8 (fun J39 => H_X12_goesOrder_L77 (fun (zy40 : Int) (J41 : Jm) => if zy40 ≤ 0 then some ((0 : Int), J41) else some ((1 : Int), J41)) m g fu ((l.length : Int) + 1) J39)
        refine Exists.imp (fun J2 => And.imp_left (fun e => a1.trans e)) ?_
        generalize pRule c p = Q at a3 a5 ⊢
        obtain ⟨ok, q, r⟩ := Q
        dsimp only at a3 a5 ⊢
        cases ok with
        | false =>
          rw [if_neg (show ¬ false = true by decide), if_neg (show ¬ false = true by decide), if_neg (show ¬ false = true by decide)]
          exact ⟨J1, rfl, a2, a3, by omega, fun q => (by cases q)⟩
        | true =>
          obtain ⟨a6, a7⟩ := a5 rfl
          rw [if_pos rfl, if_pos rfl]
          obtain ⟨J2, f1, f2, f3, f4, f5⟩ := ih fu q J1 (l ++ [r]) a2 a3 (by omega) (by omega) (by rw [List.length_append, List.length_singleton]; omega) (by rw [List.length_append, List.length_singleton]; omega) (by rw [List.length_append, List.length_singleton]; omega) a7
          rw [List.length_append, List.length_singleton, show ((l.length + 1 : Nat) : Int) = (l.length : Int) + 1 by omega] at f1
          exact ⟨J2, f1, f2, f3, f4, f5⟩
end RTX2
/-- what a GLIDER senses -/
def fvS (S : Int → Int) (g f : Int) : Int := if f = 102 then S (2218 + g) else if f = 104 then (if 0 ≤ S (2234 + g) then S 1 - S (2234 + g) else S 1) else if f = 108 then S (2210 + g) else if f = 112 then S (2194 + g) else if f = 115 then (if 0 ≤ S (2250 + g) then S (2250 + g) else 0) else if f = 116 then S 1 % 10 else if f = 120 then S (2178 + g) else if f = 121 then S (2186 + g) else S (10 + clS S g)
section FLD
variable {m : Nat} {J0 J : Jm} {S : Int → Int} {c : Int → Int} {n g p v t f : Int}
theorem vf_at (hR : Rf m J0 S) (hi : Inv S) (hg : 0 ≤ g ∧ g < 8) : Vf m g J0 (fvS S g) := by
  intro f _ J hJ
  have hR1 : Rf m J S := rE hR (hJ.1 _ (by omega))
  have hx := i_x hi (z := g) hg.1 hg.2
  have hy := i_y hi (z := g) hg.1 hg.2
  have ht := i_tim hi
  have hh := i_hea hi (z := g) hg.1 hg.2
  have e1 : wr (wr (10 + wr (8 * S (2178 + g))) + S (2186 + g)) = 10 + clS S g := by unfold clS; rw [wr_id (z := 8 * _) (by omega), wr_id (z := 10 + _) (by omega), wr_id (by omega)]; omega
  have hc := clS_r hi hg
  unfold H_X12_fieldOf fvS
  rw [if_pos hg.1, wr_id (z := 2218 + g) (by omega), wr_id (z := 2234 + g) (by omega), wr_id (z := 2210 + g) (by omega), wr_id (z := 2194 + g) (by omega), wr_id (z := 2250 + g) (by omega), wr_id (z := 2178 + g) (by omega), wr_id (z := 2186 + g) (by omega), rL hR1 (z := 2218 + g) (by omega) (by omega), rL hR1 (z := 2234 + g) (by omega) (by omega), rL hR1 (z := 2210 + g) (by omega) (by omega), rL hR1 (z := 2194 + g) (by omega) (by omega), rL hR1 (z := 2250 + g) (by omega) (by omega), rL hR1 (z := 2178 + g) (by omega) (by omega), rL hR1 (z := 2186 + g) (by omega) (by omega), rL hR1 (z := 1) (by omega) (by omega)]
  simp only [Option.bind_some]
  rw [zM (by omega) (by decide), e1, rL hR1 (z := 10 + clS S g) (by omega) (by omega), wr_id (z := S 1 - S (2234 + g)) (by omega)]
  simp only [Option.bind_some]
  repeat' (first | rfl | split)
theorem vf_no (hg : g < 0) : Vf m g J0 (fun _ => 0) := by
  intro f _ J hJ
  unfold H_X12_fieldOf
  rw [if_neg (by omega)]
end FLD
