/-! THE CLASS'S PLAN: work -/
def RCw (S : Int → Int) (d : Int) (gs : List Int) : Bs := RC (gnD (dS S)) (covD (dS S)) (g0S S) (gs.map (enS S d)) czero 0 [] [] (-4, [])
def Fk (w : Nat) (J J2 : Jm) : Prop := ∀ b, (b < w + 32 ∨ w + 43 < b) → J2 b = J b
section WORK
variable {E : Em} {w pl : Nat} {J J1 J2 : Jm} {S : Int → Int} {d g p i : Int} {gs l : List Int} {b : Bs}
theorem Fk.rr : Fk w J J := fun _ _ => rfl
theorem Fk.tt (h1 : Fk w J J1) (h2 : Fk w J1 J2) : Fk w J J2 := fun b hb => (h2 b hb).trans (h1 b hb)
theorem Fk.vw (h : Fk w J J2) (hV : Vw E w J S) (ag : ∀ j a, E.2.1 (w + 13) j = some a → a + 1 < w ∨ w + 43 < a) (ao : ∀ j q, E.2.1 (w + 15) j = some q → q + 8 < w ∨ w + 43 < q) : Vw E w J2 S := vwE hV (fun c c1 c2 => h c (by omega)) (fun j a ha => by have := ag j a ha; exact ⟨h _ (by omega), h _ (by omega)⟩) (fun j q hq i hi => by have := ao j q hq; exact h _ (by omega))
/-- the class under way: the planners so far -/
def Wk (E : Em) (J : Jm) (w pl : Nat) (S : Int → Int) (d : Int) (l : List Int) : Prop := Cs J pl S d l ∧ Vw E w J S ∧ Cm J (pl + 7) czero ∧ J pl 13 = -4
theorem c_fin (hpl : pl = w + 33) (hi : Inv S) (hd : 0 ≤ d ∧ d ≤ 3) (h1 : E.2.1 pl 1 = some (w + 1)) (e9 : (E.1 (pl + 9)).2 = 3) (e10 : (E.1 (pl + 10)).2 = 3) (hn : gs.length ≤ 3) (hgs : ∀ g ∈ gs, 0 ≤ g ∧ g < 8) (hW : Wk E J w pl S d gs) : ∃ J2, ((H_X5_sumMostFrom pl J).bind fun J12 => (H_X5_search E 5 pl 0 0 J12).bind fun J14 => some ((J14 pl 13), J14)) = some ((RCw S d gs).1, J2) ∧ Bc J2 pl (RCw S d gs) ∧ Cs J2 pl S d gs ∧ Fk w J J2 := by
  obtain ⟨w1, w2, w3, w4⟩ := hW
  obtain ⟨J1, a1, a2, a3⟩ := c_sum hi hd hn hgs w1
  have hS : SI J1 w pl S d gs [] [] ([] : List Int).length (-4, []) := ⟨w1.o (by rw [a3 pl (by omega)]) (fun b b1 b2 => a3 b (by omega)), a2, vE w2.1 (fun b b1 b2 => a3 b (by omega)), w3.o (a3 _ (by omega)), ⟨rfl, rfl, fun i hi => absurd hi (Nat.not_lt_zero i)⟩, by rw [a3 pl (by omega)]; exact w4, fun i h hh => by
    have hh' : ([] : List Int)[i]? = some h := hh
    rw [List.getElem?_nil] at hh'; cases hh'⟩
  obtain ⟨J2, b1, b2, b3, b4, b5⟩ := c_search (by omega) hi hd h1 e9 e10 hn hgs gs [] rfl 5 J1 [] [] (-4, []) (by omega) hS ⟨Int.le_refl _, Int.le_refl _⟩ (fun q hq => absurd hq List.not_mem_nil)
  rw [show (([] : List Int).length : Int) = 0 from rfl] at b1
  have b1' : H_X5_search E 5 pl 0 0 J1 = some J2 := b1
  have b4' : Bc J2 pl (RCw S d gs) := b4
  rw [a1, Option.bind_some, b1', Option.bind_some, b4'.1]
  exact ⟨J2, rfl, b4', hS.1.o (b5.2.1 3 (by omega)) (fun b c1 c2 => b5.1 b (by omega) (by omega)), fun b hb => by rw [b5.1 b (by omega) (by omega), a3 b (by omega)]⟩
theorem c_wk21 (hpl : pl = w + 33) (hi : Inv S) (hd : 0 ≤ d ∧ d ≤ 3) (h0 : E.2.1 pl 0 = some w) (h1 : E.2.1 pl 1 = some (w + 1)) (e9 : (E.1 (pl + 9)).2 = 3) (e10 : (E.1 (pl + 10)).2 = 3) (ag : ∀ j a, E.2.1 (w + 13) j = some a → a + 1 < w ∨ w + 43 < a) (ao : ∀ j q, E.2.1 (w + 15) j = some q → q + 8 < w ∨ w + 43 < q) : ∀ (t fu : Nat) (i : Int) (l : List Int) (J : Jm), S 0 = i + t → 0 ≤ i → t < fu → Wk E J w pl S d l → l.length ≤ 3 → (∀ g ∈ l, 0 ≤ g ∧ g < 8) → ∃ J2, H_X5_work_L21 E pl d fu i J = some ((RCw S d (l ++ tmL S d t i (3 - l.length))).1, J2) ∧ Bc J2 pl (RCw S d (l ++ tmL S d t i (3 - l.length))) ∧ Cs J2 pl S d (l ++ tmL S d t i (3 - l.length)) ∧ Fk w J J2 := by
  have h8 := i_gli hi
  intro t
  induction t with
  | zero =>
    intro fu i l J e1 e2 e3 hW hl hgs
    obtain ⟨fu, rfl⟩ := nx e3
    have e : tmL S d 0 i (3 - l.length) = [] := rfl
    rw [e, List.append_nil, H_X5_work_L21, h0, Option.bind_some]
    simp only [jp]
    rw [if_pos (by rw [v_gli hW.2.1.1]; omega)]
    exact c_fin hpl hi hd h1 e9 e10 hl hgs hW
  | succ t ih =>
    intro fu i l J e1 e2 e3 hW hl hgs
    obtain ⟨fu, rfl⟩ := nx e3
    have hpd := plD_r (S := S) (g := i) hd
    rw [H_X5_work_L21, h0, Option.bind_some]
    simp only [jp]
    rw [if_neg (by rw [v_gli hW.2.1.1]; omega), hW.1.1]
    unfold tmL
    by_cases k3 : l.length = 3
    · rw [if_pos (show 3 ≤ (l.length : Int) by omega), if_pos (by omega), List.append_nil]
      exact c_fin hpl hi hd h1 e9 e10 hl hgs hW
    · rw [if_neg (show ¬ 3 ≤ (l.length : Int) by omega), if_neg (show ¬ 3 - l.length = 0 by omega), Option.bind_some]
      obtain ⟨a, ea, ha, hG⟩ := gR hW.2.1 hi (g := i) ⟨e2, by omega⟩
      have hk := i_kind hi (z := i) e2 (by omega)
      have hlk := i_lea hi (z := i) e2 (by omega)
      have hwa := ag _ _ ha
      rw [ea, Option.bind_some, Option.bind_some, c_deep hk (g_kind hG), Option.bind_some, g_sta hG, wr_id (z := i + 1) (by omega)]
      have no := ih fu (i + 1) l J (by omega) (by omega) (by omega) hW hl hgs
      by_cases hu : S (2202 + i) = 0
      · rw [if_pos hu]
        have ec : H_X0_costTo a (mnZ d (zsk (S (2170 + i)))) J = some (zck (S (2170 + i)) (S (2210 + i)) (plD S d i)) := c_cost hk hlk hpd (g_kind hG) (g_lea hG)
        rw [ec, Option.bind_some, g_pow hG]
        by_cases hp : zck (S (2170 + i)) (S (2210 + i)) (plD S d i) ≤ S (2194 + i)
        · rw [if_neg (by omega), if_pos ⟨hu, hp⟩, zS (by omega) (by omega), Option.bind_some, h1, Option.bind_some, Option.bind_some, Option.bind_some]
          have elt : ((l.length : Nat) : Int).toNat = l.length := by omega
          have hc := clS_r hi (g := i) ⟨e2, by omega⟩
          have hF1 : Fk w J (jW J (pl + 1) l.length i) := fun b hb => jW_ne (by omega)
          have hV1 := hF1.vw hW.2.1 ag ao
          have eC : (jW J (pl + 1) l.length i) a 1 = clS S i := by rw [jW_ne (by omega)]; exact g_cell hG
          rw [elt, eC]
          obtain ⟨J2, f1, f2, f3⟩ := c_snk hi hV1.1 (c := clS S i) (d := plD S d i) 1 (w + 1 + 9) 0 (Or.inr ⟨rfl, rfl, rfl⟩) hpd hc
          have f1' : H_X4_sink (w + 32) (w + 1) (w + 1 + 9) (clS S i) (mnZ d (zsk (S (2170 + i)))) 0 (jW J (pl + 1) l.length i) = some J2 := f1
          have f2' : J2 (w + 32) 0 = plC S d i := f2.1
          have hF2 : Fk w J J2 := hF1.tt (fun b hb => f3 b (by omega))
          have hV2 := hF2.vw hW.2.1 ag ao
          have e3' : J2 pl 3 = (l.length : Int) := by rw [f3 pl (by omega), jW_ne (by omega)]; exact hW.1.1
          have ek2 : J2 a 0 = S (2170 + i) := by rw [hF2 a (by omega)]; exact g_kind hG
          rw [f1', Option.bind_some, Option.bind_some, c_reach hk ek2, Option.bind_some, e3', f2']
          obtain ⟨J3, g1, g2, g3⟩ := c_listEnds (k := l.length) (g := i) (d := d) (by omega) hV2.1 hi ⟨e2, by omega⟩ hd h1 (hW.2.2.1.o (by rw [f3 _ (by omega), jW_ne (by omega)])) (by omega)
          rw [g1, Option.bind_some]
          simp only [nv]
          have e33 : J3 pl 3 = (l.length : Int) := by rw [g3.1 pl (by omega)]; exact e3'
          rw [e33, wr_id (z := (l.length : Int) + 1) (by omega)]
          have eln : (l ++ [i]).length = l.length + 1 := by rw [List.length_append, List.length_singleton]
          have hF3 : Fk w J (jW J3 pl 3 ((l.length : Int) + 1)) := fun b hb => by rw [jW_ne (by omega), g3.1 b (by omega), hF2 b hb]
          have hW3 : Wk E (jW J3 pl 3 ((l.length : Int) + 1)) w pl S d (l ++ [i]) := by
            refine ⟨⟨by rw [jW_at, eln]; omega, fun k g hk => ?_⟩, hF3.vw hW.2.1 ag ao, g2.1.o (jW_ne (by omega)), by rw [jW_of (by omega), g3.1 pl (by omega), f3 pl (by omega), jW_ne (by omega)]; exact hW.2.2.2⟩
            rcases sg_sm hk with ⟨k1, k2⟩ | ⟨k1, k2⟩
            · obtain ⟨q1, q2⟩ := hW.1.2 k g k2
              have q3 : Lst J2 pl k (enS S d g) (dS S) (ddl (enS S d g) 81) := ⟨by rw [f3 _ (by omega), jW_ne (by omega)]; exact q2.1, fun i' y hy => by rw [f3 _ (by omega), jW_ne (by omega), f3 _ (by omega), jW_ne (by omega), f3 _ (by omega), jW_ne (by omega)]; exact q2.2 i' y hy⟩
              have q4 := q3.ae g3 k1 (ddl_l S d g)
              refine ⟨by rw [jW_ne (by omega), g3.1 _ (by omega), f3 _ (by omega), jW_of (by omega)]; exact q1, by rw [jW_ne (by omega)]; exact q4.1, fun i' y hy => by rw [jW_ne (by omega), jW_ne (by omega), jW_ne (by omega)]; exact q4.2 i' y hy⟩
            · subst k1 k2
              refine ⟨by rw [jW_ne (by omega), g3.1 _ (by omega), f3 _ (by omega), jW_at], by rw [jW_ne (by omega)]; exact g2.2.2.1, fun i' y hy => by rw [jW_ne (by omega), jW_ne (by omega), jW_ne (by omega)]; exact g2.2.2.2 i' y hy⟩
          obtain ⟨J4, m1, m2, m3, m4⟩ := ih fu (i + 1) (l ++ [i]) _ (by omega) (by omega) (by omega) hW3 (by omega) (fun q hq => by
            rcases List.mem_append.mp hq with hq | hq
            · exact hgs q hq
            · rw [List.mem_singleton.mp hq]; exact ⟨e2, by omega⟩)
          rw [eln, List.append_assoc, show 3 - (l.length + 1) = 3 - l.length - 1 by omega] at m1 m2 m3
          exact ⟨J4, m1, m2, m3, hF3.tt m4⟩
        · rw [if_pos (by omega), if_neg (fun q => hp q.2)]; exact no
      · rw [if_neg hu, if_neg (fun q => hu q.1)]; exact no
theorem RCw_bs (S : Int → Int) (d : Int) : (RCw S d (tmL S d (S 0).toNat 0 3) = (-4, []) ∧ bsR S d = (-1, [])) ∨ (RCw S d (tmL S d (S 0).toNat 0 3) = bsR S d ∧ 0 ≤ (bsR S d).1) := by
  have a : RCw S d (tmL S d (S 0).toNat 0 3) = RX (gnD (dS S)) (covD (dS S)) ((tmL S d (S 0).toNat 0 3).map (enS S d)) czero 0 [] [] (-4, []) := RC_RX (gn := gnD (dS S)) (cov := covD (dS S)) (g0 := g0S S) (fun C hC p => gnD_le (dS S) C hC p) (fun C hC p c => covD_0 (dS S) C hC p c) _ czero 0 [] [] (-4, []) (fun c => Int.le_refl _) (fun _ => by decide)
  unfold bsR
  rw [a]
  rcases RX_b (gn := gnD (dS S)) (cov := covD (dS S)) (fun C p => gnD_0 (dS S) C p) ((tmL S d (S 0).toNat 0 3).map (enS S d)) czero 0 [] [] (-4, []) (-1, []) (Int.le_refl _) (by decide) (by decide) with ⟨b, c⟩ | ⟨b, c⟩
  · exact Or.inl ⟨b, c⟩
  · rw [b] at c ⊢
    exact Or.inr ⟨rfl, c⟩
theorem c_work (hpl : pl = w + 33) (hi : Inv S) (hd : 0 ≤ d ∧ d ≤ 3) (hV : Vw E w J S) (h0 : E.2.1 pl 0 = some w) (h1 : E.2.1 pl 1 = some (w + 1)) (e7 : (E.1 (pl + 7)).2 = 80) (e9 : (E.1 (pl + 9)).2 = 3) (e10 : (E.1 (pl + 10)).2 = 3) (ag : ∀ j a, E.2.1 (w + 13) j = some a → a + 1 < w ∨ w + 43 < a) (ao : ∀ j q, E.2.1 (w + 15) j = some q → q + 8 < w ∨ w + 43 < q) : ∃ J2, H_X5_work E pl d J = some ((RCw S d (tmL S d (S 0).toNat 0 3)).1, J2) ∧ Bc J2 pl (RCw S d (tmL S d (S 0).toNat 0 3)) ∧ Cs J2 pl S d (tmL S d (S 0).toNat 0 3) ∧ Fk w J J2 := by
  have h8 := i_gli hi
  unfold H_X5_work
  simp only [nv]
  rw [fill_q e7 (by omega), Option.bind_some]
  have hF : Fk w J (jF (jW (jW J pl 3 0) pl 13 (-4)) (pl + 7) 0 80 0) := fun b hb => by rw [jF_ne (by omega), jW_ne (by omega), jW_ne (by omega)]
  obtain ⟨J2, a1, a2, a3, a4⟩ := c_wk21 hpl hi hd h0 h1 e9 e10 ag ao (S 0).toNat 1000000 0 [] (jF (jW (jW J pl 3 0) pl 13 (-4)) (pl + 7) 0 80 0) (by omega) (by omega) (by omega) ⟨⟨by rw [jF_ne (by omega), jW_of (by omega), jW_at]; rfl, fun k g hk => by rw [List.getElem?_nil] at hk; cases hk⟩, hF.vw hV ag ao, fun z z0 z1 => by rw [jF_at (by omega)]; rfl, by rw [jF_ne (by omega), jW_at]⟩ (by decide) (fun g hg => absurd hg List.not_mem_nil)
  exact ⟨J2, a1, a2, a3, hF.tt a4⟩
end WORK
