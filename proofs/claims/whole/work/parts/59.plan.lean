/-! plan AND planned -/
theorem RX_hr {gn : Cv → Int → Int} {cov : Cv → Int → Cv} : ∀ (es : List (Int → Int)) (C : Cv) (G : Int) (us pre : List Int) (b : Bs), (∀ y ∈ pre, 0 ≤ y ∧ y < 81) → (∀ y ∈ b.2, 0 ≤ y ∧ y < 81) → ∀ y ∈ (RX gn cov es C G us pre b).2, 0 ≤ y ∧ y < 81
  | [], C, G, us, pre, b, hp, hb => by
    unfold RX
    split
    · exact hp
    · exact hb
  | e :: es, C, G, us, pre, b, hp, hb => by
    unfold RX
    refine fold_in _ (fun c => ∀ y ∈ c.2, 0 ≤ y ∧ y < 81) _ b hb (fun c i hi hc => ?_)
    have hi' := List.mem_range.mp hi
    split
    · exact RX_hr es _ _ _ _ c (fun y hy => by
        rcases List.mem_append.mp hy with hy | hy
        · exact hp y hy
        · rw [List.mem_singleton.mp hy]; omega) hc
    · exact hc
def Kp (m : Nat) (zy20 : Int) (J21 : Jm) : Option (Int × Jm) :=
  (jL J21 (m + 7) 3 zy20).bind fun zv23 =>
  (jD zv23 9).bind fun zv25 =>
  (jL J21 (m + 7) 3 zy20).bind fun zv27 =>
  (jM zv27 9).bind fun zv29 =>
  some ((wr ((wr ((wr (20 * (wr (zv25 + 6)))) + zv29)) + 6)), J21)
section PLN
variable {E : Em} {x w m pl : Nat} {J Jr J1 J2 : Jm} {S : Int → Int} {d g p h v : Int} {b : Bs} {gs : List Int}
theorem both_hd (hn : gs.length ≤ 3) (hC : Cs J1 pl S d gs) (hB : Bc J1 pl b) (hE : RefE J2 m S d gs) (hT : Bst J2 m b) (hb : 0 ≤ b.1) (hl : b.2.length = gs.length) (hr : ∀ y ∈ b.2, 0 ≤ y ∧ y < 81) : ∀ (suf pr : List Int) (fu fv : Nat), pr ++ suf = gs → suf.length < fu → suf.length < fv → ∃ r, H_X5_headingOf_L2 pl g J1 fu (pr.length : Int) = some r ∧ H_X12_planned_L33 (Kp m) m g fv (pr.length : Int) J2 = some (r, J2)
  | [], pr, fu, fv, e, h2, h3 => by
    obtain ⟨fu, rfl⟩ : ∃ f, fu = f + 1 := ⟨fu - 1, by omega⟩
    obtain ⟨fv, rfl⟩ : ∃ f, fv = f + 1 := ⟨fv - 1, by omega⟩
    rw [List.append_nil] at e
    rw [H_X5_headingOf_L2, H_X12_planned_L33, hC.1, hE.1, e, if_pos (Int.le_refl _), if_pos (Int.le_refl _)]
    exact ⟨_, rfl, rfl⟩
  | q :: suf, pr, fu, fv, e, h2, h3 => by
    rw [List.length_cons] at h2 h3
    obtain ⟨fu, rfl⟩ : ∃ f, fu = f + 1 := ⟨fu - 1, by omega⟩
    obtain ⟨fv, rfl⟩ : ∃ f, fv = f + 1 := ⟨fv - 1, by omega⟩
    have hlen : pr.length + (suf.length + 1) = gs.length := by rw [← e, List.length_append, List.length_cons]
    have hq : gs[pr.length]? = some q := by rw [← e, List.getElem?_append_right (Nat.le_refl _), Nat.sub_self]; rfl
    obtain ⟨c1, c2⟩ := hC.2 pr.length q hq
    obtain ⟨r1, r2⟩ := hE.2 pr.length q hq
    obtain ⟨r, i1, i2⟩ := both_hd hn hC hB hE hT hb hl hr suf (pr ++ [q]) fu fv (by rw [List.append_assoc]; exact e) (by omega) (by omega)
    have el : ((pr ++ [q]).length : Int) = (pr.length : Int) + 1 := by rw [List.length_append, List.length_singleton]; omega
    rw [el] at i1 i2
    have L1 : jL J1 (pl + 1) 3 (pr.length : Int) = some q := by rw [q_jL (by omega), c1]
    have L2 : jL J2 (m + 4) 3 (pr.length : Int) = some q := by rw [q_jL (by omega), r1]
    rw [H_X5_headingOf_L2, H_X12_planned_L33, hC.1, hE.1, if_neg (show ¬ (gs.length : Int) ≤ (pr.length : Int) by omega), hB.1, if_neg (show ¬ b.1 = -4 by omega), if_neg (show ¬ (gs.length : Int) ≤ (pr.length : Int) by omega), L1, L2, Option.bind_some, Option.bind_some, wr_id (z := (pr.length : Int) + 1) (by omega)]
    by_cases hz : q = g
    · rw [if_pos hz, if_pos hz]
      have hy : b.2[pr.length]? = some b.2[pr.length] := List.getElem?_eq_getElem (by omega)
      have hyr := hr b.2[pr.length] (List.getElem_mem (by omega))
      obtain ⟨z, z1, z2, z3⟩ := hB.2 pr.length _ hy
      have ht := hT.2 pr.length _ hy
      generalize b.2[pr.length] = y at *
      unfold Kp
      rw [q_jL (by omega), Option.bind_some, z2, q_jL (by omega), Option.bind_some, z3, q_jL (by omega), Option.bind_some, ht, zD (by omega) (by omega) (by decide), Option.bind_some, Option.bind_some, zM (by omega) (by decide), Option.bind_some, wr_id (z := y / 9 + 6) (by omega), wr_id (z := 20 * (y / 9 + 6)) (by omega), wr_id (z := 20 * (y / 9 + 6) + y % 9) (by omega), wr_id (z := 20 * (y / 9 + 6) + y % 9 + 6) (by omega)]
      exact ⟨_, rfl, by rw [show 20 * (y / 9 + 6) + y % 9 + 6 = 20 * (y / 9 + 6) + (y % 9 + 6) by omega]⟩
    · rw [if_neg hz, if_neg hz]
      exact ⟨r, i1, i2⟩
theorem Fk.frc (h : Fk w J J2) : FrC E w J J2 := fun b hb _ => h b (by omega)
theorem Ff.frm (h : Ff m J J2) (hC : Cm J2 (m + 8) czero) : FrM m J J2 := ⟨fun b hb => h.1 b (by omega) (by omega) (by omega) (by omega) (by omega) (by omega), h.2 3 (by omega), fun _ p hp => by
  have a := hC (p : Int) (by omega) (by omega)
  rw [show ((p : Nat) : Int).toNat = p by omega] at a
  exact a⟩
/-- both sides' search -/
theorem both_pl (wx : W11 E x) (h0 : E.2.1 (x + 34) 0 = some (x + 1)) (h1 : E.2.1 (x + 34) 1 = some (x + 1 + 1)) (ag : ∀ j a, E.2.1 (x + 1 + 13) j = some a → a + 1 < x + 1 ∨ x + 1 + 43 < a) (ao : ∀ j q, E.2.1 (x + 1 + 15) j = some q → q + 8 < x + 1 ∨ x + 1 + 43 < q) (hV : Vw E (x + 1) J S) (hi : Inv S) (hR : Rf m Jr S) (hz : ∀ p : Nat, p < 80 → Jr (m + 8) p = 0) (hd : 0 ≤ d ∧ d ≤ 3) : ∃ J1 J2, H_X5_work E (x + 34) d J = some ((RCw S d (tmL S d (S 0).toNat 0 3)).1, J1) ∧ Bc J1 (x + 34) (RCw S d (tmL S d (S 0).toNat 0 3)) ∧ Cs J1 (x + 34) S d (tmL S d (S 0).toNat 0 3) ∧ Vw E (x + 1) J1 S ∧ FrC E (x + 1) J J1 ∧ H_X12_findPlan m d Jr = some (if (bsR S d).1 < 0 then 0 else 1, J2) ∧ RefE J2 m S d (tmL S d (S 0).toNat 0 3) ∧ Bst J2 m (bsR S d) ∧ Rf m J2 S ∧ FrM m Jr J2 := by
  obtain ⟨-, -, -, -, -, -, -, -, -, ⟨-, e7⟩, -, ⟨-, e9⟩, ⟨-, e10⟩⟩ := wx.2.2.1.2
  obtain ⟨J1, a1, a2, a3, a4⟩ := c_work (E := E) (w := x + 1) (pl := x + 34) (J := J) (S := S) (d := d) (by omega) hi hd hV h0 h1 (by rw [e7]) (by rw [e9]) (by rw [e10]) ag ao
  obtain ⟨J2, b1, b2, b3⟩ := r_findPlan hi hR hd (fun z z0 z1 => hz z.toNat (by omega))
  exact ⟨J1, J2, a1, a2, a3, a4.vw hV ag ao, a4.frc, b1, b2.2.1, b2.2.2.2, b2.1, b3.frm b2.2.2.1⟩
theorem b20 (wx : W11 E x) (h0 : E.2.1 (x + 34) 0 = some (x + 1)) (h1 : E.2.1 (x + 34) 1 = some (x + 1 + 1)) (ag : ∀ j a, E.2.1 (x + 1 + 13) j = some a → a + 1 < x + 1 ∨ x + 1 + 43 < a) (ao : ∀ j q, E.2.1 (x + 1 + 15) j = some q → q + 8 < x + 1 ∨ x + 1 + 43 < q) (hV : Vw E (x + 1) J S) (hi : Inv S) (hR : Rf m Jr S) (hz : ∀ p : Nat, p < 80 → Jr (m + 8) p = 0) (z1 : Int) : Bi E (x + 1) m S J Jr (H_X11_plan E x z1 J) (H_X12_plan m z1 Jr) := by
  unfold H_X11_plan H_X12_plan
  rw [z_isLayer, isq, Option.bind_some, z01, Option.bind_some, z01]
  by_cases hd : 0 ≤ z1 ∧ z1 ≤ 3
  · rw [if_pos hd, if_pos hd]
    obtain ⟨J1, J2, a1, a2, a3, a4, a5, b1, b2, b3, b4, b5⟩ := both_pl wx h0 h1 ag ao hV hi hR hz hd
    rw [a1, b1, Option.bind_some, Option.bind_some]
    dsimp only
    rcases RCw_bs S z1 with ⟨c1, c2⟩ | ⟨c1, c2⟩
    · rw [c1, c2, if_pos (show ((-1 : Int), ([] : List Int)).1 < 0 by decide), if_pos (show (0 : Int) = 0 from rfl)]
      exact ⟨_, S, J1, J2, rfl, rfl, a4, b4, hi, a5, b5⟩
    · rw [c1, if_neg (show ¬ (bsR S z1).1 < 0 by omega), if_neg (show ¬ (1 : Int) = 0 by decide), b3.1]
      exact ⟨_, S, J1, J2, rfl, rfl, a4, b4, hi, a5, b5⟩
  · rw [if_neg hd, if_neg hd]; exact bi_no hV hi hR rfl rfl
theorem b21 (wx : W11 E x) (h0 : E.2.1 (x + 34) 0 = some (x + 1)) (h1 : E.2.1 (x + 34) 1 = some (x + 1 + 1)) (ag : ∀ j a, E.2.1 (x + 1 + 13) j = some a → a + 1 < x + 1 ∨ x + 1 + 43 < a) (ao : ∀ j q, E.2.1 (x + 1 + 15) j = some q → q + 8 < x + 1 ∨ x + 1 + 43 < q) (hV : Vw E (x + 1) J S) (hi : Inv S) (hR : Rf m Jr S) (hz : ∀ p : Nat, p < 80 → Jr (m + 8) p = 0) (z1 z2 : Int) : Bi E (x + 1) m S J Jr (H_X11_planned E x z1 z2 J) (H_X12_planned m z1 z2 Jr) := by
  unfold H_X11_planned H_X12_planned
  have h8 := i_gli hi
  rw [z_isLayer, isq, Option.bind_some, z01, Option.bind_some, z01]
  by_cases hd : 0 ≤ z1 ∧ z1 ≤ 3
  · rw [if_pos hd, if_pos hd, r_isG hR hi, Option.bind_some, z01]
    by_cases hg : 0 ≤ z2 ∧ z2 < S 0
    · obtain ⟨a, ea, ha, hG⟩ := gA_in hV hi hg
      obtain ⟨J1, J2, a1, a2, a3, a4, a5, b1, b2, b3, b4, b5⟩ := both_pl wx h0 h1 ag ao hV hi hR hz hd
      rw [ea, Option.bind_some, if_pos hg, b1, Option.bind_some]
      simp only [oe]
      rw [a1, Option.bind_some]
      dsimp only
      obtain ⟨hl, hlg⟩ := tmL_r S z1 (S 0).toNat 0 3
      unfold H_X5_headingOf
      rcases RCw_bs S z1 with ⟨c1, c2⟩ | ⟨c1, c2⟩
      · rw [c1] at a2
        have a13 : J1 (x + 34) 13 = -4 := a2.1
        rw [c2, if_pos (show ((-1 : Int), ([] : List Int)).1 < 0 by decide), if_pos (show (0 : Int) = 0 from rfl), H_X5_headingOf_L2, a13]
        refine ⟨-4, S, J1, J2, ?_, rfl, a4, b4, hi, a5, b5⟩
        split <;> rfl
      · rw [c1] at a2
        rw [if_neg (show ¬ (bsR S z1).1 < 0 by omega), if_neg (show ¬ (1 : Int) = 0 by decide)]
        have hbl : (bsR S z1).2.length = (tmL S z1 (S 0).toNat 0 3).length := by
          have e : bsR S z1 = RX (gnD (dS S)) (covD (dS S)) ((tmL S z1 (S 0).toNat 0 3).map (enS S z1)) czero 0 [] [] (-1, []) := rfl
          rcases RX_len (gn := gnD (dS S)) (cov := covD (dS S)) ((tmL S z1 (S 0).toNat 0 3).map (enS S z1)) czero 0 [] [] (-1, []) with h | h
          · rw [← e] at h
            rw [h] at c2
            exact absurd c2 (by decide)
          · rw [← e, List.length_map] at h
            rw [h, List.length_nil, Nat.zero_add]
        have hbr : ∀ y ∈ (bsR S z1).2, 0 ≤ y ∧ y < 81 := RX_hr _ _ _ _ _ _ (fun y hy => absurd hy List.not_mem_nil) (fun y hy => absurd hy List.not_mem_nil)
        obtain ⟨r, y1, y2⟩ := both_hd (g := z2) hl a3 a2 b2 b3 c2 hbl hbr (tmL S z1 (S 0).toNat 0 3) [] 1000000 1000000 rfl (by omega) (by omega)
        rw [show (([] : List Int).length : Int) = 0 from rfl] at y1 y2
        rw [y1, Option.bind_some]
        exact ⟨r, S, J1, J2, rfl, y2, a4, b4, hi, a5, b5⟩
    · rw [gA_no hV hg, if_neg hg]
      exact bi_no hV hi hR rfl rfl
  · rw [if_neg hd, if_neg hd]; exact bi_no hV hi hR rfl rfl
end PLN
