/-! GAINS AND COVERING IN THE CLASS'S PLANNER -/
section CGAIN
variable {E : Em} {x w m pl : Nat} {J Jr : Jm} {S : Int → Int} {c e n d l g p s v q f k side : Int} {C : Cv}
def wor (D : Int → Int) (q side : Int) : Int := if side = 0 then D q else hfD D q
theorem c_worth (hV : Vs w J S) (hi : Inv S) (h1 : E.2.1 pl 1 = some (w + 1)) (hq : 0 ≤ q ∧ q < 80) : H_X5_worth E pl q side J = some (wor (dS S) q side) := by
  have hd := i_dou hi (z := q) hq.1 hq.2
  unfold H_X5_worth wor
  by_cases h : side = 0
  · rw [if_pos h, if_pos h, h1, Option.bind_some, vL_dou hV hq.1 hq.2]; rfl
  · rw [if_neg h, if_neg h, h1, Option.bind_some, vL_dou hV hq.1 hq.2, Option.bind_some, wr_id (by omega), zD (by omega) (by omega) (by decide)]; rfl
theorem wor_b (hi : Inv S) (hq : 0 ≤ q ∧ q < 80) : 0 ≤ wor (dS S) q side ∧ wor (dS S) q side ≤ 99 := by
  obtain ⟨h1, h2⟩ := dS_b hi (q := q) (by omega) hq.1
  unfold wor
  split
  · exact h1
  · omega
theorem c_gain1 (hV : Vs w J S) (hi : Inv S) (h1 : E.2.1 pl 1 = some (w + 1)) (hC : Cm J (pl + 7) C) (hc : Cok C) (hs : 0 ≤ side ∧ side ≤ 4) (hb : H_X7_beside (w + 1) p side = some q) (hq : q = -1 ∨ 0 ≤ q ∧ q < 80) (hs2 : 0 ≤ s ∧ s ≤ 10000) (fu : Nat) : H_X5_gainBy_L4 E pl p J (fu + 1) s side = H_X5_gainBy_L4 E pl p J fu (s + gcl C q (wor (dS S) q side)) (side + 1) := by
  rw [H_X5_gainBy_L4, if_neg (by omega), h1, Option.bind_some, hb, Option.bind_some, wr_id (z := side + 1) (by omega)]
  unfold gcl
  by_cases h : q < 0
  · rw [if_pos h, if_neg (by omega), Int.add_zero]
  · have hw := wor_b hi (q := q) (side := side) (by omega)
    have hcq := hc q
    rw [if_neg h, if_pos (by omega), c_worth hV hi h1 (by omega), Option.bind_some, zL (by omega) (by omega), Option.bind_some, hC q (by omega) (by omega), wr_id (z := _ - _) (by omega)]
    generalize wor (dS S) q side = v at hw ⊢
    have em : mxZ 0 (v - C q) = if C q < v then v - C q else 0 := by unfold mxZ; split <;> split <;> omega
    rw [em, wr_id (by split <;> omega)]
theorem c_gainBy (hV : Vs w J S) (hi : Inv S) (h1 : E.2.1 pl 1 = some (w + 1)) (hC : Cm J (pl + 7) C) (hc : Cok C) (hp : 0 ≤ p ∧ p < 80) : H_X5_gainBy E pl p J = some (gnD (dS S) C p) := by
  have gb : ∀ (q side : Int), (q = -1 ∨ 0 ≤ q ∧ q < 80) → 0 ≤ gcl C q (wor (dS S) q side) ∧ gcl C q (wor (dS S) q side) ≤ 99 := by
    intro q side hq
    refine ⟨gcl_0 _ _ _, ?_⟩
    by_cases h : 0 ≤ q
    · exact gcl_b hc (wor_b hi (by omega)).2
    · unfold gcl; rw [if_neg h]; decide
  have b0 := gb p 0 (Or.inr hp)
  have b1 := gb (bsd p 1 0) 1 bsd_r
  have b2 := gb (bsd p (-1) 0) 2 bsd_r
  have b3 := gb (bsd p 0 1) 3 bsd_r
  have b4 := gb (bsd p 0 (-1)) 4 bsd_r
  unfold H_X5_gainBy
  rw [show (1000000 : Nat) = 999999 + 1 from rfl, c_gain1 hV hi h1 hC hc (by omega) (cb0 hp) (Or.inr hp) (by omega) 999999, show (999999 : Nat) = 999998 + 1 from rfl, show (0 : Int) + 1 = 1 from rfl, c_gain1 hV hi h1 hC hc (by omega) (cb1 hp) bsd_r (by omega) 999998, show (999998 : Nat) = 999997 + 1 from rfl, show (1 : Int) + 1 = 2 from rfl, c_gain1 hV hi h1 hC hc (by omega) (cb2 hp) bsd_r (by omega) 999997, show (999997 : Nat) = 999996 + 1 from rfl, show (2 : Int) + 1 = 3 from rfl, c_gain1 hV hi h1 hC hc (by omega) (cb3 hp) bsd_r (by omega) 999996, show (999996 : Nat) = 999995 + 1 from rfl, show (3 : Int) + 1 = 4 from rfl, c_gain1 hV hi h1 hC hc (by omega) (cb4 hp) bsd_r (by omega) 999995, show (999995 : Nat) = 999994 + 1 from rfl, show (4 : Int) + 1 = 5 from rfl, H_X5_gainBy_L4, if_pos (by decide)]
  have e0 : wor (dS S) p 0 = dS S p := rfl
  have e1 : wor (dS S) (bsd p 1 0) 1 = hfD (dS S) (bsd p 1 0) := rfl
  have e2 : wor (dS S) (bsd p (-1) 0) 2 = hfD (dS S) (bsd p (-1) 0) := rfl
  have e3 : wor (dS S) (bsd p 0 1) 3 = hfD (dS S) (bsd p 0 1) := rfl
  have e4 : wor (dS S) (bsd p 0 (-1)) 4 = hfD (dS S) (bsd p 0 (-1)) := rfl
  rw [e0, e1, e2, e3, e4]
  unfold gnD
  exact congrArg some (by omega)
/-- a row of 80 numbers and what was put aside -/
theorem c_cov1 (wp : pl ≠ w) (hpl : w + 32 < pl) (hV : Vs w J S) (hi : Inv S) (h1 : E.2.1 pl 1 = some (w + 1)) (hC : Cm J (pl + 7) C) (hk : 0 ≤ k ∧ k ≤ 2) (hs : 0 ≤ side ∧ side ≤ 4) (hb : H_X7_beside (w + 1) p side = some q) (hq : q = -1 ∨ 0 ≤ q ∧ q < 80) (fu : Nat) : ∃ J2, H_X5_cover_L2 E pl k p (fu + 1) side J = H_X5_cover_L2 E pl k p fu (side + 1) J2 ∧ Cm J2 (pl + 7) (rsC C q (wor (dS S) q side)) ∧ (0 ≤ q → J2 (pl + 8) (5 * k + side).toNat = C q) ∧ (∀ j : Nat, j ≠ (5 * k + side).toNat → J2 (pl + 8) j = J (pl + 8) j) ∧ Vs w J2 S ∧ ∀ b, b ≠ pl + 7 → b ≠ pl + 8 → J2 b = J b := by
  rw [H_X5_cover_L2, if_neg (by omega), h1, Option.bind_some, hb, Option.bind_some, wr_id (z := side + 1) (by omega)]
  by_cases h : q < 0
  · rw [if_pos h]
    exact ⟨J, rfl, by unfold rsC; rw [if_neg (by omega)]; exact hC, fun z => by omega, fun _ _ => rfl, hV, fun _ _ _ => rfl⟩
  · have e5 : wr (wr (k * 5) + side) = 5 * k + side := by rw [wr_id (z := k * 5) (by omega), wr_id (by omega)]; omega
    have hC2 : Cm (jW J (pl + 8) (5 * k + side).toNat (C q)) (pl + 7) C := hC.o (jW_ne (by omega))
    have hV2 : Vs w (jW J (pl + 8) (5 * k + side).toNat (C q)) S := vN hV (by omega)
    rw [if_neg h, e5, zL (by omega) (by omega), Option.bind_some, hC q (by omega) (by omega), zS (by omega) (by omega), Option.bind_some, zL (by omega) (by omega), Option.bind_some, hC2 q (by omega) (by omega), c_worth hV2 hi h1 (by omega), Option.bind_some, zS (by omega) (by omega), Option.bind_some]
    have er : rsC C q (wor (dS S) q side) = zU C q (mxZ (C q) (wor (dS S) q side)) := by unfold rsC; rw [if_pos (by omega)]
    rw [er]
    exact ⟨_, rfl, hC2.ww (by omega), fun _ => by rw [jW_ne (by omega), jW_at], fun j hj => by rw [jW_ne (by omega), jW_of hj], vN hV2 (by omega), fun b h1 h2 => by rw [jW_ne h1, jW_ne h2]⟩
/-- what is put aside at level k -/
def Una (J : Jm) (pl : Nat) (k p : Int) (C : Cv) : Prop := J (pl + 8) (5 * k + 0).toNat = C p ∧ (0 ≤ bsd p 1 0 → J (pl + 8) (5 * k + 1).toNat = C (bsd p 1 0)) ∧ (0 ≤ bsd p (-1) 0 → J (pl + 8) (5 * k + 2).toNat = C (bsd p (-1) 0)) ∧ (0 ≤ bsd p 0 1 → J (pl + 8) (5 * k + 3).toNat = C (bsd p 0 1)) ∧ (0 ≤ bsd p 0 (-1) → J (pl + 8) (5 * k + 4).toNat = C (bsd p 0 (-1)))
theorem c_cover (hpl : w + 32 < pl) (hV : Vs w J S) (hi : Inv S) (h1 : E.2.1 pl 1 = some (w + 1)) (hC : Cm J (pl + 7) C) (hk : 0 ≤ k ∧ k ≤ 2) (hp : 0 ≤ p ∧ p < 80) : ∃ J2, H_X5_cover E pl k p J = some J2 ∧ Cm J2 (pl + 7) (covD (dS S) C p) ∧ Una J2 pl k p C ∧ (∀ j : Nat, (j < (5 * k).toNat ∨ (5 * k + 5).toNat ≤ j) → J2 (pl + 8) j = J (pl + 8) j) ∧ Vs w J2 S ∧ ∀ b, b ≠ pl + 7 → b ≠ pl + 8 → J2 b = J b := by
  have bE := bsd_E p hp
  have bN := bsd_N p hp
  have bW := bsd_W p hp
  have bS := bsd_S p hp
  obtain ⟨J1, a1, a2, a3, a4, a5, a6⟩ := c_cov1 (k := k) (by omega) hpl hV hi h1 hC hk (by omega) (cb0 hp) (Or.inr hp) 999999
  obtain ⟨J2, b1, b2, b3, b4, b5, b6⟩ := c_cov1 (k := k) (by omega) hpl a5 hi h1 a2 hk (by omega) (cb1 hp) bsd_r 999998
  obtain ⟨J3, d1, d2, d3, d4, d5, d6⟩ := c_cov1 (k := k) (by omega) hpl b5 hi h1 b2 hk (by omega) (cb2 hp) bsd_r 999997
  obtain ⟨J4, k1, k2, k3, k4, k5, k6⟩ := c_cov1 (k := k) (by omega) hpl d5 hi h1 d2 hk (by omega) (cb3 hp) bsd_r 999996
  obtain ⟨J5, l1, l2, l3, l4, l5, l6⟩ := c_cov1 (k := k) (by omega) hpl k5 hi h1 k2 hk (by omega) (cb4 hp) bsd_r 999995
  refine ⟨J5, ?_, ?_, ⟨?_, ?_, ?_, ?_, ?_⟩, ?_, l5, fun b q1 q2 => by rw [l6 b q1 q2, k6 b q1 q2, d6 b q1 q2, b6 b q1 q2, a6 b q1 q2]⟩
  · unfold H_X5_cover
    rw [show (1000000 : Nat) = 999999 + 1 from rfl, a1, show (999999 : Nat) = 999998 + 1 from rfl, show (0 : Int) + 1 = 1 from rfl, b1, show (999998 : Nat) = 999997 + 1 from rfl, show (1 : Int) + 1 = 2 from rfl, d1, show (999997 : Nat) = 999996 + 1 from rfl, show (2 : Int) + 1 = 3 from rfl, k1, show (999996 : Nat) = 999995 + 1 from rfl, show (3 : Int) + 1 = 4 from rfl, l1, show (999995 : Nat) = 999994 + 1 from rfl, show (4 : Int) + 1 = 5 from rfl, H_X5_cover_L2, if_pos (by decide)]
  · refine l2.ee (fun c h0 h1 => ?_)
    exact cov_rs (dS S) hp.1 (q1 := bsd p 1 0) (q2 := bsd p (-1) 0) (q3 := bsd p 0 1) (q4 := bsd p 0 (-1)) (fun c => ⟨fun h => by rcases h with h | h | h | h; exact Or.inl h; exact Or.inr (Or.inr (Or.inl h)); exact Or.inr (Or.inl h); exact Or.inr (Or.inr (Or.inr h)), fun h => by rcases h with h | h | h | h; exact Or.inl h; exact Or.inr (Or.inr (Or.inl h)); exact Or.inr (Or.inl h); exact Or.inr (Or.inr (Or.inr h))⟩) (by omega) (by omega) (by omega) (by omega) (by omega) (by omega) (by omega) (by omega) (by omega) (by omega) c
  · rw [l4 _ (by omega), k4 _ (by omega), d4 _ (by omega), b4 _ (by omega)]; exact a3 hp.1
  · intro z
    rw [l4 _ (by omega), k4 _ (by omega), d4 _ (by omega), b3 z, rsC_ne (by omega)]
  · intro z
    rw [l4 _ (by omega), k4 _ (by omega), d3 z, rsC_ne (by omega), rsC_ne (by omega)]
  · intro z
    rw [l4 _ (by omega), k3 z, rsC_ne (by omega), rsC_ne (by omega), rsC_ne (by omega)]
  · intro z
    rw [l3 z, rsC_ne (by omega), rsC_ne (by omega), rsC_ne (by omega), rsC_ne (by omega)]
  · intro j hj
    rw [l4 _ (by omega), k4 _ (by omega), d4 _ (by omega), b4 _ (by omega), a4 _ (by omega)]
theorem c_unc1 (hpl : w + 32 < pl) (hV : Vs w J S) (h1 : E.2.1 pl 1 = some (w + 1)) {C1 : Cv} (hC : Cm J (pl + 7) C1) (hk : 0 ≤ k ∧ k ≤ 2) (hs : 0 ≤ side ∧ side ≤ 4) (hb : H_X7_beside (w + 1) p side = some q) (hq : q = -1 ∨ 0 ≤ q ∧ q < 80) (hu : 0 ≤ q → J (pl + 8) (5 * k + side).toNat = v) (fu : Nat) : ∃ J2, H_X5_uncover_L2 E pl k p (fu + 1) side J = H_X5_uncover_L2 E pl k p fu (side + 1) J2 ∧ Cm J2 (pl + 7) (if 0 ≤ q then zU C1 q v else C1) ∧ Vs w J2 S ∧ ∀ b, b ≠ pl + 7 → J2 b = J b := by
  rw [H_X5_uncover_L2, if_neg (by omega), h1, Option.bind_some, hb, Option.bind_some, wr_id (z := side + 1) (by omega)]
  by_cases h : q < 0
  · rw [if_pos h, if_neg (by omega)]
    exact ⟨J, rfl, hC, hV, fun _ _ => rfl⟩
  · have e5 : wr (wr (k * 5) + side) = 5 * k + side := by rw [wr_id (z := k * 5) (by omega), wr_id (by omega)]; omega
    rw [if_neg h, e5, zL (by omega) (by omega), Option.bind_some, hu (by omega), zS (by omega) (by omega), Option.bind_some, if_pos (by omega)]
    exact ⟨_, rfl, hC.ww (by omega), vN hV (by omega), fun b hb => jW_ne hb⟩
theorem c_uncover (hpl : w + 32 < pl) (hV : Vs w J S) (h1 : E.2.1 pl 1 = some (w + 1)) (hC : Cm J (pl + 7) (covD (dS S) C p)) (hk : 0 ≤ k ∧ k ≤ 2) (hp : 0 ≤ p ∧ p < 80) (hu : Una J pl k p C) : ∃ J2, H_X5_uncover E pl k p J = some J2 ∧ Cm J2 (pl + 7) C ∧ Vs w J2 S ∧ ∀ b, b ≠ pl + 7 → J2 b = J b := by
  obtain ⟨u0, u1, u2, u3, u4⟩ := hu
  obtain ⟨J1, a1, a2, a3, a4⟩ := c_unc1 (k := k) (v := C p) hpl hV h1 hC hk (by omega) (cb0 hp) (Or.inr hp) (fun _ => u0) 999999
  obtain ⟨J2, b1, b2, b3, b4⟩ := c_unc1 (k := k) (v := C (bsd p 1 0)) hpl a3 h1 a2 hk (by omega) (cb1 hp) bsd_r (fun z => by rw [a4 _ (by omega)]; exact u1 z) 999998
  obtain ⟨J3, d1, d2, d3, d4⟩ := c_unc1 (k := k) (v := C (bsd p (-1) 0)) hpl b3 h1 b2 hk (by omega) (cb2 hp) bsd_r (fun z => by rw [b4 _ (by omega), a4 _ (by omega)]; exact u2 z) 999997
  obtain ⟨J4, k1, k2, k3, k4⟩ := c_unc1 (k := k) (v := C (bsd p 0 1)) hpl d3 h1 d2 hk (by omega) (cb3 hp) bsd_r (fun z => by rw [d4 _ (by omega), b4 _ (by omega), a4 _ (by omega)]; exact u3 z) 999996
  obtain ⟨J5, l1, l2, l3, l4⟩ := c_unc1 (k := k) (v := C (bsd p 0 (-1))) hpl k3 h1 k2 hk (by omega) (cb4 hp) bsd_r (fun z => by rw [k4 _ (by omega), d4 _ (by omega), b4 _ (by omega), a4 _ (by omega)]; exact u4 z) 999995
  refine ⟨J5, ?_, ?_, l3, fun b q1 => by rw [l4 b q1, k4 b q1, d4 b q1, b4 b q1, a4 b q1]⟩
  · unfold H_X5_uncover
    rw [show (1000000 : Nat) = 999999 + 1 from rfl, a1, show (999999 : Nat) = 999998 + 1 from rfl, show (0 : Int) + 1 = 1 from rfl, b1, show (999998 : Nat) = 999997 + 1 from rfl, show (1 : Int) + 1 = 2 from rfl, d1, show (999997 : Nat) = 999996 + 1 from rfl, show (2 : Int) + 1 = 3 from rfl, k1, show (999996 : Nat) = 999995 + 1 from rfl, show (3 : Int) + 1 = 4 from rfl, l1, show (999995 : Nat) = 999994 + 1 from rfl, show (4 : Int) + 1 = 5 from rfl, H_X5_uncover_L2, if_pos (by decide)]
  · refine l2.ee (fun c h0 h1 => ?_)
    have ui : ∀ (C1 : Cv) (q v : Int), (if 0 ≤ q then zU C1 q v else C1) c = if c = q then v else C1 c := by
      intro C1 q v
      by_cases hq : 0 ≤ q
      · rw [if_pos hq]; rfl
      · rw [if_neg hq, if_neg (by omega)]
    rw [ui, ui, ui, ui, ui]
    unfold covD
    by_cases e4 : c = bsd p 0 (-1)
    · rw [if_pos e4, e4]
    · rw [if_neg e4]
      by_cases e3 : c = bsd p 0 1
      · rw [if_pos e3, e3]
      · rw [if_neg e3]
        by_cases e2 : c = bsd p (-1) 0
        · rw [if_pos e2, e2]
        · rw [if_neg e2]
          by_cases e1 : c = bsd p 1 0
          · rw [if_pos e1, e1]
          · rw [if_neg e1]
            by_cases e0 : c = p
            · rw [if_pos e0, e0]
            · rw [if_neg e0, if_neg e0, if_neg]
              rintro ⟨-, z | z | z | z⟩
              · exact e1 z
              · exact e3 z
              · exact e2 z
              · exact e4 z
end CGAIN
/-! CLEARING IN THE REFERENCE -/
section CLEAR
variable {m : Nat} {J Jr : Jm} {S : Int → Int} {p q v way : Int} {C : Cv}
def nearP (p c : Int) : Prop := c = p ∨ (0 ≤ c ∧ (c = bsd p 1 0 ∨ c = bsd p 0 1 ∨ c = bsd p (-1) 0 ∨ c = bsd p 0 (-1)))
theorem covD_ne {D : Int → Int} {c : Int} (h : ¬ nearP p c) : covD D C p c = C c := by
  unfold covD nearP at *
  rw [if_neg (fun e => h (Or.inl e)), if_neg (fun e => h (Or.inr e))]
theorem r_clear1 (hC : Cm J (m + 8) C) (hp : 0 ≤ p ∧ p < 80) (hs : 0 ≤ way ∧ way ≤ 3) (hb : H_X12_besideOf m p way = some q) (hq : q = -1 ∨ 0 ≤ q ∧ q < 80) (fu : Nat) : ∃ J2, H_X12_clearAt_L9 m p (fu + 1) way J = H_X12_clearAt_L9 m p fu (way + 1) J2 ∧ Cm J2 (m + 8) (if 0 ≤ q then zU C q 0 else C) ∧ ∀ b, b ≠ m + 8 → J2 b = J b := by
  rw [H_X12_clearAt_L9, if_neg (by omega), hb, Option.bind_some, wr_id (z := way + 1) (by omega)]
  by_cases h : q < 0
  · rw [if_pos h, if_neg (by omega)]
    exact ⟨J, rfl, hC, fun _ _ => rfl⟩
  · rw [if_neg h, Option.bind_some, zS (by omega) (by omega), Option.bind_some, if_pos (by omega)]
    exact ⟨_, rfl, hC.ww (by omega), fun b hb => jW_ne hb⟩
theorem r_clearAt (hC : Cm J (m + 8) C) (hp : 0 ≤ p ∧ p < 80) : ∃ (J2 : Jm) (C2 : Cv), H_X12_clearAt m p J = some J2 ∧ Cm J2 (m + 8) C2 ∧ (∀ c, 0 ≤ c → nearP p c → C2 c = 0) ∧ (∀ c, C2 c = C c ∨ C2 c = 0) ∧ ∀ b, b ≠ m + 8 → J2 b = J b := by
  unfold H_X12_clearAt
  rw [zS (by omega) (by omega), Option.bind_some]
  have h0 : Cm (jW J (m + 8) p.toNat 0) (m + 8) (zU C p 0) := hC.ww hp.1
  obtain ⟨J2, b1, b2, b3⟩ := r_clear1 h0 hp (by omega) (rb0 hp) bsd_r 999999
  obtain ⟨J3, d1, d2, d3⟩ := r_clear1 b2 hp (by omega) (rb1 hp) bsd_r 999998
  obtain ⟨J4, k1, k2, k3⟩ := r_clear1 d2 hp (by omega) (rb2 hp) bsd_r 999997
  obtain ⟨J5, l1, l2, l3⟩ := r_clear1 k2 hp (by omega) (rb3 hp) bsd_r 999996
  have ui : ∀ (C1 : Cv) (q c : Int), (if 0 ≤ q then zU C1 q 0 else C1) c = if c = q ∧ 0 ≤ q then 0 else C1 c := by
    intro C1 q c
    by_cases hq : 0 ≤ q
    · rw [if_pos hq]
      by_cases e : c = q
      · rw [if_pos ⟨e, hq⟩, zU_eq e]
      · rw [if_neg (fun z => e z.1), zU_ne e]
    · rw [if_neg hq, if_neg (fun z => hq z.2)]
  refine ⟨J5, _, ?_, l2, ?_, ?_, fun b hb => by rw [l3 b hb, k3 b hb, d3 b hb, b3 b hb, jW_ne hb]⟩
  · rw [show (1000000 : Nat) = 999999 + 1 from rfl, b1, show (999999 : Nat) = 999998 + 1 from rfl, show (0 : Int) + 1 = 1 from rfl, d1, show (999998 : Nat) = 999997 + 1 from rfl, show (1 : Int) + 1 = 2 from rfl, k1, show (999997 : Nat) = 999996 + 1 from rfl, show (2 : Int) + 1 = 3 from rfl, l1, show (999996 : Nat) = 999995 + 1 from rfl, show (3 : Int) + 1 = 4 from rfl, H_X12_clearAt_L9, if_pos (by decide)]
  · intro c c0 hc
    rw [ui, ui, ui, ui]
    split
    · rfl
    · rename_i n4
      split
      · rfl
      · rename_i n3
        split
        · rfl
        · rename_i n2
          split
          · rfl
          · rename_i n1
            rcases hc with e | ⟨-, e | e | e | e⟩
            · exact zU_eq e
            · exact absurd ⟨e, e ▸ c0⟩ n1
            · exact absurd ⟨e, e ▸ c0⟩ n2
            · exact absurd ⟨e, e ▸ c0⟩ n3
            · exact absurd ⟨e, e ▸ c0⟩ n4
  · intro c
    rw [ui, ui, ui, ui]
    split
    · exact Or.inr rfl
    · split
      · exact Or.inr rfl
      · split
        · exact Or.inr rfl
        · split
          · exact Or.inr rfl
          · by_cases e : c = p
            · exact Or.inr (zU_eq e)
            · exact Or.inl (zU_ne e)
end CLEAR
