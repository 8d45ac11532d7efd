/-! THE START -/
section OPIN
variable {n x m o : Nat} {E : Em} {J : Jm} {M : Mm} {R : List (Nat × Nat × Nat)} {i k c : Nat}
theorem rfd_c (h : R.all (fun r => r.1 != i || Nat.blt r.2.1 c) = true) (hk : c ≤ k) : rfd R i k = none := by
  unfold rfd
  have e : R.find? (fun r => r.1 == i && r.2.1 == k) = none := by
    rw [List.find?_eq_none]
    intro r hr q
    have h1 := List.all_eq_true.mp h r hr
    simp only [Bool.and_eq_true, beq_iff_eq] at q
    simp only [Bool.or_eq_true, bne_iff_ne, ne_eq, Nat.blt_eq] at h1
    omega
  rw [e]; rfl
theorem w11_b (h1 : ∀ i k, LDw[i]? = some k → E.1 (n + i) = k) (h2 : ∀ i, i < LDw.length → ∀ k, E.2.1 (n + i) k = (rfd RDw i k).map (n + ·)) : W11 E n ∧ (∀ j, E.2.1 (n + 1 + 13) j = none) ∧ ∀ j, E.2.1 (n + 1 + 15) j = none := by
  have r13 : ∀ j, E.2.1 (n + 1 + 13) j = none := fun j => by
    have e := h2 14 (by decide) j
    rw [rfd_no (by decide)] at e
    exact e
  have r15 : ∀ j, E.2.1 (n + 1 + 15) j = none := fun j => by
    have e := h2 16 (by decide) j
    rw [rfd_no (by decide)] at e
    exact e
  have w10 : W10 E (n + 1) := ⟨h1 1 _ rfl, ⟨(h2 1 (by decide) 0).trans rfl, h1 2 _ rfl, ⟨(h2 2 (by decide) 0).trans rfl, h1 3 _ rfl⟩, ⟨(h2 2 (by decide) 1).trans rfl, h1 4 _ rfl⟩, ⟨(h2 2 (by decide) 2).trans rfl, h1 5 _ rfl⟩, ⟨(h2 2 (by decide) 3).trans rfl, h1 6 _ rfl⟩, ⟨(h2 2 (by decide) 4).trans rfl, h1 7 _ rfl⟩, ⟨(h2 2 (by decide) 5).trans rfl, h1 8 _ rfl, ⟨(h2 8 (by decide) 0).trans rfl, h1 9 _ rfl⟩, ⟨(h2 8 (by decide) 1).trans rfl, h1 10 _ rfl⟩⟩, ⟨(h2 2 (by decide) 6).trans rfl, h1 11 _ rfl, ⟨(h2 11 (by decide) 0).trans rfl, h1 12 _ rfl⟩, ⟨(h2 11 (by decide) 1).trans rfl, h1 13 _ rfl⟩⟩⟩, ⟨(h2 1 (by decide) 1).trans rfl, h1 14 _ rfl, fun j g hg => by rw [r13] at hg; cases hg⟩, ⟨(h2 1 (by decide) 5).trans rfl, h1 15 _ rfl⟩, ⟨(h2 1 (by decide) 6).trans rfl, h1 16 _ rfl, fun j g hg => by rw [r15] at hg; cases hg⟩, ⟨(h2 1 (by decide) 8).trans rfl, h1 17 _ rfl, ⟨(h2 17 (by decide) 1).trans rfl, h1 18 _ rfl⟩, ⟨(h2 17 (by decide) 2).trans rfl, h1 19 _ rfl⟩, ⟨(h2 17 (by decide) 3).trans rfl, h1 20 _ rfl⟩, ⟨(h2 17 (by decide) 4).trans rfl, h1 21 _ rfl⟩⟩, ⟨(h2 1 (by decide) 9).trans rfl, h1 22 _ rfl, ⟨(h2 22 (by decide) 1).trans rfl, h1 23 _ rfl⟩, ⟨(h2 22 (by decide) 2).trans rfl, h1 24 _ rfl⟩, ⟨(h2 22 (by decide) 3).trans rfl, h1 25 _ rfl⟩, ⟨(h2 22 (by decide) 4).trans rfl, h1 26 _ rfl⟩, ⟨(h2 22 (by decide) 5).trans rfl, h1 27 _ rfl⟩, ⟨(h2 22 (by decide) 6).trans rfl, h1 28 _ rfl⟩, ⟨(h2 22 (by decide) 8).trans rfl, h1 29 _ rfl⟩, ⟨(h2 22 (by decide) 9).trans rfl, h1 30 _ rfl⟩, ⟨(h2 22 (by decide) 10).trans rfl, h1 31 _ rfl⟩, ⟨(h2 22 (by decide) 11).trans rfl, h1 32 _ rfl⟩⟩, ⟨(h2 1 (by decide) 10).trans rfl, h1 33 _ rfl⟩⟩
  have w5 : W5 E (n + 34) := by
    refine ⟨h1 34 _ rfl, fun q hq => ?_, fun q hq => ?_, ⟨(h2 34 (by decide) 2).trans rfl, h1 35 _ rfl⟩, ⟨(h2 34 (by decide) 4).trans rfl, h1 36 _ rfl⟩, ⟨(h2 34 (by decide) 5).trans rfl, h1 37 _ rfl⟩, ⟨(h2 34 (by decide) 6).trans rfl, h1 38 _ rfl⟩, ⟨(h2 34 (by decide) 7).trans rfl, h1 39 _ rfl⟩, ⟨(h2 34 (by decide) 8).trans rfl, h1 40 _ rfl⟩, ⟨(h2 34 (by decide) 9).trans rfl, h1 41 _ rfl⟩, ⟨(h2 34 (by decide) 10).trans rfl, h1 42 _ rfl⟩, ⟨(h2 34 (by decide) 11).trans rfl, h1 43 _ rfl⟩, ⟨(h2 34 (by decide) 12).trans rfl, h1 44 _ rfl⟩⟩
    · have e : E.2.1 (n + 34) 0 = some (n + 1) := (h2 34 (by decide) 0).trans rfl
      rw [e] at hq
      cases hq
      exact w10
    · have e : E.2.1 (n + 34) 1 = some (n + 2) := (h2 34 (by decide) 1).trans rfl
      rw [e] at hq
      cases hq
      exact w10.2.1.2
  have w2 : W2 E (n + 46) := ⟨h1 46 _ rfl, ⟨(h2 46 (by decide) 2).trans rfl, h1 47 _ rfl⟩, ⟨(h2 46 (by decide) 3).trans rfl, h1 48 _ rfl⟩, ⟨(h2 46 (by decide) 4).trans rfl, h1 49 _ rfl⟩, ⟨(h2 46 (by decide) 5).trans rfl, h1 50 _ rfl⟩, ⟨(h2 46 (by decide) 6).trans rfl, h1 51 _ rfl⟩, ⟨(h2 46 (by decide) 7).trans rfl, h1 52 _ rfl⟩, ⟨(h2 46 (by decide) 8).trans rfl, h1 53 _ rfl⟩, ⟨(h2 46 (by decide) 9).trans rfl, h1 54 _ rfl⟩⟩
  have w3 : W3 E (n + 45) := by
    refine ⟨h1 45 _ rfl, fun q hq => ?_, fun q hq => ?_⟩
    · have e : E.2.1 (n + 45) 0 = some (n + 46) := (h2 45 (by decide) 0).trans rfl
      rw [e] at hq
      cases hq
      exact w2
    · have e : E.2.1 (n + 45) 1 = some (n + 55) := (h2 45 (by decide) 1).trans rfl
      rw [e] at hq
      cases hq
      have e2 : E.1 (n + 55) = (1, 0) := h1 55 _ rfl
      exact ⟨by rw [e2], by rw [e2]; decide⟩
  refine ⟨⟨h1 0 _ rfl, ⟨(h2 0 (by decide) 0).trans rfl, w10⟩, ⟨(h2 0 (by decide) 1).trans rfl, w5⟩, ⟨(h2 0 (by decide) 2).trans rfl, w3⟩, ⟨(h2 0 (by decide) 3).trans rfl, h1 56 _ rfl, fun j g hg => ?_⟩, fun q hq => ?_⟩, r13, r15⟩
  · by_cases hj : j < 8
    · have key : ∀ s : Nat, E.1 (n + s) = (15, 0) → E.2.1 (n + s) 3 = some (n + s + 1) → E.1 (n + s + 1) = (1, 80) → W8 E (n + s) := fun s a1 a2 a3 => ⟨a1, a2, a3⟩
      rcases (show j = 0 ∨ j = 1 ∨ j = 2 ∨ j = 3 ∨ j = 4 ∨ j = 5 ∨ j = 6 ∨ j = 7 by omega) with rfl | rfl | rfl | rfl | rfl | rfl | rfl | rfl
      · have e : E.2.1 (n + 56) 0 = some (n + 57) := (h2 56 (by decide) 0).trans rfl
        rw [e] at hg
        cases hg
        exact key 57 (h1 57 _ rfl) ((h2 57 (by decide) 3).trans rfl) (h1 58 _ rfl)
      · have e : E.2.1 (n + 56) 1 = some (n + 59) := (h2 56 (by decide) 1).trans rfl
        rw [e] at hg
        cases hg
        exact key 59 (h1 59 _ rfl) ((h2 59 (by decide) 3).trans rfl) (h1 60 _ rfl)
      · have e : E.2.1 (n + 56) 2 = some (n + 61) := (h2 56 (by decide) 2).trans rfl
        rw [e] at hg
        cases hg
        exact key 61 (h1 61 _ rfl) ((h2 61 (by decide) 3).trans rfl) (h1 62 _ rfl)
      · have e : E.2.1 (n + 56) 3 = some (n + 63) := (h2 56 (by decide) 3).trans rfl
        rw [e] at hg
        cases hg
        exact key 63 (h1 63 _ rfl) ((h2 63 (by decide) 3).trans rfl) (h1 64 _ rfl)
      · have e : E.2.1 (n + 56) 4 = some (n + 65) := (h2 56 (by decide) 4).trans rfl
        rw [e] at hg
        cases hg
        exact key 65 (h1 65 _ rfl) ((h2 65 (by decide) 3).trans rfl) (h1 66 _ rfl)
      · have e : E.2.1 (n + 56) 5 = some (n + 67) := (h2 56 (by decide) 5).trans rfl
        rw [e] at hg
        cases hg
        exact key 67 (h1 67 _ rfl) ((h2 67 (by decide) 3).trans rfl) (h1 68 _ rfl)
      · have e : E.2.1 (n + 56) 6 = some (n + 69) := (h2 56 (by decide) 6).trans rfl
        rw [e] at hg
        cases hg
        exact key 69 (h1 69 _ rfl) ((h2 69 (by decide) 3).trans rfl) (h1 70 _ rfl)
      · have e : E.2.1 (n + 56) 7 = some (n + 71) := (h2 56 (by decide) 7).trans rfl
        rw [e] at hg
        cases hg
        exact key 71 (h1 71 _ rfl) ((h2 71 (by decide) 3).trans rfl) (h1 72 _ rfl)
    · have e : E.2.1 (n + 56) j = none := by
        rw [h2 56 (by decide) j, rfd_c (c := 8) (by decide) (by omega)]; rfl
      rw [e] at hg
      cases hg
  · have e : E.2.1 n 4 = none := (h2 0 (by decide) 4).trans rfl
    rw [e] at hq
    cases hq
theorem w12_b (h1 : ∀ i k, LMod[i]? = some k → E.1 (n + i) = k) (h2 : ∀ i, i < LMod.length → ∀ k, E.2.1 (n + i) k = (rfd RMod i k).map (n + ·)) : W12 E n := ⟨h1 0 _ rfl, ⟨(h2 0 (by decide) 1).trans rfl, h1 1 _ rfl⟩, ⟨(h2 0 (by decide) 2).trans rfl, h1 2 _ rfl⟩, ⟨(h2 0 (by decide) 8).trans rfl, h1 3 _ rfl⟩, ⟨(h2 0 (by decide) 21).trans rfl, h1 4 _ rfl⟩, ⟨(h2 0 (by decide) 22).trans rfl, h1 5 _ rfl⟩, ⟨(h2 0 (by decide) 23).trans rfl, h1 6 _ rfl⟩, ⟨(h2 0 (by decide) 24).trans rfl, h1 7 _ rfl⟩, ⟨(h2 0 (by decide) 25).trans rfl, h1 8 _ rfl⟩, ⟨(h2 0 (by decide) 28).trans rfl, h1 9 _ rfl⟩, ⟨(h2 0 (by decide) 29).trans rfl, h1 10 _ rfl⟩, ⟨(h2 0 (by decide) 30).trans rfl, h1 11 _ rfl⟩, ⟨(h2 0 (by decide) 31).trans rfl, h1 12 _ rfl⟩, ⟨(h2 0 (by decide) 32).trans rfl, h1 13 _ rfl⟩, ⟨(h2 0 (by decide) 33).trans rfl, h1 14 _ rfl⟩, ⟨(h2 0 (by decide) 34).trans rfl, h1 15 _ rfl⟩, ⟨(h2 0 (by decide) 35).trans rfl, h1 16 _ rfl⟩, ⟨(h2 0 (by decide) 36).trans rfl, h1 17 _ rfl⟩⟩
/-- the first row -/
theorem s0_T : vT.all (fun r => decide (r = (2, 0, 80, 10)) || decide (r = (4, 0, 80, 170)) || (decide (r.1 ≤ 31) && decide (r.1 ≠ 2) && decide (r.1 ≠ 4) && (decide (r.2.2.2 + r.2.2.1 ≤ 10) || (decide (90 ≤ r.2.2.2) && decide (r.2.2.2 + r.2.2.1 ≤ 170)) || (decide (250 ≤ r.2.2.2) && decide (r.2.2.2 + r.2.2.1 ≤ 4351))))) = true := by decide +kernel
theorem s0_I : iT.all (fun r => decide (r = (10, 80, 0, 4)) || decide (r = (170, 80, 0, 99)) || ((decide (r.1 + r.2.1 ≤ 10) || (decide (90 ≤ r.1) && decide (r.1 + r.2.1 ≤ 170)) || (decide (250 ≤ r.1) && decide (r.1 + r.2.1 ≤ 4351)) || decide (7559 ≤ r.1)) && decide (r.2.2.1 ≤ 0) && decide (0 ≤ r.2.2.2))) = true := by decide +kernel
theorem g_0 {z : Int} (h : z < 10 ∨ (90 ≤ z ∧ z < 170) ∨ (250 ≤ z ∧ z < 4351) ∨ 7559 ≤ z) : g279 3208 z = 0 := by
  unfold g279 g243
  rw [if_neg (show ¬ (4351 ≤ z ∧ z < 4351 + 3208) by omega), if_neg (show ¬ (10 ≤ z ∧ z < 10 + 80) by omega), if_neg (show ¬ (170 ≤ z ∧ z < 170 + 80) by omega)]
theorem g_4 {z : Int} (h : 10 ≤ z ∧ z < 90) : g279 3208 z = 4 := by
  unfold g279 g243
  rw [if_neg (show ¬ (4351 ≤ z ∧ z < 4351 + 3208) by omega), if_pos (show 10 ≤ z ∧ z < 10 + 80 by omega)]
theorem g_50 {z : Int} (h : 170 ≤ z ∧ z < 250) : g279 3208 z = 50 := by
  unfold g279 g243
  rw [if_neg (show ¬ (4351 ≤ z ∧ z < 4351 + 3208) by omega), if_neg (show ¬ (10 ≤ z ∧ z < 10 + 80) by omega), if_pos (show 170 ≤ z ∧ z < 170 + 80 by omega)]
theorem g_1 {z : Int} (h : 4351 ≤ z ∧ z < 7559) : g279 3208 z = -1 := by
  unfold g279
  rw [if_pos (show 4351 ≤ z ∧ z < 4351 + 3208 by omega)]
theorem inv_0 : Inv (g279 3208) := by
  have z0 : g279 3208 0 = 0 := g_0 (by omega)
  have z2 : g279 3208 2 = 0 := g_0 (by omega)
  have z3 : g279 3208 3 = 0 := g_0 (by omega)
  have z5 : g279 3208 5 = 0 := g_0 (by omega)
  refine ⟨fun r hr z h0 h1 => ?_, fun g h0 h1 => ?_, fun g h0 h1 => ?_, fun g h0 h1 h2 => ?_, fun g h0 h1 => ?_, fun g h0 h1 => ?_, fun k h0 h1 => ?_, fun g h0 h1 => ?_, fun k h0 h1 => ?_, fun r h0 h1 => ?_⟩
  · have d := List.all_eq_true.mp s0_I r hr
    simp only [Bool.or_eq_true, Bool.and_eq_true, decide_eq_true_eq, or_assoc] at d
    rcases d with d | d | ⟨⟨d, d2⟩, d3⟩
    · subst d
      dsimp only at h1 ⊢
      rw [g_4 (by omega)]
      decide
    · subst d
      dsimp only at h1 ⊢
      rw [g_50 (by omega)]
      decide
    · rw [g_0 (by omega)]
      exact ⟨d2, d3⟩
  · rw [z0] at h1; omega
  · rw [g_0 (by omega), g_0 (by omega)]; decide
  · refine ⟨g_0 (by omega), g_0 (by omega), g_0 (by omega), g_0 (by omega), fun t t0 t1 => g_1 (by omega)⟩
  · rw [z0] at h1; omega
  · rw [z0] at h1; omega
  · rw [z3] at h1; omega
  · exact g_1 (by omega)
  · rw [z5] at h1; omega
  · rw [z2] at h1; omega
theorem o_dw (hM : Mre E M J) (k0 : K0 E) : ∃ M2, F_X11_init E.2.2.2 (nw M (11 + 7, 0)) = some M2 ∧ Bld E.2.2.2 LDw RDw DDw VDw E J M2 := by
  have key : Ok (nv (mN M) fun a => nv (nw M (11 + 7, 0)) fun M' => F_X11_init a M') (fun M' => Bld E.2.2.2 LDw RDw DDw VDw E J M') := ok_nw (i := 0) (bld0 hM k0) rfl rfl (fun M' h => b_dw h)
  obtain ⟨M2, e, h⟩ := key
  rw [nvp, nvp, hM.2.2.2.1] at e
  exact ⟨M2, e, h⟩
def BMod (n : Nat) (E : Em) (J : Jm) (M : Mm) : Prop := ∃ (E1 : Em) (J1 : Jm), Mre E1 M J1 ∧ K0 E1 ∧ E1.2.2.2 = n + 18 ∧ (∀ i k, LMod[i]? = some k → E1.1 (n + i) = k) ∧ (∀ i, i < LMod.length → ∀ k, E1.2.1 (n + i) k = (rfd RMod i k).map (n + ·)) ∧ (∀ i, i < 18 → i ≠ 1 → ∀ k, J1 (n + i) k = 0) ∧ (∀ j : Nat, J1 (n + 1) j = g279 3208 j) ∧ ∀ b, b < n → E1.1 b = E.1 b ∧ E1.2.1 b = E.2.1 b ∧ J1 b = J b
theorem o_mod (hM : Mre E M J) (k0 : K0 E) : ∃ M2, F_X12_init E.2.2.2 (nw M (12 + 7, 0)) = some M2 ∧ BMod E.2.2.2 E J M2 := by
  have key : Ok (nv (mN M) fun a => nv (nw M (12 + 7, 0)) fun M' => F_X12_init a M') (fun M' => BMod E.2.2.2 E J M') := by
    refine ok_nw (i := 0) (bld0 hM k0) rfl rfl (fun M' h => b_mod h (fun M2 hB => ?_))
    obtain ⟨E1, J1, hM1, k1, n1, h1, h2, h4, -, h6⟩ := hB
    have hm : E1.1 (E.2.2.2 + 0) = (12 + 7, 0) := h1 0 _ rfl
    have hr : E1.2.1 (E.2.2.2 + 0) 1 = some (E.2.2.2 + 0 + 1) := (h2 0 (by decide) 1).trans rfl
    have hk : E1.1 (E.2.2.2 + 0 + 1) = (1, 8369) := h1 1 _ rfl
    have hz : ∀ i, i < 18 → ∀ k, J1 (E.2.2.2 + i) k = 0 := fun i hi k => h4 i hi List.not_mem_nil k
    refine l_243 hm hr hk 80 1000000 0 0 J1 M2 rfl rfl (by decide) hM1 (fun j => ?_) (fun M3 J3 hM3 a1 a2 => ?_)
    · refine (hz 1 (by decide) j).trans ?_
      unfold g243
      rw [if_neg (by omega), if_neg (by omega)]
    · obtain ⟨M4, e4, J4, hM4, b1, b2⟩ := l_279 hm hr hk 3208 1000000 0 0 J3 M3 rfl rfl (by decide) hM3 (fun j => by
        refine (a1 j).trans ?_
        unfold g279
        rw [if_neg (by omega)])
      refine ⟨M4, e4, E1, J4, hM4, k1, n1, h1, h2, fun i hi hne k => ?_, b1, fun b hb => ⟨(h6 b hb).1, (h6 b hb).2.1, ?_⟩⟩
      · rw [b2 _ (by omega), a2 _ (by omega)]; exact hz i hi k
      · rw [b2 _ (by omega), a2 _ (by omega)]; exact (h6 b hb).2.2
  obtain ⟨M2, e, h⟩ := key
  rw [nvp, nvp, hM.2.2.2.1] at e
  exact ⟨M2, e, h⟩
theorem zz {a b hi : Int} (ha : a = 0) (hb : b = 0) (h : 0 ≤ hi) : a = b ∧ 0 ≤ b ∧ b ≤ hi := by omega
theorem rel_st (hx : m = x + 73) (c1 : ∀ i k, LDw[i]? = some k → E.1 (x + i) = k) (c2 : ∀ i, i < LDw.length → ∀ k, E.2.1 (x + i) k = (rfd RDw i k).map (x + ·)) (c4 : ∀ i, i < 73 → i ∉ DDw → ∀ k, J (x + i) k = 0) (c5 : ∀ k, k < 80 → J (x + 3) k = 4 ∧ J (x + 5) k = 50) (d3 : ∀ i, i < 18 → i ≠ 1 → ∀ k, J (m + i) k = 0) (d4 : ∀ j : Nat, J (m + 1) j = g279 3208 j) (r13 : ∀ j, E.2.1 (x + 1 + 13) j = none) (r15 : ∀ j, E.2.1 (x + 1 + 15) j = none) (k0 : K0 E) (ho : E.1 (m + 18) = (6, 1)) : RelI x m (m + 18) E J := by
  have nd : ∀ i, i ≠ 34 → i ≠ 5 → i ≠ 3 → i ∉ DDw := fun i q1 q2 q3 q => by
    unfold DDw at q
    simp only [List.mem_cons, List.not_mem_nil, or_false] at q
    omega
  refine ⟨k0, hx, rfl, by rw [ho]; decide, fun d hd => ?_, ⟨(c2 34 (by decide) 0).trans rfl, (c2 34 (by decide) 1).trans rfl⟩, ⟨x + 46, (c2 45 (by decide) 0).trans rfl, ⟨fun i j a h => ?_, fun j a h => ?_, fun j h => ?_⟩, ⟨g279 3208, ⟨fun r hr z h0 h1 => ?_, fun g h0 h1 => ?_, fun k h0 h1 => ?_⟩, fun z h0 h1 => ?_, inv_0⟩, Or.inl ⟨d3 0 (by decide) (by decide) 3, (c2 0 (by decide) 4).trans rfl⟩⟩, fun p _ => d3 8 (by decide) (by decide) p⟩
  · have q1 : ∀ k, J (x + 57 + 2 * d) k = 0 := fun k => by
      rw [show x + 57 + 2 * d = x + (57 + 2 * d) by omega]
      exact c4 _ (by omega) (nd _ (by omega) (by omega) (by omega)) k
    have q2 : ∀ k, J (x + 57 + 2 * d + 1) k = 0 := fun k => by
      rw [show x + 57 + 2 * d + 1 = x + (58 + 2 * d) by omega]
      exact c4 _ (by omega) (nd _ (by omega) (by omega) (by omega)) k
    have rf : E.2.1 (x + 56) d = some (x + 57 + 2 * d) := by
      rcases (show d = 0 ∨ d = 1 ∨ d = 2 ∨ d = 3 ∨ d = 4 ∨ d = 5 ∨ d = 6 ∨ d = 7 by omega) with rfl | rfl | rfl | rfl | rfl | rfl | rfl | rfl
      · exact (c2 56 (by decide) 0).trans rfl
      · exact (c2 56 (by decide) 1).trans rfl
      · exact (c2 56 (by decide) 2).trans rfl
      · exact (c2 56 (by decide) 3).trans rfl
      · exact (c2 56 (by decide) 4).trans rfl
      · exact (c2 56 (by decide) 5).trans rfl
      · exact (c2 56 (by decide) 6).trans rfl
      · exact (c2 56 (by decide) 7).trans rfl
    exact ⟨rf, zz (q1 0) (d3 9 (by decide) (by decide) d) (by decide), zz (q1 1) (d3 14 (by decide) (by decide) d) (by decide), zz (q1 2) (d3 15 (by decide) (by decide) d) (by decide), zz (q1 4) (d3 10 (by decide) (by decide) d) (by decide), zz (q1 5) (d3 11 (by decide) (by decide) d) (by decide), zz (q1 6) (d3 12 (by decide) (by decide) d) (by decide), zz (q1 7) (d3 13 (by decide) (by decide) d) (by decide), fun k _ => (q2 k).trans (d3 16 (by decide) (by decide) _).symm⟩
  · rw [r13] at h; cases h
  · rw [r13] at h; cases h
  · rw [r15] at h; cases h
  · have q := List.all_eq_true.mp s0_T r hr
    simp only [Bool.or_eq_true, Bool.and_eq_true, decide_eq_true_eq, or_assoc] at q
    rcases q with q | q | ⟨⟨⟨q1, q2⟩, q3⟩, q⟩
    · subst q
      dsimp only at h1 ⊢
      rw [g_4 (by omega)]
      exact (c5 (z.toNat + 0) (by omega)).1
    · subst q
      dsimp only at h1 ⊢
      rw [g_50 (by omega)]
      exact (c5 (z.toNat + 0) (by omega)).2
    · rw [show x + 1 + r.1 = x + (r.1 + 1) by omega, c4 _ (by omega) (nd _ (by omega) (by omega) (by omega)), g_0 (by omega)]
  · rw [g_0 (by omega)] at h1; omega
  · rw [g_0 (by omega)] at h1; omega
  · rw [d4, Int.toNat_of_nonneg h0]
theorem op_init : OpInit (RI RelI) := by
  intro N
  have hM0 : Mre (fun _ => (0, 0), fun _ _ => none, fun _ _ => 0, N) (M0 N) (fun _ _ => 0) := ⟨rfl, rfl, rfl, rfl, fun _ _ => rfl⟩
  obtain ⟨M2, e2, E1, J1, hM1, k1, n1, a1, a2, a4, a5, a6⟩ := o_dw hM0 (fun a h => absurd rfl h)
  obtain ⟨M5, e5, E2, J2, hM2, k2, n2, b1, b2, b3, b4, b6⟩ := o_mod hM1 k1
  have n1 : E1.2.2.2 = N + 73 := n1
  have m1 : mN M2 = E1.2.2.2 := hM1.2.2.2.1
  have m2 : mN M5 = E1.2.2.2 + 18 := hM2.2.2.2.1.trans n2
  refine ⟨M2, M5, e2, by rw [m1]; exact e5, ?_⟩
  rw [m1, m2]
  have ll : LDw.length = 73 := rfl
  have lm : LMod.length = 18 := rfl
  have c1 : ∀ i k, LDw[i]? = some k → (eN E2 (6, 1)).1 (N + i) = k := fun i k h => by
    have := lt_at h
    rw [eN_k (by omega), (b6 _ (by omega)).1]
    exact a1 i k h
  have c2 : ∀ i, i < LDw.length → ∀ k, (eN E2 (6, 1)).2.1 (N + i) k = (rfd RDw i k).map (N + ·) := fun i hi k => by
    rw [eN_r (by omega), (b6 _ (by omega)).2.1]
    exact a2 i hi k
  have jj : ∀ i, i < 73 → jN E2 J2 (N + i) = J1 (N + i) := fun i hi => by rw [jN_n (by omega), (b6 _ (by omega)).2.2]
  have c4 : ∀ i, i < 73 → i ∉ DDw → ∀ k, jN E2 J2 (N + i) k = 0 := fun i hi hd k => by
    rw [jj i hi]
    exact a4 i hi hd k
  have c5 : ∀ k, k < 80 → jN E2 J2 (N + 3) k = 4 ∧ jN E2 J2 (N + 5) k = 50 := fun k hk => by
    rw [jj 3 (by decide), jj 5 (by decide)]
    exact ⟨(a5 3 80 4 (by decide)).2 k hk, (a5 5 80 50 (by decide)).2 k hk⟩
  have d1 : ∀ i k, LMod[i]? = some k → (eN E2 (6, 1)).1 (E1.2.2.2 + i) = k := fun i k h => by
    have := lt_at h
    rw [eN_k (by omega)]
    exact b1 i k h
  have d2 : ∀ i, i < LMod.length → ∀ k, (eN E2 (6, 1)).2.1 (E1.2.2.2 + i) k = (rfd RMod i k).map (E1.2.2.2 + ·) := fun i hi k => by
    rw [eN_r (by omega)]
    exact b2 i hi k
  have d3 : ∀ i, i < 18 → i ≠ 1 → ∀ k, jN E2 J2 (E1.2.2.2 + i) k = 0 := fun i hi hne k => by
    rw [jN_n (by omega)]
    exact b3 i hi hne k
  have d4 : ∀ j : Nat, jN E2 J2 (E1.2.2.2 + 1) j = g279 3208 j := fun j => by
    rw [jN_n (by omega)]
    exact b4 j
  have ho : (eN E2 (6, 1)).1 (E1.2.2.2 + 18) = (6, 1) := by
    rw [← n2]; exact eN_k2
  obtain ⟨w11, r13, r15⟩ := w11_b c1 c2
  exact ⟨eN E2 (6, 1), jN E2 J2, mre_nw hM2, w11, w12_b d1 d2, ho, rel_st n1 c1 c2 c4 c5 d3 d4 r13 r15 (k0_N k2) ho⟩
end OPIN
