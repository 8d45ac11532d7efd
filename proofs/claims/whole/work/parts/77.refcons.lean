/-! THE REFERENCE'S CONSTRUCTOR -/
section CMOD
variable {n : Nat} {E0 E : Em} {J0 J : Jm} {M : Mm}
def LMod : List (Nat × Nat) := [(19, 0), (1, 8369), (1, 8369), (1, 80), (1, 3), (1, 243), (1, 3), (1, 3), (1, 80), (1, 8), (1, 8), (1, 8), (1, 8), (1, 8), (1, 8), (1, 8), (1, 640), (1, 80)]
def RMod : List (Nat × Nat × Nat) := [(0, 36, 17), (0, 35, 16), (0, 34, 15), (0, 33, 14), (0, 32, 13), (0, 31, 12), (0, 30, 11), (0, 29, 10), (0, 28, 9), (0, 25, 8), (0, 24, 7), (0, 23, 6), (0, 22, 5), (0, 21, 4), (0, 8, 3), (0, 2, 2), (0, 1, 1)]
theorem b_mod {Q : Mm → Prop} (h : Bld n [(19, 0)] [] [] [] E0 J0 M) (K : ∀ M', Bld n LMod RMod [] [] E0 J0 M' → Ok (F_X12_init_L243 (fun M80 => F_X12_init_L279 (n + 0) 1000000 0 M80) (n + 0) 1000000 0 M') Q) : Ok (F_X12_init (n + 0) M) Q := by
  unfold F_X12_init
  refine ok_wrI (i := 0) (v := 0) h rfl rfl (Or.inl rfl) rfl (fun M1 h => ?_)
  refine ok_nw (i := 1) h rfl rfl (fun M3 h => ?_)
  refine ok_wrR (i := 0) (j := 1) h rfl (fun M4 h => ?_)
  refine ok_nw (i := 2) h rfl rfl (fun M6 h => ?_)
  refine ok_wrR (i := 0) (j := 2) h rfl (fun M7 h => ?_)
  refine ok_wrZ (i := 0) h rfl rfl (fun M8 h => ?_)
  refine ok_wrI (i := 0) (v := 0) h rfl rfl (Or.inl rfl) rfl (fun M9 h => ?_)
  refine ok_wrI (i := 0) (v := 0) h rfl rfl (Or.inl rfl) rfl (fun M10 h => ?_)
  refine ok_wrI (i := 0) (v := 0) h rfl rfl (Or.inl rfl) rfl (fun M11 h => ?_)
  refine ok_wrZ (i := 0) h rfl rfl (fun M12 h => ?_)
  refine ok_nw (i := 3) h rfl rfl (fun M14 h => ?_)
  refine ok_wrR (i := 0) (j := 3) h rfl (fun M15 h => ?_)
  refine ok_wrI (i := 0) (v := 0) h rfl rfl (Or.inl rfl) rfl (fun M16 h => ?_)
  refine ok_wrI (i := 0) (v := 0) h rfl rfl (Or.inl rfl) rfl (fun M17 h => ?_)
  refine ok_wrI (i := 0) (v := 0) h rfl rfl (Or.inl rfl) rfl (fun M18 h => ?_)
  refine ok_wrI (i := 0) (v := 0) h rfl rfl (Or.inl rfl) rfl (fun M19 h => ?_)
  refine ok_wrZ (i := 0) h rfl rfl (fun M20 h => ?_)
  refine ok_wrI (i := 0) (v := 0) h rfl rfl (Or.inl rfl) rfl (fun M21 h => ?_)
  refine ok_wrZ (i := 0) h rfl rfl (fun M22 h => ?_)
  refine ok_wrI (i := 0) (v := 0) h rfl rfl (Or.inl rfl) rfl (fun M23 h => ?_)
  refine ok_wrI (i := 0) (v := 0) h rfl rfl (Or.inl rfl) rfl (fun M24 h => ?_)
  refine ok_wrI (i := 0) (v := 0) h rfl rfl (Or.inl rfl) rfl (fun M25 h => ?_)
  refine ok_wrI (i := 0) (v := 0) h rfl rfl (Or.inl rfl) rfl (fun M26 h => ?_)
  refine ok_wrI (i := 0) (v := 0) h rfl rfl (Or.inl rfl) rfl (fun M27 h => ?_)
  refine ok_nw (i := 4) h rfl rfl (fun M29 h => ?_)
  refine ok_wrR (i := 0) (j := 4) h rfl (fun M30 h => ?_)
  refine ok_nw (i := 5) h rfl rfl (fun M32 h => ?_)
  refine ok_wrR (i := 0) (j := 5) h rfl (fun M33 h => ?_)
  refine ok_nw (i := 6) h rfl rfl (fun M35 h => ?_)
  refine ok_wrR (i := 0) (j := 6) h rfl (fun M36 h => ?_)
  refine ok_nw (i := 7) h rfl rfl (fun M38 h => ?_)
  refine ok_wrR (i := 0) (j := 7) h rfl (fun M39 h => ?_)
  refine ok_nw (i := 8) h rfl rfl (fun M41 h => ?_)
  refine ok_wrR (i := 0) (j := 8) h rfl (fun M42 h => ?_)
  refine ok_wrI (i := 0) (v := 0) h rfl rfl (Or.inl rfl) rfl (fun M43 h => ?_)
  refine ok_wrI (i := 0) (v := 0) h rfl rfl (Or.inl rfl) rfl (fun M44 h => ?_)
  refine ok_nw (i := 9) h rfl rfl (fun M46 h => ?_)
  refine ok_wrR (i := 0) (j := 9) h rfl (fun M47 h => ?_)
  refine ok_nw (i := 10) h rfl rfl (fun M49 h => ?_)
  refine ok_wrR (i := 0) (j := 10) h rfl (fun M50 h => ?_)
  refine ok_nw (i := 11) h rfl rfl (fun M52 h => ?_)
  refine ok_wrR (i := 0) (j := 11) h rfl (fun M53 h => ?_)
  refine ok_nw (i := 12) h rfl rfl (fun M55 h => ?_)
  refine ok_wrR (i := 0) (j := 12) h rfl (fun M56 h => ?_)
  refine ok_nw (i := 13) h rfl rfl (fun M58 h => ?_)
  refine ok_wrR (i := 0) (j := 13) h rfl (fun M59 h => ?_)
  refine ok_nw (i := 14) h rfl rfl (fun M61 h => ?_)
  refine ok_wrR (i := 0) (j := 14) h rfl (fun M62 h => ?_)
  refine ok_nw (i := 15) h rfl rfl (fun M64 h => ?_)
  refine ok_wrR (i := 0) (j := 15) h rfl (fun M65 h => ?_)
  refine ok_nw (i := 16) h rfl rfl (fun M67 h => ?_)
  refine ok_wrR (i := 0) (j := 16) h rfl (fun M68 h => ?_)
  refine ok_nw (i := 17) h rfl rfl (fun M70 h => ?_)
  refine ok_wrR (i := 0) (j := 17) h rfl (fun M71 h => ?_)
  exact K _ h
/-- the reference's two first rows -/
def g243 (i z : Int) : Int := if 10 ≤ z ∧ z < 10 + i then 4 else if 170 ≤ z ∧ z < 170 + i then 50 else 0
def g279 (i z : Int) : Int := if 4351 ≤ z ∧ z < 4351 + i then -1 else g243 80 z
theorem g243_s {i : Int} (h0 : 0 ≤ i) (h1 : i < 80) (z : Int) : g243 (i + 1) z = if z = 170 + i then 50 else if z = 10 + i then 4 else g243 i z := by
  unfold g243
  by_cases a1 : z = 170 + i
  · rw [if_pos a1, if_neg (show ¬ (10 ≤ z ∧ z < 10 + (i + 1)) by omega), if_pos (show 170 ≤ z ∧ z < 170 + (i + 1) by omega)]
  · rw [if_neg a1]
    by_cases a2 : z = 10 + i
    · rw [if_pos a2, if_pos (show 10 ≤ z ∧ z < 10 + (i + 1) by omega)]
    · rw [if_neg a2]
      by_cases a3 : 10 ≤ z ∧ z < 10 + i
      · rw [if_pos a3, if_pos (show 10 ≤ z ∧ z < 10 + (i + 1) by omega)]
      · rw [if_neg a3, if_neg (show ¬ (10 ≤ z ∧ z < 10 + (i + 1)) by omega)]
        by_cases a4 : 170 ≤ z ∧ z < 170 + i
        · rw [if_pos a4, if_pos (show 170 ≤ z ∧ z < 170 + (i + 1) by omega)]
        · rw [if_neg a4, if_neg (show ¬ (170 ≤ z ∧ z < 170 + (i + 1)) by omega)]
theorem g279_s {i : Int} (h0 : 0 ≤ i) (z : Int) : g279 (i + 1) z = if z = 4351 + i then -1 else g279 i z := by
  unfold g279
  by_cases a1 : z = 4351 + i
  · rw [if_pos a1, if_pos (show 4351 ≤ z ∧ z < 4351 + (i + 1) by omega)]
  · rw [if_neg a1]
    by_cases a2 : 4351 ≤ z ∧ z < 4351 + i
    · rw [if_pos a2, if_pos (show 4351 ≤ z ∧ z < 4351 + (i + 1) by omega)]
    · rw [if_neg a2, if_neg (show ¬ (4351 ≤ z ∧ z < 4351 + (i + 1)) by omega)]
theorem l_279 {m : Nat} (hm : E.1 m = (12 + 7, 0)) (hr : E.2.1 m 1 = some (m + 1)) (hk : E.1 (m + 1) = (1, 8369)) : ∀ (t fu i : Nat) (x1 : Int32) (J : Jm) (M : Mm), x1.toInt = (i : Int) → 3208 = i + t → t < fu → Mre E M J → (∀ j : Nat, J (m + 1) j = g279 i j) → Ok (F_X12_init_L279 m fu x1 M) (fun M' => ∃ J', Mre E M' J' ∧ (∀ j : Nat, J' (m + 1) j = g279 3208 j) ∧ ∀ b, b ≠ m + 1 → J' b = J b)
  | 0, fu, i, x1, J, M, hx, h1, h2, hM, hJ => by
    obtain ⟨fu, rfl⟩ := nx h2
    rw [F_X12_init_L279]
    refine ok_t ((c_le (a := 3208) (A := 3208) rfl hx).mpr (by omega)) ?_
    have e : i = 3208 := by omega
    subst e
    exact ⟨M, rfl, J, hM, hJ, fun _ _ => rfl⟩
  | t + 1, fu, i, x1, J, M, hx, h1, h2, hM, hJ => by
    obtain ⟨fu, rfl⟩ := nx h2
    rw [F_X12_init_L279]
    refine ok_f (fun q => ?_) ?_
    · have := (c_le (a := 3208) (A := 3208) rfl hx).mp q
      omega
    · refine ok_b (o_rdS hM hm hr) (ok_s ?_)
      have hi : (4351 + x1).toInt = 4351 + (i : Int) := (t_add (a := 4351) (A := 4351) rfl hx).trans (wr_id (by omega))
      obtain ⟨M2, e2, hM2⟩ := o_stI hM hk (n := 8369) rfl (i := 4351 + x1) hi (v := -1) (z := -1) rfl (zS (by omega) (by omega))
      refine ok_b e2 ?_
      have hx1 : (x1 + 1).toInt = ((i + 1 : Nat) : Int) := (t_add (b := 1) (B := 1) hx rfl).trans (wr_id (by omega))
      obtain ⟨M3, e3, J', a1, a2, a3⟩ := l_279 hm hr hk t fu (i + 1) (x1 + 1) _ M2 hx1 (by omega) (by omega) hM2 (fun j => by
        rw [show ((i + 1 : Nat) : Int) = (i : Int) + 1 from rfl, g279_s (by omega)]
        by_cases e : (j : Int) = 4351 + (i : Int)
        · rw [if_pos e, show j = (4351 + (i : Int)).toNat by omega, jW_at]
        · rw [if_neg e, jW_of (by omega)]; exact hJ j)
      exact ⟨M3, e3, J', a1, a2, fun b hb => by rw [a3 b hb, jW_ne hb]⟩
theorem l_243 {m : Nat} {Q : Mm → Prop} {K : Mm → Option Mm} (hm : E.1 m = (12 + 7, 0)) (hr : E.2.1 m 1 = some (m + 1)) (hk : E.1 (m + 1) = (1, 8369)) : ∀ (t fu i : Nat) (x1 : Int32) (J : Jm) (M : Mm), x1.toInt = (i : Int) → 80 = i + t → t < fu → Mre E M J → (∀ j : Nat, J (m + 1) j = g243 i j) → (∀ M' J', Mre E M' J' → (∀ j : Nat, J' (m + 1) j = g243 80 j) → (∀ b, b ≠ m + 1 → J' b = J b) → Ok (K M') Q) → Ok (F_X12_init_L243 K m fu x1 M) Q
  | 0, fu, i, x1, J, M, hx, h1, h2, hM, hJ, hK => by
    obtain ⟨fu, rfl⟩ := nx h2
    rw [F_X12_init_L243]
    refine ok_t ((c_le (a := 80) (A := 80) rfl hx).mpr (by omega)) ?_
    have e : i = 80 := by omega
    subst e
    exact hK M J hM hJ (fun _ _ => rfl)
  | t + 1, fu, i, x1, J, M, hx, h1, h2, hM, hJ, hK => by
    obtain ⟨fu, rfl⟩ := nx h2
    rw [F_X12_init_L243]
    refine ok_f (fun q => ?_) ?_
    · have := (c_le (a := 80) (A := 80) rfl hx).mp q
      omega
    · refine ok_b (o_rdS hM hm hr) (ok_s ?_)
      have hi : (10 + x1).toInt = 10 + (i : Int) := (t_add (a := 10) (A := 10) rfl hx).trans (wr_id (by omega))
      obtain ⟨M2, e2, hM2⟩ := o_stI hM hk (n := 8369) rfl (i := 10 + x1) hi (v := 4) (z := 4) rfl (zS (by omega) (by omega))
      refine ok_b e2 ?_
      refine ok_b (o_rdS hM2 hm hr) (ok_s ?_)
      have hi2 : (170 + x1).toInt = 170 + (i : Int) := (t_add (a := 170) (A := 170) rfl hx).trans (wr_id (by omega))
      obtain ⟨M3, e3, hM3⟩ := o_stI hM2 hk (n := 8369) rfl (i := 170 + x1) hi2 (v := 50) (z := 50) rfl (zS (by omega) (by omega))
      refine ok_b e3 ?_
      have hx1 : (x1 + 1).toInt = ((i + 1 : Nat) : Int) := (t_add (b := 1) (B := 1) hx rfl).trans (wr_id (by omega))
      refine l_243 hm hr hk t fu (i + 1) (x1 + 1) _ M3 hx1 (by omega) (by omega) hM3 (fun j => ?_) (fun M' J' b1 b2 b3 => hK M' J' b1 b2 (fun b hb => by rw [b3 b hb, jW_ne hb, jW_ne hb]))
      rw [show ((i + 1 : Nat) : Int) = (i : Int) + 1 from rfl, g243_s (by omega) (by omega)]
      by_cases e : (j : Int) = 170 + (i : Int)
      · rw [if_pos e, show j = (170 + (i : Int)).toNat by omega, jW_at]
      · rw [if_neg e, jW_of (by omega)]
        by_cases e5 : (j : Int) = 10 + (i : Int)
        · rw [if_pos e5, show j = (10 + (i : Int)).toNat by omega, jW_at]
        · rw [if_neg e5, jW_of (by omega)]; exact hJ j
end CMOD
