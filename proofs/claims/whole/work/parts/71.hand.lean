/-! order: THE NEW STATE -/
def tO (S : Int → Int) (k : Int) (T : Int → Int) (n : Int) : Int → Int := fun z => if 7559 + 80 * k ≤ z ∧ z < 7559 + 80 * k + n then T (z - (7559 + 80 * k)) else S z
def SO (S T : Int → Int) (n : Int) : Int → Int := zU (tO (zU S (8359 + S 4) n) (S 4) T n) 4 (S 4 + 1)
section ORDS
variable {S T : Int → Int} {n k z v : Int} {m w : Nat} {J J2 : Jm} {E : Em}
theorem so_lo (h4 : 0 ≤ S 4 ∧ S 4 < 10) (hz : z < 7559) (h : z ≠ 4) : SO S T n z = S z := by
  unfold SO tO
  rw [zU_ne h, if_neg (by omega), zU_ne (by omega)]
theorem so_4 : SO S T n 4 = S 4 + 1 := zU_at
theorem so_len (h4 : 0 ≤ S 4 ∧ S 4 < 10) (hn : 0 ≤ n ∧ n ≤ 80) : SO S T n (8359 + S 4) = n := by
  unfold SO tO
  rw [zU_ne (by omega), if_neg (by omega), zU_at]
theorem so_len2 (h4 : 0 ≤ S 4 ∧ S 4 < 10) (hn : 0 ≤ n ∧ n ≤ 80) (hk : 0 ≤ k ∧ k ≠ S 4) : SO S T n (8359 + k) = S (8359 + k) := by
  unfold SO tO
  rw [zU_ne (by omega), if_neg (by omega), zU_ne (by omega)]
theorem so_txt (h4 : 0 ≤ S 4 ∧ S 4 < 10) (hn : 0 ≤ n ∧ n ≤ 80) (hz : 0 ≤ z ∧ z < n) : SO S T n (7559 + (80 * S 4 + z)) = T z := by
  unfold SO tO
  rw [zU_ne (by omega), if_pos (by omega)]
  exact congrArg T (by omega)
theorem so_txt2 (h4 : 0 ≤ S 4 ∧ S 4 < 10) (hn : 0 ≤ n ∧ n ≤ 80) (hk : 0 ≤ k ∧ k < S 4) (hz : 0 ≤ z ∧ z < 80) : SO S T n (7559 + (80 * k + z)) = S (7559 + (80 * k + z)) := by
  unfold SO tO
  rw [zU_ne (by omega), if_neg (by omega), zU_ne (by omega)]
theorem inv_O (hi : Inv S) (h4 : S 4 < 10) (hn : 0 ≤ n ∧ n ≤ 80) : Inv (SO S T n) := by
  have hg := i_gli hi
  have hoc := i_orc hi
  have hlc := i_let hi
  have hrc := i_rea hi
  have hcc := i_cle hi
  have h4' : 0 ≤ S 4 ∧ S 4 < 10 := ⟨hoc.1, h4⟩
  have lo : ∀ z : Int, z < 7559 → z ≠ 4 → SO S T n z = S z := fun z hz h => so_lo h4' hz h
  refine ⟨?_, fun g' g0 g1 => ?_, fun g' g0 g1 => ?_, fun g' g0 g1 g2 => ?_, fun g' g0 g1 => ?_, fun g' g0 g1 => ?_, fun k k0 k1 => ?_, fun g' g0 g1 => ?_, ?_⟩
  · have a : IvR (zU S (8359 + S 4) n) := ir_at (r := (8359, 10, 0, 80)) hi.1 (by decide) hoc.1 h4 hn
    have b : IvR (tO (zU S (8359 + S 4) n) (S 4) T n) := fun q hq y y0 y1 => by
      have d := List.all_eq_true.mp (show iT.all (fun q => decide (8359 ≤ q.1) || decide (q.1 + q.2.1 ≤ 7559)) = true by decide) q hq
      simp only [Bool.or_eq_true, decide_eq_true_eq] at d
      unfold tO
      rw [if_neg (by omega)]
      exact a q hq y y0 y1
    exact ir_at (r := (4, 1, 0, 10)) (z := 0) b (by decide) (by decide) (by decide) (by dsimp only; omega)
  · rw [lo 0 (by omega) (by omega)] at g1
    have hx := i_x hi (z := g') g0 (by omega)
    have hy := i_y hi (z := g') g0 (by omega)
    rw [lo (2202 + g') (by omega) (by omega), lo (2178 + g') (by omega) (by omega), lo (2186 + g') (by omega) (by omega), lo _ (by omega) (by omega)]
    exact hi.2.1 g' g0 g1
  · rw [lo _ (by omega) (by omega), lo _ (by omega) (by omega)]
    exact hi.2.2.1 g' g0 g1
  · rw [lo 0 (by omega) (by omega)] at g0
    obtain ⟨b1, b2, b3, b4, b5⟩ := hi.2.2.2.1 g' g0 g1 g2
    rw [lo (2202 + g') (by omega) (by omega), lo (2210 + g') (by omega) (by omega), lo (2218 + g') (by omega) (by omega), lo (2242 + g') (by omega) (by omega)]
    exact ⟨b1, b2, b3, b4, fun t t0 t1 => by rw [lo _ (by omega) (by omega)]; exact b5 t t0 t1⟩
  · rw [lo 0 (by omega) (by omega)] at g1
    rw [lo (2226 + g') (by omega) (by omega), so_4]
    rcases hi.2.2.2.2.1 g' g0 g1 with h | h
    · exact Or.inl h
    · exact Or.inr ⟨h.1, by omega⟩
  · rw [lo 0 (by omega) (by omega)] at g1
    rw [lo (2234 + g') (by omega) (by omega), lo 1 (by omega) (by omega)]
    exact hi.2.2.2.2.2.1 g' g0 g1
  · rw [lo 3 (by omega) (by omega)] at k1
    rw [lo (3770 + k) (by omega) (by omega), so_4]
    have := hi.2.2.2.2.2.2.1 k k0 k1
    omega
  · rw [lo _ (by omega) (by omega)]
    exact hi.2.2.2.2.2.2.2.1 g' g0 g1
  · exact e8_E hi (fun y hy => lo y (by omega) (by omega))
/-- a text that is taken over, step by step -/
theorem tO_s (h : 0 ≤ n) : zU (tO S k T n) (7559 + 80 * k + n) (T n) = tO S k T (n + 1) := by
  funext z
  unfold zU tO
  by_cases e : z = 7559 + 80 * k + n
  · rw [if_pos e, if_pos (by omega)]
    exact congrArg T (by omega)
  · rw [if_neg e]
    by_cases e2 : 7559 + 80 * k ≤ z ∧ z < 7559 + 80 * k + n
    · rw [if_pos e2, if_pos (by omega)]
    · rw [if_neg e2, if_neg (by omega)]
theorem r_o81 (h4 : 0 ≤ S 4 ∧ S 4 < 10) {N : Nat} (hN : N ≤ 80) : ∀ (t fu i : Nat) (J : Jm), N = i + t → t < fu → J m 9 = (N : Int) → Rf m J (tO (zU S (8359 + S 4) (N : Int)) (S 4) T (i : Int)) → (∀ j : Nat, j < N → J (m + 3) j = T (j : Int)) → ∃ J2, H_X12_order_L81 m (S 4) fu (i : Int) J = some (S 4, J2) ∧ Rf m J2 (SO S T (N : Int)) ∧ ∀ b, b ≠ m + 1 → J2 b = J b
  | 0, fu, i, J, h1, h2, h3, h5, h6 => by
    obtain ⟨fu, rfl⟩ := nx h2
    have e : i = N := by omega
    subst e
    rw [H_X12_order_L81, h3, if_pos (Int.le_refl _), rL h5 (by omega) (by omega), Option.bind_some]
    have e4 : tO (zU S (8359 + S 4) (i : Int)) (S 4) T (i : Int) 4 = S 4 := by
      unfold tO
      rw [if_neg (by omega), zU_ne (by omega)]
    rw [e4, wr_id (by omega), zS (by omega) (by omega), Option.bind_some]
    exact ⟨_, rfl, rW h5 (by omega), fun b hb => jW_ne hb⟩
  | t + 1, fu, i, J, h1, h2, h3, h5, h6 => by
    obtain ⟨fu, rfl⟩ := nx h2
    rw [H_X12_order_L81, h3, if_neg (by omega), q_jL (by omega), Option.bind_some, h6 i (by omega), wr_id (z := 80 * S 4) (by omega), wr_id (z := 7559 + 80 * S 4) (by omega), wr_id (z := 7559 + 80 * S 4 + (i : Int)) (by omega), zS (by omega) (by omega), Option.bind_some, wr_id (z := (i : Int) + 1) (by omega), show (i : Int) + 1 = ((i + 1 : Nat) : Int) by omega]
    have hR := rW (v := T (i : Int)) h5 (z := 7559 + 80 * S 4 + (i : Int)) (by omega)
    rw [tO_s (by omega), show (i : Int) + 1 = ((i + 1 : Nat) : Int) by omega] at hR
    obtain ⟨J2, a1, a2, a3⟩ := r_o81 h4 hN t fu (i + 1) _ (by omega) (by omega) (by rw [jW_ne (by omega)]; exact h3) hR (fun j hj => by rw [jW_ne (by omega)]; exact h6 j hj)
    exact ⟨J2, a1, a2, fun b hb => by rw [a3 b hb, jW_ne hb]⟩
theorem vs_hi {S2 : Int → Int} (h : Vs w J S) (e : ∀ z : Int, z < 4351 → S2 z = S z) : Vs w J S2 := fun r hr y y0 y1 => by
  have := (vOff_at hr).2
  rw [e _ (by omega)]; exact h r hr y y0 y1
theorem oT_n (h4 : 0 ≤ S 4 ∧ S 4 < 10) (hn : 0 ≤ n ∧ n ≤ 80) : oT (SO S T n) (S 4) = cT T n := by
  funext p
  unfold oT cT
  rw [so_len h4 hn]
  by_cases hp : 0 ≤ p ∧ p < n
  · rw [if_pos hp, if_pos hp]; exact so_txt h4 hn hp
  · rw [if_neg hp, if_neg hp]
theorem oT_o (hi : Inv S) (h4 : 0 ≤ S 4 ∧ S 4 < 10) (hn : 0 ≤ n ∧ n ≤ 80) (hk : 0 ≤ k ∧ k < S 4) : oT (SO S T n) k = oT S k := by
  have hl := i_len hi (z := k) hk.1 (by omega)
  funext p
  unfold oT cT
  rw [so_len2 h4 hn ⟨hk.1, by omega⟩]
  by_cases hp : 0 ≤ p ∧ p < S (8359 + k)
  · rw [if_pos hp, if_pos hp]; exact so_txt2 h4 hn hk (z := p) (by omega)
  · rw [if_neg hp, if_neg hp]
end ORDS
/-! HANDING OVER -/
section HAND
variable {E : Em} {M : Mm} {J : Jm} {n rd q0 : Nat} {E0 : Em} {J0 : Jm}
theorem o_hand (hM : Mre E M J) (k0 : K0 E) (w3 : W3 E rd) (hq : E.2.1 rd 0 = some q0) : Ok (F_X3_handOver rd M) (fun q => q.1 = some q0 ∧ ∃ E' J', Mre E' q.2 J' ∧ Xk E E' ∧ W2 E' E.2.2.2 ∧ E'.2.1 rd 0 = some E.2.2.2 ∧ (∀ i, i ≠ 0 → E'.2.1 rd i = E.2.1 rd i) ∧ (∀ b, b < E.2.2.2 → b ≠ rd → E'.2.1 b = E.2.1 b) ∧ ∀ b, b < E.2.2.2 → J' b = J b) := by
  have hrd : rd < E.2.2.2 := k0 _ (by rw [w3.1]; decide)
  unfold F_X3_handOver
  refine ok_b (o_rdS hM w3.1 hq) ?_
  refine ok_nw (i := 0) (bld0 hM k0) rfl rfl (fun M3 h => ?_)
  refine ok_call (fun M' => Bld E.2.2.2 LOrd ROrd [] [] E J M') (b_ord h) (fun M4 h => ?_)
  obtain ⟨E1, J1, hM1, k1, h1, h2, h3, h4, h5, h6⟩ := h
  obtain ⟨M5, e5, hM5⟩ := o_wrR (k := 0) (v := some (E.2.2.2 + 0)) hM1 ((h6 rd hrd).1.trans w3.1)
  refine ok_b e5 ⟨_, rfl, rfl, _, J1, hM5, ⟨k0_R k1, by show E.2.2.2 ≤ E1.2.2.2; omega, fun b hb => (h6 b hb).1, fun b hb _ _ h10 _ => ?_⟩, ?_, eR_s, fun i hi => ?_, fun b hb hbr => ?_, fun b hb => (h6 b hb).2.2⟩
  · rw [eR_n (fun e => h10 (by rw [e, w3.1]))]; exact (h6 b hb).2.1
  · have hr : (eR E1 rd 0 (some (E.2.2.2 + 0))).2.1 E.2.2.2 = E1.2.1 (E.2.2.2 + 0) := eR_n (by omega)
    unfold W2
    rw [hr]
    refine ⟨h2 0 _ rfl, ⟨(h3 0 (by decide) 2).trans rfl, h2 1 _ rfl⟩, ⟨(h3 0 (by decide) 3).trans rfl, h2 2 _ rfl⟩, ⟨(h3 0 (by decide) 4).trans rfl, h2 3 _ rfl⟩, ⟨(h3 0 (by decide) 5).trans rfl, h2 4 _ rfl⟩, ⟨(h3 0 (by decide) 6).trans rfl, h2 5 _ rfl⟩, ⟨(h3 0 (by decide) 7).trans rfl, h2 6 _ rfl⟩, ⟨(h3 0 (by decide) 8).trans rfl, h2 7 _ rfl⟩, ⟨(h3 0 (by decide) 9).trans rfl, h2 8 _ rfl⟩⟩
  · rw [eR_o hi, (h6 rd hrd).2.1]
  · rw [eR_n hbr]; exact (h6 b hb).2.1
end HAND
