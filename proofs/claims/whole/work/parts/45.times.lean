/-! TIMES GO BY -/
theorem zU_i {S : Int → Int} {z : Int} : zU S z (S z) = S := by
  funext i
  by_cases e : i = z
  · rw [zU_eq e, e]
  · rw [zU_ne e]
/-- LETTERS that GLIDER g hears at t, from the k-th on: the last ORDER, and what is written -/
def hrd (g t : Int) : Nat → Int → Int → (Int → Int) → Int × (Int → Int)
  | 0, _, la, S => (la, S)
  | n + 1, k, la, S => if S (3710 + k) = g ∧ S (3890 + k) = 0 ∧ S (3830 + k) < t then hrd g t n (k + 1) (S (3770 + k)) (zU S (3890 + k) 1) else hrd g t n (k + 1) la S
section TIM
variable {E : Em} {x w m a q : Nat} {J0 J Jr : Jm} {S : Int → Int} {n g p v t f k : Int}
theorem hrd_ne : ∀ (n : Nat) (k la : Int) (S : Int → Int) (i : Int), (i < 3890 + k ∨ 3890 + k + n ≤ i) → (hrd g t n k la S).2 i = S i
  | 0, _, _, _, _, _ => rfl
  | n + 1, k, la, S, i, h => by
    unfold hrd
    split
    · rw [hrd_ne n (k + 1) _ _ i (by omega), zU_ne (by omega)]
    · exact hrd_ne n (k + 1) _ _ i (by omega)
theorem hrd_la : ∀ (n : Nat) (k la : Int) (S : Int → Int), 0 ≤ k → k + n ≤ 60 → (la = -4 ∨ 0 ≤ la ∧ la < S 4) → (∀ j : Int, k ≤ j → j < k + n → 0 ≤ S (3770 + j) ∧ S (3770 + j) < S 4) → ((hrd g t n k la S).1 = -4 ∨ 0 ≤ (hrd g t n k la S).1 ∧ (hrd g t n k la S).1 < S 4)
  | 0, _, _, _, _, _, h, _ => h
  | n + 1, k, la, S, h0, h1, h, h2 => by
    unfold hrd
    split
    · have := hrd_la n (k + 1) (S (3770 + k)) (zU S (3890 + k) 1) (by omega) (by omega) (by rw [zU_ne (by omega)]; exact Or.inr (h2 k (by omega) (by omega))) (fun j j0 j1 => by rw [zU_ne (by omega), zU_ne (by omega)]; exact h2 j (by omega) (by omega))
      rw [zU_ne (by omega)] at this
      exact this
    · exact hrd_la n (k + 1) la S (by omega) (by omega) h (fun j j0 j1 => h2 j (by omega) (by omega))
theorem hrd_i : ∀ (n : Nat) (k la : Int) (S : Int → Int), Inv S → 0 ≤ k → k + n ≤ 60 → Inv (hrd g t n k la S).2
  | 0, _, _, _, h, _, _ => h
  | n + 1, k, la, S, h, h0, h1 => by
    unfold hrd
    split
    · exact hrd_i n (k + 1) _ _ (inv_free h (by unfold zFree; omega) (ir_at h.1 (r := (3890, 60, 0, 1)) (by decide) (by omega) (by dsimp only; omega) (by dsimp only; omega))) (by omega) (by omega)
    · exact hrd_i n (k + 1) _ _ h (by omega) (by omega)
theorem c_hrd (sp : Sp E w) : ∀ (n fu : Nat) (k la : Int) (J : Jm) (S : Int → Int), Vw E w J S → Inv S → S 3 = k + n → 0 ≤ k → n < fu → ∃ J2, H_X1_hearBy_L6 (w + 16) g t fu la k J = some ((hrd g t n k la S).1, J2) ∧ Vw E w J2 (hrd g t n k la S).2 ∧ ∀ b, b ≠ w + 16 + 4 → J2 b = J b := by
  intro n
  induction n with
  | zero =>
    intro fu k la J S hV hi h1 h2 h3
    obtain ⟨fu, rfl⟩ := nx h3
    rw [H_X1_hearBy_L6, v_let hV.1, if_pos (by omega)]
    exact ⟨J, rfl, hV, fun _ _ => rfl⟩
  | succ n ih =>
    intro fu k la J S hV hi h1 h2 h3
    obtain ⟨fu, rfl⟩ := nx h3
    have hl := i_let hi
    have h01 := i_lhe hi (z := k) (by omega) (by omega)
    rw [H_X1_hearBy_L6, v_let hV.1, if_neg (by omega), vL_lto hV.1 (by omega) (by omega), vL_lhe hV.1 (by omega) (by omega), vL_lse hV.1 (by omega) (by omega)]
    simp only [Option.bind_some]
    rw [wr_id (by omega)]
    unfold hrd
    have no := ih fu (k + 1) la J S hV hi (by omega) (by omega) (by omega)
    by_cases c1 : S (3710 + k) = g
    · rw [if_pos c1]
      by_cases c2 : S (3890 + k) = 0
      · rw [if_pos c2]
        by_cases c3 : t ≤ S (3830 + k)
        · rw [if_pos c3, if_neg (show ¬ (S (3710 + k) = g ∧ S (3890 + k) = 0 ∧ S (3830 + k) < t) by omega)]; exact no
        · have v1 := vwS hV sp hi.1 (by omega) (by omega) (vW_lhe (z := k) (v := 1) hV.1 (by omega) (by omega))
          have i1 : Inv (zU S (3890 + k) 1) := inv_free hi (by unfold zFree; omega) (ir_at hi.1 (r := (3890, 60, 0, 1)) (by decide) (by omega) (by dsimp only; omega) (by dsimp only; omega))
          rw [if_neg c3, if_pos (show S (3710 + k) = g ∧ S (3890 + k) = 0 ∧ S (3830 + k) < t by omega), zS (by omega) (by omega), Option.bind_some, vL_lor v1.1 (by omega) (by omega), Option.bind_some, zU_ne (by omega)]
          obtain ⟨J2, f1, f2, f3⟩ := ih fu (k + 1) (S (3770 + k)) _ _ v1 i1 (by rw [zU_ne (by omega)]; omega) (by omega) (by omega)
          exact ⟨J2, f1, f2, fun b hb => by rw [f3 b hb, jW_ne hb]⟩
      · rw [if_neg c2, if_neg (show ¬ (S (3710 + k) = g ∧ S (3890 + k) = 0 ∧ S (3830 + k) < t) by omega)]; exact no
    · rw [if_neg c1, if_neg (fun h => c1 h.1)]; exact no
/-- all that hearing writes -/
def hea3 (S : Int → Int) (g la t c : Int) : Int → Int := zU (zU (zU S (2226 + g) la) (2234 + g) t) (4351 + (401 * g + t)) c
theorem r_hrd {c : Int} (hg : 0 ≤ g ∧ g < 8) (ht : 0 ≤ t ∧ t < 400) : ∀ (n fu : Nat) (k la : Int) (J : Jm) (S : Int → Int), Rf m J (hea3 S g la t c) → S 3 = k + n → S 3 ≤ 60 → S 1 = t → 0 ≤ k → n < fu → (∀ j : Int, 0 ≤ j → j < 60 → 0 ≤ S (3890 + j) ∧ S (3890 + j) ≤ 1) → ∃ J2, H_X12_hears_L63 m g fu k J = some J2 ∧ Rf m J2 (hea3 (hrd g t n k la S).2 g (hrd g t n k la S).1 t c) ∧ ∀ b, b ≠ m + 1 → J2 b = J b := by
  intro n
  induction n with
  | zero =>
    intro fu k la J S hR h1 h60 hS1 h2 h3 hb
    obtain ⟨fu, rfl⟩ := nx h3
    rw [H_X12_hears_L63, rL hR (by omega) (by omega), Option.bind_some]
    unfold hea3 at hR ⊢
    rw [zU_ne (by omega), zU_ne (by omega), zU_ne (by omega), if_pos (by omega)]
    exact ⟨J, rfl, hR, fun _ _ => rfl⟩
  | succ n ih =>
    intro fu k la J S hR h1 h60 hS1 h2 h3 hb
    obtain ⟨fu, rfl⟩ := nx h3
    have h01 := hb k (by omega) (by omega)
    have ne : ∀ z : Int, (z < 2226 ∨ 2250 ≤ z ∧ z < 4351) → hea3 S g la t c z = S z := fun z hz => by
      unfold hea3
      rw [zU_ne (by omega), zU_ne (by omega), zU_ne (by omega)]
    rw [H_X12_hears_L63, rL hR (by omega) (by omega), Option.bind_some, ne 3 (by omega), if_neg (by omega), wr_id (z := 3710 + k) (by omega), wr_id (z := 3890 + k) (by omega), wr_id (z := 3830 + k) (by omega), wr_id (z := 3770 + k) (by omega), wr_id (z := 2226 + g) (by omega), rL hR (by omega) (by omega), rL hR (by omega) (by omega), rL hR (by omega) (by omega), rL hR (z := 1) (by omega) (by omega), ne (3710 + k) (by omega), ne (3890 + k) (by omega), ne (3830 + k) (by omega), ne 1 (by omega)]
    simp only [Option.bind_some]
    rw [wr_id (by omega), hS1]
    unfold hrd
    have no := ih fu (k + 1) la J S hR (by omega) h60 hS1 (by omega) (by omega) hb
    by_cases c1 : S (3710 + k) = g
    · rw [if_pos c1]
      by_cases c2 : S (3890 + k) = 1
      · rw [if_pos c2, if_neg (show ¬ (S (3710 + k) = g ∧ S (3890 + k) = 0 ∧ S (3830 + k) < t) by omega)]; exact no
      · rw [if_neg c2]
        by_cases c3 : S (3830 + k) < t
        · have r1 := rW (v := 1) hR (z := 3890 + k) (by omega)
          have r2 := rW (v := S (3770 + k)) r1 (z := 2226 + g) (by omega)
          rw [if_pos c3, if_pos (show S (3710 + k) = g ∧ S (3890 + k) = 0 ∧ S (3830 + k) < t by omega), zS (by omega) (by omega), Option.bind_some, rL r1 (by omega) (by omega), Option.bind_some, zU_ne (by omega), ne (3770 + k) (by omega), zS (by omega) (by omega), Option.bind_some]
          have es : zU (zU (hea3 S g la t c) (3890 + k) 1) (2226 + g) (S (3770 + k)) = hea3 (zU S (3890 + k) 1) g (S (3770 + k)) t c := by
            unfold hea3
            rw [zU_c (z := 4351 + (401 * g + t)) (y := 3890 + k) (by omega), zU_c (z := 2234 + g) (y := 3890 + k) (by omega), zU_c (z := 2226 + g) (y := 3890 + k) (by omega), zU_c (z := 4351 + (401 * g + t)) (y := 2226 + g) (by omega), zU_c (z := 2234 + g) (y := 2226 + g) (by omega), zU_s]
          rw [es] at r2
          obtain ⟨J2, f1, f2, f3⟩ := ih fu (k + 1) (S (3770 + k)) _ _ r2 (by rw [zU_ne (by omega)]; omega) (by rw [zU_ne (by omega)]; omega) (by rw [zU_ne (by omega)]; exact hS1) (by omega) (by omega) (fun j j0 j1 => by
            by_cases e : 3890 + j = 3890 + k
            · rw [zU_eq e]; omega
            · rw [zU_ne e]; exact hb j j0 j1)
          exact ⟨J2, f1, f2, fun b hb => by rw [f3 b hb, jW_ne hb, jW_ne hb]⟩
        · rw [if_neg c3, if_neg (show ¬ (S (3710 + k) = g ∧ S (3890 + k) = 0 ∧ S (3830 + k) < t) by omega)]; exact no
    · rw [if_neg c1, if_neg (fun h => c1 h.1)]; exact no
/-- one GLIDER hears, both sides -/
theorem b_hear (sp : Sp E w) (hV : Vw E w J S) (hi : Inv S) (hR : Rf m Jr S) (hg : 0 ≤ g ∧ g < S 0) (ha : E.2.1 (w + 13) g.toNat = some a) (ht : S 1 < 400) : ∃ (S' : Int → Int) (J1 J2 : Jm), ((H_X1_hearBy (w + 16) g (J w 3) (J a 6) J).bind fun (zv21, J19) => nv (jW J19 a 6 zv21) fun J22 => nv (jW J22 a 7 (J22 w 3)) fun J24 => (jS J24 (a + 1) 400 (J24 w 3) (J24 a 1)).bind fun J28 => some J28) = some J1 ∧ H_X12_hears m g Jr = some J2 ∧ Vw E w J1 S' ∧ Rf m J2 S' ∧ Inv S' ∧ FrC E w J J1 ∧ FrM m Jr J2 ∧ S' 0 = S 0 ∧ S' 1 = S 1 ∧ ∀ y : Int, 3950 ≤ y → y < 4351 → S' y = S y := by
  have h8 := i_gli hi
  have h1 := i_tim hi
  have h3 := i_let hi
  have ho := i_orc hi
  have hwa := sp.1 _ _ ha
  have hG := gCur hV hg ha
  have hc := clS_r hi (g := g) (by omega)
  have hx := i_x hi (z := g) hg.1 (by omega)
  have hy := i_y hi (z := g) hg.1 (by omega)
  obtain ⟨J1, f1, f2, f3⟩ := c_hrd (g := g) (t := S 1) sp (S 3).toNat 1000000 0 (S (2226 + g)) J S hV hi (by omega) (by omega) (by omega)
  have hla := hrd_la (g := g) (t := S 1) (S 3).toNat 0 (S (2226 + g)) S (by omega) (by omega) (hi.2.2.2.2.1 g hg.1 hg.2) (fun j j0 j1 => ⟨(i_lor hi j0 (by omega)).1, hi.2.2.2.2.2.2.1 j j0 (by omega)⟩)
  have i1 := hrd_i (g := g) (t := S 1) (S 3).toNat 0 (S (2226 + g)) S hi (by omega) (by omega)
  have ne := hrd_ne (g := g) (t := S 1) (S 3).toNat 0 (S (2226 + g)) S
  -- the reference
  have r0 : Rf m (jW (jW Jr (m + 1) (2234 + g).toNat (S 1)) (m + 1) (4351 + (401 * g + S 1)).toNat (clS S g)) (hea3 S g (S (2226 + g)) (S 1) (clS S g)) := by
    unfold hea3
    rw [zU_i]
    exact rW (rW hR (by omega)) (by omega)
  obtain ⟨J2, g1, g2, g3⟩ := r_hrd (c := clS S g) (t := S 1) (by omega) (by omega) (S 3).toNat 1000000 0 (S (2226 + g)) _ S r0 (by omega) (by omega) rfl (by omega) (by omega) (fun j j0 j1 => i_lhe hi j0 j1)
  generalize hrd g (S 1) (S 3).toNat 0 (S (2226 + g)) S = H at f1 f2 hla i1 ne g2
  obtain ⟨la, T⟩ := H
  dsimp only at f1 f2 hla i1 ne g2
  have hgT : 0 ≤ g ∧ g < T 0 := by rw [ne 0 (by omega)]; exact hg
  have v1 := vwG f2 sp i1.1 hgT ha (J2 := jW J1 a 6 la) (fun c h1 _ => jW_ne h1) (gpl (v := la) 2226 (by omega)) (gW_ord (by omega) (gCur f2 hgT ha))
  have i2 : Inv (zU T (2226 + g) la) := inv_ord i1 (by omega) (by rw [ne 4 (by omega)]; exact hla) (ir_at i1.1 (r := (2226, 8, -4, 9)) (by decide) (by omega) (by dsimp only; omega) (by dsimp only; omega))
  have hgT2 : 0 ≤ g ∧ g < zU T (2226 + g) la 0 := by rw [zU_ne (by omega)]; exact hgT
  have v2 := vwG v1 sp i2.1 hgT2 ha (J2 := jW (jW J1 a 6 la) a 7 (S 1)) (fun c h1 _ => jW_ne h1) (gpl (v := S 1) 2234 (by omega)) (gW_hea (by omega) (gCur v1 hgT2 ha))
  have i3 : Inv (zU (zU T (2226 + g) la) (2234 + g) (S 1)) := inv_hea i2 (by omega) (by rw [zU_ne (by omega), ne 1 (by omega)]; omega) (ir_at i2.1 (r := (2234, 8, -4, 400)) (by decide) (by omega) (by dsimp only; omega) (by dsimp only; omega))
  have hgT3 : 0 ≤ g ∧ g < zU (zU T (2226 + g) la) (2234 + g) (S 1) 0 := by rw [zU_ne (by omega)]; exact hgT2
  have v3 := vwG v2 sp i3.1 hgT3 ha (J2 := jW (jW (jW J1 a 6 la) a 7 (S 1)) (a + 1) (S 1).toNat (clS S g)) (S2 := zU (zU (zU T (2226 + g) la) (2234 + g) (S 1)) (4351 + (401 * g + S 1)) (clS S g)) (fun c _ h2 => jW_ne h2) (fun z hz => zU_ne (fun e => hz (Or.inr (by omega)))) (gW_fix (by omega) (by omega) (gCur v2 hgT3 ha) hc.1)
  have i4 : Inv (zU (zU (zU T (2226 + g) la) (2234 + g) (S 1)) (4351 + (401 * g + S 1)) (clS S g)) := inv_fix i3 hgT3 (by omega) (ir_no2 i3.1 (lo := 4351) (hi := 7559) (by omega) (by decide +kernel))
  refine ⟨_, _, J2, ?_, ?_, v3, g2, i4, ?_, ?_, ?_, ?_, fun y y0 y1 => ?_⟩
  · unfold H_X1_hearBy
    rw [v_tim hV.1, g_ord hG, f1, Option.bind_some]
    simp only [nv]
    have e1 : jW J1 a 6 la w 3 = S 1 := by rw [jW_ne (by omega), v_tim f2.1, ne 1 (by omega)]
    have e2 : jW (jW J1 a 6 la) a 7 (S 1) w 3 = S 1 := by rw [jW_ne (by omega)]; exact e1
    have e3 : jW (jW J1 a 6 la) a 7 (S 1) a 1 = clS S g := by
      rw [jW_of (by decide), jW_of (by decide), f3 a (by omega)]; exact g_cell hG
    rw [e1, e2, e3, zS (by omega) (by omega)]
    rfl
  · unfold H_X12_hears
    have e1 : wr (wr (4351 + wr (401 * g)) + S 1) = 4351 + (401 * g + S 1) := by rw [wr_id (z := 401 * g) (by omega), wr_id (z := 4351 + 401 * g) (by omega), wr_id (by omega)]; omega
    have q1 := rW (v := S 1) hR (z := 2234 + g) (by omega)
    rw [rL hR (by omega) (by omega), Option.bind_some, wr_id (z := 2234 + g) (by omega), zS (by omega) (by omega), Option.bind_some, rL q1 (by omega) (by omega), Option.bind_some, zU_ne (by omega), wr_id (z := 2178 + g) (by omega), wr_id (z := 2186 + g) (by omega), rL q1 (by omega) (by omega), Option.bind_some, rL q1 (by omega) (by omega), Option.bind_some, zU_ne (by omega), zU_ne (by omega), e1, wr_id (z := 8 * S (2178 + g)) (by omega), wr_id (z := 8 * S (2178 + g) + _) (by omega), zS (by omega) (by omega), Option.bind_some]
    exact g1
  · refine FrC.cg (FrC.cg (FrC.cg (fun b hb _ => f3 b (by omega)) ha (Or.inl rfl)) ha (Or.inl rfl)) ha (Or.inr rfl)
  · exact (FrM.mw (FrM.mw FrM.r (by omega)) (by omega)).t ⟨fun b hb => g3 b (by omega), by rw [g3 m (by omega)], fun h p hp => by rw [g3 (m + 8) (by omega)]; exact h p hp⟩
  · rw [zU_ne (by omega), zU_ne (by omega), zU_ne (by omega), ne 0 (by omega)]
  · rw [zU_ne (by omega), zU_ne (by omega), zU_ne (by omega), ne 1 (by omega)]
  · rw [zU_ne (by omega), zU_ne (by omega), zU_ne (by omega), ne y (by omega)]
/-- both sides under way -/
def Tw (E : Em) (w m : Nat) (J0 Jr0 J Jr : Jm) (S0 S : Int → Int) : Prop := Vw E w J S ∧ Rf m Jr S ∧ Inv S ∧ FrC E w J0 J ∧ FrM m Jr0 Jr ∧ S 0 = S0 0 ∧ S 1 = S0 1
theorem b_hearL (sp : Sp E w) (K : Jm → Option (Int × Jm)) (z : Int) {J0 Jr0 : Jm} {S0 : Int → Int} (ht : S0 1 < 400) (hd : S0 (3950 + S0 1) = 0) : ∀ (n fu fu2 : Nat) (i : Int) (J Jr : Jm) (S : Int → Int), Tw E w m J0 Jr0 J Jr S0 S → S (3950 + S 1) = 0 → S 0 = i + n → 0 ≤ i → n < fu → n < fu2 → ∃ (S' : Int → Int) (J1 J2 : Jm), H_X10_hearAll_L16 E w fu i J = some J1 ∧ H_X12_goTime_L4 K m z fu2 i Jr = K J2 ∧ Tw E w m J0 Jr0 J1 J2 S0 S' := by
  intro n
  induction n with
  | zero =>
    intro fu fu2 i J Jr S hT hde h1 h2 h3 h4
    obtain ⟨fu, rfl⟩ := nx h3
    obtain ⟨fu2, rfl⟩ := nx h4
    obtain ⟨t1, t2, t3, t4, t5, t6⟩ := hT
    rw [H_X10_hearAll_L16, H_X12_goTime_L4, v_gli t1.1, rL t2 (by omega) (by omega), Option.bind_some, if_pos (by omega), if_pos (by omega)]
    exact ⟨S, J, Jr, rfl, rfl, t1, t2, t3, t4, t5, t6⟩
  | succ n ih =>
    intro fu fu2 i J Jr S hT hde h1 h2 h3 h4
    obtain ⟨fu, rfl⟩ := nx h3
    obtain ⟨fu2, rfl⟩ := nx h4
    have hT' := hT
    obtain ⟨t1, t2, t3, t4, t5, t6, t7⟩ := hT
    have h8 := i_gli t3
    have htm := i_tim t3
    obtain ⟨a, ea, ha, hG⟩ := gR t1 t3 (g := i) (by omega)
    rw [H_X10_hearAll_L16, H_X12_goTime_L4, v_gli t1.1, rL t2 (z := 0) (by omega) (by omega), Option.bind_some, if_neg (show ¬ S 0 ≤ i by omega), if_neg (show ¬ S 0 ≤ i by omega), ea, Option.bind_some, Option.bind_some, g_sta hG, r_isUp t2 (by omega), Option.bind_some, z01, wr_id (z := i + 1) (by omega)]
    by_cases hu : S (2202 + i) = 0
    · rw [if_pos hu, if_pos hu, rL t2 (z := 1) (by omega) (by omega), Option.bind_some, wr_id (z := 3950 + S 1) (by omega), rL t2 (by omega) (by omega), Option.bind_some, if_pos hde]
      obtain ⟨S', J1, J2, f1, f2, f3, f4, f5, f6, f7, f8, f9, f10⟩ := b_hear sp t1 t3 t2 (g := i) (by omega) ha (by omega)
      have hde' : S' (3950 + S' 1) = 0 := by rw [f9, f10 _ (by omega) (by omega)]; exact hde
      have hE : H_X10_hearAll_L16 E w fu (i + 1) J1 = ((H_X1_hearBy (w + 16) i (J w 3) (J a 6) J).bind fun (zv21, J19) => nv (jW J19 a 6 zv21) fun J22 => nv (jW J22 a 7 (J22 w 3)) fun J24 => (jS J24 (a + 1) 400 (J24 w 3) (J24 a 1)).bind fun J28 => H_X10_hearAll_L16 E w fu (i + 1) J28) := by
        cases hb : H_X1_hearBy (w + 16) i (J w 3) (J a 6) J with
        | none => rw [hb] at f1; cases f1
        | some u =>
          rw [hb] at f1
          simp only [Option.bind_some, nv] at f1 ⊢
          cases hs : jS (jW (jW u.2 a 6 u.1) a 7 (jW u.2 a 6 u.1 w 3)) (a + 1) 400 (jW (jW u.2 a 6 u.1) a 7 (jW u.2 a 6 u.1 w 3) w 3) (jW (jW u.2 a 6 u.1) a 7 (jW u.2 a 6 u.1 w 3) a 1) with
          | none => rw [hs] at f1; cases f1
          | some J28 =>
            rw [hs] at f1
            cases f1
            rfl
      obtain ⟨S'', K1, K2, g1, g2, g3⟩ := ih fu fu2 (i + 1) J1 J2 S' ⟨f3, f4, f5, t4.t f6, t5.t f7, f8.trans t6, f9.trans t7⟩ hde' (by omega) (by omega) (by omega) (by omega)
      refine ⟨S'', K1, K2, hE.symm.trans g1, ?_, g3⟩
      rw [f2, Option.bind_some]
      exact g2
    · rw [if_neg hu, if_neg hu]
      exact ih fu fu2 (i + 1) J Jr S hT' hde (by omega) (by omega) (by omega) (by omega)
theorem r_deafL (K : Jm → Option (Int × Jm)) (z : Int) (hi : Inv S) (hR : Rf m Jr S) (hd : S (3950 + S 1) ≠ 0) (ht : S 1 ≤ 400) : ∀ (n fu2 : Nat) (i : Int), S 0 = i + n → 0 ≤ i → n < fu2 → H_X12_goTime_L4 K m z fu2 i Jr = K Jr := by
  have h8 := i_gli hi
  have h1 := i_tim hi
  intro n
  induction n with
  | zero =>
    intro fu2 i h1 h2 h4
    obtain ⟨fu2, rfl⟩ := nx h4
    rw [H_X12_goTime_L4, rL hR (by omega) (by omega), Option.bind_some, if_pos (by omega)]
  | succ n ih =>
    intro fu2 i h1 h2 h4
    obtain ⟨fu2, rfl⟩ := nx h4
    rw [H_X12_goTime_L4, rL hR (z := 0) (by omega) (by omega), Option.bind_some, if_neg (show ¬ S 0 ≤ i by omega), r_isUp hR (by omega), Option.bind_some, z01, wr_id (z := i + 1) (by omega)]
    have go := ih fu2 (i + 1) (by omega) (by omega) (by omega)
    by_cases hu : S (2202 + i) = 0
    · rw [if_pos hu, rL hR (z := 1) (by omega) (by omega), Option.bind_some, wr_id (z := 3950 + S 1) (by omega), rL hR (by omega) (by omega), Option.bind_some, if_neg hd]
      exact go
    · rw [if_neg hu]; exact go
theorem b_grow (sp : Sp E w) (z : Int) : ∀ (n fu fu2 : Nat) (i : Int) (J Jr : Jm) (S : Int → Int), Vw E w J S → Rf m Jr S → Inv S → 80 = i + n → 0 ≤ i → n < fu → n < fu2 → ∃ (S' : Int → Int) (J1 J2 : Jm), H_X7_growDoubt_L2 (w + 1) fu i J = some J1 ∧ H_X12_goTime_L95 m z fu2 i Jr = some (z, jW J2 (m + 1) 1 (wr (S 1 + 1))) ∧ Vw E w J1 S' ∧ Rf m J2 S' ∧ Inv S' ∧ (∀ b, b ≠ w + 1 + 3 → J1 b = J b) ∧ (∀ b, b ≠ m + 1 → J2 b = Jr b) ∧ ∀ y : Int, (y < 170 ∨ 250 ≤ y) → S' y = S y := by
  intro n
  induction n with
  | zero =>
    intro fu fu2 i J Jr S hV hR hi h1 h2 h3 h4
    obtain ⟨fu, rfl⟩ := nx h3
    obtain ⟨fu2, rfl⟩ := nx h4
    rw [H_X7_growDoubt_L2, H_X12_goTime_L95, if_pos (by omega), if_pos (by omega), rL hR (by omega) (by omega), Option.bind_some, zS (by omega) (by omega), Option.bind_some]
    exact ⟨S, J, Jr, rfl, rfl, hV, hR, hi, fun _ _ => rfl, fun _ _ => rfl, fun _ _ => rfl⟩
  | succ n ih =>
    intro fu fu2 i J Jr S hV hR hi h1 h2 h3 h4
    obtain ⟨fu, rfl⟩ := nx h3
    obtain ⟨fu2, rfl⟩ := nx h4
    have hdo := i_dou hi (z := i) h2 (by omega)
    rw [H_X7_growDoubt_L2, H_X12_goTime_L95, if_neg (by omega), if_neg (by omega), vL_dep hV.1 (by omega) (by omega), wr_id (z := 10 + i) (by omega), rL hR (by omega) (by omega), vL_dou hV.1 (by omega) (by omega), wr_id (z := 170 + i) (by omega), rL hR (by omega) (by omega), wr_id (z := i + 1) (by omega)]
    simp only [Option.bind_some]
    have no := ih fu fu2 (i + 1) J Jr S hV hR hi (by omega) (by omega) (by omega) (by omega)
    by_cases c1 : S (10 + i) ≤ 0
    · rw [if_pos c1, if_pos c1]; exact no
    · rw [if_neg c1, if_neg c1]
      by_cases c2 : 99 ≤ S (170 + i)
      · rw [if_pos c2, if_pos c2]; exact no
      · rw [if_neg c2, if_neg c2, wr_id (z := S (170 + i) + 1) (by omega), zS (by omega) (by omega), Option.bind_some, zS (by omega) (by omega), Option.bind_some]
        have v1 := vwS hV sp hi.1 (by omega) (by omega) (vW_dou (z := i) (v := S (170 + i) + 1) hV.1 (by omega) (by omega))
        have i1 : Inv (zU S (170 + i) (S (170 + i) + 1)) := inv_free hi (by unfold zFree; omega) (ir_at hi.1 (r := (170, 80, 0, 99)) (by decide) (by omega) (by dsimp only; omega) (by dsimp only; omega))
        obtain ⟨S', J1, J2, f1, f2, f3, f4, f5, f6, f7, f8⟩ := ih fu fu2 (i + 1) _ _ _ v1 (rW (v := S (170 + i) + 1) hR (z := 170 + i) (by omega)) i1 (by omega) (by omega) (by omega) (by omega)
        rw [zU_ne (by omega)] at f2
        exact ⟨S', J1, J2, f1, f2, f3, f4, f5, fun b hb => by rw [f6 b hb, jW_ne hb], fun b hb => by rw [f7 b hb, jW_ne hb], fun y hy => by rw [f8 y hy, zU_ne (by omega)]⟩
end TIM
