/-! A NEW GLIDER -/
def JB (J : Jm) (a : Nat) (z1 z2 z3 : Int) : Jm := jF (jW (jW (jW (jW (jW (jW (jW (jW (jW (jW (jW J a 0 z1) a 1 z2) a 2 z3) a 3 0) a 4 0) a 5 0) a 6 (-4)) a 7 (-4)) a 8 0) a 9 0) a 10 0) (a + 1) 0 400 (-4)
def SG (S : Int → Int) (z1 z2 z3 z4 : Int) : Int → Int := zU (zU (zU (zU (zU (zU (zU (zU S (2170 + S 0) z1) (2178 + S 0) z2) (2186 + S 0) z3) (2194 + S 0) z4) (2226 + S 0) (-4)) (2234 + S 0) (-4)) (2250 + S 0) (-4)) 0 (S 0 + 1)
section NEWG
variable {E E' : Em} {M : Mm} {J J' J2 : Jm} {a b k t n c w x m o q0 i : Nat} {S : Int → Int} {z z1 z2 z3 z4 g : Int}
theorem JB_n (h1 : b ≠ a) (h2 : b ≠ a + 1) : JB J a z1 z2 z3 b = J b := by
  unfold JB
  simp (disch := omega) only [jF_ne, jW_ne]
theorem o_begin (hM : Mre E M J) (w0 : W0 E a) {p1 p2 p3 : Int32} (t1 : p1.toInt = z1) (t2 : p2.toInt = z2) (t3 : p3.toInt = z3) : Ok (F_X0_begin a p1 p2 p3 M) (fun q => Mre E q (JB J a z1 z2 z3)) := h_X0_begin hM w0 t1 t2 t3 (by
  unfold H_X0_begin
  simp only [nv]
  rw [fill_q (N := 400) (by rw [w0.2.2]) (by decide)]
  rfl)
theorem sg_o (h0 : z ≠ 0) (h : z ≠ 2170 + S 0 ∧ z ≠ 2178 + S 0 ∧ z ≠ 2186 + S 0 ∧ z ≠ 2194 + S 0 ∧ z ≠ 2226 + S 0 ∧ z ≠ 2234 + S 0 ∧ z ≠ 2250 + S 0) : SG S z1 z2 z3 z4 z = S z := by
  obtain ⟨h1, h2, h3, h4, h5, h6, h7⟩ := h
  unfold SG
  rw [zU_ne h0, zU_ne h7, zU_ne h6, zU_ne h5, zU_ne h4, zU_ne h3, zU_ne h2, zU_ne h1]
theorem sg_0 : SG S z1 z2 z3 z4 0 = S 0 + 1 := zU_at
theorem sg_v (h8 : 0 ≤ S 0 ∧ S 0 ≤ 8) : SG S z1 z2 z3 z4 (2170 + S 0) = z1 ∧ SG S z1 z2 z3 z4 (2178 + S 0) = z2 ∧ SG S z1 z2 z3 z4 (2186 + S 0) = z3 ∧ SG S z1 z2 z3 z4 (2194 + S 0) = z4 ∧ SG S z1 z2 z3 z4 (2226 + S 0) = -4 ∧ SG S z1 z2 z3 z4 (2234 + S 0) = -4 ∧ SG S z1 z2 z3 z4 (2250 + S 0) = -4 := by
  unfold SG
  refine ⟨?_, ?_, ?_, ?_, ?_, ?_, ?_⟩ <;> simp (disch := omega) only [zU_ne, zU_at]
theorem inv_G (hi : Inv S) (h8 : S 0 < 8) (k1 : 0 ≤ z1 ∧ z1 ≤ 3) (k2 : 0 ≤ z2 ∧ z2 < 10) (k3 : 0 ≤ z3 ∧ z3 < 8) (k4 : 0 ≤ z4 ∧ z4 ≤ 999) (kd : 0 < S (10 + (8 * z2 + z3))) : Inv (SG S z1 z2 z3 z4) := by
  have hg := i_gli hi
  have hoc := i_orc hi
  have hlc := i_let hi
  have hrc := i_rea hi
  have hcc := i_cle hi
  obtain ⟨v1, v2, v3, v4, v5, v6, v7⟩ := sg_v (S := S) (z1 := z1) (z2 := z2) (z3 := z3) (z4 := z4) hg
  have f := hi.2.2.2.1 (S 0) (Int.le_refl _) h8 hg.1
  refine ⟨?_, ?_, ?_, ?_, ?_, ?_, ?_, ?_, ?_⟩
  · refine ir_at (r := (0, 1, 0, 8)) (z := 0) (ir_at (r := (2250, 8, -4, 4000)) (ir_at (r := (2234, 8, -4, 400)) (ir_at (r := (2226, 8, -4, 9)) (ir_at (r := (2194, 8, 0, 999)) (ir_at (r := (2186, 8, 0, 7)) (ir_at (r := (2178, 8, 0, 9)) (ir_at (r := (2170, 8, 0, 3)) hi.1 (by decide) hg.1 h8 k1) (by decide) hg.1 h8 ?_) (by decide) hg.1 h8 ?_) (by decide) hg.1 h8 k4) (by decide) hg.1 h8 ?_) (by decide) hg.1 h8 ?_) (by decide) hg.1 h8 ?_) (by decide) (by decide) (by decide) ?_ <;> (dsimp only; omega)
  · intro g' g0 g1
    rw [sg_0] at g1
    by_cases e : g' = S 0
    · subst e
      rw [v2, v3, sg_o (z := 10 + (8 * z2 + z3)) (by omega) (by omega)]
      exact fun _ => kd
    · have hx := i_x hi (z := g') g0 (by omega)
      have hy := i_y hi (z := g') g0 (by omega)
      rw [sg_o (z := 2202 + g') (by omega) (by omega), sg_o (z := 2178 + g') (by omega) (by omega), sg_o (z := 2186 + g') (by omega) (by omega), sg_o (by omega) (by omega)]
      exact hi.2.1 g' g0 (by omega)
  · intro g' g0 g1
    rw [sg_o (z := 2218 + g') (by omega) (by omega)]
    by_cases e : g' = S 0
    · subst e; rw [v4, f.2.2.1]; omega
    · rw [sg_o (by omega) (by omega)]; exact hi.2.2.1 g' g0 g1
  · intro g' g0 g1 g2
    rw [sg_0] at g0
    obtain ⟨b1, b2, b3, b4, b5⟩ := hi.2.2.2.1 g' (by omega) g1 g2
    rw [sg_o (z := 2202 + g') (by omega) (by omega), sg_o (z := 2210 + g') (by omega) (by omega), sg_o (z := 2218 + g') (by omega) (by omega), sg_o (z := 2242 + g') (by omega) (by omega)]
    exact ⟨b1, b2, b3, b4, fun t t0 t1 => by rw [sg_o (by omega) (by omega)]; exact b5 t t0 t1⟩
  · intro g' g0 g1
    rw [sg_0] at g1
    rw [sg_o (z := 4) (by omega) (by omega)]
    by_cases e : g' = S 0
    · subst e; exact Or.inl v5
    · rw [sg_o (by omega) (by omega)]; exact hi.2.2.2.2.1 g' g0 (by omega)
  · intro g' g0 g1
    rw [sg_0] at g1
    rw [sg_o (z := 1) (by omega) (by omega)]
    by_cases e : g' = S 0
    · subst e; exact Or.inl v6
    · rw [sg_o (by omega) (by omega)]; exact hi.2.2.2.2.2.1 g' g0 (by omega)
  · intro k k0 k1
    rw [sg_o (z := 3) (by omega) (by omega)] at k1
    rw [sg_o (z := 4) (by omega) (by omega), sg_o (by omega) (by omega)]
    exact hi.2.2.2.2.2.2.1 k k0 k1
  · intro g' g0 g1
    rw [sg_o (by omega) (by omega)]
    exact hi.2.2.2.2.2.2.2.1 g' g0 g1
  · refine ⟨fun k k0 k1 => ?_, ?_⟩
    · rw [sg_o (z := 5) (by omega) (by omega)] at k1
      rw [sg_o (z := 2) (by omega) (by omega), sg_o (by omega) (by omega)]
      exact hi.2.2.2.2.2.2.2.2.1 k k0 k1
    intro r r0 r1
    rw [sg_o (z := 2) (by omega) (by omega)] at r1
    obtain ⟨⟨a1, a2⟩, a3⟩ := hi.2.2.2.2.2.2.2.2.2 r r0 r1
    rw [sg_o (z := 2270 + r) (by omega) (by omega), sg_0, sg_o (z := 5) (by omega) (by omega)]
    refine ⟨⟨a1, by omega⟩, fun k k0 k1 hk => ?_⟩
    obtain ⟨b1, b2⟩ := a3 k k0 k1 (fun j j0 j1 => by have := hk j j0 j1; rw [sg_o (z := 3470 + j) (by omega) (by omega), sg_o (z := 3650 + j) (by omega) (by omega)] at this; exact this)
    refine ⟨fun k2 => ?_, fun k2 => ?_⟩
    · rw [sg_o (z := 3470 + k) (by omega) (by omega), sg_o (z := 3650 + k) (by omega) (by omega), sg_o (z := 3590 + k) (by omega) (by omega)]; exact b1 k2
    · rw [sg_o (by omega) (by omega)]; exact b2 k2
/-- the class's world with one GLIDER more -/
theorem vw_G (k0 : K0 E) (hw : W10 E w) (sp : Sp E' w) (hV : Vw E w J S) (hi : Inv S) (h8 : S 0 < 8) (hG : GRoom E J w (S 0).toNat a E' J') : Vw E' w (jW (JB J' a z1 (8 * z2 + z3) z4) w 2 (S 0 + 1)) (SG S z1 z2 z3 z4) := by
  obtain ⟨X, g1, g2, g3, g4, g5⟩ := hG
  have hg := i_gli hi
  have hoc := i_orc hi
  have ea : E'.2.1 (w + 13) (S 0).toNat = some a := by rw [g1, up1_s]
  have wa := sp.1 _ _ ea
  have hw15 : w + 15 < E.2.2.2 := k0 _ (by rw [hw.2.2.2.2.1.2.1]; decide)
  obtain ⟨v1, v2, v3, v4, v5, v6, v7⟩ := sg_v (S := S) (z1 := z1) (z2 := z2) (z3 := z3) (z4 := z4) hg
  have f := hi.2.2.2.1 (S 0) (Int.le_refl _) h8 hg.1
  have lw : ∀ b, Kw E w b → b < E.2.2.2 := fun b hb => kw_lt k0 hw hb
  refine ⟨?_, fun g' p0 p1 => ?_, fun j j0 j1 => ?_⟩
  · have h1 : Vs w (JB J' a z1 (8 * z2 + z3) z4) S := vE hV.1 (fun b b1 b2 => by rw [JB_n (by omega) (by omega), g3 b (lw b (Or.inl ⟨b1, b2⟩))])
    unfold SG
    exact vW_gli (vU (vU (vU (vU (vU (vU (vU h1 (by omega)) (by omega)) (by omega)) (by omega)) (by omega)) (by omega)) (by omega))
  · rw [sg_0] at p1
    by_cases e : g' = S 0
    · subst e
      refine ⟨a, ea, ?_⟩
      unfold Gv
      rw [v1, v2, v3, v4, v5, v6, v7, sg_o (z := 2202 + S 0) (by omega) (by omega), sg_o (z := 2210 + S 0) (by omega) (by omega), sg_o (z := 2218 + S 0) (by omega) (by omega), sg_o (z := 2242 + S 0) (by omega) (by omega), f.1, f.2.1, f.2.2.1, f.2.2.2.1, jW_ne (by omega), jW_ne (by omega)]
      have fx : ∀ k, (jF (jW (jW (jW (jW (jW (jW (jW (jW (jW (jW (jW J' a 0 z1) a 1 (8 * z2 + z3)) a 2 z4) a 3 0) a 4 0) a 5 0) a 6 (-4)) a 7 (-4)) a 8 0) a 9 0) a 10 0) (a + 1) 0 400 (-4)) a k = (jW (jW (jW (jW (jW (jW (jW (jW (jW (jW (jW J' a 0 z1) a 1 (8 * z2 + z3)) a 2 z4) a 3 0) a 4 0) a 5 0) a 6 (-4)) a 7 (-4)) a 8 0) a 9 0) a 10 0) a k := fun k => by rw [jF_ne (by omega)]
      unfold JB
      simp (disch := omega) only [fx, jW_of, jW_at]
      refine ⟨trivial, trivial, trivial, trivial, trivial, trivial, trivial, trivial, trivial, Or.inl trivial, Int.le_refl _, fun _ => trivial, ?_, fun t t0 t1 => Or.inl ⟨?_, ?_⟩⟩
      · first | rfl | (rw [if_pos rfl])
      · first | (exact jF_at (by omega)) | (rw [jF_at (by omega)])
      · rw [sg_o (by omega) (by omega)]; exact f.2.2.2.2 t t0 (by omega)
    · obtain ⟨c, hc, hC⟩ := hV.2.1 g' p0 (by omega)
      have ec : E'.2.1 (w + 13) g'.toNat = some c := by rw [g1, up1_n _ _ (by omega)]; exact hc
      have q1 := sp.1 _ _ ec
      have q2 := sp.2.1 _ _ _ _ ec ea (by omega)
      have l1 := lw c (Or.inr (Or.inl ⟨_, _, hc, Or.inl rfl⟩))
      have l2 := lw (c + 1) (Or.inr (Or.inl ⟨_, _, hc, Or.inr rfl⟩))
      refine ⟨c, ec, gv_E ⟨p0, by omega⟩ hC ?_ ?_ (fun y hy => sg_o (by unfold gPl at hy; omega) (by unfold gPl at hy; omega))⟩
      · rw [jW_ne (by omega), JB_n (by omega) (by omega), g3 _ l1]
      · rw [jW_ne (by omega), JB_n (by omega) (by omega), g3 _ l2]
  · rw [sg_o (by omega) (by omega)] at j1
    obtain ⟨q, hq, hO⟩ := hV.2.2 j j0 j1
    have eq : E'.2.1 (w + 15) j.toNat = some q := by rw [g2 _ hw15 (by omega)]; exact hq
    have q1 := sp.2.2.1 _ _ eq
    have q2 := sp.2.2.2 _ _ _ _ ea eq
    have hl := i_len hi (z := j) j0 (by omega)
    refine ⟨q, eq, ?_⟩
    rw [oT_E ⟨j0, by omega⟩ hl.2 (fun y y0 y1 => sg_o (by omega) (by omega)), sg_o (by omega) (by omega)]
    exact OrdA_E (fun i hi => by rw [jW_ne (by omega), JB_n (by omega) (by omega), g3 _ (lw _ (Or.inr (Or.inr ⟨_, _, _, hq, hi, rfl⟩)))]) hO
end NEWG
