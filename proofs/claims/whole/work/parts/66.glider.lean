/-! glider: the law's case -/
section OPG4
variable {x m o : Nat}
theorem op_4 : Op_4 (RI RelI x m o) x m := by
  rintro M a1 a2 a3 a4 ⟨E, J, hM, wx, wm, wo, hI⟩
  have hI0 := hI
  obtain ⟨k0, i2, i3, io, i4, i5, ⟨q0, k1, k2, ⟨S, s1, s2, s3⟩, k4⟩, i7⟩ := hI
  obtain ⟨⟨r1, M1⟩, e1, h⟩ := o_glider (p1 := a1) (p2 := a2) (p3 := a3) (p4 := a4) hM k0 wx s1 s3 rfl rfl rfl rfl
  dsimp only at h
  rcases h with ⟨r, hr, t1, hM1⟩ | ⟨hr, t1, a, E', J', hG, hM1⟩
  · have h2 := (r_glider (m := m) s2 s3).1 r hr
    obtain ⟨⟨r2, M2⟩, e2, t2, hM2⟩ := h_X12_glider hM1 (this := m) wm rfl rfl rfl rfl h2
    have er : r2 = r1 := Int32.toInt_inj.mp (t2.trans t1.symm)
    subst er
    exact ⟨r2, M1, M2, o_isO hM wx.1, e1, o_isO hM1 wm.1, e2, E, J, hM2, wx, wm, wo, hI0⟩
  · have hG0 := hG
    obtain ⟨X, g1, g2, g3, g4, g5⟩ := hG
    have hN : m + 18 < E.2.2.2 := by
      have := k0 o io
      omega
    have na : ∀ b, b < E.2.2.2 → dkb (E.1 b) = false → b ≠ a ∧ b ≠ a + 1 := fun b hb hd => by
      rw [← X.2.2.1 b hb] at hd
      have g := dk_g g4
      refine ⟨fun e => ?_, fun e => ?_⟩ <;> subst e
      · exact tf (gk_dk g.1) hd
      · exact tf (gk_dk g.2) hd
    have J1n : ∀ b, b < E.2.2.2 → b ≠ a → b ≠ a + 1 → b ≠ x + 1 → (jW (JB J' a a1.toInt (8 * a2.toInt + a3.toInt) a4.toInt) (x + 1) 2 (S 0 + 1)) b = J b := fun b hb h1 h2 h3 => by rw [jW_ne h3, JB_n h1 h2, g3 b hb]
    have J1m : ∀ b, m ≤ b → b ≤ m + 17 → (jW (JB J' a a1.toInt (8 * a2.toInt + a3.toInt) a4.toInt) (x + 1) 2 (S 0 + 1)) b = J b := fun b b1 b2 => by
      have n := na b (by omega) (st_m2 wm b1 b2)
      exact J1n b (by omega) n.1 n.2 (by omega)
    have hR1 : Rf m (jW (JB J' a a1.toInt (8 * a2.toInt + a3.toInt) a4.toInt) (x + 1) 2 (S 0 + 1)) S := rE s2 (J1m _ (by omega) (by omega))
    obtain ⟨⟨c1, c2, c3, c4, c5, c6⟩, J2, h2, hR2, f2⟩ := (r_glider (z1 := a1.toInt) (z2 := a2.toInt) (z3 := a3.toInt) (z4 := a4.toInt) hR1 s3).2 hr
    have wm' := w12_x k0 X wm
    obtain ⟨⟨r2, M2⟩, e2, t2, hM2⟩ := h_X12_glider hM1 (this := m) wm' rfl rfl rfl rfl h2
    have er : r2 = r1 := Int32.toInt_inj.mp (t2.trans t1.symm)
    subst er
    have w10 := wx.2.1.2
    have l13 : x + 1 + 13 < E.2.2.2 := by omega
    have eo : E'.2.1 (x + 1 + 15) = E.2.1 (x + 1 + 15) := g2 _ (by omega) (by omega)
    have gl : ∀ j c, E'.2.1 (x + 1 + 13) j = some c → (j = (S 0).toNat ∧ c = a) ∨ (j ≠ (S 0).toNat ∧ E.2.1 (x + 1 + 13) j = some c) := fun j c hc => by
      rw [g1] at hc
      by_cases e : j = (S 0).toNat
      · subst e
        rw [up1_s] at hc
        cases hc
        exact Or.inl ⟨rfl, rfl⟩
      · rw [up1_n _ _ e] at hc
        exact Or.inr ⟨e, hc⟩
    have w10' : W10 E' (x + 1) := w10_x k0 X w10 (fun j c hc => by
      rcases gl j c hc with ⟨-, e⟩ | ⟨-, e⟩
      · rw [e]; exact g4
      · exact w0_x k0 X (w10.2.2.1.2.2 j c e)) (fun j c hc => w2_x k0 X (w10.2.2.2.2.1.2.2 j c (by rw [← eo]; exact hc)))
    have e45 : E'.2.1 (x + 45) = E.2.1 (x + 45) := g2 _ (by omega) (by omega)
    have ex : E'.2.1 x = E.2.1 x := g2 _ (by omega) (by omega)
    have e34 : E'.2.1 (x + 34) = E.2.1 (x + 34) := g2 _ (by omega) (by omega)
    have kr : ∀ w', E.2.1 x 4 = some w' → E'.2.1 (w' + 13) = E.2.1 (w' + 13) ∧ E'.2.1 (w' + 15) = E.2.1 (w' + 15) := fun w' hw => by
      have w10k := wx.2.2.2.2.2 w' hw
      have hlt : m + 18 < w' := by
        rcases k4 with ⟨-, b2⟩ | ⟨-, w2, b2, b3, -⟩
        · rw [b2] at hw; cases hw
        · rw [b2] at hw; cases hw; exact b3
      exact ⟨g2 _ (k0 _ (by rw [w10k.2.2.1.2.1]; decide)) (by omega), g2 _ (k0 _ (by rw [w10k.2.2.2.2.1.2.1]; decide)) (by omega)⟩
    have wx' : W11 E' x := w11_x k0 X wx i5 w10' (fun q hq => w2_x k0 X (wx.2.2.2.1.2.2.1 q (by rw [← e45]; exact hq))) (fun q hq => wa_x k0 X (wx.2.2.2.1.2.2.2 q (by rw [← e45]; exact hq))) (fun i _ => by rw [ex]) (fun q hq => by
      rw [ex] at hq
      exact w10_s k0 X (wx.2.2.2.2.2 q hq) (kr q hq).1 (kr q hq).2)
    have hP : Wp E' (x + 1) m q0 := by
      refine ⟨fun i j c h1 h2 => ?_, fun j c h1 => ?_, fun j => by rw [eo]; exact k2.2.2 j⟩
      · rcases gl i c h1 with ⟨p1, p2⟩ | ⟨p1, p2⟩ <;> rcases gl j c h2 with ⟨p3, p4⟩ | ⟨p3, p4⟩
        · rw [p1, p3]
        · exfalso
          rcases g5 with g5 | ⟨-, g5⟩
          · rw [p2] at p4; exact p3 (k2.1 _ _ _ p4 g5)
          · have := k0 c (by rw [(w10.2.2.1.2.2 j c p4).1]; decide)
            omega
        · exfalso
          rcases g5 with g5 | ⟨-, g5⟩
          · rw [p4] at p2; exact p1 (k2.1 _ _ _ p2 g5)
          · have := k0 c (by rw [(w10.2.2.1.2.2 i c p2).1]; decide)
            omega
        · exact k2.1 _ _ _ p2 p4
      · rcases gl j c h1 with ⟨p1, p2⟩ | ⟨p1, p2⟩
        · rcases g5 with g5 | ⟨-, g5⟩
          · rw [p2]; exact k2.2.1 _ _ g5
          · omega
        · exact k2.2.1 _ _ p2
    have hS' : Shs x m E' J := sh_E i4 (g2 _ (by omega) (by omega))
    have hV' := vw_G (z1 := a1.toInt) (z2 := a2.toInt) (z3 := a3.toInt) (z4 := a4.toInt) k0 w10 (w_sp w10' hP.1) s1 s3 c5 hG0
    refine ⟨r2, M1, M2, o_isO hM wx.1, e1, o_isO hM1 wm'.1, e2, E', J2, hM2, wx', wm', kx k0 X wo (by decide), X.1, i2, i3, by rw [X.2.2.1 o (k0 o io)]; exact io, sh_fr hS' (fun b hb => ?_), by rw [e34]; exact i5, ⟨q0, by rw [e45]; exact k1, hP, ⟨_, vwK hV' (fun b hb => f2 b (by have := (kw_n wx' wm' hS' i2 hb).1; omega)), hR2, inv_G s3 c5 c1 c2 c3 c4 c6⟩, ?_⟩, fun p hp => by rw [f2 _ (by omega), J1m _ (by omega) (by omega)]; exact i7 p hp⟩
    · rcases hb with hb | hb
      · have n := na b (by omega) (st_s wx i4 hb.1 hb.2)
        rw [f2 b (by omega), J1n b (by omega) n.1 n.2 (by omega)]
      · rw [f2 b (by omega), J1m b (by omega) (by omega)]
    · refine kp_x k0 wx wm i4 i2 k4 (by rw [ex]) kr (fun i c hc => ?_) (Or.inl rfl) (by rw [f2 _ (by omega), J1m _ (by omega) (by omega)]) (by rw [f2 _ (by omega), J1m _ (by omega) (by omega)]) (fun b b1 b2 b3 b4 b5 => ?_)
      · rcases gl i c hc with ⟨p1, p2⟩ | ⟨p1, p2⟩
        · rcases g5 with g5 | ⟨-, g5⟩
          · rw [p1, p2]; exact Or.inl g5
          · rw [p2]; exact Or.inr g5
        · exact Or.inl p2
      · have n : b ≠ a ∧ b ≠ a + 1 := by
          rcases g5 with g5 | ⟨-, g5⟩
          · exact b5 _ _ g5
          · omega
        rw [f2 b (by omega), J1n b b1 n.1 n.2 (by omega)]
end OPG4
