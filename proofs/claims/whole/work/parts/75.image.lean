/-! image, restore: THE REFERENCE -/
section IMGR
variable {E : Em} {x m o w : Nat} {J J2 : Jm} {S : Int → Int}
theorem r_imgL : ∀ (t fu i : Nat) (J : Jm), 8369 = i + t → t < fu → (∀ j : Nat, j < i → J (m + 2) j = J (m + 1) j) → ∃ J2, H_X12_image_L2 m fu (i : Int) J = some (J (m + 1) 1, J2) ∧ (∀ j : Nat, j < 8369 → J2 (m + 2) j = J (m + 1) j) ∧ J2 m 3 = 1 ∧ (∀ b, b ≠ m → b ≠ m + 2 → J2 b = J b)
  | 0, fu, i, J, h1, h2, h3 => by
    obtain ⟨fu, rfl⟩ := nx h2
    rw [H_X12_image_L2, if_pos (by omega)]
    simp only [nv]
    rw [zL (by decide) (by decide), Option.bind_some]
    refine ⟨_, by rw [jW_ne (by omega)]; rfl, fun j hj => by rw [jW_ne (by omega)]; exact h3 j (by omega), jW_at, fun b b1 b2 => jW_ne b1⟩
  | t + 1, fu, i, J, h1, h2, h3 => by
    obtain ⟨fu, rfl⟩ := nx h2
    rw [H_X12_image_L2, if_neg (by omega), q_jL (by omega), Option.bind_some, zS (by omega) (by omega), Option.bind_some, wr_id (z := (i : Int) + 1) (by omega), show (i : Int) + 1 = ((i + 1 : Nat) : Int) by omega, show ((i : Nat) : Int).toNat = i by omega]
    obtain ⟨J2, a1, a2, a3, a4⟩ := r_imgL t fu (i + 1) (jW J (m + 2) i (J (m + 1) i)) (by omega) (by omega) (fun j hj => by
      rw [jW_ne (a := m + 2) (b := m + 1) (by omega)]
      by_cases e : j = i
      · subst e; exact jW_at
      · rw [jW_of e]; exact h3 j (by omega))
    rw [jW_ne (by omega)] at a1
    exact ⟨J2, a1, fun j hj => by rw [a2 j hj, jW_ne (by omega)], a3, fun b b1 b2 => by rw [a4 b b1 b2, jW_ne b2]⟩
theorem r_resL : ∀ (t fu i : Nat) (J : Jm), 8369 = i + t → t < fu → (∀ j : Nat, j < i → J (m + 1) j = J (m + 2) j) → ∃ J2, H_X12_restore_L12 m fu (i : Int) J = some (J (m + 2) 1, J2) ∧ (∀ j : Nat, j < 8369 → J2 (m + 1) j = J (m + 2) j) ∧ (∀ b, b ≠ m + 1 → J2 b = J b)
  | 0, fu, i, J, h1, h2, h3 => by
    obtain ⟨fu, rfl⟩ := nx h2
    rw [H_X12_restore_L12, if_pos (by omega), zL (by decide) (by decide), Option.bind_some, show (1 : Int).toNat = 1 from rfl, h3 1 (by omega)]
    exact ⟨_, rfl, fun j hj => h3 j (by omega), fun _ _ => rfl⟩
  | t + 1, fu, i, J, h1, h2, h3 => by
    obtain ⟨fu, rfl⟩ := nx h2
    rw [H_X12_restore_L12, if_neg (by omega), q_jL (by omega), Option.bind_some, zS (by omega) (by omega), Option.bind_some, wr_id (z := (i : Int) + 1) (by omega), show (i : Int) + 1 = ((i + 1 : Nat) : Int) by omega, show ((i : Nat) : Int).toNat = i by omega]
    obtain ⟨J2, a1, a2, a4⟩ := r_resL t fu (i + 1) (jW J (m + 1) i (J (m + 2) i)) (by omega) (by omega) (fun j hj => by
      rw [jW_ne (a := m + 1) (b := m + 2) (by omega)]
      by_cases e : j = i
      · subst e; exact jW_at
      · rw [jW_of e]; exact h3 j (by omega))
    rw [jW_ne (by omega)] at a1
    exact ⟨J2, a1, fun j hj => by rw [a2 j hj, jW_ne (by omega)], fun b b1 => by rw [a4 b b1, jW_ne b1]⟩
theorem kg_kw {b : Nat} (h : Kg E w b) : Kw E w b := h.elim Or.inl (fun q => Or.inr (Or.inl q))
/-- all but what the kept world holds -/
def RelP (x m o w : Nat) (E : Em) (J : Jm) : Prop := K0 E ∧ m = x + 73 ∧ o = m + 18 ∧ (E.1 o).1 ≠ 0 ∧ Shs x m E J ∧ (E.2.1 (x + 34) 0 = some (x + 1) ∧ E.2.1 (x + 34) 1 = some (x + 1 + 1)) ∧ (∃ q0, E.2.1 (x + 45) 0 = some q0 ∧ Wp E (x + 1) m q0 ∧ Wd E (x + 1) J m ∧ E.2.1 x 4 = some w ∧ m + 18 < w ∧ Wp E w m q0 ∧ ∀ i j a, E.2.1 (x + 1 + 13) i = some a → E.2.1 (w + 13) j ≠ some a) ∧ ∀ p : Nat, p < 80 → J (m + 8) p = 0
/-- the class's image, where there is a kept world: what it makes -/
def IK (x : Nat) (M3 : Mm) : Option (Int32 × Mm) :=
  (rdR M3 x 11 4).bind fun v4 =>
  (rdR M3 x 11 0).bind fun v5 =>
  v5.bind fun a6 =>
  v4.bind fun a7 =>
  (isO M3 a7 10).bind fun _ =>
  (F_X10_become a7 a6 M3).bind fun M8 =>
  (rdR M8 x 11 0).bind fun v10 =>
  v10.bind fun a11 =>
  (rdI M8 a11 10 3).bind fun v12 =>
  some (v12, M8)
theorem img_k {M : Mm} (hM : Mre E M J) (wx : W11 E x) (wm : W12 E m) (wo : E.1 o = (6, 1)) (hP : RelP x m o w E J) : ∃ (r : Int32) (M1 M2 : Mm), IK x M = some (r, M1) ∧ isO M1 m 12 = some () ∧ F_X12_image m M1 = some (r, M2) ∧ RI RelI x m o M2 := by
  obtain ⟨k0, i2, i3, io, i4, i5, ⟨q0, k1, k2, ⟨S, s1, s2, s3⟩, h4, hw, p2, cr⟩, i7⟩ := hP
  have w10w := wx.2.2.2.2.2 w h4
  have w10 := wx.2.1.2
  have hN : m + 18 < E.2.2.2 := by
    have := k0 o io
    omega
  have ap : ∀ b, Kw E (x + 1) b → ¬ Kg E w b := fun b hb hg => by
    obtain ⟨n1, n2, n3, n4⟩ := kw_k wx wm i4 i2 h4 hw cr (kg_kw hg)
    rcases hb with hb | ⟨j, a, ha, hb⟩ | ⟨j, q, i, hq, hi, hb⟩
    · omega
    · have := n4 j a ha
      omega
    · subst hb
      have s := dk_o (w10.2.2.2.2.1.2.2 j q hq) i hi
      rcases hg with hg | ⟨j2, a, ha, hg⟩
      · exact tf (ok_dk s) (st_w2 w10w hg.1 (by omega))
      · have g := dk_g (w10w.2.2.1.2.2 j2 a ha)
        rcases hg with hg | hg <;> rw [hg] at s
        · exact gk_ok g.1 s
        · exact gk_ok g.2 s
  have hx : Bx E J w (x + 1) S := ⟨k0, w10w, w10, s1, s3, ap, by omega, p2.1⟩
  obtain ⟨M8, e8, E', J', hM8, hB⟩ := o_become hx hM
  have hB0 := hB
  obtain ⟨b1, b2, b3, b4, b5, b6, b7, b8⟩ := hB
  obtain ⟨ws', r13, r15⟩ := bg_ws hx hB0
  have wt' := bg_wt hx hB0
  have rs : ∀ b, b < E.2.2.2 → b ≠ w + 13 → b ≠ w + 15 → E'.2.1 b = E.2.1 b := b2
  have ex : E'.2.1 x = E.2.1 x := rs _ (by omega) (by omega) (by omega)
  have e45 : E'.2.1 (x + 45) = E.2.1 (x + 45) := rs _ (by omega) (by omega) (by omega)
  have e34 : E'.2.1 (x + 34) = E.2.1 (x + 34) := rs _ (by omega) (by omega) (by omega)
  have wx' : W11 E' x := w11_x k0 b1 wx i5 ws' (fun q hq => w2_x k0 b1 (wx.2.2.2.1.2.2.1 q (by rw [← e45]; exact hq))) (fun q hq => wa_x k0 b1 (wx.2.2.2.1.2.2.2 q (by rw [← e45]; exact hq))) (fun i _ => by rw [ex]) (fun q hq => by
    rw [ex, h4] at hq
    cases hq
    exact wt')
  have wm' := w12_x k0 b1 wm
  have fJ : ∀ b, b < E.2.2.2 → ¬ Kg E w b → J' b = J b := b7
  have nkg : ∀ b, b ≤ m + 18 → (dkb (E.1 b) = false) → ¬ Kg E w b := fun b hb hd hk => by
    have := kw_st w10w (kg_kw hk) hd
    omega
  have fm : ∀ b, m ≤ b → b ≤ m + 17 → J' b = J b := fun b h1 h2 => fJ b (by omega) (nkg b (by omega) (st_m2 wm h1 h2))
  have sJ : ∀ b, Kw E (x + 1) b → J' b = J b := fun b hb => bg_src hx hB0 hb
  have hV' : Vw E' (x + 1) J' S := vw_R (vwK s1 sJ) r13 r15
  have hVt := bg_vw hx hB0 (by decide)
  obtain ⟨v12, e12, t12⟩ := o_rdI (k := 3) hM8 ws'.1
  rw [v_tim hV'.1] at t12
  have hc : IK x M = some (v12, M8) := by
    unfold IK
    rw [o_rdS hM wx.1 h4, Option.bind_some, o_rdS hM wx.1 wx.2.1.1, Option.bind_some, Option.bind_some, Option.bind_some, o_isO hM w10w.1, Option.bind_some, e8, Option.bind_some, o_rdS hM8 wx'.1 wx'.2.1.1, Option.bind_some, Option.bind_some, e12, Option.bind_some]
  have hR' : Rf m J' S := rE s2 (fm _ (by omega) (by omega))
  obtain ⟨J3, c1, c2, c3, c4⟩ := r_imgL (m := m) 8369 1000000 0 J' (by omega) (by omega) (fun j hj => absurd hj (Nat.not_lt_zero j))
  have e1 : J' (m + 1) 1 = S 1 := hR' 1 (by decide) (by decide)
  rw [e1] at c1
  have href : H_X12_image m J' = some (S 1, J3) := c1
  obtain ⟨⟨r2, M2⟩, e2, t2, hM2⟩ := h_X12_image hM8 (this := m) wm' href
  have er : r2 = v12 := Int32.toInt_inj.mp (t2.trans t12.symm)
  subst er
  refine ⟨r2, M8, M2, hc, o_isO hM8 wm'.1, e2, E', J3, hM2, wx', wm', kx k0 b1 wo (by decide), b1.1, i2, i3, by rw [b1.2.2.1 o (k0 o io)]; exact io, ?_, by rw [e34]; exact i5, ⟨q0, by rw [e45]; exact k1, ?_, ⟨S, vwK hV' (fun b hb => ?_), rE hR' (c4 _ (by omega) (by omega)), s3⟩, Or.inr ⟨c3, w, by rw [ex]; exact h4, hw, ⟨b4, fun j a ha => ?_, fun j hj => ?_⟩, fun i j a ha1 ha2 => ?_, S, vwK hVt (fun b hb => ?_), fun z z0 z1 => ?_, s3⟩⟩, fun p hp => by rw [c4 _ (by omega) (by omega), fm _ (by omega) (by omega)]; exact i7 p hp⟩
  · refine sh_fr (sh_E i4 (rs _ (by omega) (by omega) (by omega))) (fun b hb => ?_)
    have hb2 : b ≠ m ∧ b ≠ m + 2 ∧ b ≤ m + 17 := by unfold ShA at hb; omega
    rw [c4 b hb2.1 hb2.2.1]
    refine fJ b (by omega) (nkg b (by omega) ?_)
    rcases hb with hb | hb
    · exact st_s wx i4 hb.1 hb.2
    · exact st_m2 wm (by omega) hb.2
  · unfold Wp
    rw [r13, r15]; exact k2
  · have n := (kw_n wx' wm' (sh_E i4 (rs _ (by omega) (by omega) (by omega))) i2 hb).1
    exact c4 b (by omega) (by omega)
  · rcases (b3 j a ha).2 with q | q
    · exact p2.2.1 j a q
    · omega
  · rw [b5 j] at hj
    by_cases e : j < (S 4).toNat
    · rw [if_pos e] at hj; exact k2.2.2 j hj
    · rw [if_neg e] at hj; exact p2.2.2 j hj
  · rw [r13] at ha1
    rcases (b3 j a ha2).2 with q | q
    · exact cr i j a ha1 q
    · have := k0 a (by rw [(w10.2.2.1.2.2 i a ha1).1]; decide)
      omega
  · have nk : ∀ c, m ≤ c → c ≤ m + 17 → b ≠ c := fun c h1 h2 e => by
      subst e
      have := kw_st wt' hb (st_m2 wm' h1 h2)
      omega
    exact c4 b (nk m (by omega) (by omega)) (nk (m + 2) (by omega) (by omega))
  · rw [show m + 1 + 1 = m + 2 from rfl, c2 z.toNat (by omega)]
    exact hR' z z0 z1
theorem op_29 : Op_29 (RI RelI x m o) x m := by
  rintro M ⟨E, J, hM, wx, wm, wo, hI⟩
  have hI0 := hI
  obtain ⟨k0, i2, i3, io, i4, i5, ⟨q0, k1, k2, ⟨S0, u1, u2, u3⟩, k4⟩, i7⟩ := hI
  have w10 := wx.2.1.2
  have hN : m + 18 < E.2.2.2 := by
    have := k0 o io
    omega
  rcases k4 with ⟨a1, a2⟩ | ⟨a1, w, h4, hw, p2, cr, S, s1, s2, s3⟩
  · have href : H_X12_restore m J = some (-3, J) := by
      unfold H_X12_restore
      rw [a1, if_pos rfl]
    obtain ⟨⟨r2, M2⟩, e2, t2, hM2⟩ := h_X12_restore hM (this := m) wm href
    have er : r2 = -3 := Int32.toInt_inj.mp t2
    subst er
    have hc : F_X11_restore x M = some (-3, M) := by
      unfold F_X11_restore
      rw [o_rdR hM wx.1, a2, Option.bind_some]
      rfl
    exact ⟨-3, M, M2, o_isO hM wx.1, hc, o_isO hM wm.1, e2, E, J, hM2, wx, wm, wo, hI0⟩
  · have w10w := wx.2.2.2.2.2 w h4
    have ap : ∀ b, Kw E w b → ¬ Kg E (x + 1) b := fun b hb hg => by
      obtain ⟨n1, n2, n3, n4⟩ := kw_k wx wm i4 i2 h4 hw cr hb
      rcases hg with hg | ⟨j, a, ha, hg⟩
      · omega
      · have := n4 j a ha
        omega
    have hx : Bx E J (x + 1) w S := ⟨k0, w10, w10w, s1, s3, ap, by omega, k2.1⟩
    obtain ⟨M8, e8, E', J', hM8, hB⟩ := o_become hx hM
    have hB0 := hB
    obtain ⟨b1, b2, b3, b4, b5, b6, b7, b8⟩ := hB
    obtain ⟨ws', r13, r15⟩ := bg_ws hx hB0
    have wt' := bg_wt hx hB0
    have rs : ∀ b, b < E.2.2.2 → b ≠ x + 1 + 13 → b ≠ x + 1 + 15 → E'.2.1 b = E.2.1 b := b2
    have ex : E'.2.1 x = E.2.1 x := rs _ (by omega) (by omega) (by omega)
    have e45 : E'.2.1 (x + 45) = E.2.1 (x + 45) := rs _ (by omega) (by omega) (by omega)
    have e34 : E'.2.1 (x + 34) = E.2.1 (x + 34) := rs _ (by omega) (by omega) (by omega)
    have wx' : W11 E' x := w11_x k0 b1 wx i5 wt' (fun q hq => w2_x k0 b1 (wx.2.2.2.1.2.2.1 q (by rw [← e45]; exact hq))) (fun q hq => wa_x k0 b1 (wx.2.2.2.1.2.2.2 q (by rw [← e45]; exact hq))) (fun i _ => by rw [ex]) (fun q hq => by
      rw [ex, h4] at hq
      cases hq
      exact ws')
    have wm' := w12_x k0 b1 wm
    have fJ : ∀ b, b < E.2.2.2 → ¬ Kg E (x + 1) b → J' b = J b := b7
    have fm : ∀ b, m ≤ b → b ≤ m + 17 → J' b = J b := fun b h1 h2 => fJ b (by omega) (fun hk => (kw_n wx wm i4 i2 (kg_kw hk)).1 ⟨h1, h2⟩)
    have sJ : ∀ b, Kw E w b → J' b = J b := fun b hb => bg_src hx hB0 hb
    have hV' : Vw E' w J' S := vw_R (vwK s1 sJ) r13 r15
    have hVt := bg_vw hx hB0 (by decide)
    obtain ⟨v11, e11, t11⟩ := o_rdI (k := 3) hM8 wt'.1
    rw [v_tim hVt.1] at t11
    have hc : F_X11_restore x M = some (v11, M8) := by
      unfold F_X11_restore
      rw [o_rdS hM wx.1 h4, Option.bind_some]
      simp only [oe]
      rw [o_rdS hM wx.1 wx.2.1.1, Option.bind_some, Option.bind_some, Option.bind_some, Option.bind_some, o_isO hM w10.1, Option.bind_some, e8, Option.bind_some, o_rdS hM8 wx'.1 wx'.2.1.1, Option.bind_some, Option.bind_some, e11, Option.bind_some]
    have hR' : Rf (m + 1) J' S := rE s2 (fm _ (by omega) (by omega))
    obtain ⟨J3, c1, c2, c4⟩ := r_resL (m := m) 8369 1000000 0 J' (by omega) (by omega) (fun j hj => absurd hj (Nat.not_lt_zero j))
    have e1 : J' (m + 2) 1 = S 1 := hR' 1 (by decide) (by decide)
    rw [e1] at c1
    have m3 : J' m 3 = 1 := by rw [fm m (by omega) (by omega)]; exact a1
    have href : H_X12_restore m J' = some (S 1, J3) := by
      unfold H_X12_restore
      rw [m3, if_neg (by decide)]
      exact c1
    obtain ⟨⟨r2, M2⟩, e2, t2, hM2⟩ := h_X12_restore hM8 (this := m) wm' href
    have er : r2 = v11 := Int32.toInt_inj.mp (t2.trans t11.symm)
    subst er
    have nk : ∀ w1 : Nat, W10 E' w1 → (w1 + 31 < m ∨ m + 17 < w1) → ∀ b, Kw E' w1 b → b ≠ m + 1 := fun w1 hw1 hlt b hb e => by
      subst e
      have := kw_st hw1 hb (st_m2 wm' (by omega) (by omega))
      omega
    refine ⟨r2, M8, M2, o_isO hM wx.1, hc, o_isO hM8 wm'.1, e2, E', J3, hM2, wx', wm', kx k0 b1 wo (by decide), b1.1, i2, i3, by rw [b1.2.2.1 o (k0 o io)]; exact io, ?_, by rw [e34]; exact i5, ⟨q0, by rw [e45]; exact k1, ⟨b4, fun j a ha => ?_, fun j hj => ?_⟩, ⟨S, vwK hVt (fun b hb => c4 b (nk _ wt' (by omega) b hb)), fun z z0 z1 => ?_, s3⟩, Or.inr ⟨by rw [c4 m (by omega)]; exact m3, w, by rw [ex]; exact h4, hw, ?_, fun i j a ha1 ha2 => ?_, S, vwK hV' (fun b hb => c4 b (nk _ ws' (by omega) b hb)), rE hR' (c4 _ (by omega)), s3⟩⟩, fun p hp => by rw [c4 _ (by omega), fm _ (by omega) (by omega)]; exact i7 p hp⟩
    · refine sh_fr (sh_E i4 (rs _ (by omega) (by omega) (by omega))) (fun b hb => ?_)
      have hb2 : b ≠ m + 1 ∧ b ≤ m + 17 := by unfold ShA at hb; omega
      rw [c4 b hb2.1]
      exact fJ b (by omega) (fun hk => (kw_n wx wm i4 i2 (kg_kw hk)).2 hb)
    · rcases (b3 j a ha).2 with q | q
      · exact k2.2.1 j a q
      · omega
    · rw [b5 j] at hj
      by_cases e : j < (S 4).toNat
      · rw [if_pos e] at hj; exact p2.2.2 j hj
      · rw [if_neg e] at hj; exact k2.2.2 j hj
    · rw [c2 z.toNat (by omega)]
      exact hR' z z0 z1
    · unfold Wp
      rw [r13, r15]; exact p2
    · rw [r13] at ha2
      rcases (b3 i a ha1).2 with q | q
      · exact cr i j a q ha2
      · have := k0 a (by rw [(w10w.2.2.1.2.2 j a ha2).1]; decide)
        omega
theorem w10_b {n : Nat} {E0 : Em} {J0 : Jm} (h1 : ∀ i k, LWld[i]? = some k → E.1 (n + i) = k) (h2 : ∀ i, i < LWld.length → ∀ k, E.2.1 (n + i) k = (rfd RWld i k).map (n + ·)) : W10 E n ∧ (∀ j, E.2.1 (n + 13) j = none) ∧ ∀ j, E.2.1 (n + 15) j = none := by
  have r13 : ∀ j, E.2.1 (n + 13) j = none := fun j => by rw [h2 13 (by decide) j, rfd_no (by decide)]; rfl
  have r15 : ∀ j, E.2.1 (n + 15) j = none := fun j => by rw [h2 15 (by decide) j, rfd_no (by decide)]; rfl
  refine ⟨⟨h1 0 _ rfl, ⟨(h2 0 (by decide) 0).trans rfl, h1 1 _ rfl, ⟨(h2 1 (by decide) 0).trans rfl, h1 2 _ rfl⟩, ⟨(h2 1 (by decide) 1).trans rfl, h1 3 _ rfl⟩, ⟨(h2 1 (by decide) 2).trans rfl, h1 4 _ rfl⟩, ⟨(h2 1 (by decide) 3).trans rfl, h1 5 _ rfl⟩, ⟨(h2 1 (by decide) 4).trans rfl, h1 6 _ rfl⟩, ⟨(h2 1 (by decide) 5).trans rfl, h1 7 _ rfl, ⟨(h2 7 (by decide) 0).trans rfl, h1 8 _ rfl⟩, ⟨(h2 7 (by decide) 1).trans rfl, h1 9 _ rfl⟩⟩, ⟨(h2 1 (by decide) 6).trans rfl, h1 10 _ rfl, ⟨(h2 10 (by decide) 0).trans rfl, h1 11 _ rfl⟩, ⟨(h2 10 (by decide) 1).trans rfl, h1 12 _ rfl⟩⟩⟩, ⟨(h2 0 (by decide) 1).trans rfl, h1 13 _ rfl, fun j g hg => by rw [r13] at hg; cases hg⟩, ⟨(h2 0 (by decide) 5).trans rfl, h1 14 _ rfl⟩, ⟨(h2 0 (by decide) 6).trans rfl, h1 15 _ rfl, fun j g hg => by rw [r15] at hg; cases hg⟩, ⟨(h2 0 (by decide) 8).trans rfl, h1 16 _ rfl, ⟨(h2 16 (by decide) 1).trans rfl, h1 17 _ rfl⟩, ⟨(h2 16 (by decide) 2).trans rfl, h1 18 _ rfl⟩, ⟨(h2 16 (by decide) 3).trans rfl, h1 19 _ rfl⟩, ⟨(h2 16 (by decide) 4).trans rfl, h1 20 _ rfl⟩⟩, ⟨(h2 0 (by decide) 9).trans rfl, h1 21 _ rfl, ⟨(h2 21 (by decide) 1).trans rfl, h1 22 _ rfl⟩, ⟨(h2 21 (by decide) 2).trans rfl, h1 23 _ rfl⟩, ⟨(h2 21 (by decide) 3).trans rfl, h1 24 _ rfl⟩, ⟨(h2 21 (by decide) 4).trans rfl, h1 25 _ rfl⟩, ⟨(h2 21 (by decide) 5).trans rfl, h1 26 _ rfl⟩, ⟨(h2 21 (by decide) 6).trans rfl, h1 27 _ rfl⟩, ⟨(h2 21 (by decide) 8).trans rfl, h1 28 _ rfl⟩, ⟨(h2 21 (by decide) 9).trans rfl, h1 29 _ rfl⟩, ⟨(h2 21 (by decide) 10).trans rfl, h1 30 _ rfl⟩, ⟨(h2 21 (by decide) 11).trans rfl, h1 31 _ rfl⟩⟩, ⟨(h2 0 (by decide) 10).trans rfl, h1 32 _ rfl⟩⟩, r13, r15⟩
theorem nvp {α β : Type} (x : α) (f : α → β) : nv x f = f x := by unfold nv; rfl
theorem o_wld {M : Mm} (hM : Mre E M J) (k0 : K0 E) : ∃ (M17 : Mm) (E1 : Em) (J1 : Jm), F_X10_init E.2.2.2 (nw M (10 + 7, 0)) = some M17 ∧ Mre E1 M17 J1 ∧ K0 E1 ∧ E.2.2.2 ≤ E1.2.2.2 ∧ W10 E1 E.2.2.2 ∧ (∀ j, E1.2.1 (E.2.2.2 + 13) j = none) ∧ (∀ j, E1.2.1 (E.2.2.2 + 15) j = none) ∧ ∀ b, b < E.2.2.2 → E1.1 b = E.1 b ∧ E1.2.1 b = E.2.1 b ∧ J1 b = J b := by
  have key : Ok (nv (mN M) fun a15 => nv (nw M (10 + 7, 0)) fun M16 => F_X10_init a15 M16) (fun M' => Bld E.2.2.2 LWld RWld [4, 2] VWld E J M') := ok_nw (i := 0) (bld0 hM k0) rfl rfl (fun M16 h => b_wld h)
  obtain ⟨M17, e17, E1, J1, hM17, kE1, n1, h1, h2, -, -, h6⟩ := key
  rw [nvp, nvp, hM.2.2.2.1] at e17
  obtain ⟨w10n, r13, r15⟩ := w10_b (n := E.2.2.2) (E0 := E) (J0 := J) h1 h2
  exact ⟨M17, E1, J1, e17, hM17, kE1, by rw [n1]; exact Nat.le_add_right _ _, w10n, r13, r15, h6⟩
theorem op_28 : Op_28 (RI RelI x m o) x m := by
  rintro M ⟨E, J, hM, wx, wm, wo, hI⟩
  have hI0 := hI
  obtain ⟨k0, i2, i3, io, i4, i5, ⟨q0, k1, k2, k3, k4⟩, i7⟩ := hI
  have hN : m + 18 < E.2.2.2 := by
    have := k0 o io
    omega
  rcases k4 with ⟨a1, a2⟩ | ⟨a1, w, h4, hw, p2, cr, k5⟩
  · obtain ⟨M17, E1, J1, e17, hM17, kE1, hle, w10n, r13, r15, h6⟩ := o_wld hM k0
    obtain ⟨M18, e18, hM18⟩ := o_wrR (k := 4) (v := some E.2.2.2) hM17 ((h6 x (by omega)).1.trans wx.1)
    have X : Xk E (eR E1 x 4 (some E.2.2.2)) := ⟨k0_R kE1, hle, fun b hb => (h6 b hb).1, fun b hb q3 q4 q10 q18 => by rw [eR_n (fun e => q18 (by rw [e, wx.1]))]; exact (h6 b hb).2.1⟩
    have X1 : Xk E1 (eR E1 x 4 (some E.2.2.2)) := ⟨k0_R kE1, Nat.le_refl _, fun _ _ => rfl, fun b hb q3 q4 q10 q18 => eR_n (fun e => q18 (by rw [e, (h6 x (by omega)).1, wx.1]))⟩
    have rs : ∀ b, b < E.2.2.2 → b ≠ x → (eR E1 x 4 (some E.2.2.2)).2.1 b = E.2.1 b := fun b hb hx => by rw [eR_n hx]; exact (h6 b hb).2.1
    have w10 := wx.2.1.2
    have r13' : ∀ j, (eR E1 x 4 (some E.2.2.2)).2.1 (E.2.2.2 + 13) j = none := fun j => by rw [eR_n (by omega)]; exact r13 j
    have r15' : ∀ j, (eR E1 x 4 (some E.2.2.2)).2.1 (E.2.2.2 + 15) j = none := fun j => by rw [eR_n (by omega)]; exact r15 j
    have e13 := rs (x + 1 + 13) (by omega) (by omega)
    have e15 := rs (x + 1 + 15) (by omega) (by omega)
    have e45 := rs (x + 45) (by omega) (by omega)
    have e34 := rs (x + 34) (by omega) (by omega)
    have wx' : W11 (eR E1 x 4 (some E.2.2.2)) x := w11_x k0 X wx i5 (w10_s k0 X w10 e13 e15) (fun q hq => w2_x k0 X (wx.2.2.2.1.2.2.1 q (by rw [← e45]; exact hq))) (fun q hq => wa_x k0 X (wx.2.2.2.1.2.2.2 q (by rw [← e45]; exact hq))) (fun i hi => by rw [eR_o hi, (h6 x (by omega)).2.1]) (fun q hq => by
      rw [eR_s] at hq
      cases hq
      exact w10_s kE1 X1 w10n (eR_n (by omega)) (eR_n (by omega)))
    have wm' := w12_x k0 X wm
    have fJ : ∀ b, b < E.2.2.2 → J1 b = J b := fun b hb => (h6 b hb).2.2
    have hP : RelP x m o E.2.2.2 (eR E1 x 4 (some E.2.2.2)) J1 := by
      refine ⟨k0_R kE1, i2, i3, by rw [X.2.2.1 o (k0 o io)]; exact io, sh_fr (sh_E i4 (rs _ (by omega) (by omega))) (fun b hb => fJ b (by unfold ShA at hb; omega)), by rw [e34]; exact i5, ⟨q0, by rw [e45]; exact k1, ?_, wd_E (wdK k3 (fun b hb => fJ b (kw_lt k0 w10 hb)) (fJ _ (by omega))) e13 e15, eR_s, hN, ⟨fun i j a h => ?_, fun j a h => ?_, fun j h => ?_⟩, fun i j a _ h => ?_⟩, fun p hp => by rw [fJ _ (by omega)]; exact i7 p hp⟩
      · unfold Wp
        rw [e13, e15]; exact k2
      · rw [r13'] at h; cases h
      · rw [r13'] at h; cases h
      · rw [r15'] at h; cases h
      · rw [r13'] at h; cases h
    obtain ⟨r, M1, M2, f1, f2, f3, f4⟩ := img_k hM18 wx' wm' (kx k0 X wo (by decide)) hP
    have hc : F_X11_image x M = some (r, M1) := by
      unfold F_X11_image
      rw [o_rdR hM wx.1, a2, Option.bind_some]
      simp only [jp, oe, nv]
      rw [hM.2.2.2.1, e17, Option.bind_some, e18, Option.bind_some]
      exact f1
    exact ⟨r, M1, M2, o_isO hM wx.1, hc, f2, f3, f4⟩
  · have hP : RelP x m o w E J := ⟨k0, i2, i3, io, i4, i5, ⟨q0, k1, k2, k3, h4, hw, p2, cr⟩, i7⟩
    obtain ⟨r, M1, M2, f1, f2, f3, f4⟩ := img_k hM wx wm wo hP
    have hc : F_X11_image x M = some (r, M1) := by
      unfold F_X11_image
      rw [o_rdS hM wx.1 h4, Option.bind_some]
      exact f1
    exact ⟨r, M1, M2, o_isO hM wx.1, hc, f2, f3, f4⟩
end IMGR
