/-! order -/
section OPO
variable {E : Em} {M : Mm} {x m d n rd q0 tx w b o : Nat} {J J2 : Jm} {S : Int → Int} {z : Int}
/-- the class's world with one ORDER more -/
theorem vw_O {E' : Em} {J' : Jm} {L : List Ru} {T : Int → Int} (k0 : K0 E) (hw : W10 E w) (w2 : W2 E q0) (hnq : ∀ j, E.2.1 (w + 15) j ≠ some q0) (hV : Vw E w J S) (hi : Inv S) (h4 : S 4 < 10) (hn : n ≤ 80) (eg : E'.2.1 (w + 13) = E.2.1 (w + 13)) (eo : E'.2.1 (w + 15) = up1 (E.2.1 (w + 15)) (S 4).toNat (some q0)) (hJ : ∀ b, b < E.2.2.2 → b ≠ w → J' b = J b) (hw0 : J' w = jW J w 7 (S 4 + 1) w) (hp : pText (cT T (n : Int)) (n : Int) 8 0 [] = (true, (n : Int), L)) (hA : Arr J q0 L) (h6 : L.length ≤ 6) (h20 : nCk L ≤ 20) : Vw E' w J' (SO S T (n : Int)) := by
  have hg := i_gli hi
  have hoc := i_orc hi
  have h4' : 0 ≤ S 4 ∧ S 4 < 10 := ⟨hoc.1, h4⟩
  have hn' : 0 ≤ (n : Int) ∧ (n : Int) ≤ 80 := by omega
  have lw : ∀ b, Kw E w b → b < E.2.2.2 := fun b hb => kw_lt k0 hw hb
  have nd0 : dkb (E.1 w) = false := st_w2 hw (Nat.le_refl _) (by omega)
  have lq : ∀ i, i ≤ 8 → q0 + i < E.2.2.2 := fun i hi => k0 _ (fun h0 => by
    have s := dk_o w2 i hi
    generalize E.1 (q0 + i) = kk at s h0
    unfold okb at s
    simp only [Bool.or_eq_true, beq_iff_eq] at s
    rcases s with ((s | s) | s) | s <;> rw [s] at h0 <;> cases h0)
  have qw : ∀ i, i ≤ 8 → q0 + i ≠ w := fun i hi e => tf (ok_dk (dk_o w2 i hi)) (by rw [e]; exact nd0)
  refine ⟨?_, fun g g0 g1 => ?_, fun k p0 p1 => ?_⟩
  · have h1 : Vs w (jW J w 7 (S 4 + 1)) (zU S 4 (S 4 + 1)) := vW_orc hV.1
    have h2 : Vs w J' (zU S 4 (S 4 + 1)) := vE h1 (fun b b1 b2 => by
      by_cases e : b = w
      · subst e; exact hw0
      · rw [hJ b (lw b (Or.inl ⟨b1, b2⟩)) e, jW_ne e])
    refine vs_hi h2 (fun z hz => ?_)
    by_cases e : z = 4
    · subst e; rw [so_4, zU_at]
    · rw [so_lo h4' (by omega) e, zU_ne e]
  · rw [so_lo h4' (by omega) (by omega)] at g1
    obtain ⟨c, hc, hC⟩ := hV.2.1 g g0 g1
    have wc := hw.2.2.1.2.2 _ _ hc
    have gk := dk_g wc
    have n1 : c ≠ w := fun e => tf (gk_dk gk.1) (by rw [e]; exact nd0)
    have n2 : c + 1 ≠ w := fun e => tf (gk_dk gk.2) (by rw [e]; exact nd0)
    refine ⟨c, by rw [eg]; exact hc, gv_E ⟨g0, by omega⟩ hC (hJ _ (lw c (Or.inr (Or.inl ⟨_, _, hc, Or.inl rfl⟩))) n1) (hJ _ (lw (c + 1) (Or.inr (Or.inl ⟨_, _, hc, Or.inr rfl⟩))) n2) (fun y hy => so_lo h4' (by unfold gPl at hy; omega) (by unfold gPl at hy; omega))⟩
  · rw [so_4] at p1
    by_cases e : k = S 4
    · subst e
      refine ⟨q0, by rw [eo, up1_s], L, ?_, ?_, h6, h20⟩
      · rw [oT_n h4' hn', so_len h4' hn']; exact hp
      · have hE : ∀ i : Nat, i ≤ 8 → J' (q0 + i) = J (q0 + i) := fun i hi => hJ _ (lq i hi) (qw i hi)
        exact ⟨by rw [show J' q0 = J q0 from hE 0 (by omega)]; exact hA.1, aRul_E hE L 0 0 hA.2⟩
    · obtain ⟨q, hq, hO⟩ := hV.2.2 k p0 (by omega)
      refine ⟨q, by rw [eo, up1_n _ _ (by omega)]; exact hq, ?_⟩
      rw [oT_o hi h4' hn' ⟨p0, by omega⟩, so_len2 h4' hn' ⟨p0, e⟩]
      have wq := hw.2.2.2.2.1.2.2 _ _ hq
      exact OrdA_E (fun i hi => hJ _ (lw _ (Or.inr (Or.inr ⟨_, _, _, hq, hi, rfl⟩))) (fun e => tf (ok_dk (dk_o wq i hi)) (by rw [e]; exact nd0))) hO
theorem op_10 : Op_10 (RI RelI x m o) x m := by
  rintro M a1 ⟨E, J, hM, wx, wm, wo, hI⟩
  have hI0 := hI
  obtain ⟨k0, i2, i3, io, i4, i5, ⟨q0, k1, k2, ⟨S, s1, s2, s3⟩, k4⟩, i7⟩ := hI
  have hoc := i_orc s3
  by_cases hz : 0 ≤ a1.toInt ∧ a1.toInt < 8
  · obtain ⟨d, hz1, hd⟩ := q_nat hz
    have hd : d < 8 := by omega
    obtain ⟨⟨v3, M1⟩, e1, t1, hM1, -⟩ := h_X11_shelfAt hM wx hz1 (sA_in i4 hd)
    dsimp only at t1 hM1
    subst t1
    have w8 := wx.2.2.2.2.1.2.2 _ _ (i4 d hd).1
    have w10 := wx.2.1.2
    obtain ⟨v7, e7, t7⟩ := o_rdI (k := 7) hM1 w10.1
    rw [v_orc s1.1] at t7
    have hzr : 0 ≤ (d : Int) ∧ (d : Int) ≤ 7 := by omega
    by_cases h10 : S 4 < 10
    · obtain ⟨⟨v11, M9⟩, e9, t9, hM9⟩ := h_X8_refusesAsText hM1 w8 (c_ra i4 hd)
      dsimp only at t9 hM9
      by_cases hl : ltX (J (m + 9) d) (J (m + 14) d) = 0
      · have h2 := (i4 d hd).2.2.2.1
        obtain ⟨n, hn, hn80⟩ := q_nat (z := J (m + 15) d) (n := 81) (by omega)
        have hn80 : n ≤ 80 := by omega
        have ht : Wa E (x + 57 + 2 * d + 1) := ⟨by rw [w8.2.2], by rw [w8.2.2]; decide⟩
        obtain ⟨X, wx'⟩ := w11_R wx k0 i5 (fun w' hw => by have := kp_lt hI0 w' hw; omega) ht
        have wm' := w12_x k0 X wm
        obtain ⟨v15, e15, t15⟩ := o_rdI (k := 2) hM9 w8.1
        obtain ⟨J1, u1, u2, u3, u4⟩ := o_scan hM9 wx hI0 hd k1 (n := n) hn80 hn (p2 := v15) (by rw [t15, h2.1, hn]) wx'
        obtain ⟨⟨v20, M18⟩, e18, t18, hM18⟩ := u1
        dsimp only at t18 hM18
        have hI1 := rel_R (v := some (x + 57 + 2 * d + 1)) (rel_q wx wm hI0 k1 u4)
        have w2 := wx.2.2.2.1.2.2.1 _ k1
        have em : ∀ b, m ≤ b → b ≤ m + 17 → J1 b = J b := fun b b1 b2 => u4 b (by omega) (nd_q w2 (st_m2 wm b1 b2))
        have ecx : ∀ J9 : Jm, (∀ b, m + 9 ≤ b → b ≤ m + 17 → J9 b = J b) → cX J9 m d = cX J m d := fun J9 h9 => by unfold cX; rw [h9 _ (by omega) (by omega), h9 _ (by omega) (by omega)]
        have hcommon : F_X11_order x a1 M = (if v20 = (-4) then
            (rdR M18 x 11 0).bind fun v22 =>
            v22.bind fun a23 =>
            (rdR M18 a23 10 6).bind fun v24 =>
            (rdR M18 x 11 0).bind fun v25 =>
            v25.bind fun a26 =>
            (rdI M18 a26 10 7).bind fun v27 =>
            (rdR M18 x 11 2).bind fun v28 =>
            v28.bind fun a29 =>
            (isO M18 a29 3).bind fun _ =>
            (F_X3_handOver a29 M18).bind fun (v32, M30) =>
            v24.bind fun a34 =>
            v32.bind fun a35 =>
            (stR M30 a34 4 2 v27 a35).bind fun M33 =>
            (rdR M33 x 11 0).bind fun v36 =>
            v36.bind fun a37 =>
            (rdI M33 a37 10 7).bind fun v38 =>
            (wrI M33 a37 10 7 (v38 + 1)).bind fun M39 =>
            some (v38, M39)
          else
            some (((-100) - v20), M18)) := by
          unfold F_X11_order
          rw [o_isO hM wx.1, Option.bind_some, e1, Option.bind_some]
          simp only [oe]
          rw [o_rdS hM1 wx.1 wx.2.1.1, Option.bind_some, Option.bind_some, e7, Option.bind_some, if_pos ((c_lt t7 (b := 10) (B := 10) rfl).mpr h10), o_isO hM1 w8.1, Option.bind_some, e9, Option.bind_some]
          dsimp only
          rw [if_pos ((c_eq t9 (b := 0) (B := 0) rfl).mpr hl), o_rdS hM9 wx.1 wx.2.2.2.1.1, Option.bind_some, o_rdS hM9 w8.1 w8.2.1, Option.bind_some, e15, Option.bind_some, Option.bind_some, Option.bind_some, o_isO hM9 wx.2.2.2.1.2.1, Option.bind_some, e18, Option.bind_some]
        have hS1 := rel_S hI1
        obtain ⟨S1, p1, p2, p3⟩ := rel_now hI1
        have kk0 : K0 (eR E (x + 45) 1 (some (x + 57 + 2 * d + 1))) := k0_R k0
        by_cases hp : (pText (cX J m d) (n : Int) 8 0 []).1 = true
        · rw [if_pos hp] at t18
          obtain ⟨c1, c2, c3, c4⟩ := u2 hp
          -- the state after the scan is S as before
          have s1' : Vw (eR E (x + 45) 1 (some (x + 57 + 2 * d + 1))) (x + 1) J1 S := vw_R (vwK s1 (fun b hb => u4 b (kw_rd wx w10 (by omega) hb) (kw_q w10 w2 k2.2.2 hb))) (eR_n (by omega)) (eR_n (by omega))
          have w10' := wx'.2.1.2
          have w3' := wx'.2.2.2.1.2
          have kq' : (eR E (x + 45) 1 (some (x + 57 + 2 * d + 1))).2.1 (x + 45) 0 = some q0 := by rw [eR_o (by decide)]; exact k1
          have w2' := w2_x k0 X w2
          obtain ⟨⟨v32, M30⟩, e30, t30, E2, J2, hM30, X2, wn, kn, kn1, kn2, kn3⟩ := o_hand hM18 kk0 w3' kq'
          dsimp only at t30 hM30
          subst t30
          generalize hE1 : eR E (x + 45) 1 (some (x + 57 + 2 * d + 1)) = E1 at *
          have hN : m + 18 < E1.2.2.2 := by
            have h9 : (E1.1 o).1 ≠ 0 := hI1.2.2.2.1
            have := kk0 o h9
            omega
          obtain ⟨v27, e27, t27⟩ := o_rdI (k := 7) hM18 w10'.1
          rw [v_orc s1'.1] at t27
          have a15 : E2.1 (x + 1 + 15) = (4, 10) := (X2.2.2.1 _ (by omega)).trans w10'.2.2.2.2.1.2.1
          have aq : E2.1 q0 = (2 + 7, 0) := (X2.2.2.1 _ (kk0 _ (by rw [w2'.1]; decide))).trans w2'.1
          obtain ⟨M33, e33, hM33⟩ := o_stR (e := 2) (c := q0) hM30 a15 t27 (by omega) aq
          have ax : E2.1 x = (11 + 7, 0) := (X2.2.2.1 _ (by omega)).trans wx'.1
          have aw : E2.1 (x + 1) = (10 + 7, 0) := (X2.2.2.1 _ (by omega)).trans w10'.1
          obtain ⟨v38, e38, t38⟩ := o_rdI (k := 7) hM33 aw
          rw [kn3 _ (by omega), v_orc s1'.1] at t38
          obtain ⟨M39, e39, hM39⟩ := o_wrI (k := 7) hM33 aw (v := v38 + 1) (z := S 4 + 1) (by rw [t_add t38 (t_n 1 (by decide)), wr_id (by omega)]; rfl) rfl
          have hcl : F_X11_order x a1 M = some (v38, M39) := by
            rw [hcommon, if_pos ((c_eq t18 (b := -4) (B := -4) rfl).mpr rfl), o_rdS hM18 wx'.1 wx'.2.1.1, Option.bind_some, Option.bind_some, o_rdS hM18 w10'.1 w10'.2.2.2.2.1.1, Option.bind_some, Option.bind_some, Option.bind_some, e27, Option.bind_some, o_rdS hM18 wx'.1 wx'.2.2.2.1.1, Option.bind_some, Option.bind_some, o_isO hM18 w3'.1, Option.bind_some, e30, Option.bind_some]
            dsimp only
            rw [Option.bind_some, Option.bind_some, e33, Option.bind_some, o_rdS hM33 (k := 0) (c := x + 1) ax (by rw [eR_n (by omega), kn2 _ (by omega) (by omega)]; exact wx'.2.1.1), Option.bind_some, Option.bind_some, e38, Option.bind_some, e39, Option.bind_some]
          generalize hE3 : eR E2 (x + 1 + 15) (S 4).toNat (some q0) = E3 at *
          have r3 : ∀ b, b ≠ x + 1 + 15 → E3.2.1 b = E2.2.1 b := fun b hb => by rw [← hE3]; exact eR_n hb
          have k3' : E3.1 = E2.1 := by rw [← hE3]; rfl
          have n3' : E3.2.2.2 = E2.2.2.2 := by rw [← hE3]; rfl
          have r16 : E3.2.1 (x + 1 + 15) = up1 (E1.2.1 (x + 1 + 15)) (S 4).toNat (some q0) := by
            rw [← hE3]
            show up1 E2.2.1 (x + 1 + 15) (up1 (E2.2.1 (x + 1 + 15)) (S 4).toNat (some q0)) (x + 1 + 15) = _
            rw [up1_s, kn2 _ (by omega) (by omega)]
          have hX3 : Xk E1 E3 := ⟨fun a ha => by rw [n3']; rw [k3'] at ha; exact X2.1 a ha, by rw [n3']; exact X2.2.1, fun b hb => by rw [k3']; exact X2.2.2.1 b hb, fun b hb q3 q4 q10 q18 => by rw [r3 b (fun e => q4 (by rw [e, w10'.2.2.2.2.1.2.1]))]; exact X2.2.2.2 b hb q3 q4 q10 q18⟩
          have hX23 : Xk E2 E3 := ⟨hX3.1, by rw [n3']; exact Nat.le_refl _, fun b _ => by rw [k3'], fun b hb q3 q4 q10 q18 => r3 b (fun e => q4 (by rw [e, a15]))⟩
          have wn3 : W2 E3 E1.2.2.2 := w2_x X2.1 hX23 wn
          have rold : ∀ b, b < E1.2.2.2 → b ≠ x + 45 → b ≠ x + 1 + 15 → E3.2.1 b = E1.2.1 b := fun b h1 h2 h3 => by rw [r3 b h3, kn2 b h1 h2]
          have r45 : E3.2.1 (x + 45) 0 = some E1.2.2.2 := by rw [r3 _ (by omega)]; exact kn
          have r451 : E3.2.1 (x + 45) 1 = E1.2.1 (x + 45) 1 := by rw [r3 _ (by omega)]; exact kn1 1 (by decide)
          have ord3 : ∀ j c, E3.2.1 (x + 1 + 15) j = some c → c = q0 ∨ E1.2.1 (x + 1 + 15) j = some c := fun j c hc => by
            rw [r16] at hc
            by_cases e : j = (S 4).toNat
            · subst e; rw [up1_s] at hc; cases hc; exact Or.inl rfl
            · rw [up1_n _ _ e] at hc; exact Or.inr hc
          have k13 : E3.2.1 (x + 1 + 13) = E1.2.1 (x + 1 + 13) := rold _ (by omega) (by omega) (by omega)
          have ex : E3.2.1 x = E1.2.1 x := rold _ (by omega) (by omega) (by omega)
          have e34 : E3.2.1 (x + 34) = E1.2.1 (x + 34) := rold _ (by omega) (by omega) (by omega)
          have kr : ∀ w', E1.2.1 x 4 = some w' → E3.2.1 (w' + 13) = E1.2.1 (w' + 13) ∧ E3.2.1 (w' + 15) = E1.2.1 (w' + 15) := fun w' hw => by
            have w10k := wx'.2.2.2.2.2 w' hw
            have hlt := kp_lt hI1 w' hw
            exact ⟨rold _ (kk0 _ (by rw [w10k.2.2.1.2.1]; decide)) (by omega) (by omega), rold _ (kk0 _ (by rw [w10k.2.2.2.2.1.2.1]; decide)) (by omega) (by omega)⟩
          have w10'' : W10 E3 (x + 1) := w10_x kk0 hX3 w10' (fun j c hc => w0_x kk0 hX3 (w10'.2.2.1.2.2 j c (by rw [← k13]; exact hc))) (fun j c hc => by
            rcases ord3 j c hc with e | e
            · rw [e]; exact w2_x kk0 hX3 w2'
            · exact w2_x kk0 hX3 (w10'.2.2.2.2.1.2.2 j c e))
          have hI1p := hI1.2.2.2.2.2.1
          have wx'' : W11 E3 x := w11_x kk0 hX3 wx' hI1p w10'' (fun q hq => by
            rw [r45] at hq; cases hq; exact wn3) (fun q hq => by
            rw [r451] at hq; exact wa_x kk0 hX3 (w3'.2.2 q hq)) (fun i _ => by rw [ex]) (fun q hq => by
            rw [ex] at hq
            exact w10_s kk0 hX3 (wx'.2.2.2.2.2 q hq) (kr q hq).1 (kr q hq).2)
          have wm'' := w12_x kk0 hX3 wm'
          have J3n : ∀ b, b < E1.2.2.2 → b ≠ x + 1 → (jW J2 (x + 1) 7 (S 4 + 1)) b = J1 b := fun b hb h1 => by rw [jW_ne h1, kn3 b hb]
          have J3m : ∀ b, m ≤ b → b ≤ m + 17 → (jW J2 (x + 1) 7 (S 4 + 1)) b = J b := fun b b1 b2 => by rw [J3n b (by omega) (by omega), em b b1 b2]
          obtain ⟨K5, K7, g1, g2, g3, g4, g5, g6, g7⟩ := r_look (m := m) (J := jW J2 (x + 1) 7 (S 4 + 1)) hd (n := n) hn80 (by rw [J3m _ (by omega) (by omega)]; exact hn)
          rw [ecx _ (fun b b1 b2 => J3m b (by omega) b2)] at g2 g3
          have hR7 : Rf m K7 S := rE s2 (by rw [g6 _ (by omega) (by omega), J3m _ (by omega) (by omega)])
          have hR21 := rW (v := (n : Int)) hR7 (z := 8359 + S 4) (by omega)
          have hT0 : tO (zU S (8359 + S 4) (n : Int)) (S 4) (fun i => J (m + 16) (80 * d + i.toNat)) ((0 : Nat) : Int) = zU S (8359 + S 4) (n : Int) := by
            funext z
            unfold tO
            rw [if_neg (by omega)]
          obtain ⟨K9, f1, f2, f3⟩ := r_o81 (m := m) (S := S) (T := fun i => J (m + 16) (80 * d + i.toNat)) ⟨hoc.1, h10⟩ hn80 n 1000000 0 (jW K7 (m + 1) (8359 + S 4).toNat (n : Int)) (by omega) (by omega) (by rw [jW_ne (by omega)]; exact g4) (by rw [hT0]; exact hR21) (fun j hj => by rw [jW_ne (by omega), g5 j hj, J3m _ (by omega) (by omega)]; rfl)
          have href : H_X12_order m (d : Int) (jW J2 (x + 1) 7 (S 4 + 1)) = some (S 4, K9) := by
            unfold H_X12_order
            rw [isq, Option.bind_some, z01, if_pos hzr, rL (rE s2 (J3m _ (by omega) (by omega))) (by omega) (by omega), Option.bind_some, if_neg (show ¬ S 4 = 10 by omega), r_lt hd, Option.bind_some, J3m _ (by omega) (by omega), J3m _ (by omega) (by omega), hl, if_pos rfl, g1, Option.bind_some, g2, Option.bind_some]
            dsimp only
            rw [if_pos hp, if_neg (show ¬ (1 : Int) = 0 by decide), wr_id (z := 8359 + S 4) (by omega), zS (by omega) (by omega), Option.bind_some, g4]
            exact f1
          obtain ⟨⟨r2, MM⟩, e2, t2, hMM⟩ := h_X12_order hM39 (this := m) wm'' hz1 href
          have er : r2 = v38 := Int32.toInt_inj.mp (t2.trans t38.symm)
          subst er
          have fin : ∀ b, b ≠ m → b ≠ m + 1 → b ≠ m + 3 → K9 b = (jW J2 (x + 1) 7 (S 4 + 1)) b := fun b b1 b2 b3 => by rw [f3 b b2, jW_ne b2, g6 b b1 b3]
          have hS3 : Shs x m E3 J1 := sh_E hS1 (rold _ (by omega) (by omega) (by omega))
          have hV3 : Vw E3 (x + 1) (jW J2 (x + 1) 7 (S 4 + 1)) (SO S (fun i => J (m + 16) (80 * d + i.toNat)) (n : Int)) := by
            refine vw_O (L := (pText (cX J m d) (n : Int) 8 0 []).2.2) kk0 w10' w2' (fun j hj => k2.2.2 j (by rw [← hE1, eR_n (by omega)] at hj; exact hj)) s1' s3 h10 hn80 k13 r16 (fun b hb h1 => J3n b hb h1) ?_ ?_ c2 c3 c4
            · funext k
              by_cases e : k = 7
              · subst e; rw [jW_at, jW_at]
              · rw [jW_of e, jW_of e, kn3 _ (by omega)]
            · have ec : cX J m d = cT (fun i => J (m + 16) (80 * d + i.toNat)) (n : Int) := by unfold cX; rw [hn]
              rw [← ec]
              exact Prod.ext hp (Prod.ext c1 rfl)
          obtain ⟨_, _, _, _, _, _, ⟨q1, kk1, kk2, kk3, kk4⟩, kk7⟩ := hI1
          have eq1 : q1 = q0 := by rw [kq'] at kk1; cases kk1; rfl
          subst eq1
          have m3 : K9 m 3 = J m 3 := by rw [f3 m (by omega), jW_ne (by omega), g7, J3m m (by omega) (by omega)]
          have m31 : J1 m 3 = J m 3 := by rw [em m (by omega) (by omega)]
          refine ⟨r2, M39, MM, o_isO hM wx.1, hcl, o_isO hM39 wm''.1, e2, E3, K9, hMM, wx'', wm'', kx kk0 hX3 (by rw [← hE1]; exact wo) (by decide), hX3.1, i2, i3, by rw [hX3.2.2.1 o (by omega), ← hE1]; exact io, sh_fr hS3 (fun b hb => ?_), by rw [e34]; exact hI1p, ⟨E1.2.2.2, r45, ⟨by rw [k13]; exact kk2.1, by rw [k13]; exact kk2.2.1, fun j hj => ?_⟩, ⟨_, vwK hV3 (fun b hb => fin b (by have := (kw_n wx'' wm'' hS3 i2 hb).1; omega) (by have := (kw_n wx'' wm'' hS3 i2 hb).1; omega) (by have := (kw_n wx'' wm'' hS3 i2 hb).1; omega)), f2, inv_O s3 h10 (by omega)⟩, ?_⟩, fun p hp => by rw [fin _ (by omega) (by omega) (by omega), J3m _ (by omega) (by omega)]; exact i7 p hp⟩
          · have hb2 : b ≠ x + 1 ∧ b ≠ m ∧ b ≠ m + 1 ∧ b ≠ m + 3 ∧ b < m + 18 := by unfold ShA at hb; omega
            rw [fin b hb2.2.1 hb2.2.2.1 hb2.2.2.2.1, J3n b (by omega) hb2.1]
          · rcases ord3 j _ hj with e | e
            · have := kk0 q1 (by rw [w2'.1]; decide)
              omega
            · have := kk0 _ (by rw [(w10'.2.2.2.2.1.2.2 j _ e).1]; decide)
              omega
          · refine kp_x kk0 wx' wm' hS1 i2 kk4 (by rw [ex]) kr (fun i c hc => Or.inl (by rw [← k13]; exact hc)) (Or.inr (Nat.le_refl _)) (m3.trans m31.symm) (by rw [fin _ (by omega) (by omega) (by omega), J3m _ (by omega) (by omega), em _ (by omega) (by omega)]) (fun b b1 b2 b3 b4 b5 => ?_)
            rw [fin b (by omega) (by omega) (by omega), J3n b b1 (by omega)]
        · rw [if_neg hp] at t18
          have hv : v20.toInt ≠ -4 := by rw [t18]; omega
          have hcl : F_X11_order x a1 M = some ((-100) - v20, M18) := by
            rw [hcommon, if_neg (fun q => hv ((c_eq (A := v20.toInt) rfl (b := -4) (B := -4) rfl).mp q))]
          obtain ⟨J5, J7, g1, g2, g3, g4, g5, g6, g7⟩ := r_look (m := m) (J := J1) hd (n := n) hn80 (by rw [em _ (by omega) (by omega)]; exact hn)
          rw [ecx _ (fun b b1 b2 => em b (by omega) b2)] at g2 g3
          have href : H_X12_order m (d : Int) J1 = some (wr (-100 - (pText (cX J m d) (n : Int) 8 0 []).2.1), J7) := by
            unfold H_X12_order
            rw [isq, Option.bind_some, z01, if_pos hzr, rL (rE s2 (em _ (by omega) (by omega))) (by omega) (by omega), Option.bind_some, if_neg (show ¬ S 4 = 10 by omega), r_lt hd, Option.bind_some, em _ (by omega) (by omega), em _ (by omega) (by omega), hl, if_pos rfl, g1, Option.bind_some, g2, Option.bind_some]
            dsimp only
            rw [if_neg hp, if_pos rfl, g3]
          obtain ⟨⟨r2, M2⟩, e2, t2, hM2⟩ := h_X12_order hM18 (this := m) wm' hz1 href
          have er : r2 = (-100) - v20 := Int32.toInt_inj.mp (by rw [t2, t_sub (a := -100) (A := -100) rfl t18])
          subst er
          have hJ7 : RelI x m o (eR E (x + 45) 1 (some (x + 57 + 2 * d + 1))) J7 := rel_fr wx' wm' hI1 (fun b b1 b2 b3 => g6 b (by omega) (by omega)) g7 (fun p hp => by rw [g6 _ (by omega) (by omega), em _ (by omega) (by omega)]; exact i7 p hp) ⟨S1, vwK p1 (fun b hb => g6 b (by have := (kw_n wx' wm' hS1 i2 hb).1; omega) (by have := (kw_n wx' wm' hS1 i2 hb).1; omega)), rE p2 (g6 _ (by omega) (by omega)), p3⟩
          exact ⟨_, M18, M2, o_isO hM wx.1, hcl, o_isO hM18 wm'.1, e2, _, J7, hM2, wx', wm', wo, hJ7⟩
      · have href : H_X12_order m (d : Int) J = some (ltX (J (m + 9) d) (J (m + 14) d), J) := by
          unfold H_X12_order
          rw [isq, Option.bind_some, z01, if_pos hzr, rL s2 (by omega) (by omega), Option.bind_some, if_neg (show ¬ S 4 = 10 by omega), r_lt hd, Option.bind_some, if_neg hl, Option.bind_some]
        obtain ⟨⟨r2, M2⟩, e2, t2, hM2⟩ := h_X12_order hM9 (this := m) wm hz1 href
        have er : r2 = v11 := Int32.toInt_inj.mp (t2.trans t9.symm)
        subst er
        have hc : F_X11_order x a1 M = some (r2, M9) := by
          unfold F_X11_order
          rw [o_isO hM wx.1, Option.bind_some, e1, Option.bind_some]
          simp only [oe]
          rw [o_rdS hM1 wx.1 wx.2.1.1, Option.bind_some, Option.bind_some, e7, Option.bind_some, if_pos ((c_lt t7 (b := 10) (B := 10) rfl).mpr h10), o_isO hM1 w8.1, Option.bind_some, e9, Option.bind_some]
          dsimp only
          rw [if_neg (fun q => hl ((c_eq t9 (b := 0) (B := 0) rfl).mp q))]
        exact ⟨r2, M9, M2, o_isO hM wx.1, hc, o_isO hM9 wm.1, e2, E, J, hM2, wx, wm, wo, hI0⟩
    · have href : H_X12_order m (d : Int) J = some (-2, J) := by
        unfold H_X12_order
        rw [isq, Option.bind_some, z01, if_pos hzr, rL s2 (by omega) (by omega), Option.bind_some, if_pos (show S 4 = 10 by omega)]
      obtain ⟨⟨r2, M2⟩, e2, t2, hM2⟩ := h_X12_order hM1 (this := m) wm hz1 href
      have er : r2 = -2 := Int32.toInt_inj.mp t2
      subst er
      have hc : F_X11_order x a1 M = some (-2, M1) := by
        unfold F_X11_order
        rw [o_isO hM wx.1, Option.bind_some, e1, Option.bind_some]
        simp only [oe]
        rw [o_rdS hM1 wx.1 wx.2.1.1, Option.bind_some, Option.bind_some, e7, Option.bind_some, if_neg (fun q => h10 ((c_lt t7 (b := 10) (B := 10) rfl).mp q))]
      exact ⟨-2, M1, M2, o_isO hM wx.1, hc, o_isO hM1 wm.1, e2, E, J, hM2, wx, wm, wo, hI0⟩
  · obtain ⟨⟨v3, M1⟩, e1, t1, hM1, -⟩ := h_X11_shelfAt hM wx rfl (sA_out hz)
    dsimp only at t1 hM1
    subst t1
    have href : H_X12_order m a1.toInt J = some (-1, J) := by
      unfold H_X12_order
      rw [isq, Option.bind_some, z01, if_neg (by omega)]
    obtain ⟨⟨r2, M2⟩, e2, t2, hM2⟩ := h_X12_order hM1 (this := m) wm rfl href
    have er : r2 = -1 := Int32.toInt_inj.mp t2
    subst er
    have hc : F_X11_order x a1 M = some (-1, M1) := by
      unfold F_X11_order
      rw [o_isO hM wx.1, Option.bind_some, e1, Option.bind_some]
      rfl
    exact ⟨-1, M1, M2, o_isO hM wx.1, hc, o_isO hM1 wm.1, e2, E, J, hM2, wx, wm, wo, hI0⟩
end OPO
