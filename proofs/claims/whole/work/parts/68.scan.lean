/-! THE READER'S SCAN -/
def KS (rd : Nat) (M22 : Mm) : Option (Int32 × Mm) :=
  (rdR M22 rd 3 0).bind fun v23 =>
  v23.bind fun a24 =>
  (rdI M22 a24 2 0).bind fun v25 =>
  if v25 ≤ 0 then
    (rdI M22 rd 3 3).bind fun v27 =>
    some (v27, M22)
  else
    some (((-4) : Int32), M22)
section SCAN
variable {E : Em} {M : Mm} {x m d n rd q0 tx w b o : Nat} {J J2 : Jm} {z : Int}
theorem h_scanL (w3 : W3 E rd) : ∀ (fu : Nat) (x3 : Int32) (ix : Int) (M : Mm) (J : Jm), x3.toInt = ix → Mre E M J → H_X3_scanL E rd fu ix J = some (z, J2) → Ok (F_X3_scan_L38 (KS rd) rd fu x3 M) (fun q => q.1.toInt = z ∧ Mre E q.2 J2)
  | 0, _, _, _, _, _, _, h => by cases h
  | fu + 1, x3, ix, M, J, tx, hM, h => by
    obtain ⟨v12, e12, t12⟩ := o_rdI (k := 3) hM w3.1
    obtain ⟨v13, e13, t13⟩ := o_rdI (k := 2) hM w3.1
    rw [H_X3_scanL] at h
    rw [F_X3_scan_L38]
    refine ok_b e12 (ok_b e13 ?_)
    by_cases c1 : J rd 2 ≤ J rd 3
    · rw [if_pos c1] at h
      replace h := ob h; obtain ⟨a, ha, h⟩ := h
      obtain ⟨v25, e25, t25⟩ := o_rdI (k := 0) hM (w3.2.1 a ha).1
      refine ok_t ((c_le t13 t12).mpr c1) ?_
      unfold KS
      refine ok_b (o_rdS hM w3.1 ha) (ok_s (ok_b e25 ?_))
      by_cases c2 : J a 0 ≤ 0
      · rw [if_pos c2] at h
        cases h
        exact ok_t ((c_le t25 (b := 0) (B := 0) rfl).mpr c2) (ok_b e12 ⟨_, rfl, t12, hM⟩)
      · rw [if_neg c2] at h
        cases h
        exact ok_f (fun q => c2 ((c_le t25 (b := 0) (B := 0) rfl).mp q)) ⟨_, rfl, rfl, hM⟩
    · rw [if_neg c1] at h
      refine ok_f (fun q => c1 ((c_le t13 t12).mp q)) ?_
      by_cases c2 : 6 ≤ ix
      · rw [if_pos c2] at h
        cases h
        exact ok_t ((c_le (a := 6) (A := 6) rfl tx).mpr c2) (ok_b e12 ⟨_, rfl, t12, hM⟩)
      · rw [if_neg c2] at h
        refine ok_f (fun q => c2 ((c_le (a := 6) (A := 6) rfl tx).mp q)) (ok_b (o_isO hM w3.1) ?_)
        replace h := ob h; obtain ⟨⟨zr, J1⟩, hr, h⟩ := h
        obtain ⟨⟨v19, M17⟩, e19, t19, hM17⟩ := h_X3_takeRule hM w3 hr
        dsimp only at t19 hM17 h
        refine ok_b e19 ?_
        by_cases c3 : zr = 0
        · rw [if_pos c3] at h
          cases h
          obtain ⟨v21, e21, t21⟩ := o_rdI (k := 3) hM17 w3.1
          exact ok_t ((c_eq t19 (b := 0) (B := 0) rfl).mpr c3) (ok_b e21 ⟨_, rfl, t21, hM17⟩)
        · rw [if_neg c3] at h
          refine ok_f (fun q => c3 ((c_eq t19 (b := 0) (B := 0) rfl).mp q)) ?_
          exact h_scanL w3 fu (x3 + 1) _ M17 J1 (t_add tx (t_n 1 (by decide))) hM17 h
theorem o_scan (hM : Mre E M J) (wx : W11 E x) (hI : RelI x m o E J) (hd : d < 8) (hq0 : E.2.1 (x + 45) 0 = some q0) (hn : n ≤ 80) (h15 : J (m + 15) d = (n : Int)) {p2 : Int32} (t2 : p2.toInt = (n : Int)) (w11 : W11 (eR E (x + 45) 1 (some (x + 57 + 2 * d + 1))) x) : ∃ J2, Ok (F_X3_scan (x + 45) (x + 57 + 2 * d + 1) p2 M) (fun q => q.1.toInt = (if (pText (cX J m d) (n : Int) 8 0 []).1 = true then -4 else (pText (cX J m d) (n : Int) 8 0 []).2.1) ∧ Mre (eR E (x + 45) 1 (some (x + 57 + 2 * d + 1))) q.2 J2) ∧ ((pText (cX J m d) (n : Int) 8 0 []).1 = true → (pText (cX J m d) (n : Int) 8 0 []).2.1 = (n : Int) ∧ Arr J2 q0 (pText (cX J m d) (n : Int) 8 0 []).2.2 ∧ (pText (cX J m d) (n : Int) 8 0 []).2.2.length ≤ 6 ∧ nCk (pText (cX J m d) (n : Int) 8 0 []).2.2 ≤ 20) ∧ (0 ≤ (pText (cX J m d) (n : Int) 8 0 []).2.1 ∧ (pText (cX J m d) (n : Int) 8 0 []).2.1 ≤ (n : Int)) ∧ ∀ b, b ≠ x + 45 → (b < q0 ∨ q0 + 8 < b) → J2 b = J b := by
  have hS := rel_S hI
  have w3 := w11.2.2.2.1.2
  have w8 := wx.2.2.2.2.1.2.2 _ _ (hS d hd).1
  have w2 := wx.2.2.2.1.2.2.1 _ hq0
  have hq1 : (eR E (x + 45) 1 (some (x + 57 + 2 * d + 1))).2.1 (x + 45) 0 = some q0 := by rw [eR_o (by decide)]; exact hq0
  have nrd : x + 45 < q0 ∨ q0 + 8 < x + 45 := nd_q w2 (st_x wx (by omega) (by omega))
  have ntx : x + 57 + 2 * d + 1 < q0 ∨ q0 + 8 < x + 57 + 2 * d + 1 := nd_q w2 (st_s wx hS (by omega) (by omega))
  have hc : Cn (cX J m d) (n : Int) := by
    refine ⟨by omega, fun p hp => ?_⟩
    unfold cX cT at hp
    rw [h15] at hp
    by_cases e : 0 ≤ p ∧ p < (n : Int)
    · exact e
    · rw [if_neg e] at hp; exact absurd rfl hp
  obtain ⟨M1, e1, hM1⟩ := o_wrR (k := 1) (v := some (x + 57 + 2 * d + 1)) hM wx.2.2.2.1.2.1
  obtain ⟨v2, e2, s2⟩ := o_lnI hM1 (a := x + 57 + 2 * d + 1) w8.2.2 (by decide) (n := 80) rfl
  obtain ⟨M3, e3, hM3⟩ := o_wrI (k := 2) hM1 w3.1 (v := mnI p2 v2) (z := (n : Int)) (by rw [t_mn t2 s2]; unfold mnZ; rw [if_neg (by omega)]) rfl
  obtain ⟨M4, e4, hM4⟩ := o_wrI (k := 3) hM3 w3.1 (v := 0) (z := 0) rfl rfl
  obtain ⟨M7, e7, hM7⟩ := o_wrI (k := 0) hM4 (w3.2.1 q0 hq1).1 (v := 0) (z := 0) rfl rfl
  obtain ⟨M10, e10, hM10⟩ := o_wrI (k := 1) hM7 (w3.2.1 q0 hq1).1 (v := 0) (z := 0) rfl rfl
  have hRd : Rdr (eR E (x + 45) 1 (some (x + 57 + 2 * d + 1))) (x + 45) q0 (x + 57 + 2 * d + 1) (cX J m d) (n : Int) := ⟨hc, hq1, eR_s, by show (n : Int) ≤ ((E.1 (x + 57 + 2 * d + 1)).2 : Int); rw [w8.2.2]; dsimp only; omega, nrd, ntx, by omega⟩
  have hRm : Rdm (jW (jW (jW (jW J (x + 45) 2 (n : Int)) (x + 45) 3 0) q0 0 0) q0 1 0) (x + 45) (x + 57 + 2 * d + 1) (cX J m d) (n : Int) 0 := by
    refine ⟨by rw [jW_ne (by omega), jW_ne (by omega), jW_of (by decide), jW_at], by rw [jW_ne (by omega), jW_ne (by omega), jW_at], by omega, fun i i0 i1 => ?_⟩
    rw [jW_ne (by omega), jW_ne (by omega), jW_ne (by omega), jW_ne (by omega), (hS d hd).2.2.2.2.2.2.2.2 i.toNat (by omega)]
    unfold cX cT
    rw [h15, if_pos ⟨i0, i1⟩]
  obtain ⟨J2, a1, a2, a3, a4⟩ := k_text hRd 8 1000000 0 _ [] hRm ⟨by rw [jW_of (by decide), jW_at]; rfl, by rw [jW_at]; rfl, trivial, trivial⟩ (by decide) (by decide) (by decide) (by decide)
  refine ⟨J2, ?_, a2, a3, fun b h1 h2 => by rw [a4 b h1 h2, jW_ne (by omega), jW_ne (by omega), jW_ne h1, jW_ne h1]⟩
  rw [show (([] : List Ru).length : Int) = 0 from rfl] at a1
  have b := h_scanL w3 1000000 0 0 M10 _ rfl hM10 a1
  unfold F_X3_scan
  exact ok_b e1 (ok_b e2 (ok_b e3 (ok_b e4 (ok_b (o_rdS hM4 w3.1 hq1) (ok_s (ok_b e7 (ok_b (o_rdS hM7 w3.1 hq1) (ok_s (ok_b e10 b)))))))))
/-- what a shelf says when its text is asked for: both sides -/
theorem c_ra (hS : Shs x m E J) (hd : d < 8) : H_X8_refusesAsText (x + 57 + 2 * d) J = some (ltX (J (m + 9) d) (J (m + 14) d)) := by
  obtain ⟨s0, ⟨e0, l0⟩, ⟨e1, l1⟩, s2⟩ := hS d hd
  unfold H_X8_refusesAsText ltX
  rw [e0, e1]
  split
  · rfl
  · split
    · split <;> rfl
    · rfl
theorem kp_lt {o : Nat} (hI : RelI x m o E J) : ∀ w', E.2.1 x 4 = some w' → m + 18 < w' := by
  obtain ⟨i1, i2, i3, io, i4, i5, ⟨q0, k1, k2, k3, k4⟩, i7⟩ := hI
  intro w' hw
  rcases k4 with ⟨a1, a2⟩ | ⟨a1, w2, a2, a3, -⟩
  · rw [a2] at hw; cases hw
  · rw [a2] at hw; cases hw; exact a3
theorem op_9 : Op_9 (RI RelI x m o) x m := by
  rintro M a1 ⟨E, J, hM, wx, wm, wo, hI⟩
  have hI0 := hI
  obtain ⟨k0, i2, i3, io, i4, i5, ⟨q0, k1, k2, k3, k4⟩, i7⟩ := hI
  by_cases hz : 0 ≤ a1.toInt ∧ a1.toInt < 8
  · obtain ⟨d, hz1, hd⟩ := q_nat hz
    have hd : d < 8 := by omega
    obtain ⟨⟨v3, M1⟩, e1, t1, hM1, -⟩ := h_X11_shelfAt hM wx hz1 (sA_in i4 hd)
    dsimp only at t1 hM1
    subst t1
    have w8 := wx.2.2.2.2.1.2.2 _ _ (i4 d hd).1
    obtain ⟨⟨v7, M5⟩, e5, t5, hM5⟩ := h_X8_refusesAsText hM1 w8 (c_ra i4 hd)
    dsimp only at t5 hM5
    by_cases hl : ltX (J (m + 9) d) (J (m + 14) d) = 0
    · have h2 := (i4 d hd).2.2.2.1
      obtain ⟨n, hn, hn80⟩ := q_nat (z := J (m + 15) d) (n := 81) (by omega)
      have ht : Wa E (x + 57 + 2 * d + 1) := ⟨by rw [w8.2.2], by rw [w8.2.2]; decide⟩
      obtain ⟨X, wx'⟩ := w11_R wx k0 i5 (fun w' hw => by have := kp_lt hI0 w' hw; omega) ht
      have wm' := w12_x k0 X wm
      obtain ⟨v11, e11, t11⟩ := o_rdI (k := 2) hM5 w8.1
      obtain ⟨J1, s1, s2, s3, s4⟩ := o_scan hM5 wx hI0 hd k1 (n := n) (by omega) hn (p2 := v11) (by rw [t11, h2.1, hn]) wx'
      obtain ⟨⟨v16, M14⟩, e14, t14, hM14⟩ := s1
      dsimp only at t14 hM14
      have hI1 := rel_R (v := some (x + 57 + 2 * d + 1)) (rel_q wx wm hI0 k1 s4)
      have w2 := wx.2.2.2.1.2.2.1 _ k1
      have em : ∀ b, m ≤ b → b ≤ m + 17 → J1 b = J b := fun b b1 b2 => s4 b (by omega) (nd_q w2 (st_m2 wm b1 b2))
      have ecx : cX J1 m d = cX J m d := by unfold cX; rw [em _ (by omega) (by omega), em _ (by omega) (by omega)]
      obtain ⟨J5, J7, g1, g2, g3, g4, g5, g6, g7⟩ := r_look (m := m) (J := J1) hd (n := n) (by omega) (by rw [em _ (by omega) (by omega)]; exact hn)
      rw [ecx] at g2 g3
      have href : H_X12_fault m (d : Int) J1 = some (if (pText (cX J m d) (n : Int) 8 0 []).1 = true then -4 else (pText (cX J m d) (n : Int) 8 0 []).2.1, J7) := by
        unfold H_X12_fault
        rw [r_lt hd, Option.bind_some, em _ (by omega) (by omega), em _ (by omega) (by omega), hl, if_pos rfl, g1, Option.bind_some, g2, Option.bind_some]
        dsimp only
        by_cases hp : (pText (cX J m d) (n : Int) 8 0 []).1 = true
        · rw [if_pos hp, if_pos hp, if_neg (show ¬ (1 : Int) = 0 by decide)]
        · rw [if_neg hp, if_neg hp, if_pos rfl, g3]
      obtain ⟨⟨r2, M2⟩, e2, t2, hM2⟩ := h_X12_fault hM14 (this := m) wm' hz1 href
      have er : r2 = v16 := Int32.toInt_inj.mp (t2.trans t14.symm)
      subst er
      have hc : F_X11_fault x a1 M = some (r2, M14) := by
        unfold F_X11_fault
        rw [o_isO hM wx.1, Option.bind_some, e1, Option.bind_some]
        simp only [oe]
        rw [o_isO hM1 w8.1, Option.bind_some, e5, Option.bind_some]
        dsimp only
        rw [if_pos ((c_eq t5 (b := 0) (B := 0) rfl).mpr hl), o_rdS hM5 wx.1 wx.2.2.2.1.1, Option.bind_some, o_rdS hM5 w8.1 w8.2.1, Option.bind_some, e11, Option.bind_some, Option.bind_some, Option.bind_some, o_isO hM5 wx.2.2.2.1.2.1, Option.bind_some, e14, Option.bind_some]
      have hJ7 : RelI x m o (eR E (x + 45) 1 (some (x + 57 + 2 * d + 1))) J7 := by
        obtain ⟨S, u1, u2, u3⟩ := rel_now hI1
        have hS1 := rel_S hI1
        exact rel_fr wx' wm' hI1 (fun b b1 b2 b3 => g6 b (by omega) (by omega)) g7 (fun p hp => by rw [g6 _ (by omega) (by omega), em _ (by omega) (by omega)]; exact i7 p hp) ⟨S, vwK u1 (fun b hb => g6 b (by have := (kw_n wx' wm' hS1 i2 hb).1; omega) (by have := (kw_n wx' wm' hS1 i2 hb).1; omega)), rE u2 (g6 _ (by omega) (by omega)), u3⟩
      exact ⟨r2, M14, M2, o_isO hM wx.1, hc, o_isO hM14 wm'.1, e2, _, J7, hM2, wx', wm', wo, hJ7⟩
    · have href : H_X12_fault m (d : Int) J = some (ltX (J (m + 9) d) (J (m + 14) d), J) := by
        unfold H_X12_fault
        rw [r_lt hd, Option.bind_some, if_neg hl, Option.bind_some]
      obtain ⟨⟨r2, M2⟩, e2, t2, hM2⟩ := h_X12_fault hM5 (this := m) wm hz1 href
      have er : r2 = v7 := Int32.toInt_inj.mp (t2.trans t5.symm)
      subst er
      have hc : F_X11_fault x a1 M = some (r2, M5) := by
        unfold F_X11_fault
        rw [o_isO hM wx.1, Option.bind_some, e1, Option.bind_some]
        simp only [oe]
        rw [o_isO hM1 w8.1, Option.bind_some, e5, Option.bind_some]
        dsimp only
        rw [if_neg (fun q => hl ((c_eq t5 (b := 0) (B := 0) rfl).mp q))]
      exact ⟨r2, M5, M2, o_isO hM wx.1, hc, o_isO hM5 wm.1, e2, E, J, hM2, wx, wm, wo, hI0⟩
  · obtain ⟨⟨v3, M1⟩, e1, t1, hM1, -⟩ := h_X11_shelfAt hM wx rfl (sA_out hz)
    dsimp only at t1 hM1
    subst t1
    have href : H_X12_fault m a1.toInt J = some (-1, J) := by
      unfold H_X12_fault
      rw [r_lt0 (by omega), Option.bind_some, if_neg (by decide), Option.bind_some]
    obtain ⟨⟨r2, M2⟩, e2, t2, hM2⟩ := h_X12_fault hM1 (this := m) wm rfl href
    have er : r2 = -1 := Int32.toInt_inj.mp t2
    subst er
    have hc : F_X11_fault x a1 M = some (-1, M1) := by
      unfold F_X11_fault
      rw [o_isO hM wx.1, Option.bind_some, e1, Option.bind_some]
      rfl
    exact ⟨-1, M1, M2, o_isO hM wx.1, hc, o_isO hM1 wm.1, e2, E, J, hM2, wx, wm, wo, hI0⟩
end SCAN
