/-! element: the law's case -/
theorem mre_ext {E : Em} {M MA : Mm} {J : Jm} (hM : Mre E M J) (h1 : mK MA = mK M) (h2 : mR MA = mR M) (h3 : mI MA = mI M) : Mre (E.1, E.2.1, mL MA, mN MA) MA J := ⟨h1.trans hM.1, h2.trans hM.2.1, rfl, rfl, by rw [h3]; exact hM.2.2.2.2⟩
theorem stL_q {M : Mm} {o : Nat} {v : Int64} (h : mK M o = (6, 1)) : stL M o 0 v = some (sL M o 0 v) := by
  unfold stL
  rw [h, if_pos ⟨rfl, by decide⟩]
  rfl
theorem ldL_q {M : Mm} {o : Nat} (h : mK M o = (6, 1)) : ldL M o 0 = some (mL M o 0) := by
  unfold ldL
  rw [h, if_pos ⟨rfl, by decide⟩]
  rfl
theorem sL_at {M : Mm} {o : Nat} {v : Int64} : mL (sL M o 0 v) o 0 = v := by
  show up1 (mL M) o _ o 0 = v
  unfold up1
  rw [if_pos rfl]
  first | rfl | (rw [if_pos rfl])
theorem lift_34 {I : Iv} {x m o : Nat} (hp : Pu_34 I x m o) : Op_34 (RI I x m o) x m o := by
  rintro M a1 a2 ⟨E, J, hM, wx, wm, wo, hI⟩
  obtain ⟨k, r, J2, hk, h1, h2, h3, r1, r2, hI2⟩ := hp E J wx wm hI a1.toInt a2.toInt (i32_r a1) (i32_r a2)
  obtain ⟨⟨k', v, M1⟩, e1, hkk, t1, hM1⟩ := h_X11_element hM wx rfl rfl h1
  dsimp only at hkk t1 hM1
  subst hkk
  have ho : mK M1 o = (6, 1) := by rw [hM1.1]; exact wo
  have key : ∃ (kk : Int32) (MA : Mm), F_L_element x a1 a2 o M = some (kk, MA) ∧ kk.toInt = (k' : Int) ∧ mK MA = mK M1 ∧ mR MA = mR M1 ∧ mI MA = mI M1 ∧ (kk = 0 → mL MA o 0 = v) := by
    unfold F_L_element
    rw [o_isO hM wx.1, Option.bind_some, e1, Option.bind_some]
    dsimp only
    by_cases c0 : k' = 0
    · subst c0
      exact ⟨0, sL M1 o 0 v, by rw [if_pos rfl, stL_q ho]; rfl, rfl, rfl, rfl, rfl, fun _ => sL_at⟩
    · by_cases c1 : k' = 1
      · subst c1
        exact ⟨1, M1, by rw [if_neg c0, if_pos rfl], rfl, rfl, rfl, rfl, fun h => absurd h (by decide)⟩
      · have c2 : k' = 2 := by omega
        subst c2
        exact ⟨2, M1, by rw [if_neg c0, if_neg c1, if_pos rfl], rfl, rfl, rfl, rfl, fun h => absurd h (by decide)⟩
  obtain ⟨kk, MA, f1, f2, g1, g2, g3, g4⟩ := key
  refine ⟨kk, MA, f1, fun j => ?_⟩
  have hMA := mre_jk (mre_ext hM1 g1 g2 g3) j
  obtain ⟨⟨v2, M2⟩, e2, t2, hM2⟩ := h_X12_element hMA (this := m) wm rfl rfl h2
  obtain ⟨⟨v3, M3⟩, e3, t3, hM3⟩ := h_X12_thrown hM2 (this := m) wm (show H_X12_thrown m J2 = some (J2 m 0) from rfl)
  dsimp only at t2 t3 hM2 hM3
  have ek : v3 = kk := Int32.toInt_inj.mp (by rw [t3, h3, f2])
  subst ek
  have ev : v2 = v := Int64.toInt_inj.mp (t2.trans t1.symm)
  subst ev
  refine ⟨v2, M2, M3, o_isO hMA wm.1, e2, o_isO hM2 wm.1, e3, ⟨_, J2, hM3, wx, wm, wo, hI2 _ rfl rfl⟩, fun hz => ?_⟩
  have ho3 : mK M3 o = (6, 1) := by rw [hM3.1]; exact wo
  rw [ldL_q ho3, hM3.2.2.1]
  exact congrArg some (g4 hz)
