/-! read: the law's case -/
def Pu_19 (I : Iv) (x m o : Nat) : Prop := ∀ (E : Em) (J : Jm), W11 E x → W12 E m → I x m o E J → ∀ z1 z2 : Int, (-2147483648 ≤ z1 ∧ z1 ≤ 2147483647) → (z2 = 0 ∨ z2 = 1) → ∃ (k : Nat) (r : Int) (J2 : Jm), k ≤ 1 ∧ H_X11_read x z1 z2 J = some (k, r) ∧ H_X12_read m z1 z2 J = some (r, J2) ∧ J2 m 0 = (k : Int) ∧ ∀ E2 : Em, E2.1 = E.1 → E2.2.1 = E.2.1 → I x m o E2 J2
theorem lift_19 {I : Iv} {x m o : Nat} (hp : Pu_19 I x m o) : Op_19 (RI I x m o) x m o := by
  rintro M a1 a2 ⟨E, J, hM, wx, wm, wo, hI⟩
  obtain ⟨k, r, J2, hk, h1, h2, h3, hI2⟩ := hp E J wx wm hI a1.toInt (bz a2).toInt (i32_r a1) (bz_r a2)
  obtain ⟨⟨k', v, M1⟩, e1, hkk, t1, hM1⟩ := h_X11_read hM wx rfl rfl h1
  dsimp only at hkk t1 hM1
  subst hkk
  have ho : mK M1 o = (6, 1) := by rw [hM1.1]; exact wo
  have key : ∃ (kk : Int32) (MA : Mm), F_L_read x a1 (bz a2) o M = some (kk, MA) ∧ kk.toInt = (k' : Int) ∧ mK MA = mK M1 ∧ mR MA = mR M1 ∧ mI MA = mI M1 ∧ (kk = 0 → mL MA o 0 = v) := by
    unfold F_L_read
    rw [o_isO hM wx.1, Option.bind_some, e1, Option.bind_some]
    dsimp only
    by_cases c0 : k' = 0
    · subst c0
      exact ⟨0, sL M1 o 0 v, by rw [if_pos rfl, stL_q ho]; rfl, rfl, rfl, rfl, rfl, fun _ => sL_at⟩
    · have c1 : k' = 1 := by omega
      subst c1
      exact ⟨1, M1, by rw [if_neg c0, if_pos rfl], rfl, rfl, rfl, rfl, fun h => absurd h (by decide)⟩
  obtain ⟨kk, MA, f1, f2, g1, g2, g3, g4⟩ := key
  refine ⟨kk, MA, f1, fun j => ?_⟩
  have hMA := mre_jk (mre_ext hM1 g1 g2 g3) j
  obtain ⟨⟨v2, M2⟩, e2, t2, hM2⟩ := h_X12_read hMA (this := m) wm rfl rfl h2
  obtain ⟨⟨v3, M3⟩, e3, t3, hM3⟩ := h_X12_thrown hM2 (this := m) wm (show H_X12_thrown m J2 = some (J2 m 0) from rfl)
  dsimp only at t2 t3 hM2 hM3
  have ek : v3 = kk := Int32.toInt_inj.mp (by rw [t3, h3, f2])
  subst ek
  have ev : v2 = v := Int64.toInt_inj.mp (t2.trans t1.symm)
  subst ev
  refine ⟨v2, M2, M3, o_isO hMA wm.1, e2, o_isO hM2 wm.1, e3, ⟨_, J2, hM3, wx, wm, wo, hI2 _ rfl rfl⟩, fun hz => ?_⟩
  have ho3 : mK M3 o = (6, 1) := by rw [hM3.1]; exact wo
  rw [ldL_q ho3, hM3.2.2.1]
  exact congrArg some (g4 hz)
