/-! THE CASES THAT ARE LIFTED -/
section CASES
variable {x m o : Nat}
theorem rel_now {E : Em} {J : Jm} (hI : RelI x m o E J) : ∃ S, Vw E (x + 1) J S ∧ Rf m J S ∧ Inv S := by
  obtain ⟨i1, i2, i3, io, i4, i5, ⟨q0, k1, k2, k3, k4⟩, i7⟩ := hI
  exact k3
theorem rel_m {E : Em} {J : Jm} (hI : RelI x m o E J) : m = x + 73 := hI.2.1
theorem rel_S {E : Em} {J : Jm} (hI : RelI x m o E J) : Shs x m E J := hI.2.2.2.2.1
theorem pu_3 : Pu_3 RelI x m o := fun E J wx wm hI z1 z2 z3 z4 r1 r2 r3 r4 => by
  obtain ⟨S, s1, s2, s3⟩ := rel_now hI
  obtain ⟨r, a, b⟩ := q3 wx s1 s2 z1 z2 z3 z4
  exact ⟨r, a, b, hI⟩
theorem pu_5 : Pu_5 RelI x m o := fun E J wx wm hI z1 z2 r1 r2 => by
  obtain ⟨S, s1, s2, s3⟩ := rel_now hI
  obtain ⟨r, a, b⟩ := q5 s1 s3 s2 z1 z2
  exact ⟨r, a, b, hI⟩
theorem pu_6 : Pu_6 RelI x m o := fun E J wx wm hI z1 z2 r1 r2 => by
  obtain ⟨S, s1, s2, s3⟩ := rel_now hI
  obtain ⟨r, a, b⟩ := q6 s1 s3 s2 z1 z2 r2
  exact ⟨r, a, b, hI⟩
theorem pu_12 : Pu_12 RelI x m o := fun E J wx wm hI z1 r1 => by
  obtain ⟨S, s1, s2, s3⟩ := rel_now hI
  obtain ⟨r, a, b⟩ := q12 s1 s3 s2 z1
  exact ⟨r, a, b, hI⟩
theorem pu_16 : Pu_16 RelI x m o := fun E J wx wm hI z1 z2 r1 r2 => by
  obtain ⟨S, s1, s2, s3⟩ := rel_now hI
  obtain ⟨r, a, b⟩ := q16 s1 s3 s2 z1 z2
  exact ⟨r, a, b, hI⟩
theorem pu_18 : Pu_18 RelI x m o := fun E J wx wm hI z1 z2 r1 r2 => by
  obtain ⟨S, s1, s2, s3⟩ := rel_now hI
  obtain ⟨r, a, b⟩ := q18 s1 s3 s2 z1 z2
  exact ⟨r, a, b, hI⟩
theorem pu_23 : Pu_23 RelI x m o := fun E J wx wm hI z1 r1 => by
  obtain ⟨S, s1, s2, s3⟩ := rel_now hI
  obtain ⟨r, a, b⟩ := q23 s1 s3 s2 z1
  exact ⟨r, a, b, hI⟩
theorem pu_25 : Pu_25 RelI x m o := fun E J wx wm hI z1 r1 => by
  obtain ⟨S, s1, s2, s3⟩ := rel_now hI
  obtain ⟨r, a, b⟩ := q25 s1 s3 s2 z1
  exact ⟨r, a, b, hI⟩
theorem pu_26 : Pu_26 RelI x m o := fun E J wx wm hI   => by
  obtain ⟨S, s1, s2, s3⟩ := rel_now hI
  obtain ⟨r, a, b⟩ := q26 s1 s3 s2 
  exact ⟨r, a, b, hI⟩
theorem pu_30 : Pu_30 RelI x m o := fun E J wx wm hI z1 r1 => by
  obtain ⟨S, s1, s2, s3⟩ := rel_now hI
  obtain ⟨r, a, b⟩ := q30 s1 s3 s2 z1
  exact ⟨r, a, b, hI⟩
theorem pu_0 : Pu_0 RelI x m o := fun E J wx wm hI z1 z2 z3 z4 r1 r2 r3 r4 => comb wx wm hI (D := fun Jr => H_X12_sea m z1 z2 z3 z4 Jr) (fun S Jr sp ag ao s1 s3 s2 hz => b0 wx sp s1 s3 s2 z1 z2 z3 z4 r1 r2)
theorem pu_1 : Pu_1 RelI x m o := fun E J wx wm hI z1 z2 z3 z4 z5 z6 r1 r2 r3 r4 r5 r6 => comb wx wm hI (D := fun Jr => H_X12_stream m z1 z2 z3 z4 z5 z6 Jr) (fun S Jr sp ag ao s1 s3 s2 hz => b1 sp s1 s3 s2 z1 z2 z3 z4 z5 z6 r6)
theorem pu_2 : Pu_2 RelI x m o := fun E J wx wm hI z1 z2 z3 z4 r1 r2 r3 r4 => comb wx wm hI (D := fun Jr => H_X12_salt m z1 z2 z3 z4 Jr) (fun S Jr sp ag ao s1 s3 s2 hz => b2 wx sp s1 s3 s2 z1 z2 z3 z4 )
theorem pu_7 : Pu_7 RelI x m o := fun E J wx wm hI z1 z2 r1 r2 => comb wx wm hI (D := fun Jr => H_X12_leak m z1 z2 Jr) (fun S Jr sp ag ao s1 s3 s2 hz => b7 sp s1 s3 s2 z1 z2 r2)
theorem pu_8 : Pu_8 RelI x m o := fun E J wx wm hI z1 z2 z3 z4 r1 r2 r3 r4 => comb wx wm hI (D := fun Jr => H_X12_dive m z1 z2 z3 z4 Jr) (fun S Jr sp ag ao s1 s3 s2 hz => bc_8 sp s1 s3 s2 z1 z2 z3 z4 r3 r4)
theorem pu_11 : Pu_11 RelI x m o := fun E J wx wm hI z1 z2 r1 r2 => comb wx wm hI (D := fun Jr => H_X12_letter m z1 z2 Jr) (fun S Jr sp ag ao s1 s3 s2 hz => b11 sp s1 s3 s2 z1 z2 )
theorem pu_13 : Pu_13 RelI x m o := fun E J wx wm hI z1 z2 r1 r2 => comb wx wm hI (D := fun Jr => H_X12_deaf m z1 z2 Jr) (fun S Jr sp ag ao s1 s3 s2 hz => b13 wx sp s1 s3 s2 z1 z2 )
theorem pu_15 : Pu_15 RelI x m o := fun E J wx wm hI z1 r1 => comb wx wm hI (D := fun Jr => H_X12_times m z1 Jr) (fun S Jr sp ag ao s1 s3 s2 hz => b15 sp s1 s3 s2 z1 )
theorem pu_17 : Pu_17 RelI x m o := fun E J wx wm hI z1 z2 r1 r2 => comb wx wm hI (D := fun Jr => H_X12_clean m z1 z2 Jr) (fun S Jr sp ag ao s1 s3 s2 hz => b17 sp s1 s3 s2 z1 z2 )
theorem pu_20 : Pu_20 RelI x m o := fun E J wx wm hI z1 r1 => comb wx wm hI (D := fun Jr => H_X12_plan m z1 Jr) (fun S Jr sp ag ao s1 s3 s2 hz => b20 wx hI.2.2.2.2.2.1.1 hI.2.2.2.2.2.1.2 ag ao s1 s3 s2 hz z1 )
theorem pu_21 : Pu_21 RelI x m o := fun E J wx wm hI z1 z2 r1 r2 => comb wx wm hI (D := fun Jr => H_X12_planned m z1 z2 Jr) (fun S Jr sp ag ao s1 s3 s2 hz => b21 wx hI.2.2.2.2.2.1.1 hI.2.2.2.2.2.1.2 ag ao s1 s3 s2 hz z1 z2 )
theorem pu_22 : Pu_22 RelI x m o := fun E J wx wm hI z1 z2 z3 z4 r1 r2 r3 r4 => comb wx wm hI (D := fun Jr => H_X12_ends m z1 z2 z3 z4 Jr) (fun S Jr sp ag ao s1 s3 s2 hz => b22 sp ag ao s1 s3 s2 z1 z2 z3 z4 r3 r4)
theorem pu_24 : Pu_24 RelI x m o := fun E J wx wm hI z1 z2 r1 r2 => comb wx wm hI (D := fun Jr => H_X12_ship m z1 z2 Jr) (fun S Jr sp ag ao s1 s3 s2 hz => b24 sp s1 s3 s2 z1 z2 )
theorem pu_27 : Pu_27 RelI x m o := fun E J wx wm hI z1 r1 => comb wx wm hI (D := fun Jr => H_X12_fetch m z1 Jr) (fun S Jr sp ag ao s1 s3 s2 hz => b27 sp s1 s3 s2 z1 )
theorem pu_14 : Pu_14 RelI x m o := fun E J wx wm hI z1 r1 => by
  obtain ⟨S, s1, s2, s3⟩ := rel_now hI
  have gm := hI
  obtain ⟨i1, i2, i3, io, i4, i5, ⟨q0, k1, k2, k3, k4⟩, i7⟩ := gm
  obtain ⟨r, J2, a, b, c, d⟩ := bc_14 (x := x) (m := m) s1 s3 s2 z1
  exact ⟨r, J2, a, b, rel_fr wx wm hI (fun b b1 b2 b3 => d.1 b (by omega)) d.2.1 (d.2.2 i7) ⟨S, vwK s1 (fun b hb => d.1 b (by have := (kw_n wx wm i4 i2 hb).1; omega)), c, s3⟩⟩
theorem pu_31 : Pu_31 RelI x m o := fun E J wx wm hI z1 z2 z3 r1 r2 r3 => by
  obtain ⟨S, s1, s2, s3⟩ := rel_now hI
  have gm := hI
  obtain ⟨i1, i2, i3, io, i4, i5, ⟨q0, k1, k2, k3, k4⟩, i7⟩ := gm
  obtain ⟨r, J1, J2, a, b, c, d⟩ := pu31 (x := x) (m := m) (by omega) i4 s1 s3 s2 (fun j a ha => Nat.le_of_lt (k2.2.1 j a ha)) z1 z2 z3
  exact ⟨r, J1, J2, a, b, rel_sh wx wm hI c d⟩
theorem pu_32 : Pu_32 RelI x m o := fun E J wx wm hI z1 z2 z3 r1 r2 r3 => by
  have hm := rel_m hI
  obtain ⟨r, J1, J2, a, b, c, d⟩ := pu32 (x := x) (m := m) (by omega) (fun d hd => by
    have w8 := wx.2.2.2.2.1.2.2 _ _ (rel_S hI d hd).1
    rw [w8.2.2]) (rel_S hI) z1 z2 z3
  exact ⟨r, J1, J2, a, b, rel_sh wx wm hI c d⟩
theorem pu_33 : Pu_33 RelI x m o := fun E J wx wm hI z1 z2 z3 r1 r2 r3 => by
  have hm := rel_m hI
  obtain ⟨r, J1, J2, a, b, c, d⟩ := pu33 (x := x) (m := m) (by omega) (rel_S hI) z1 z2 z3
  exact ⟨r, J1, J2, a, b, rel_sh wx wm hI c d⟩
theorem pu_35 : Pu_35 RelI x m o := fun E J wx wm hI z1 z2 z3 z4 z5 r1 r2 r3 r4 r5 => by
  have hm := rel_m hI
  obtain ⟨r, J1, J2, a, b, c, d⟩ := pu35 (x := x) (m := m) (by omega) (rel_S hI) z1 z2 z3 z4 z5 r5
  exact ⟨r, J1, J2, a, b, rel_sh wx wm hI c d⟩
theorem pu_36 : Pu_36 RelI x m o := fun E J wx wm hI z1 r1 => by
  obtain ⟨r, a, b⟩ := pu36 (x := x) (m := m) (rel_S hI) z1
  exact ⟨r, a, b, hI⟩
theorem pu_37 : Pu_37 RelI x m o := fun E J wx wm hI z1 r1 => by
  obtain ⟨r, a, b⟩ := pu37 (x := x) (m := m) (rel_S hI) z1
  exact ⟨r, a, b, fun j => rel_E hI rfl rfl (Nat.le_add_right _ _)⟩
/-- what was thrown may be another -/
theorem rel_0 {E : Em} {J : Jm} {v : Int} (wx : W11 E x) (wm : W12 E m) (hI : RelI x m o E J) : RelI x m o E (jW J m 0 v) := by
  have gm := hI
  obtain ⟨i1, i2, i3, io, i4, i5, ⟨q0, k1, k2, ⟨S, s1, s2, s3⟩, k4⟩, i7⟩ := gm
  exact rel_fr wx wm hI (fun b b1 b2 b3 => jW_ne (by omega)) (jW_of (by decide)) (fun p hp => by rw [jW_ne (by omega)]; exact i7 p hp) ⟨S, vwK s1 (fun b hb => jW_ne (by have := (kw_n wx wm i4 i2 hb).1; omega)), rN s2 (by omega), s3⟩
end CASES
theorem op_34 {x m o : Nat} : Op_34 (RI RelI x m o) x m o := by
  rintro M a1 a2 ⟨E, J, hM, wx, wm, wo, hI⟩
  obtain ⟨k, r, hk, h1, h2⟩ := pu34 (x := x) (m := m) (rel_S hI) a1.toInt a2.toInt (i32_r a2)
  have h3 : jW J m 0 (k : Int) m 0 = (k : Int) := jW_at
  obtain ⟨⟨k', v, M1⟩, e1, hkk, t1, hM1⟩ := h_X11_element hM wx rfl rfl h1
  dsimp only at hkk t1 hM1
  subst hkk
  have ho : mK M1 o = (6, 1) := by rw [hM1.1]; exact wo
  have key : ∃ (kk : Int32) (MA : Mm), F_L_element x a1 a2 o M = some (kk, MA) ∧ kk.toInt = (k' : Int) ∧ mK MA = mK M1 ∧ mR MA = mR M1 ∧ mI MA = mI M1 ∧ mN MA = mN M1 ∧ (kk = 0 → mL MA o 0 = v) := by
    unfold F_L_element
    rw [o_isO hM wx.1, Option.bind_some, e1, Option.bind_some]
    dsimp only
    by_cases c0 : k' = 0
    · subst c0
      exact ⟨0, sL M1 o 0 v, by rw [if_pos rfl, stL_q ho]; rfl, rfl, rfl, rfl, rfl, rfl, fun _ => sL_at⟩
    · by_cases c1 : k' = 1
      · subst c1
        exact ⟨1, M1, by rw [if_neg c0, if_pos rfl], rfl, rfl, rfl, rfl, rfl, fun h => absurd h (by decide)⟩
      · have c2 : k' = 2 := by omega
        subst c2
        exact ⟨2, M1, by rw [if_neg c0, if_neg c1, if_pos rfl], rfl, rfl, rfl, rfl, rfl, fun h => absurd h (by decide)⟩
  obtain ⟨kk, MA, f1, f2, g1, g2, g3, g5, g4⟩ := key
  refine ⟨kk, MA, f1, fun j => ?_⟩
  have hMA := mre_jk (mre_ext hM1 g1 g2 g3) j
  obtain ⟨⟨v2, M2⟩, e2, t2, hM2⟩ := h_X12_element hMA (this := m) wm rfl rfl h2
  obtain ⟨⟨v3, M3⟩, e3, t3, hM3⟩ := h_X12_thrown hM2 (this := m) wm (show H_X12_thrown m (jW J m 0 (k' : Int)) = some ((jW J m 0 (k' : Int)) m 0) from rfl)
  dsimp only at t2 t3 hM2 hM3
  have ek : v3 = kk := Int32.toInt_inj.mp (by rw [t3, h3, f2])
  subst ek
  have ev : v2 = v := Int64.toInt_inj.mp (t2.trans t1.symm)
  subst ev
  refine ⟨v2, M2, M3, o_isO hMA wm.1, e2, o_isO hM2 wm.1, e3, ⟨_, _, hM3, wx, wm, wo, rel_0 (x := x) (m := m) wx wm (rel_E hI rfl rfl (by
    show E.2.2.2 ≤ mN MA + j
    rw [g5, hM1.2.2.2.1]; exact Nat.le_add_right _ _))⟩, fun hz => ?_⟩
  have ho3 : mK M3 o = (6, 1) := by rw [hM3.1]; exact wo
  rw [ldL_q ho3, hM3.2.2.1]
  exact congrArg some (g4 hz)
theorem op_19 {x m o : Nat} : Op_19 (RI RelI x m o) x m o := by
  rintro M a1 a2 ⟨E, J, hM, wx, wm, wo, hI⟩
  obtain ⟨S, s1, s2, s3⟩ := rel_now hI
  obtain ⟨k, r, J2, hk, h1, h2, h3, h4⟩ := q19 (x := x) (m := m) s1 s3 s2 a1.toInt (bz a2).toInt (bz_r a2)
  obtain ⟨⟨k', v, M1⟩, e1, hkk, t1, hM1⟩ := h_X11_read hM wx rfl rfl h1
  dsimp only at hkk t1 hM1
  subst hkk
  have ho : mK M1 o = (6, 1) := by rw [hM1.1]; exact wo
  have key : ∃ (kk : Int32) (MA : Mm), F_L_read x a1 (bz a2) o M = some (kk, MA) ∧ kk.toInt = (k' : Int) ∧ mK MA = mK M1 ∧ mR MA = mR M1 ∧ mI MA = mI M1 ∧ mN MA = mN M1 ∧ (kk = 0 → mL MA o 0 = v) := by
    unfold F_L_read
    rw [o_isO hM wx.1, Option.bind_some, e1, Option.bind_some]
    dsimp only
    by_cases c0 : k' = 0
    · subst c0
      exact ⟨0, sL M1 o 0 v, by rw [if_pos rfl, stL_q ho]; rfl, rfl, rfl, rfl, rfl, rfl, fun _ => sL_at⟩
    · have c1 : k' = 1 := by omega
      subst c1
      exact ⟨1, M1, by rw [if_neg c0, if_pos rfl], rfl, rfl, rfl, rfl, rfl, fun h => absurd h (by decide)⟩
  obtain ⟨kk, MA, f1, f2, g1, g2, g3, g5, g4⟩ := key
  refine ⟨kk, MA, f1, fun j => ?_⟩
  have hMA := mre_jk (mre_ext hM1 g1 g2 g3) j
  obtain ⟨⟨v2, M2⟩, e2, t2, hM2⟩ := h_X12_read hMA (this := m) wm rfl rfl h2
  obtain ⟨⟨v3, M3⟩, e3, t3, hM3⟩ := h_X12_thrown hM2 (this := m) wm (show H_X12_thrown m J2 = some (J2 m 0) from rfl)
  dsimp only at t2 t3 hM2 hM3
  have ek : v3 = kk := Int32.toInt_inj.mp (by rw [t3, h3, f2])
  subst ek
  have ev : v2 = v := Int64.toInt_inj.mp (t2.trans t1.symm)
  subst ev
  refine ⟨v2, M2, M3, o_isO hMA wm.1, e2, o_isO hM2 wm.1, e3, ⟨_, J2, hM3, wx, wm, wo, by
    rw [h4]
    exact rel_0 (x := x) (m := m) wx wm (rel_E hI rfl rfl (by
      show E.2.2.2 ≤ mN MA + j
      rw [g5, hM1.2.2.2.1]; exact Nat.le_add_right _ _))⟩, fun hz => ?_⟩
  have ho3 : mK M3 o = (6, 1) := by rw [hM3.1]; exact wo
  rw [ldL_q ho3, hM3.2.2.1]
  exact congrArg some (g4 hz)
