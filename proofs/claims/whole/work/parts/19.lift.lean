/-! FROM THE SECOND MIRRORS TO THE CASES -/
def Iv : Type := Nat → Nat → Nat → Em → Jm → Prop
/-- the two sides' relation, over the machine's memory -/
def RI (I : Iv) (x m o : Nat) (M : Mm) : Prop := ∃ (E : Em) (J : Jm), Mre E M J ∧ W11 E x ∧ W12 E m ∧ E.1 o = (6, 1) ∧ I x m o E J
theorem i32_r (a : Int32) : -2147483648 ≤ a.toInt ∧ a.toInt ≤ 2147483647 := ⟨Int32.le_toInt a, Int32.toInt_le a⟩
theorem bz_r (a : Int32) : (bz a).toInt = 0 ∨ (bz a).toInt = 1 := by
  unfold bz
  by_cases h : a = 0
  · rw [if_pos h]; exact Or.inl rfl
  · rw [if_neg h]; exact Or.inr rfl

def Pu_0 (I : Iv) (x m o : Nat) : Prop := ∀ (E : Em) (J : Jm), W11 E x → W12 E m → I x m o E J → ∀ z1 z2 z3 z4 : Int, (-2147483648 ≤ z1 ∧ z1 ≤ 2147483647) → (-2147483648 ≤ z2 ∧ z2 ≤ 2147483647) → (-2147483648 ≤ z3 ∧ z3 ≤ 2147483647) → (-2147483648 ≤ z4 ∧ z4 ≤ 2147483647) → ∃ (r : Int) (J1 : Jm) (J2 : Jm), H_X11_sea E x z1 z2 z3 z4 J = some (r, J1) ∧ H_X12_sea m z1 z2 z3 z4 J1 = some (r, J2) ∧ I x m o E J2
theorem lift_0 {I : Iv} {x m o : Nat} (hp : Pu_0 I x m o) : Op_0 (RI I x m o) x m := by
  rintro M a1 a2 a3 a4 ⟨E, J, hM, wx, wm, wo, hI⟩
  obtain ⟨r, J1, J2, h1, h2, hI2⟩ := hp E J wx wm hI a1.toInt a2.toInt a3.toInt a4.toInt (i32_r a1) (i32_r a2) (i32_r a3) (i32_r a4)
  obtain ⟨⟨r1, M1⟩, e1, t1, hM1⟩ := h_X11_sea hM wx rfl rfl rfl rfl h1
  obtain ⟨⟨r2, M2⟩, e2, t2, hM2⟩ := h_X12_sea hM1 wm rfl rfl rfl rfl h2
  have er : r2 = r1 := Int32.toInt_inj.mp (t2.trans t1.symm)
  subst er
  exact ⟨r2, M1, M2, o_isO hM wx.1, e1, o_isO hM1 wm.1, e2, E, J2, hM2, wx, wm, wo, hI2⟩
def Pu_1 (I : Iv) (x m o : Nat) : Prop := ∀ (E : Em) (J : Jm), W11 E x → W12 E m → I x m o E J → ∀ z1 z2 z3 z4 z5 z6 : Int, (-2147483648 ≤ z1 ∧ z1 ≤ 2147483647) → (-2147483648 ≤ z2 ∧ z2 ≤ 2147483647) → (-2147483648 ≤ z3 ∧ z3 ≤ 2147483647) → (-2147483648 ≤ z4 ∧ z4 ≤ 2147483647) → (-2147483648 ≤ z5 ∧ z5 ≤ 2147483647) → (z6 = 0 ∨ z6 = 1) → ∃ (r : Int) (J1 : Jm) (J2 : Jm), H_X11_stream x z1 z2 z3 z4 z5 z6 J = some (r, J1) ∧ H_X12_stream m z1 z2 z3 z4 z5 z6 J1 = some (r, J2) ∧ I x m o E J2
theorem lift_1 {I : Iv} {x m o : Nat} (hp : Pu_1 I x m o) : Op_1 (RI I x m o) x m := by
  rintro M a1 a2 a3 a4 a5 a6 ⟨E, J, hM, wx, wm, wo, hI⟩
  obtain ⟨r, J1, J2, h1, h2, hI2⟩ := hp E J wx wm hI a1.toInt a2.toInt a3.toInt a4.toInt a5.toInt (bz a6).toInt (i32_r a1) (i32_r a2) (i32_r a3) (i32_r a4) (i32_r a5) (bz_r a6)
  obtain ⟨⟨r1, M1⟩, e1, t1, hM1⟩ := h_X11_stream hM wx rfl rfl rfl rfl rfl rfl h1
  obtain ⟨⟨r2, M2⟩, e2, t2, hM2⟩ := h_X12_stream hM1 wm rfl rfl rfl rfl rfl rfl h2
  have er : r2 = r1 := Int32.toInt_inj.mp (t2.trans t1.symm)
  subst er
  exact ⟨r2, M1, M2, o_isO hM wx.1, e1, o_isO hM1 wm.1, e2, E, J2, hM2, wx, wm, wo, hI2⟩
def Pu_2 (I : Iv) (x m o : Nat) : Prop := ∀ (E : Em) (J : Jm), W11 E x → W12 E m → I x m o E J → ∀ z1 z2 z3 z4 : Int, (-2147483648 ≤ z1 ∧ z1 ≤ 2147483647) → (-2147483648 ≤ z2 ∧ z2 ≤ 2147483647) → (-2147483648 ≤ z3 ∧ z3 ≤ 2147483647) → (-2147483648 ≤ z4 ∧ z4 ≤ 2147483647) → ∃ (r : Int) (J1 : Jm) (J2 : Jm), H_X11_salt E x z1 z2 z3 z4 J = some (r, J1) ∧ H_X12_salt m z1 z2 z3 z4 J1 = some (r, J2) ∧ I x m o E J2
theorem lift_2 {I : Iv} {x m o : Nat} (hp : Pu_2 I x m o) : Op_2 (RI I x m o) x m := by
  rintro M a1 a2 a3 a4 ⟨E, J, hM, wx, wm, wo, hI⟩
  obtain ⟨r, J1, J2, h1, h2, hI2⟩ := hp E J wx wm hI a1.toInt a2.toInt a3.toInt a4.toInt (i32_r a1) (i32_r a2) (i32_r a3) (i32_r a4)
  obtain ⟨⟨r1, M1⟩, e1, t1, hM1⟩ := h_X11_salt hM wx rfl rfl rfl rfl h1
  obtain ⟨⟨r2, M2⟩, e2, t2, hM2⟩ := h_X12_salt hM1 wm rfl rfl rfl rfl h2
  have er : r2 = r1 := Int32.toInt_inj.mp (t2.trans t1.symm)
  subst er
  exact ⟨r2, M1, M2, o_isO hM wx.1, e1, o_isO hM1 wm.1, e2, E, J2, hM2, wx, wm, wo, hI2⟩
def Pu_3 (I : Iv) (x m o : Nat) : Prop := ∀ (E : Em) (J : Jm), W11 E x → W12 E m → I x m o E J → ∀ z1 z2 z3 z4 : Int, (-2147483648 ≤ z1 ∧ z1 ≤ 2147483647) → (-2147483648 ≤ z2 ∧ z2 ≤ 2147483647) → (-2147483648 ≤ z3 ∧ z3 ≤ 2147483647) → (-2147483648 ≤ z4 ∧ z4 ≤ 2147483647) → ∃ (r : Int), H_X11_cell E x z1 z2 z3 z4 J = some r ∧ H_X12_cell m z1 z2 z3 z4 J = some r ∧ I x m o E J
theorem lift_3 {I : Iv} {x m o : Nat} (hp : Pu_3 I x m o) : Op_3 (RI I x m o) x m := by
  rintro M a1 a2 a3 a4 ⟨E, J, hM, wx, wm, wo, hI⟩
  obtain ⟨r, h1, h2, hI2⟩ := hp E J wx wm hI a1.toInt a2.toInt a3.toInt a4.toInt (i32_r a1) (i32_r a2) (i32_r a3) (i32_r a4)
  obtain ⟨⟨r1, M1⟩, e1, t1, hM1⟩ := h_X11_cell hM wx rfl rfl rfl rfl h1
  obtain ⟨⟨r2, M2⟩, e2, t2, hM2⟩ := h_X12_cell hM1 wm rfl rfl rfl rfl h2
  have er : r2 = r1 := Int32.toInt_inj.mp (t2.trans t1.symm)
  subst er
  exact ⟨r2, M1, M2, o_isO hM wx.1, e1, o_isO hM1 wm.1, e2, E, J, hM2, wx, wm, wo, hI2⟩
def Pu_5 (I : Iv) (x m o : Nat) : Prop := ∀ (E : Em) (J : Jm), W11 E x → W12 E m → I x m o E J → ∀ z1 z2 : Int, (-2147483648 ≤ z1 ∧ z1 ≤ 2147483647) → (-2147483648 ≤ z2 ∧ z2 ≤ 2147483647) → ∃ (r : Int), H_X11_about E x z1 z2 J = some r ∧ H_X12_about m z1 z2 J = some r ∧ I x m o E J
theorem lift_5 {I : Iv} {x m o : Nat} (hp : Pu_5 I x m o) : Op_5 (RI I x m o) x m := by
  rintro M a1 a2 ⟨E, J, hM, wx, wm, wo, hI⟩
  obtain ⟨r, h1, h2, hI2⟩ := hp E J wx wm hI a1.toInt a2.toInt (i32_r a1) (i32_r a2)
  obtain ⟨⟨r1, M1⟩, e1, t1, hM1⟩ := h_X11_about hM wx rfl rfl h1
  obtain ⟨⟨r2, M2⟩, e2, t2, hM2⟩ := h_X12_about hM1 wm rfl rfl h2
  have er : r2 = r1 := Int32.toInt_inj.mp (t2.trans t1.symm)
  subst er
  exact ⟨r2, M1, M2, o_isO hM wx.1, e1, o_isO hM1 wm.1, e2, E, J, hM2, wx, wm, wo, hI2⟩
def Pu_6 (I : Iv) (x m o : Nat) : Prop := ∀ (E : Em) (J : Jm), W11 E x → W12 E m → I x m o E J → ∀ z1 z2 : Int, (-2147483648 ≤ z1 ∧ z1 ≤ 2147483647) → (-2147483648 ≤ z2 ∧ z2 ≤ 2147483647) → ∃ (r : Int), H_X11_can E x z1 z2 J = some r ∧ H_X12_can m z1 z2 J = some r ∧ I x m o E J
theorem lift_6 {I : Iv} {x m o : Nat} (hp : Pu_6 I x m o) : Op_6 (RI I x m o) x m := by
  rintro M a1 a2 ⟨E, J, hM, wx, wm, wo, hI⟩
  obtain ⟨r, h1, h2, hI2⟩ := hp E J wx wm hI a1.toInt a2.toInt (i32_r a1) (i32_r a2)
  obtain ⟨⟨r1, M1⟩, e1, t1, hM1⟩ := h_X11_can hM wx rfl rfl h1
  obtain ⟨⟨r2, M2⟩, e2, t2, hM2⟩ := h_X12_can hM1 wm rfl rfl h2
  have er : r2 = r1 := Int32.toInt_inj.mp (t2.trans t1.symm)
  subst er
  exact ⟨r2, M1, M2, o_isO hM wx.1, e1, o_isO hM1 wm.1, e2, E, J, hM2, wx, wm, wo, hI2⟩
def Pu_7 (I : Iv) (x m o : Nat) : Prop := ∀ (E : Em) (J : Jm), W11 E x → W12 E m → I x m o E J → ∀ z1 z2 : Int, (-2147483648 ≤ z1 ∧ z1 ≤ 2147483647) → (z2 = 0 ∨ z2 = 1) → ∃ (r : Int) (J1 : Jm) (J2 : Jm), H_X11_leak E x z1 z2 J = some (r, J1) ∧ H_X12_leak m z1 z2 J1 = some (r, J2) ∧ I x m o E J2
theorem lift_7 {I : Iv} {x m o : Nat} (hp : Pu_7 I x m o) : Op_7 (RI I x m o) x m := by
  rintro M a1 a2 ⟨E, J, hM, wx, wm, wo, hI⟩
  obtain ⟨r, J1, J2, h1, h2, hI2⟩ := hp E J wx wm hI a1.toInt (bz a2).toInt (i32_r a1) (bz_r a2)
  obtain ⟨⟨r1, M1⟩, e1, t1, hM1⟩ := h_X11_leak hM wx rfl rfl h1
  obtain ⟨⟨r2, M2⟩, e2, t2, hM2⟩ := h_X12_leak hM1 wm rfl rfl h2
  have er : r2 = r1 := Int32.toInt_inj.mp (t2.trans t1.symm)
  subst er
  exact ⟨r2, M1, M2, o_isO hM wx.1, e1, o_isO hM1 wm.1, e2, E, J2, hM2, wx, wm, wo, hI2⟩
def Pu_8 (I : Iv) (x m o : Nat) : Prop := ∀ (E : Em) (J : Jm), W11 E x → W12 E m → I x m o E J → ∀ z1 z2 z3 z4 : Int, (-2147483648 ≤ z1 ∧ z1 ≤ 2147483647) → (-2147483648 ≤ z2 ∧ z2 ≤ 2147483647) → (-2147483648 ≤ z3 ∧ z3 ≤ 2147483647) → (-2147483648 ≤ z4 ∧ z4 ≤ 2147483647) → ∃ (r : Int) (J1 : Jm) (J2 : Jm), H_X11_dive E x z1 z2 z3 z4 J = some (r, J1) ∧ H_X12_dive m z1 z2 z3 z4 J1 = some (r, J2) ∧ I x m o E J2
theorem lift_8 {I : Iv} {x m o : Nat} (hp : Pu_8 I x m o) : Op_8 (RI I x m o) x m := by
  rintro M a1 a2 a3 a4 ⟨E, J, hM, wx, wm, wo, hI⟩
  obtain ⟨r, J1, J2, h1, h2, hI2⟩ := hp E J wx wm hI a1.toInt a2.toInt a3.toInt a4.toInt (i32_r a1) (i32_r a2) (i32_r a3) (i32_r a4)
  obtain ⟨⟨r1, M1⟩, e1, t1, hM1⟩ := h_X11_dive hM wx rfl rfl rfl rfl h1
  obtain ⟨⟨r2, M2⟩, e2, t2, hM2⟩ := h_X12_dive hM1 wm rfl rfl rfl rfl h2
  have er : r2 = r1 := Int32.toInt_inj.mp (t2.trans t1.symm)
  subst er
  exact ⟨r2, M1, M2, o_isO hM wx.1, e1, o_isO hM1 wm.1, e2, E, J2, hM2, wx, wm, wo, hI2⟩
def Pu_11 (I : Iv) (x m o : Nat) : Prop := ∀ (E : Em) (J : Jm), W11 E x → W12 E m → I x m o E J → ∀ z1 z2 : Int, (-2147483648 ≤ z1 ∧ z1 ≤ 2147483647) → (-2147483648 ≤ z2 ∧ z2 ≤ 2147483647) → ∃ (r : Int) (J1 : Jm) (J2 : Jm), H_X11_letter E x z1 z2 J = some (r, J1) ∧ H_X12_letter m z1 z2 J1 = some (r, J2) ∧ I x m o E J2
theorem lift_11 {I : Iv} {x m o : Nat} (hp : Pu_11 I x m o) : Op_11 (RI I x m o) x m := by
  rintro M a1 a2 ⟨E, J, hM, wx, wm, wo, hI⟩
  obtain ⟨r, J1, J2, h1, h2, hI2⟩ := hp E J wx wm hI a1.toInt a2.toInt (i32_r a1) (i32_r a2)
  obtain ⟨⟨r1, M1⟩, e1, t1, hM1⟩ := h_X11_letter hM wx rfl rfl h1
  obtain ⟨⟨r2, M2⟩, e2, t2, hM2⟩ := h_X12_letter hM1 wm rfl rfl h2
  have er : r2 = r1 := Int32.toInt_inj.mp (t2.trans t1.symm)
  subst er
  exact ⟨r2, M1, M2, o_isO hM wx.1, e1, o_isO hM1 wm.1, e2, E, J2, hM2, wx, wm, wo, hI2⟩
def Pu_12 (I : Iv) (x m o : Nat) : Prop := ∀ (E : Em) (J : Jm), W11 E x → W12 E m → I x m o E J → ∀ z1 : Int, (-2147483648 ≤ z1 ∧ z1 ≤ 2147483647) → ∃ (r : Int), H_X11_waiting E x z1 J = some r ∧ H_X12_waiting m z1 J = some r ∧ I x m o E J
theorem lift_12 {I : Iv} {x m o : Nat} (hp : Pu_12 I x m o) : Op_12 (RI I x m o) x m := by
  rintro M a1 ⟨E, J, hM, wx, wm, wo, hI⟩
  obtain ⟨r, h1, h2, hI2⟩ := hp E J wx wm hI a1.toInt (i32_r a1)
  obtain ⟨⟨r1, M1⟩, e1, t1, hM1⟩ := h_X11_waiting hM wx rfl h1
  obtain ⟨⟨r2, M2⟩, e2, t2, hM2⟩ := h_X12_waiting hM1 wm rfl h2
  have er : r2 = r1 := Int32.toInt_inj.mp (t2.trans t1.symm)
  subst er
  exact ⟨r2, M1, M2, o_isO hM wx.1, e1, o_isO hM1 wm.1, e2, E, J, hM2, wx, wm, wo, hI2⟩
def Pu_13 (I : Iv) (x m o : Nat) : Prop := ∀ (E : Em) (J : Jm), W11 E x → W12 E m → I x m o E J → ∀ z1 z2 : Int, (-2147483648 ≤ z1 ∧ z1 ≤ 2147483647) → (z2 = 0 ∨ z2 = 1) → ∃ (r : Int) (J1 : Jm) (J2 : Jm), H_X11_deaf E x z1 z2 J = some (r, J1) ∧ H_X12_deaf m z1 z2 J1 = some (r, J2) ∧ I x m o E J2
theorem lift_13 {I : Iv} {x m o : Nat} (hp : Pu_13 I x m o) : Op_13 (RI I x m o) x m := by
  rintro M a1 a2 ⟨E, J, hM, wx, wm, wo, hI⟩
  obtain ⟨r, J1, J2, h1, h2, hI2⟩ := hp E J wx wm hI a1.toInt (bz a2).toInt (i32_r a1) (bz_r a2)
  obtain ⟨⟨r1, M1⟩, e1, t1, hM1⟩ := h_X11_deaf hM wx rfl rfl h1
  obtain ⟨⟨r2, M2⟩, e2, t2, hM2⟩ := h_X12_deaf hM1 wm rfl rfl h2
  have er : r2 = r1 := Int32.toInt_inj.mp (t2.trans t1.symm)
  subst er
  exact ⟨r2, M1, M2, o_isO hM wx.1, e1, o_isO hM1 wm.1, e2, E, J2, hM2, wx, wm, wo, hI2⟩
def Pu_14 (I : Iv) (x m o : Nat) : Prop := ∀ (E : Em) (J : Jm), W11 E x → W12 E m → I x m o E J → ∀ z1 : Int, (-2147483648 ≤ z1 ∧ z1 ≤ 2147483647) → ∃ (r : Int) (J2 : Jm), H_X11_rule E x z1 J = some r ∧ H_X12_rule m z1 J = some (r, J2) ∧ I x m o E J2
theorem lift_14 {I : Iv} {x m o : Nat} (hp : Pu_14 I x m o) : Op_14 (RI I x m o) x m := by
  rintro M a1 ⟨E, J, hM, wx, wm, wo, hI⟩
  obtain ⟨r, J2, h1, h2, hI2⟩ := hp E J wx wm hI a1.toInt (i32_r a1)
  obtain ⟨⟨r1, M1⟩, e1, t1, hM1⟩ := h_X11_rule hM wx rfl h1
  obtain ⟨⟨r2, M2⟩, e2, t2, hM2⟩ := h_X12_rule hM1 wm rfl h2
  have er : r2 = r1 := Int32.toInt_inj.mp (t2.trans t1.symm)
  subst er
  exact ⟨r2, M1, M2, o_isO hM wx.1, e1, o_isO hM1 wm.1, e2, E, J2, hM2, wx, wm, wo, hI2⟩
def Pu_15 (I : Iv) (x m o : Nat) : Prop := ∀ (E : Em) (J : Jm), W11 E x → W12 E m → I x m o E J → ∀ z1 : Int, (-2147483648 ≤ z1 ∧ z1 ≤ 2147483647) → ∃ (r : Int) (J1 : Jm) (J2 : Jm), H_X11_times E x z1 J = some (r, J1) ∧ H_X12_times m z1 J1 = some (r, J2) ∧ I x m o E J2
theorem lift_15 {I : Iv} {x m o : Nat} (hp : Pu_15 I x m o) : Op_15 (RI I x m o) x m := by
  rintro M a1 ⟨E, J, hM, wx, wm, wo, hI⟩
  obtain ⟨r, J1, J2, h1, h2, hI2⟩ := hp E J wx wm hI a1.toInt (i32_r a1)
  obtain ⟨⟨r1, M1⟩, e1, t1, hM1⟩ := h_X11_times hM wx rfl h1
  obtain ⟨⟨r2, M2⟩, e2, t2, hM2⟩ := h_X12_times hM1 wm rfl h2
  have er : r2 = r1 := Int32.toInt_inj.mp (t2.trans t1.symm)
  subst er
  exact ⟨r2, M1, M2, o_isO hM wx.1, e1, o_isO hM1 wm.1, e2, E, J2, hM2, wx, wm, wo, hI2⟩
def Pu_16 (I : Iv) (x m o : Nat) : Prop := ∀ (E : Em) (J : Jm), W11 E x → W12 E m → I x m o E J → ∀ z1 z2 : Int, (-2147483648 ≤ z1 ∧ z1 ≤ 2147483647) → (-2147483648 ≤ z2 ∧ z2 ≤ 2147483647) → ∃ (r : Int), H_X11_known E x z1 z2 J = some r ∧ H_X12_known m z1 z2 J = some r ∧ I x m o E J
theorem lift_16 {I : Iv} {x m o : Nat} (hp : Pu_16 I x m o) : Op_16 (RI I x m o) x m := by
  rintro M a1 a2 ⟨E, J, hM, wx, wm, wo, hI⟩
  obtain ⟨r, h1, h2, hI2⟩ := hp E J wx wm hI a1.toInt a2.toInt (i32_r a1) (i32_r a2)
  obtain ⟨⟨r1, M1⟩, e1, t1, hM1⟩ := h_X11_known hM wx rfl rfl h1
  obtain ⟨⟨r2, M2⟩, e2, t2, hM2⟩ := h_X12_known hM1 wm rfl rfl h2
  have er : r2 = r1 := Int32.toInt_inj.mp (t2.trans t1.symm)
  subst er
  exact ⟨r2, M1, M2, o_isO hM wx.1, e1, o_isO hM1 wm.1, e2, E, J, hM2, wx, wm, wo, hI2⟩
def Pu_17 (I : Iv) (x m o : Nat) : Prop := ∀ (E : Em) (J : Jm), W11 E x → W12 E m → I x m o E J → ∀ z1 z2 : Int, (-2147483648 ≤ z1 ∧ z1 ≤ 2147483647) → (-2147483648 ≤ z2 ∧ z2 ≤ 2147483647) → ∃ (r : Int) (J1 : Jm) (J2 : Jm), H_X11_clean E x z1 z2 J = some (r, J1) ∧ H_X12_clean m z1 z2 J1 = some (r, J2) ∧ I x m o E J2
theorem lift_17 {I : Iv} {x m o : Nat} (hp : Pu_17 I x m o) : Op_17 (RI I x m o) x m := by
  rintro M a1 a2 ⟨E, J, hM, wx, wm, wo, hI⟩
  obtain ⟨r, J1, J2, h1, h2, hI2⟩ := hp E J wx wm hI a1.toInt a2.toInt (i32_r a1) (i32_r a2)
  obtain ⟨⟨r1, M1⟩, e1, t1, hM1⟩ := h_X11_clean hM wx rfl rfl h1
  obtain ⟨⟨r2, M2⟩, e2, t2, hM2⟩ := h_X12_clean hM1 wm rfl rfl h2
  have er : r2 = r1 := Int32.toInt_inj.mp (t2.trans t1.symm)
  subst er
  exact ⟨r2, M1, M2, o_isO hM wx.1, e1, o_isO hM1 wm.1, e2, E, J2, hM2, wx, wm, wo, hI2⟩
def Pu_18 (I : Iv) (x m o : Nat) : Prop := ∀ (E : Em) (J : Jm), W11 E x → W12 E m → I x m o E J → ∀ z1 z2 : Int, (-2147483648 ≤ z1 ∧ z1 ≤ 2147483647) → (-2147483648 ≤ z2 ∧ z2 ≤ 2147483647) → ∃ (r : Int), H_X11_reading x z1 z2 J = some r ∧ H_X12_reading m z1 z2 J = some r ∧ I x m o E J
theorem lift_18 {I : Iv} {x m o : Nat} (hp : Pu_18 I x m o) : Op_18 (RI I x m o) x m := by
  rintro M a1 a2 ⟨E, J, hM, wx, wm, wo, hI⟩
  obtain ⟨r, h1, h2, hI2⟩ := hp E J wx wm hI a1.toInt a2.toInt (i32_r a1) (i32_r a2)
  obtain ⟨⟨r1, M1⟩, e1, t1, hM1⟩ := h_X11_reading hM wx rfl rfl h1
  obtain ⟨⟨r2, M2⟩, e2, t2, hM2⟩ := h_X12_reading hM1 wm rfl rfl h2
  have er : r2 = r1 := Int32.toInt_inj.mp (t2.trans t1.symm)
  subst er
  exact ⟨r2, M1, M2, o_isO hM wx.1, e1, o_isO hM1 wm.1, e2, E, J, hM2, wx, wm, wo, hI2⟩
def Pu_20 (I : Iv) (x m o : Nat) : Prop := ∀ (E : Em) (J : Jm), W11 E x → W12 E m → I x m o E J → ∀ z1 : Int, (-2147483648 ≤ z1 ∧ z1 ≤ 2147483647) → ∃ (r : Int) (J1 : Jm) (J2 : Jm), H_X11_plan E x z1 J = some (r, J1) ∧ H_X12_plan m z1 J1 = some (r, J2) ∧ I x m o E J2
theorem lift_20 {I : Iv} {x m o : Nat} (hp : Pu_20 I x m o) : Op_20 (RI I x m o) x m := by
  rintro M a1 ⟨E, J, hM, wx, wm, wo, hI⟩
  obtain ⟨r, J1, J2, h1, h2, hI2⟩ := hp E J wx wm hI a1.toInt (i32_r a1)
  obtain ⟨⟨r1, M1⟩, e1, t1, hM1⟩ := h_X11_plan hM wx rfl h1
  obtain ⟨⟨r2, M2⟩, e2, t2, hM2⟩ := h_X12_plan hM1 wm rfl h2
  have er : r2 = r1 := Int32.toInt_inj.mp (t2.trans t1.symm)
  subst er
  exact ⟨r2, M1, M2, o_isO hM wx.1, e1, o_isO hM1 wm.1, e2, E, J2, hM2, wx, wm, wo, hI2⟩
def Pu_21 (I : Iv) (x m o : Nat) : Prop := ∀ (E : Em) (J : Jm), W11 E x → W12 E m → I x m o E J → ∀ z1 z2 : Int, (-2147483648 ≤ z1 ∧ z1 ≤ 2147483647) → (-2147483648 ≤ z2 ∧ z2 ≤ 2147483647) → ∃ (r : Int) (J1 : Jm) (J2 : Jm), H_X11_planned E x z1 z2 J = some (r, J1) ∧ H_X12_planned m z1 z2 J1 = some (r, J2) ∧ I x m o E J2
theorem lift_21 {I : Iv} {x m o : Nat} (hp : Pu_21 I x m o) : Op_21 (RI I x m o) x m := by
  rintro M a1 a2 ⟨E, J, hM, wx, wm, wo, hI⟩
  obtain ⟨r, J1, J2, h1, h2, hI2⟩ := hp E J wx wm hI a1.toInt a2.toInt (i32_r a1) (i32_r a2)
  obtain ⟨⟨r1, M1⟩, e1, t1, hM1⟩ := h_X11_planned hM wx rfl rfl h1
  obtain ⟨⟨r2, M2⟩, e2, t2, hM2⟩ := h_X12_planned hM1 wm rfl rfl h2
  have er : r2 = r1 := Int32.toInt_inj.mp (t2.trans t1.symm)
  subst er
  exact ⟨r2, M1, M2, o_isO hM wx.1, e1, o_isO hM1 wm.1, e2, E, J2, hM2, wx, wm, wo, hI2⟩
def Pu_22 (I : Iv) (x m o : Nat) : Prop := ∀ (E : Em) (J : Jm), W11 E x → W12 E m → I x m o E J → ∀ z1 z2 z3 z4 : Int, (-2147483648 ≤ z1 ∧ z1 ≤ 2147483647) → (-2147483648 ≤ z2 ∧ z2 ≤ 2147483647) → (-2147483648 ≤ z3 ∧ z3 ≤ 2147483647) → (-2147483648 ≤ z4 ∧ z4 ≤ 2147483647) → ∃ (r : Int) (J1 : Jm) (J2 : Jm), H_X11_ends E x z1 z2 z3 z4 J = some (r, J1) ∧ H_X12_ends m z1 z2 z3 z4 J1 = some (r, J2) ∧ I x m o E J2
theorem lift_22 {I : Iv} {x m o : Nat} (hp : Pu_22 I x m o) : Op_22 (RI I x m o) x m := by
  rintro M a1 a2 a3 a4 ⟨E, J, hM, wx, wm, wo, hI⟩
  obtain ⟨r, J1, J2, h1, h2, hI2⟩ := hp E J wx wm hI a1.toInt a2.toInt a3.toInt a4.toInt (i32_r a1) (i32_r a2) (i32_r a3) (i32_r a4)
  obtain ⟨⟨r1, M1⟩, e1, t1, hM1⟩ := h_X11_ends hM wx rfl rfl rfl rfl h1
  obtain ⟨⟨r2, M2⟩, e2, t2, hM2⟩ := h_X12_ends hM1 wm rfl rfl rfl rfl h2
  have er : r2 = r1 := Int32.toInt_inj.mp (t2.trans t1.symm)
  subst er
  exact ⟨r2, M1, M2, o_isO hM wx.1, e1, o_isO hM1 wm.1, e2, E, J2, hM2, wx, wm, wo, hI2⟩
def Pu_23 (I : Iv) (x m o : Nat) : Prop := ∀ (E : Em) (J : Jm), W11 E x → W12 E m → I x m o E J → ∀ z1 : Int, (-2147483648 ≤ z1 ∧ z1 ≤ 2147483647) → ∃ (r : Int), H_X11_whole x z1 J = some r ∧ H_X12_whole m z1 J = some r ∧ I x m o E J
theorem lift_23 {I : Iv} {x m o : Nat} (hp : Pu_23 I x m o) : Op_23 (RI I x m o) x m := by
  rintro M a1 ⟨E, J, hM, wx, wm, wo, hI⟩
  obtain ⟨r, h1, h2, hI2⟩ := hp E J wx wm hI a1.toInt (i32_r a1)
  obtain ⟨⟨r1, M1⟩, e1, t1, hM1⟩ := h_X11_whole hM wx rfl h1
  obtain ⟨⟨r2, M2⟩, e2, t2, hM2⟩ := h_X12_whole hM1 wm rfl h2
  have er : r2 = r1 := Int32.toInt_inj.mp (t2.trans t1.symm)
  subst er
  exact ⟨r2, M1, M2, o_isO hM wx.1, e1, o_isO hM1 wm.1, e2, E, J, hM2, wx, wm, wo, hI2⟩
def Pu_24 (I : Iv) (x m o : Nat) : Prop := ∀ (E : Em) (J : Jm), W11 E x → W12 E m → I x m o E J → ∀ z1 z2 : Int, (-2147483648 ≤ z1 ∧ z1 ≤ 2147483647) → (-2147483648 ≤ z2 ∧ z2 ≤ 2147483647) → ∃ (r : Int) (J1 : Jm) (J2 : Jm), H_X11_ship x z1 z2 J = some (r, J1) ∧ H_X12_ship m z1 z2 J1 = some (r, J2) ∧ I x m o E J2
theorem lift_24 {I : Iv} {x m o : Nat} (hp : Pu_24 I x m o) : Op_24 (RI I x m o) x m := by
  rintro M a1 a2 ⟨E, J, hM, wx, wm, wo, hI⟩
  obtain ⟨r, J1, J2, h1, h2, hI2⟩ := hp E J wx wm hI a1.toInt a2.toInt (i32_r a1) (i32_r a2)
  obtain ⟨⟨r1, M1⟩, e1, t1, hM1⟩ := h_X11_ship hM wx rfl rfl h1
  obtain ⟨⟨r2, M2⟩, e2, t2, hM2⟩ := h_X12_ship hM1 wm rfl rfl h2
  have er : r2 = r1 := Int32.toInt_inj.mp (t2.trans t1.symm)
  subst er
  exact ⟨r2, M1, M2, o_isO hM wx.1, e1, o_isO hM1 wm.1, e2, E, J2, hM2, wx, wm, wo, hI2⟩
def Pu_25 (I : Iv) (x m o : Nat) : Prop := ∀ (E : Em) (J : Jm), W11 E x → W12 E m → I x m o E J → ∀ z1 : Int, (-2147483648 ≤ z1 ∧ z1 ≤ 2147483647) → ∃ (r : Int), H_X11_left E x z1 J = some r ∧ H_X12_left m z1 J = some r ∧ I x m o E J
theorem lift_25 {I : Iv} {x m o : Nat} (hp : Pu_25 I x m o) : Op_25 (RI I x m o) x m := by
  rintro M a1 ⟨E, J, hM, wx, wm, wo, hI⟩
  obtain ⟨r, h1, h2, hI2⟩ := hp E J wx wm hI a1.toInt (i32_r a1)
  obtain ⟨⟨r1, M1⟩, e1, t1, hM1⟩ := h_X11_left hM wx rfl h1
  obtain ⟨⟨r2, M2⟩, e2, t2, hM2⟩ := h_X12_left hM1 wm rfl h2
  have er : r2 = r1 := Int32.toInt_inj.mp (t2.trans t1.symm)
  subst er
  exact ⟨r2, M1, M2, o_isO hM wx.1, e1, o_isO hM1 wm.1, e2, E, J, hM2, wx, wm, wo, hI2⟩
def Pu_26 (I : Iv) (x m o : Nat) : Prop := ∀ (E : Em) (J : Jm), W11 E x → W12 E m → I x m o E J → ∃ (r : Int), H_X11_next E x J = some r ∧ H_X12_next m J = some r ∧ I x m o E J
theorem lift_26 {I : Iv} {x m o : Nat} (hp : Pu_26 I x m o) : Op_26 (RI I x m o) x m := by
  rintro M ⟨E, J, hM, wx, wm, wo, hI⟩
  obtain ⟨r, h1, h2, hI2⟩ := hp E J wx wm hI 
  obtain ⟨⟨r1, M1⟩, e1, t1, hM1⟩ := h_X11_next hM wx  h1
  obtain ⟨⟨r2, M2⟩, e2, t2, hM2⟩ := h_X12_next hM1 wm  h2
  have er : r2 = r1 := Int32.toInt_inj.mp (t2.trans t1.symm)
  subst er
  exact ⟨r2, M1, M2, o_isO hM wx.1, e1, o_isO hM1 wm.1, e2, E, J, hM2, wx, wm, wo, hI2⟩
def Pu_27 (I : Iv) (x m o : Nat) : Prop := ∀ (E : Em) (J : Jm), W11 E x → W12 E m → I x m o E J → ∀ z1 : Int, (-2147483648 ≤ z1 ∧ z1 ≤ 2147483647) → ∃ (r : Int) (J1 : Jm) (J2 : Jm), H_X11_fetch E x z1 J = some (r, J1) ∧ H_X12_fetch m z1 J1 = some (r, J2) ∧ I x m o E J2
theorem lift_27 {I : Iv} {x m o : Nat} (hp : Pu_27 I x m o) : Op_27 (RI I x m o) x m := by
  rintro M a1 ⟨E, J, hM, wx, wm, wo, hI⟩
  obtain ⟨r, J1, J2, h1, h2, hI2⟩ := hp E J wx wm hI a1.toInt (i32_r a1)
  obtain ⟨⟨r1, M1⟩, e1, t1, hM1⟩ := h_X11_fetch hM wx rfl h1
  obtain ⟨⟨r2, M2⟩, e2, t2, hM2⟩ := h_X12_fetch hM1 wm rfl h2
  have er : r2 = r1 := Int32.toInt_inj.mp (t2.trans t1.symm)
  subst er
  exact ⟨r2, M1, M2, o_isO hM wx.1, e1, o_isO hM1 wm.1, e2, E, J2, hM2, wx, wm, wo, hI2⟩
def Pu_30 (I : Iv) (x m o : Nat) : Prop := ∀ (E : Em) (J : Jm), W11 E x → W12 E m → I x m o E J → ∀ z1 : Int, (-2147483648 ≤ z1 ∧ z1 ≤ 2147483647) → ∃ (r : Int), H_X11_count E x z1 J = some r ∧ H_X12_count m z1 J = some r ∧ I x m o E J
theorem lift_30 {I : Iv} {x m o : Nat} (hp : Pu_30 I x m o) : Op_30 (RI I x m o) x m := by
  rintro M a1 ⟨E, J, hM, wx, wm, wo, hI⟩
  obtain ⟨r, h1, h2, hI2⟩ := hp E J wx wm hI a1.toInt (i32_r a1)
  obtain ⟨⟨r1, M1⟩, e1, t1, hM1⟩ := h_X11_count hM wx rfl h1
  obtain ⟨⟨r2, M2⟩, e2, t2, hM2⟩ := h_X12_count hM1 wm rfl h2
  have er : r2 = r1 := Int32.toInt_inj.mp (t2.trans t1.symm)
  subst er
  exact ⟨r2, M1, M2, o_isO hM wx.1, e1, o_isO hM1 wm.1, e2, E, J, hM2, wx, wm, wo, hI2⟩
def Pu_31 (I : Iv) (x m o : Nat) : Prop := ∀ (E : Em) (J : Jm), W11 E x → W12 E m → I x m o E J → ∀ z1 z2 z3 : Int, (-2147483648 ≤ z1 ∧ z1 ≤ 2147483647) → (-2147483648 ≤ z2 ∧ z2 ≤ 2147483647) → (-2147483648 ≤ z3 ∧ z3 ≤ 2147483647) → ∃ (r : Int) (J1 : Jm) (J2 : Jm), H_X11_keep E x z1 z2 z3 J = some (r, J1) ∧ H_X12_keep m z1 z2 z3 J1 = some (r, J2) ∧ I x m o E J2
theorem lift_31 {I : Iv} {x m o : Nat} (hp : Pu_31 I x m o) : Op_31 (RI I x m o) x m := by
  rintro M a1 a2 a3 ⟨E, J, hM, wx, wm, wo, hI⟩
  obtain ⟨r, J1, J2, h1, h2, hI2⟩ := hp E J wx wm hI a1.toInt a2.toInt a3.toInt (i32_r a1) (i32_r a2) (i32_r a3)
  obtain ⟨⟨r1, M1⟩, e1, t1, hM1⟩ := h_X11_keep hM wx rfl rfl rfl h1
  obtain ⟨⟨r2, M2⟩, e2, t2, hM2⟩ := h_X12_keep hM1 wm rfl rfl rfl h2
  have er : r2 = r1 := Int32.toInt_inj.mp (t2.trans t1.symm)
  subst er
  exact ⟨r2, M1, M2, o_isO hM wx.1, e1, o_isO hM1 wm.1, e2, E, J2, hM2, wx, wm, wo, hI2⟩
def Pu_32 (I : Iv) (x m o : Nat) : Prop := ∀ (E : Em) (J : Jm), W11 E x → W12 E m → I x m o E J → ∀ z1 z2 z3 : Int, (-2147483648 ≤ z1 ∧ z1 ≤ 2147483647) → (-2147483648 ≤ z2 ∧ z2 ≤ 2147483647) → (-2147483648 ≤ z3 ∧ z3 ≤ 2147483647) → ∃ (r : Int) (J1 : Jm) (J2 : Jm), H_X11_row E x z1 z2 z3 J = some (r, J1) ∧ H_X12_row m z1 z2 z3 J1 = some (r, J2) ∧ I x m o E J2
theorem lift_32 {I : Iv} {x m o : Nat} (hp : Pu_32 I x m o) : Op_32 (RI I x m o) x m := by
  rintro M a1 a2 a3 ⟨E, J, hM, wx, wm, wo, hI⟩
  obtain ⟨r, J1, J2, h1, h2, hI2⟩ := hp E J wx wm hI a1.toInt a2.toInt a3.toInt (i32_r a1) (i32_r a2) (i32_r a3)
  obtain ⟨⟨r1, M1⟩, e1, t1, hM1⟩ := h_X11_row hM wx rfl rfl rfl h1
  obtain ⟨⟨r2, M2⟩, e2, t2, hM2⟩ := h_X12_row hM1 wm rfl rfl rfl h2
  have er : r2 = r1 := Int32.toInt_inj.mp (t2.trans t1.symm)
  subst er
  exact ⟨r2, M1, M2, o_isO hM wx.1, e1, o_isO hM1 wm.1, e2, E, J2, hM2, wx, wm, wo, hI2⟩
def Pu_33 (I : Iv) (x m o : Nat) : Prop := ∀ (E : Em) (J : Jm), W11 E x → W12 E m → I x m o E J → ∀ z1 z2 z3 : Int, (-2147483648 ≤ z1 ∧ z1 ≤ 2147483647) → (-2147483648 ≤ z2 ∧ z2 ≤ 2147483647) → (-2147483648 ≤ z3 ∧ z3 ≤ 2147483647) → ∃ (r : Int) (J1 : Jm) (J2 : Jm), H_X11_put E x z1 z2 z3 J = some (r, J1) ∧ H_X12_put m z1 z2 z3 J1 = some (r, J2) ∧ I x m o E J2
theorem lift_33 {I : Iv} {x m o : Nat} (hp : Pu_33 I x m o) : Op_33 (RI I x m o) x m := by
  rintro M a1 a2 a3 ⟨E, J, hM, wx, wm, wo, hI⟩
  obtain ⟨r, J1, J2, h1, h2, hI2⟩ := hp E J wx wm hI a1.toInt a2.toInt a3.toInt (i32_r a1) (i32_r a2) (i32_r a3)
  obtain ⟨⟨r1, M1⟩, e1, t1, hM1⟩ := h_X11_put hM wx rfl rfl rfl h1
  obtain ⟨⟨r2, M2⟩, e2, t2, hM2⟩ := h_X12_put hM1 wm rfl rfl rfl h2
  have er : r2 = r1 := Int32.toInt_inj.mp (t2.trans t1.symm)
  subst er
  exact ⟨r2, M1, M2, o_isO hM wx.1, e1, o_isO hM1 wm.1, e2, E, J2, hM2, wx, wm, wo, hI2⟩
def Pu_35 (I : Iv) (x m o : Nat) : Prop := ∀ (E : Em) (J : Jm), W11 E x → W12 E m → I x m o E J → ∀ z1 z2 z3 z4 z5 : Int, (-2147483648 ≤ z1 ∧ z1 ≤ 2147483647) → (-2147483648 ≤ z2 ∧ z2 ≤ 2147483647) → (-2147483648 ≤ z3 ∧ z3 ≤ 2147483647) → (-2147483648 ≤ z4 ∧ z4 ≤ 2147483647) → (-2147483648 ≤ z5 ∧ z5 ≤ 2147483647) → ∃ (r : Int) (J1 : Jm) (J2 : Jm), H_X11_copy E x z1 z2 z3 z4 z5 J = some (r, J1) ∧ H_X12_copy m z1 z2 z3 z4 z5 J1 = some (r, J2) ∧ I x m o E J2
theorem lift_35 {I : Iv} {x m o : Nat} (hp : Pu_35 I x m o) : Op_35 (RI I x m o) x m := by
  rintro M a1 a2 a3 a4 a5 ⟨E, J, hM, wx, wm, wo, hI⟩
  obtain ⟨r, J1, J2, h1, h2, hI2⟩ := hp E J wx wm hI a1.toInt a2.toInt a3.toInt a4.toInt a5.toInt (i32_r a1) (i32_r a2) (i32_r a3) (i32_r a4) (i32_r a5)
  obtain ⟨⟨r1, M1⟩, e1, t1, hM1⟩ := h_X11_copy hM wx rfl rfl rfl rfl rfl h1
  obtain ⟨⟨r2, M2⟩, e2, t2, hM2⟩ := h_X12_copy hM1 wm rfl rfl rfl rfl rfl h2
  have er : r2 = r1 := Int32.toInt_inj.mp (t2.trans t1.symm)
  subst er
  exact ⟨r2, M1, M2, o_isO hM wx.1, e1, o_isO hM1 wm.1, e2, E, J2, hM2, wx, wm, wo, hI2⟩
def Pu_36 (I : Iv) (x m o : Nat) : Prop := ∀ (E : Em) (J : Jm), W11 E x → W12 E m → I x m o E J → ∀ z1 : Int, (-2147483648 ≤ z1 ∧ z1 ≤ 2147483647) → ∃ (r : Int), H_X11_sum E x z1 J = some r ∧ H_X12_sum m z1 J = some r ∧ I x m o E J
theorem lift_36 {I : Iv} {x m o : Nat} (hp : Pu_36 I x m o) : Op_36 (RI I x m o) x m := by
  rintro M a1 ⟨E, J, hM, wx, wm, wo, hI⟩
  obtain ⟨r, h1, h2, hI2⟩ := hp E J wx wm hI a1.toInt (i32_r a1)
  obtain ⟨⟨r1, M1⟩, e1, t1, hM1⟩ := h_X11_sum hM wx rfl h1
  obtain ⟨⟨r2, M2⟩, e2, t2, hM2⟩ := h_X12_sum hM1 wm rfl h2
  have er : r2 = r1 := Int32.toInt_inj.mp (t2.trans t1.symm)
  subst er
  exact ⟨r2, M1, M2, o_isO hM wx.1, e1, o_isO hM1 wm.1, e2, E, J, hM2, wx, wm, wo, hI2⟩
