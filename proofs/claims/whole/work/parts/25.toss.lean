/-! toss: its second mirror by hand, and its case -/
def jE (E : Em) (j : Nat) : Em := (E.1, E.2.1, E.2.2.1, E.2.2.2 + j)
theorem mre_jk {E : Em} {M : Mm} {J : Jm} (hM : Mre E M J) (j : Nat) : Mre (jE E j) (jk M j) J := ⟨hM.1, hM.2.1, hM.2.2.1, congrArg (· + j) hM.2.2.2.1, hM.2.2.2.2⟩
def H_X11_toss (E : Em) (x : Nat) (z : Int) (J : Jm) : Option Int :=
  (H_X11_shelfAt E x z).bind fun v =>
  oe v (some (-1 : Int)) fun a =>
    if J a 0 = 1 then
      if J a 7 = 0 then
        if J a 4 = 0 then some (-15 : Int) else if J a 4 = 3 then some (wr (100 + J a 5)) else some (J a 5)
      else some (-15 : Int)
    else if J a 0 = 0 then some (-11 : Int) else some (-12 : Int)
theorem h_X11_throwFailure {E : Em} {M : Mm} {J : Jm} (hM : Mre E M J) {a : Nat} (w : E.1 a = (8 + 7, 0)) : F_X11_throwFailure a M = some ((if J a 7 = 0 then (if J a 4 = 0 then 0 else if J a 4 = 3 then 3 else 2) else 0 : Nat), M) := by
  obtain ⟨v7, e7, t7⟩ := o_rdI (k := 7) hM w
  obtain ⟨v4, e4, t4⟩ := o_rdI (k := 4) hM w
  unfold F_X11_throwFailure
  rw [e7, Option.bind_some]
  by_cases c : J a 7 = 0
  · rw [if_pos ((c_eq (b := 0) (B := 0) t7 rfl).mpr c), e4, Option.bind_some, if_pos c]
    by_cases c4 : J a 4 = 0
    · rw [if_pos ((c_eq (b := 0) (B := 0) t4 rfl).mpr c4), if_pos c4]
    · rw [if_neg (fun q => c4 ((c_eq (b := 0) (B := 0) t4 rfl).mp q)), Option.bind_some, if_neg c4]
      by_cases c3 : J a 4 = 3
      · rw [if_pos ((c_eq (b := 3) (B := 3) t4 rfl).mpr c3), if_pos c3]
      · rw [if_neg (fun q => c3 ((c_eq (b := 3) (B := 3) t4 rfl).mp q)), if_neg c3]
  · rw [if_neg (fun q => c ((c_eq (b := 0) (B := 0) t7 rfl).mp q)), if_neg c]
theorem h_X11_toss {E : Em} {M : Mm} {J : Jm} (hM : Mre E M J) {this : Nat} (wthis : W11 E this) {p1 : Int32} {zp1 : Int} (tp1 : p1.toInt = zp1) {z : Int} (h : H_X11_toss E this zp1 J = some z) : Ok (F_X11_toss this p1 M) (fun q => q.1.toInt = z ∧ Mre E q.2 J) := by
  unfold H_X11_toss at h
  replace h := ob h; obtain ⟨v, hv, h⟩ := h
  obtain ⟨⟨v3, M1⟩, e1, t1, hM1, w8⟩ := h_X11_shelfAt hM wthis tp1 hv
  dsimp only at t1 w8 hM1
  subst t1
  unfold F_X11_toss
  refine ok_b (o_isO hM wthis.1) (ok_b e1 ?_)
  dsimp only
  cases v3 with
  | none =>
    have h : some (-1 : Int) = some z := h
    cases h
    exact ⟨_, rfl, rfl, hM1⟩
  | some a =>
    have wa := (w8 a rfl).1
    obtain ⟨v0, e0, t0⟩ := o_rdI (k := 0) hM1 wa
    obtain ⟨v5, e5, t5⟩ := o_rdI (k := 5) hM1 wa
    have h : (if J a 0 = 1 then (if J a 7 = 0 then (if J a 4 = 0 then some (-15 : Int) else if J a 4 = 3 then some (wr (100 + J a 5)) else some (J a 5)) else some (-15 : Int)) else if J a 0 = 0 then some (-11 : Int) else some (-12 : Int)) = some z := h
    refine ok_b e0 ?_
    by_cases c : J a 0 = 1
    · rw [if_pos c] at h
      refine ok_t ((c_eq (b := 1) (B := 1) t0 rfl).mpr c) (ok_b (h_X11_throwFailure hM1 wa) ?_)
      dsimp only
      by_cases c7 : J a 7 = 0
      · rw [if_pos c7] at h
        rw [if_pos c7]
        by_cases c4 : J a 4 = 0
        · rw [if_pos c4] at h
          rw [if_pos c4]
          cases h
          exact ⟨_, rfl, rfl, hM1⟩
        · rw [if_neg c4] at h
          rw [if_neg c4]
          by_cases c3 : J a 4 = 3
          · rw [if_pos c3] at h
            rw [if_pos c3]
            cases h
            refine ok_f (by decide) (ok_b e5 (ok_t rfl ⟨_, rfl, ?_, hM1⟩))
            exact t_add (a := 100) (A := 100) rfl t5
          · rw [if_neg c3] at h
            rw [if_neg c3]
            cases h
            exact ok_f (by decide) (ok_b e5 (ok_f (by decide) (ok_t rfl ⟨_, rfl, t5, hM1⟩)))
      · rw [if_neg c7] at h
        rw [if_neg c7]
        cases h
        exact ⟨_, rfl, rfl, hM1⟩
    · rw [if_neg c] at h
      refine ok_f (fun q => c ((c_eq (b := 1) (B := 1) t0 rfl).mp q)) (ok_b e0 ?_)
      by_cases c0 : J a 0 = 0
      · rw [if_pos c0] at h
        cases h
        exact ok_t ((c_eq (b := 0) (B := 0) t0 rfl).mpr c0) ⟨_, rfl, rfl, hM1⟩
      · rw [if_neg c0] at h
        cases h
        exact ok_f (fun q => c0 ((c_eq (b := 0) (B := 0) t0 rfl).mp q)) ⟨_, rfl, rfl, hM1⟩
def Pu_37 (I : Iv) (x m o : Nat) : Prop := ∀ (E : Em) (J : Jm), W11 E x → W12 E m → I x m o E J → ∀ z1 : Int, (-2147483648 ≤ z1 ∧ z1 ≤ 2147483647) → ∃ r : Int, H_X11_toss E x z1 J = some r ∧ H_X12_toss m z1 J = some r ∧ ∀ j : Nat, I x m o (jE E j) J
theorem lift_37 {I : Iv} {x m o : Nat} (hp : Pu_37 I x m o) : Op_37 (RI I x m o) x m := by
  rintro M a1 ⟨E, J, hM, wx, wm, wo, hI⟩
  obtain ⟨r, h1, h2, hI2⟩ := hp E J wx wm hI a1.toInt (i32_r a1)
  obtain ⟨⟨r1, M1⟩, e1, t1, hM1⟩ := h_X11_toss hM wx rfl h1
  refine ⟨r1, M1, o_isO hM wx.1, e1, fun j => ?_⟩
  have hMj := mre_jk hM1 j
  obtain ⟨⟨r2, M2⟩, e2, t2, hM2⟩ := h_X12_toss hMj (this := m) wm rfl h2
  have er : r2 = r1 := Int32.toInt_inj.mp (t2.trans t1.symm)
  subst er
  exact ⟨M2, o_isO hMj wm.1, e2, jE E j, J, hM2, wx, wm, wo, hI2 j⟩
