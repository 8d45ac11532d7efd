/-! toss agrees; element: its second mirror by hand -/
section TOSS
variable {x m : Nat} {E : Em} {J : Jm}
theorem pu37 (hS : Shs x m E J) (z : Int) : ∃ r : Int, H_X11_toss E x z J = some r ∧ H_X12_toss m z J = some r := by
  by_cases hz : 0 ≤ z ∧ z < 8
  · obtain ⟨d, rfl, hd⟩ := q_nat hz
    have hd : d < 8 := by omega
    obtain ⟨s0, ⟨e0, l0⟩, s1, s2, ⟨e4, l4⟩, ⟨e5, l5⟩, s6, ⟨e7, l7⟩, s8⟩ := hS d hd
    have q10 : jL J (m + 10) 8 (d : Int) = some (J (m + 10) d) := q_jL (by omega)
    have q11 : jL J (m + 11) 8 (d : Int) = some (J (m + 11) d) := q_jL (by omega)
    have q13 : jL J (m + 13) 8 (d : Int) = some (J (m + 13) d) := q_jL (by omega)
    have w1 : wr (100 + J (m + 11) d) = J (m + 11) d + 100 := by
      rw [wr_id (by omega)]
      omega
    have w2 : wr (J (m + 11) d + 100) = J (m + 11) d + 100 := wr_id (by omega)
    have w3 : wr (J (m + 11) d + 0) = J (m + 11) d := by
      rw [wr_id (by omega)]
      omega
    unfold H_X11_toss H_X12_toss
    rw [sA_in hS hd, lacks_in hd, q10, q11, q13]
    simp only [Option.bind_some, oe, e0, e4, e5, e7, nv]
    rcases three l0 with h | h | h
    · exact ⟨-11, by simp [h], by simp [h]⟩
    · by_cases c7 : J (m + 13) d = 0
      · by_cases c4 : J (m + 10) d = 0
        · exact ⟨-15, by simp [h, c7, c4], by simp [h, c4]⟩
        · by_cases c3 : J (m + 10) d = 3
          · exact ⟨J (m + 11) d + 100, by simp [h, c7, c3, w1], by simp [h, c7, c3, w2]⟩
          · exact ⟨J (m + 11) d, by simp [h, c7, c4, c3], by simp [h, c7, c4, c3, wr_id (z := J (m + 11) d) (by omega)]⟩
      · exact ⟨-15, by simp [h, c7], by simp [h, c7]⟩
    · exact ⟨-12, by simp [h], by simp [h]⟩
  · refine ⟨-1, ?_, ?_⟩
    · unfold H_X11_toss; rw [sA_out hz]; rfl
    · unfold H_X12_toss; rw [lacks_out hz]; rfl
end TOSS
/-- element: code and value -/
def H_X11_element (E : Em) (x : Nat) (z1 z2 : Int) (J : Jm) : Option (Nat × Int) :=
  (H_X11_shelfAt E x z1).bind fun v =>
  oe v (some (1, 0)) fun a =>
    if J a 0 = 2 then
      if 0 ≤ z2 ∧ z2 < J a 2 then (jL J (a + 1) 80 z2).bind fun y => some (0, y) else some (2, 0)
    else some (2, 0)
theorem h_X11_element {E : Em} {M : Mm} {J : Jm} (hM : Mre E M J) {this : Nat} (wthis : W11 E this) {p1 p2 : Int32} {zp1 zp2 : Int} (tp1 : p1.toInt = zp1) (tp2 : p2.toInt = zp2) {k : Nat} {z : Int} (h : H_X11_element E this zp1 zp2 J = some (k, z)) : Ok (F_X11_element this p1 p2 M) (fun q => q.1 = k ∧ q.2.1.toInt = z ∧ Mre E q.2.2 J) := by
  unfold H_X11_element at h
  replace h := ob h; obtain ⟨v, hv, h⟩ := h
  obtain ⟨⟨v3, M1⟩, e1, t1, hM1, w8⟩ := h_X11_shelfAt hM wthis tp1 hv
  dsimp only at t1 w8 hM1
  subst t1
  unfold F_X11_element
  refine ok_b (o_isO hM wthis.1) (ok_b e1 ?_)
  dsimp only
  cases v3 with
  | none =>
    have h : some ((1 : Nat), (0 : Int)) = some (k, z) := h
    cases h
    exact ⟨_, rfl, rfl, rfl, hM1⟩
  | some a =>
    have wa := (w8 a rfl).1
    have wb := (w8 a rfl).2
    obtain ⟨v0, e0, t0⟩ := o_rdI (k := 0) hM1 wa
    obtain ⟨v2, e2, t2⟩ := o_rdI (k := 2) hM1 wa
    have h : (if J a 0 = 2 then (if 0 ≤ zp2 ∧ zp2 < J a 2 then (jL J (a + 1) 80 zp2).bind fun y => some ((0 : Nat), y) else some (2, 0)) else some (2, 0)) = some (k, z) := h
    refine ok_b e0 ?_
    by_cases c : J a 0 = 2
    · rw [if_pos c] at h
      refine ok_t ((c_eq (b := 2) (B := 2) t0 rfl).mpr c) ?_
      by_cases c2 : zp2 < 0
      · rw [if_neg (show ¬ (0 ≤ zp2 ∧ zp2 < J a 2) by omega)] at h
        cases h
        exact ok_t ((c_lt (b := 0) (B := 0) tp2 rfl).mpr c2) ⟨_, rfl, rfl, rfl, hM1⟩
      · refine ok_f (fun q => c2 ((c_lt (b := 0) (B := 0) tp2 rfl).mp q)) (ok_b e2 ?_)
        by_cases c3 : zp2 < J a 2
        · rw [if_pos (show 0 ≤ zp2 ∧ zp2 < J a 2 by omega)] at h
          replace h := ob h; obtain ⟨y, hy, h⟩ := h
          cases h
          obtain ⟨v9, e9, t9⟩ := o_ldI hM1 wb.2 (n := 80) rfl tp2 hy
          refine ok_t ((c_lt tp2 t2).mpr c3) (ok_b (o_rdS hM1 wa wb.1) (ok_s (ok_b e9 ?_)))
          exact ⟨_, rfl, rfl, t_l64 t9, hM1⟩
        · rw [if_neg (show ¬ (0 ≤ zp2 ∧ zp2 < J a 2) by omega)] at h
          cases h
          exact ok_f (fun q => c3 ((c_lt tp2 t2).mp q)) ⟨_, rfl, rfl, rfl, hM1⟩
    · rw [if_neg c] at h
      cases h
      exact ok_f (fun q => c ((c_eq (b := 2) (B := 2) t0 rfl).mp q)) ⟨_, rfl, rfl, rfl, hM1⟩
def Pu_34 (I : Iv) (x m o : Nat) : Prop := ∀ (E : Em) (J : Jm), W11 E x → W12 E m → I x m o E J → ∀ z1 z2 : Int, (-2147483648 ≤ z1 ∧ z1 ≤ 2147483647) → (-2147483648 ≤ z2 ∧ z2 ≤ 2147483647) → ∃ (k : Nat) (r : Int) (J2 : Jm), k ≤ 2 ∧ H_X11_element E x z1 z2 J = some (k, r) ∧ H_X12_element m z1 z2 J = some (r, J2) ∧ J2 m 0 = (k : Int) ∧ -2147483648 ≤ r ∧ r ≤ 2147483647 ∧ ∀ E2 : Em, E2.1 = E.1 → E2.2.1 = E.2.1 → I x m o E2 J2
theorem pu34 {x m : Nat} {E : Em} {J : Jm} (hS : Shs x m E J) (z1 z2 : Int) (h2 : -2147483648 ≤ z2 ∧ z2 ≤ 2147483647) : ∃ (k : Nat) (r : Int), k ≤ 2 ∧ H_X11_element E x z1 z2 J = some (k, r) ∧ H_X12_element m z1 z2 J = some (r, jW J m 0 (k : Int)) := by
  by_cases hz : 0 ≤ z1 ∧ z1 < 8
  · obtain ⟨d, rfl, hd⟩ := q_nat hz
    have hd : d < 8 := by omega
    obtain ⟨s0, ⟨e0, l0⟩, s1, ⟨e2, l2⟩, s4, s5, s6, s7, s8⟩ := hS d hd
    have q9 : jL J (m + 9) 8 (d : Int) = some (J (m + 9) d) := q_jL (by omega)
    have q15 : jL J (m + 15) 8 (d : Int) = some (J (m + 15) d) := q_jL (by omega)
    have w1 : wr (J (m + 15) d - 1) = J (m + 15) d - 1 := wr_id (by omega)
    have w2 : wr (80 * (d : Int)) = 80 * (d : Int) := wr_id (by omega)
    have g0 : jW J m 0 0 m 0 = 0 := jW_at
    have g2 : jW J m 0 2 m 0 = 2 := jW_at
    unfold H_X11_element H_X12_element
    rw [sA_in hS hd, isS_q, q9, q15]
    simp only [Option.bind_some, oe, e0, e2, jp, nv, isq, w1, w2]
    by_cases c : J (m + 9) d = 2
    · by_cases c2 : 0 ≤ z2 ∧ z2 < J (m + 15) d
      · clear h2
        obtain ⟨k, rfl, hk⟩ := q_nat c2
        have hk80 : k < 80 := by omega
        have q80 : jL J (x + 57 + 2 * d + 1) 80 (k : Int) = some (J (x + 57 + 2 * d + 1) k) := q_jL (by omega)
        have q8 : J (x + 57 + 2 * d + 1) k = J (m + 16) (80 * d + k) := s8 k hk80
        have e8 : ((80 * d + k : Nat) : Int) < 640 := by omega
        have c4 : 0 ≤ (k : Int) ∧ (k : Int) ≤ J (m + 15) d - 1 := by omega
        have w3 : wr (80 * (d : Int) + (k : Int)) = ((80 * d + k : Nat) : Int) := by
          rw [wr_id (by omega)]
          omega
        have q640 : jL (jW J m 0 0) (m + 16) 640 ((80 * d + k : Nat) : Int) = some (J (m + 16) (80 * d + k)) := by
          have e9 : jW J m 0 0 (m + 16) = J (m + 16) := jW_ne (by omega)
          rw [q_jL e8, e9]
        refine ⟨0, J (m + 16) (80 * d + k), Nat.zero_le 2, ?_, ?_⟩
        · rw [if_pos c, if_pos c2, q80, Option.bind_some, q8]
        · rw [if_pos hz, if_neg (show ¬ (1 : Int) = 0 by decide), if_pos c, if_pos c4, if_neg (show ¬ (1 : Int) = 0 by decide), g0, if_pos (show (0 : Int) ≤ 0 by decide), w3, q640]
          rfl
      · refine ⟨2, 0, by omega, by rw [if_pos c, if_neg c2], ?_⟩
        rw [if_pos hz, if_neg (show ¬ (1 : Int) = 0 by decide), if_pos c, if_neg (show ¬ (0 ≤ z2 ∧ z2 ≤ J (m + 15) d - 1) by omega), if_pos rfl, g2, if_neg (show ¬ (2 : Int) ≤ 0 by decide)]
        rfl
    · refine ⟨2, 0, by omega, by rw [if_neg c], ?_⟩
      rw [if_pos hz, if_neg (show ¬ (1 : Int) = 0 by decide), if_neg c, g2, if_neg (show ¬ (2 : Int) ≤ 0 by decide)]
      rfl
  · have g1 : jW J m 0 1 m 0 = 1 := jW_at
    refine ⟨1, 0, by omega, ?_, ?_⟩
    · unfold H_X11_element; rw [sA_out hz]; rfl
    · unfold H_X12_element
      rw [isS_q, if_neg hz]
      simp only [Option.bind_some, jp, nv]
      rw [if_pos trivial, g1, if_neg (show ¬ (1 : Int) ≤ 0 by decide)]
      rfl
