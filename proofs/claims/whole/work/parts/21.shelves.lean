/-! THE SHELVES: put -/
theorem jW_ne {J : Jm} {a b k : Nat} {v : Int} (h : b ≠ a) : jW J a k v b = J b := by
  unfold jW up1
  rw [if_neg h]
theorem jW_at {J : Jm} {a k : Nat} {v : Int} : jW J a k v a k = v := by
  unfold jW up1
  rw [if_pos rfl, if_pos rfl]
theorem jW_of {J : Jm} {a k j : Nat} {v : Int} (h : j ≠ k) : jW J a k v a j = J a j := by
  unfold jW up1
  rw [if_pos rfl, if_neg h]
/-- the shelves' addresses -/
def ShA (x m b : Nat) : Prop := (x + 57 ≤ b ∧ b < x + 73) ∨ (m + 9 ≤ b ∧ b ≤ m + 17)
section PUT
variable {x m : Nat} {E : Em} {J : Jm} {d : Nat}
theorem low_ex (s z : Int) : ∃ v, H_X11_lowestBits s z = some v ∧ H_X12_narrow m s z = some v := by
  unfold H_X11_lowestBits H_X12_narrow
  by_cases h : s = 0
  · exact ⟨_, if_pos h, if_pos h⟩
  · by_cases h1 : s = 1
    · exact ⟨_, (if_neg h).trans (if_pos h1), (if_neg h).trans (if_pos h1)⟩
    · exact ⟨_, (if_neg h).trans (if_neg h1), (if_neg h).trans (if_neg h1)⟩
theorem put_ref (hd : d < 8) (l2 : 0 ≤ J (m + 15) d ∧ J (m + 15) d ≤ 80) (z2 z3 : Int) (J1 : Jm) (h9 : J1 (m + 9) = J (m + 9)) (h14 : J1 (m + 14) = J (m + 14)) (h15 : J1 (m + 15) = J (m + 15)) : H_X12_put m (d : Int) z2 z3 J1 = (if J (m + 9) d = 0 then some (-11, J1) else if J (m + 9) d = 2 then (if 0 ≤ z2 ∧ z2 < J (m + 15) d then (H_X12_narrow m (J (m + 14) d) z3).bind fun v => (jS J1 (m + 16) 640 (80 * (d : Int) + z2) v).bind fun J2 => some (0, J2) else some (-13, J1)) else some (-12, J1)) := by
  unfold H_X12_put
  rw [isS_q, if_pos (show 0 ≤ (d : Int) ∧ (d : Int) < 8 by omega), Option.bind_some, if_neg (show ¬ (1 : Int) = 0 by decide), q_jL (n := 8) (by omega), q_jL (n := 8) (by omega), q_jL (n := 8) (by omega), h9, h14, h15]
  by_cases h0 : J (m + 9) d = 0
  · rw [if_pos h0, Option.bind_some, if_pos h0]
  · rw [if_neg h0, Option.bind_some, if_neg h0, Option.bind_some]
    by_cases h2 : J (m + 9) d = 2
    · rw [if_pos h2, if_pos h2, Option.bind_some, isq, Option.bind_some]
      have ew : wr (J (m + 15) d - 1) = J (m + 15) d - 1 := wr_id (by omega)
      rw [ew]
      by_cases hk : 0 ≤ z2 ∧ z2 < J (m + 15) d
      · rw [if_pos hk, if_pos (show 0 ≤ z2 ∧ z2 ≤ J (m + 15) d - 1 by omega), if_neg (show ¬ (1 : Int) = 0 by decide), Option.bind_some]
        have e1 : wr (80 * (d : Int)) = 80 * (d : Int) := wr_id (by omega)
        have e2 : wr (80 * (d : Int) + z2) = 80 * (d : Int) + z2 := wr_id (by omega)
        rw [e1, e2]
      · rw [if_neg hk, if_neg (show ¬ (0 ≤ z2 ∧ z2 ≤ J (m + 15) d - 1) by omega), if_pos rfl]
    · rw [if_neg h2, if_neg h2]
theorem put_fr (hx : x + 73 ≤ m) (hS : Shs x m E J) (hd : d < 8) {k : Nat} (hk : k < 80) (v : Int) : Shs x m E (jW (jW J (x + 57 + 2 * d + 1) k v) (m + 16) (80 * d + k) v) ∧ ∀ b, ¬ ShA x m b → (jW (jW J (x + 57 + 2 * d + 1) k v) (m + 16) (80 * d + k) v) b = J b := by
  refine ⟨fun d' hd' => ?_, fun b hb => ?_⟩
  · obtain ⟨t0, t1, t2, t3, t4, t5, t6, t7, t8⟩ := hS d' hd'
    refine ⟨t0, ?_, ?_, ?_, ?_, ?_, ?_, ?_, fun k' hk' => ?_⟩
    · rw [jW_ne (by omega), jW_ne (by omega), jW_ne (by omega), jW_ne (by omega)]; exact t1
    · rw [jW_ne (by omega), jW_ne (by omega), jW_ne (by omega), jW_ne (by omega)]; exact t2
    · rw [jW_ne (by omega), jW_ne (by omega), jW_ne (by omega), jW_ne (by omega)]; exact t3
    · rw [jW_ne (by omega), jW_ne (by omega), jW_ne (by omega), jW_ne (by omega)]; exact t4
    · rw [jW_ne (by omega), jW_ne (by omega), jW_ne (by omega), jW_ne (by omega)]; exact t5
    · rw [jW_ne (by omega), jW_ne (by omega), jW_ne (by omega), jW_ne (by omega)]; exact t6
    · rw [jW_ne (by omega), jW_ne (by omega), jW_ne (by omega), jW_ne (by omega)]; exact t7
    · rw [jW_ne (J := jW J _ _ _) (a := m + 16) (b := x + 57 + 2 * d' + 1) (by omega)]
      by_cases hdd : d' = d
      · subst hdd
        by_cases hkk : k' = k
        · subst hkk
          rw [jW_at, jW_at]
        · rw [jW_of hkk, jW_of (by omega), jW_ne (by omega)]
          exact t8 k' hk'
      · rw [jW_ne (by omega), jW_of (by omega), jW_ne (by omega)]
        exact t8 k' hk'
  · unfold ShA at hb
    rw [jW_ne (by omega), jW_ne (by omega)]
theorem pu33 (hx : x + 73 ≤ m) (hS : Shs x m E J) (z1 z2 z3 : Int) : ∃ (r : Int) (J1 J2 : Jm), H_X11_put E x z1 z2 z3 J = some (r, J1) ∧ H_X12_put m z1 z2 z3 J1 = some (r, J2) ∧ Shs x m E J2 ∧ ∀ b, ¬ ShA x m b → J2 b = J b := by
  by_cases hz : 0 ≤ z1 ∧ z1 < 8
  · obtain ⟨d, rfl, hd⟩ := q_nat hz
    have hd : d < 8 := by omega
    obtain ⟨s0, ⟨e0, l0⟩, ⟨e1, l1⟩, ⟨e2, l2⟩, s4, s5, s6, s7, s8⟩ := hS d hd
    have ref := fun J1 h9 h14 h15 => put_ref (m := m) (J := J) hd l2 z2 z3 J1 h9 h14 h15
    unfold H_X11_put
    rw [sA_in hS hd]
    simp only [Option.bind_some, oe, e0, e1, e2]
    by_cases h2 : J (m + 9) d = 2
    · simp only [if_pos h2]
      by_cases hk : 0 ≤ z2 ∧ z2 < J (m + 15) d
      · obtain ⟨v, v1, v2⟩ := low_ex (m := m) (J (m + 14) d) z3
        obtain ⟨k, rfl, hk2⟩ := q_nat hk
        rw [if_neg (by omega), if_pos hk2, v1, Option.bind_some, q_jS (n := 80) (by omega), Option.bind_some]
        refine ⟨0, _, jW (jW J (x + 57 + 2 * d + 1) k v) (m + 16) (80 * d + k) v, rfl, ?_, ?_⟩
        · rw [ref _ (jW_ne (by omega)) (jW_ne (by omega)) (jW_ne (by omega)), if_neg (by omega), if_pos h2, if_pos hk, v2, Option.bind_some, show 80 * (d : Int) + (k : Int) = ((80 * d + k : Nat) : Int) by omega, q_jS (n := 640) (by omega), Option.bind_some]
        · exact put_fr hx hS hd (by omega) v
      · refine ⟨-13, J, J, ?_, ?_, hS, fun _ _ => rfl⟩
        · by_cases hn : z2 < 0
          · rw [if_pos hn]
          · rw [if_neg hn, if_neg (by omega)]
        · rw [ref J rfl rfl rfl, if_neg (by omega), if_pos h2, if_neg hk]
    · simp only [if_neg h2]
      by_cases h0 : J (m + 9) d = 0
      · exact ⟨-11, J, J, by rw [if_pos h0], by rw [ref J rfl rfl rfl, if_pos h0], hS, fun _ _ => rfl⟩
      · exact ⟨-12, J, J, by rw [if_neg h0], by rw [ref J rfl rfl rfl, if_neg h0, if_neg h2], hS, fun _ _ => rfl⟩
  · refine ⟨-1, J, J, ?_, ?_, hS, fun _ _ => rfl⟩
    · unfold H_X11_put; rw [sA_out hz]; rfl
    · unfold H_X12_put; rw [isS_q, if_neg hz]; rfl
end PUT
