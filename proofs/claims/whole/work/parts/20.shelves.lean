/-! THE SHELVES: both sides hold the same -/
def ShD (x m : Nat) (E : Em) (J : Jm) (d : Nat) : Prop :=
  E.2.1 (x + 56) d = some (x + 57 + 2 * d) ∧ (J (x + 57 + 2 * d) 0 = J (m + 9) d ∧ 0 ≤ J (m + 9) d ∧ J (m + 9) d ≤ 2) ∧ (J (x + 57 + 2 * d) 1 = J (m + 14) d ∧ 0 ≤ J (m + 14) d ∧ J (m + 14) d ≤ 2) ∧
  (J (x + 57 + 2 * d) 2 = J (m + 15) d ∧ 0 ≤ J (m + 15) d ∧ J (m + 15) d ≤ 80) ∧ (J (x + 57 + 2 * d) 4 = J (m + 10) d ∧ 0 ≤ J (m + 10) d ∧ J (m + 10) d ≤ 3) ∧ (J (x + 57 + 2 * d) 5 = J (m + 11) d ∧ 0 ≤ J (m + 11) d ∧ J (m + 11) d ≤ 79) ∧
  (J (x + 57 + 2 * d) 6 = J (m + 12) d ∧ 0 ≤ J (m + 12) d ∧ J (m + 12) d ≤ 999) ∧ (J (x + 57 + 2 * d) 7 = J (m + 13) d ∧ 0 ≤ J (m + 13) d ∧ J (m + 13) d ≤ 2) ∧ ∀ k : Nat, k < 80 → J (x + 57 + 2 * d + 1) k = J (m + 16) (80 * d + k)
def Shs (x m : Nat) (E : Em) (J : Jm) : Prop := ∀ d : Nat, d < 8 → ShD x m E J d
theorem q_nat {z n : Int} (h : 0 ≤ z ∧ z < n) : ∃ d : Nat, z = (d : Int) ∧ (d : Int) < n := ⟨z.toNat, by omega, by omega⟩
theorem q_jL {J : Jm} {a d : Nat} {n : Int} (h : (d : Int) < n) : jL J a n (d : Int) = some (J a d) := by
  unfold jL
  rw [if_pos ⟨Int.natCast_nonneg d, h⟩]
  rfl
theorem q_jS {J : Jm} {a d : Nat} {n v : Int} (h : (d : Int) < n) : jS J a n (d : Int) v = some (jW J a d v) := by
  unfold jS
  rw [if_pos ⟨Int.natCast_nonneg d, h⟩]
  rfl
theorem q_jR {E : Em} {a d : Nat} {n : Int} (h : (d : Int) < n) : jR E a n (d : Int) = some (E.2.1 a d) := by
  unfold jR
  rw [if_pos ⟨Int.natCast_nonneg d, h⟩]
  rfl
section SHELVES
variable {x m : Nat} {E : Em} {J : Jm} {d : Nat}
theorem sA_in (hS : Shs x m E J) (hd : d < 8) : H_X11_shelfAt E x (d : Int) = some (some (x + 57 + 2 * d)) := by
  unfold H_X11_shelfAt
  rw [if_neg (by omega), if_neg (by omega), q_jR (by omega), (hS d hd).1]
  rfl
theorem sA_out {z : Int} (hz : ¬ (0 ≤ z ∧ z < 8)) : H_X11_shelfAt E x z = some none := by
  unfold H_X11_shelfAt
  by_cases h : z < 0
  · rw [if_pos h]
  · rw [if_neg h, if_pos (by omega)]
theorem isq (m : Nat) (a b c : Int) : H_X12_is m a b c = some (if b ≤ a ∧ a ≤ c then 1 else 0) := by
  unfold H_X12_is
  by_cases h1 : a < b
  · rw [if_pos h1, if_neg (by omega)]
  · by_cases h2 : c < a
    · rw [if_neg h1, if_pos h2, if_neg (by omega)]
    · rw [if_neg h1, if_neg h2, if_pos (by omega)]
theorem isS_q (m : Nat) (z : Int) : H_X12_isShelf m z = some (if 0 ≤ z ∧ z < 8 then 1 else 0) := by
  unfold H_X12_isShelf
  rw [isq]
  by_cases h : 0 ≤ z ∧ z < 8
  · rw [if_pos h, if_pos (by omega)]; rfl
  · rw [if_neg h, if_neg (by omega)]; rfl
theorem lacks_in (hd : d < 8) : H_X12_lacksGlider m (d : Int) J = some (if J (m + 9) d = 0 then -11 else if J (m + 9) d = 2 then -12 else 0) := by
  unfold H_X12_lacksGlider
  rw [isS_q, if_pos (by omega), Option.bind_some, if_neg (by decide), q_jL (by omega), Option.bind_some]
  by_cases h : J (m + 9) d = 0
  · rw [if_pos h, if_pos h]
  · rw [if_neg h, if_neg h, Option.bind_some]
    by_cases h2 : J (m + 9) d = 2
    · rw [if_pos h2, if_pos h2]
    · rw [if_neg h2, if_neg h2]
theorem lacks_out {z : Int} (hz : ¬ (0 ≤ z ∧ z < 8)) : H_X12_lacksGlider m z J = some (-1) := by
  unfold H_X12_lacksGlider
  rw [isS_q, if_neg hz, Option.bind_some, if_pos rfl]
theorem four {k : Int} (h : 0 ≤ k ∧ k ≤ 3) : k = 0 ∨ k = 1 ∨ k = 2 ∨ k = 3 := by omega
theorem three {k : Int} (h : 0 ≤ k ∧ k ≤ 2) : k = 0 ∨ k = 1 ∨ k = 2 := by omega
theorem jT00 : jT 0 0 = some 2 := by decide
theorem jT01 : jT 0 1 = some 1 := by decide
theorem jT02 : jT 0 2 = some 3 := by decide
theorem jT03 : jT 0 3 = some 1 := by decide
theorem jT10 : jT 1 0 = some 2 := by decide
theorem jT11 : jT 1 1 = some 3 := by decide
theorem jT12 : jT 1 2 = some 1 := by decide
theorem jT13 : jT 1 3 = some 4 := by decide
theorem pu36 (hS : Shs x m E J) (z : Int) : ∃ r : Int, H_X11_sum E x z J = some r ∧ H_X12_sum m z J = some r := by
  by_cases hz : 0 ≤ z ∧ z < 8
  · obtain ⟨d, rfl, hd⟩ := q_nat hz
    have hd : d < 8 := by omega
    obtain ⟨s0, ⟨e0, l0⟩, s1, s2, ⟨e4, l4⟩, s5, ⟨e6, l6⟩, s7, s8⟩ := hS d hd
    unfold H_X11_sum H_X12_sum
    rw [sA_in hS hd, lacks_in hd, q_jL (n := 8) (by omega)]
    simp only [Option.bind_some, oe, e0, e4, e6]
    rcases three l0 with h | h | h
    · exact ⟨-11, by simp [h], by simp [h]⟩
    · rcases four l4 with k | k | k | k
      · exact ⟨122, by simp only [h, k, jT00, jT10, Option.bind_some]; rfl, by simp only [h, k, nv, jp]; rfl⟩
      · exact ⟨115, by simp only [h, k, jT01, jT11, Option.bind_some]; rfl, by simp only [h, k, nv, jp]; rfl⟩
      · refine ⟨wr (131 + J (m + 12) d), ?_, ?_⟩
        · simp only [h, k, jT02, jT12, Option.bind_some]
          rfl
        · rw [q_jL (n := 8) (by omega)]
          simp only [h, k, nv, jp, Option.bind_some]
          rfl
      · exact ⟨234, by simp only [h, k, jT03, jT13, Option.bind_some]; rfl, by simp only [h, k, nv, jp]; rfl⟩
    · exact ⟨-12, by simp [h], by simp [h]⟩
  · refine ⟨-1, ?_, ?_⟩
    · unfold H_X11_sum; rw [sA_out hz]; rfl
    · unfold H_X12_sum; rw [lacks_out hz]; rfl
end SHELVES
