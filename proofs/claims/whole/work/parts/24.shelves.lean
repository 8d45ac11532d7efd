/-! THE SHELVES: copy agrees -/
theorem jA_ne {J : Jm} {a b : Nat} {f : Nat → Int} (h : b ≠ a) : jA J a f b = J b := by
  unfold jA up1
  rw [if_neg h]
theorem jA_at {J : Jm} {a : Nat} {f : Nat → Int} : jA J a f a = f := by
  unfold jA up1
  rw [if_pos rfl]
section COPY2
variable {x m : Nat} {E : Em} {J : Jm} {d : Nat}
theorem copyM_in {d e : Nat} (hd : d < 8) (he : e < 8) (i j n : Int) (J1 : Jm) (h9 : J1 (m + 9) = J (m + 9)) (h14 : J1 (m + 14) = J (m + 14)) (h15 : J1 (m + 15) = J (m + 15)) (l0 : 0 ≤ J (m + 15) d ∧ J (m + 15) d ≤ 80) (k0 : 0 ≤ J (m + 15) e ∧ J (m + 15) e ≤ 80) (hn : -2147483648 ≤ n ∧ n ≤ 2147483647) : H_X12_copy m (d : Int) i (e : Int) j n J1 = (if J (m + 9) d = 0 ∨ J (m + 9) e = 0 then some (-11, J1) else if J (m + 9) d = 2 ∧ J (m + 9) e = 2 ∧ J (m + 14) d = J (m + 14) e then (if 0 ≤ i ∧ 0 ≤ j ∧ 0 ≤ n ∧ i + n ≤ J (m + 15) d ∧ j + n ≤ J (m + 15) e then H_X12_copy_L124 (fun (J51 : Jm) => H_X12_copy_L161 m (e : Int) j n 1000000 0 J51) m (d : Int) i (e : Int) j n 1000000 0 J1 else some (-13, J1)) else some (-12, J1)) := by
  unfold H_X12_copy
  rw [isS_q, if_pos (show 0 ≤ (d : Int) ∧ (d : Int) < 8 by omega), Option.bind_some, if_neg (show ¬ (1 : Int) = 0 by decide), isS_q, if_pos (show 0 ≤ (e : Int) ∧ (e : Int) < 8 by omega), Option.bind_some, if_neg (show ¬ (1 : Int) = 0 by decide)]
  have q9d : jL J1 (m + 9) 8 (d : Int) = some (J (m + 9) d) := by rw [q_jL (by omega), h9]
  have q9e : jL J1 (m + 9) 8 (e : Int) = some (J (m + 9) e) := by rw [q_jL (by omega), h9]
  have q14d : jL J1 (m + 14) 8 (d : Int) = some (J (m + 14) d) := by rw [q_jL (by omega), h14]
  have q14e : jL J1 (m + 14) 8 (e : Int) = some (J (m + 14) e) := by rw [q_jL (by omega), h14]
  have q15d : jL J1 (m + 15) 8 (d : Int) = some (J (m + 15) d) := by rw [q_jL (by omega), h15]
  have q15e : jL J1 (m + 15) 8 (e : Int) = some (J (m + 15) e) := by rw [q_jL (by omega), h15]
  rw [q9d, q9e, q14d, q14e, q15d, q15e, Option.bind_some]
  by_cases h1 : J (m + 9) d = 0
  · rw [if_pos h1, if_pos (Or.inl h1)]
  · rw [if_neg h1, Option.bind_some]
    by_cases h2 : J (m + 9) e = 0
    · rw [if_pos h2, if_pos (Or.inr h2)]
    · rw [if_neg h2, Option.bind_some, if_neg (show ¬ (J (m + 9) d = 0 ∨ J (m + 9) e = 0) from fun q => q.elim h1 h2)]
      by_cases h3 : J (m + 9) d = 2
      · rw [if_pos h3, Option.bind_some]
        by_cases h4 : J (m + 9) e = 2
        · rw [if_pos h4, Option.bind_some, Option.bind_some]
          by_cases h5 : J (m + 14) d = J (m + 14) e
          · rw [if_pos h5, if_pos (show J (m + 9) d = 2 ∧ J (m + 9) e = 2 ∧ J (m + 14) d = J (m + 14) e from ⟨h3, h4, h5⟩)]
            by_cases g1 : n < 0
            · rw [if_pos g1, if_neg (show ¬ (0 ≤ i ∧ 0 ≤ j ∧ 0 ≤ n ∧ i + n ≤ J (m + 15) d ∧ j + n ≤ J (m + 15) e) by omega)]
            · rw [if_neg g1]
              by_cases g2 : i < 0
              · rw [if_pos g2, if_neg (show ¬ (0 ≤ i ∧ 0 ≤ j ∧ 0 ≤ n ∧ i + n ≤ J (m + 15) d ∧ j + n ≤ J (m + 15) e) by omega)]
              · rw [if_neg g2]
                by_cases g3 : j < 0
                · rw [if_pos g3, if_neg (show ¬ (0 ≤ i ∧ 0 ≤ j ∧ 0 ≤ n ∧ i + n ≤ J (m + 15) d ∧ j + n ≤ J (m + 15) e) by omega)]
                · have e1 : wr (J (m + 15) d - n) = J (m + 15) d - n := wr_id (by omega)
                  have e2 : wr (J (m + 15) e - n) = J (m + 15) e - n := wr_id (by omega)
                  rw [if_neg g3, Option.bind_some, e1]
                  by_cases g4 : J (m + 15) d - n < i
                  · rw [if_pos g4, if_neg (show ¬ (0 ≤ i ∧ 0 ≤ j ∧ 0 ≤ n ∧ i + n ≤ J (m + 15) d ∧ j + n ≤ J (m + 15) e) by omega)]
                  · rw [if_neg g4, Option.bind_some, e2]
                    by_cases g5 : j ≤ J (m + 15) e - n
                    · rw [if_pos g5, if_pos (show 0 ≤ i ∧ 0 ≤ j ∧ 0 ≤ n ∧ i + n ≤ J (m + 15) d ∧ j + n ≤ J (m + 15) e by omega)]
                    · rw [if_neg g5, if_neg (show ¬ (0 ≤ i ∧ 0 ≤ j ∧ 0 ≤ n ∧ i + n ≤ J (m + 15) d ∧ j + n ≤ J (m + 15) e) by omega)]
          · rw [if_neg h5, if_neg (show ¬ (J (m + 9) d = 2 ∧ J (m + 9) e = 2 ∧ J (m + 14) d = J (m + 14) e) from fun q => h5 q.2.2)]
        · rw [if_neg h4, if_neg (show ¬ (J (m + 9) d = 2 ∧ J (m + 9) e = 2 ∧ J (m + 14) d = J (m + 14) e) from fun q => h4 q.2.1)]
      · rw [if_neg h3, if_neg (show ¬ (J (m + 9) d = 2 ∧ J (m + 9) e = 2 ∧ J (m + 14) d = J (m + 14) e) from fun q => h3 q.1)]
theorem pu35 (hx : x + 73 ≤ m) (hS : Shs x m E J) (z1 z2 z3 z4 z5 : Int) (hn : -2147483648 ≤ z5 ∧ z5 ≤ 2147483647) : ∃ (r : Int) (J1 J2 : Jm), H_X11_copy E x z1 z2 z3 z4 z5 J = some (r, J1) ∧ H_X12_copy m z1 z2 z3 z4 z5 J1 = some (r, J2) ∧ Shs x m E J2 ∧ ∀ b, ¬ ShA x m b → J2 b = J b := by
  by_cases hz : 0 ≤ z1 ∧ z1 < 8
  · by_cases hy : 0 ≤ z3 ∧ z3 < 8
    · obtain ⟨d, rfl, hd⟩ := q_nat hz
      obtain ⟨e, rfl, he⟩ := q_nat hy
      have hd : d < 8 := by omega
      have he : e < 8 := by omega
      have ld := (hS d hd).2.2.2.1.2
      have le := (hS e he).2.2.2.1.2
      have ref := fun J1 h9 h14 h15 => copyM_in (m := m) (J := J) hd he z2 z4 z5 J1 h9 h14 h15 ld le hn
      rw [copyX_in hS hd he]
      by_cases c1 : J (m + 9) d = 0 ∨ J (m + 9) e = 0
      · exact ⟨-11, J, J, if_pos c1, (ref J rfl rfl rfl).trans (if_pos c1), hS, fun _ _ => rfl⟩
      · by_cases c2 : J (m + 9) d = 2 ∧ J (m + 9) e = 2 ∧ J (m + 14) d = J (m + 14) e
        · by_cases c3 : 0 ≤ z2 ∧ 0 ≤ z4 ∧ 0 ≤ z5 ∧ z2 + z5 ≤ J (m + 15) d ∧ z4 + z5 ≤ J (m + 15) e
          · obtain ⟨i, rfl⟩ : ∃ i : Nat, z2 = (i : Int) := ⟨z2.toNat, by omega⟩
            obtain ⟨j, rfl⟩ : ∃ j : Nat, z4 = (j : Int) := ⟨z4.toNat, by omega⟩
            obtain ⟨n, rfl⟩ : ∃ n : Nat, z5 = (n : Int) := ⟨z5.toNat, by omega⟩
            have hcp : jCp J (x + 57 + 2 * d + 1) 80 (i : Int) (x + 57 + 2 * e + 1) 80 (j : Int) (n : Int) = some (jA J (x + 57 + 2 * e + 1) (jcp (J (x + 57 + 2 * d + 1)) (J (x + 57 + 2 * e + 1)) i j n)) := by
              unfold jCp
              rw [if_pos (by omega)]
              rfl
            rw [if_neg c1, if_pos c2, if_pos c3, hcp, Option.bind_some]
            refine ⟨(n : Int), _, jG (jG (jA J (x + 57 + 2 * e + 1) (jcp (J (x + 57 + 2 * d + 1)) (J (x + 57 + 2 * e + 1)) i j n)) (m + 17) 0 n (fun q => J (m + 16) (80 * d + i + q))) (m + 16) (80 * e + j) (80 * e + j + n) (fun q => J (m + 16) (80 * d + i + (q - (80 * e + j)))), rfl, (ref _ (jA_ne (by omega)) (jA_ne (by omega)) (jA_ne (by omega))).trans ?_, ?_, ?_⟩
            · rw [if_neg c1, if_pos c2, if_pos c3]
              refine (copy1_L (N := n) hd (by omega) (fun q => J (m + 16) (80 * d + i + q)) n 0 1000000 _ (fun q => by rw [jA_ne (by omega)]) (by omega) (by omega)).trans ?_
              exact copy2_L he (by omega) (fun q => J (m + 16) (80 * d + i + (q - (80 * e + j)))) n 0 1000000 _ (fun q hq => by rw [jG_at (by omega)]; exact congrArg _ (by omega)) (by omega) (by omega)
            · intro d' hd'
              obtain ⟨t0, t1, t2, t3, t4, t5, t6, t7, t8⟩ := hS d' hd'
              refine ⟨t0, ?_, ?_, ?_, ?_, ?_, ?_, ?_, fun k hk => ?_⟩
              · simp (disch := omega) only [jG_ne, jA_ne]; exact t1
              · simp (disch := omega) only [jG_ne, jA_ne]; exact t2
              · simp (disch := omega) only [jG_ne, jA_ne]; exact t3
              · simp (disch := omega) only [jG_ne, jA_ne]; exact t4
              · simp (disch := omega) only [jG_ne, jA_ne]; exact t5
              · simp (disch := omega) only [jG_ne, jA_ne]; exact t6
              · simp (disch := omega) only [jG_ne, jA_ne]; exact t7
              · by_cases hdd : d' = e
                · subst hdd
                  by_cases hkk : j ≤ k ∧ k < j + n
                  · rw [jG_ne (by omega), jG_ne (by omega), jA_at, jG_at (by omega)]
                    unfold jcp
                    rw [if_pos hkk, (hS d hd).2.2.2.2.2.2.2.2 (i + (k - j)) (by omega)]
                    exact congrArg _ (by omega)
                  · rw [jG_ne (by omega), jG_ne (by omega), jA_at, jG_of (by omega), jG_ne (by omega), jA_ne (by omega)]
                    unfold jcp
                    rw [if_neg hkk]
                    exact t8 k hk
                · rw [jG_ne (by omega), jG_ne (by omega), jA_ne (by omega), jG_of (by omega), jG_ne (by omega), jA_ne (by omega)]
                  exact t8 k hk
            · intro b hb
              unfold ShA at hb
              simp (disch := omega) only [jG_ne, jA_ne]
          · exact ⟨-13, J, J, by rw [if_neg c1, if_pos c2, if_neg c3], by rw [ref J rfl rfl rfl, if_neg c1, if_pos c2, if_neg c3], hS, fun _ _ => rfl⟩
        · exact ⟨-12, J, J, by rw [if_neg c1, if_neg c2], by rw [ref J rfl rfl rfl, if_neg c1, if_neg c2], hS, fun _ _ => rfl⟩
    · refine ⟨-1, J, J, ?_, ?_, hS, fun _ _ => rfl⟩
      · obtain ⟨d, rfl, hd⟩ := q_nat hz
        unfold H_X11_copy; rw [sA_in hS (by omega), sA_out hy]; rfl
      · unfold H_X12_copy; rw [isS_q, if_pos hz, isS_q, if_neg hy]; rfl
  · refine ⟨-1, J, J, ?_, ?_, hS, fun _ _ => rfl⟩
    · unfold H_X11_copy
      rw [sA_out hz]
      by_cases hy : 0 ≤ z3 ∧ z3 < 8
      · obtain ⟨e, rfl, he⟩ := q_nat hy
        rw [sA_in hS (by omega)]; rfl
      · rw [sA_out hy]; rfl
    · unfold H_X12_copy; rw [isS_q, if_neg hz]; rfl
end COPY2
