/-! FILLING A STRETCH; THE SHELVES: row -/
def jF (J : Jm) (a lo hi : Nat) (v : Int) : Jm := up1 J a (fun k => if lo ≤ k ∧ k < hi then v else J a k)
theorem jF_ne {J : Jm} {a b lo hi : Nat} {v : Int} (h : b ≠ a) : jF J a lo hi v b = J b := by
  unfold jF up1
  rw [if_neg h]
theorem jF_at {J : Jm} {a lo hi k : Nat} {v : Int} (h : lo ≤ k ∧ k < hi) : jF J a lo hi v a k = v := by
  unfold jF up1
  rw [if_pos rfl, if_pos h]
theorem jF_of {J : Jm} {a lo hi k : Nat} {v : Int} (h : ¬ (lo ≤ k ∧ k < hi)) : jF J a lo hi v a k = J a k := by
  unfold jF up1
  rw [if_pos rfl, if_neg h]
theorem jF_0 {J : Jm} {a lo : Nat} {v : Int} : jF J a lo lo v = J := by
  funext b k
  by_cases h : b = a
  · subst h; exact jF_of (by omega)
  · rw [jF_ne h]
theorem jF_s {J : Jm} {a lo hi : Nat} {v : Int} (h : lo < hi) : jF (jW J a lo v) a (lo + 1) hi v = jF J a lo hi v := by
  funext b k
  by_cases hb : b = a
  · subst hb
    by_cases h1 : lo + 1 ≤ k ∧ k < hi
    · rw [jF_at h1, jF_at (by omega)]
    · rw [jF_of h1]
      by_cases h2 : k = lo
      · subst h2
        rw [jW_at, jF_at (by omega)]
      · rw [jW_of h2, jF_of (by omega)]
  · rw [jF_ne hb, jF_ne hb, jW_ne hb]
theorem fill_L {E : Em} {a N : Nat} {v : Int} (hN : (E.1 a).2 = N) (hs : N ≤ 100000) : ∀ (c i n : Nat) (J : Jm), N = i + c → c < n → H_J7_fill_53178_L5 E a v (N : Int) n (i : Int) J = some (jF J a i N v) := by
  intro c
  induction c with
  | zero =>
    intro i n J h1 h2
    obtain ⟨n, rfl⟩ : ∃ k, n = k + 1 := ⟨n - 1, by omega⟩
    rw [H_J7_fill_53178_L5, if_pos (by omega)]
    have e : i = N := by omega
    subst e
    rw [jF_0]
  | succ c ih =>
    intro i n J h1 h2
    obtain ⟨n, rfl⟩ : ∃ k, n = k + 1 := ⟨n - 1, by omega⟩
    have e1 : wr ((i : Int) + 1) = ((i + 1 : Nat) : Int) := by
      rw [wr_id (by omega)]
      omega
    rw [H_J7_fill_53178_L5, if_neg (by omega), hN, q_jS (n := (N : Int)) (by omega), Option.bind_some, e1, ih (i + 1) n _ (by omega) (by omega), jF_s (by omega)]
theorem fill_q {E : Em} {a N : Nat} {v : Int} {J : Jm} (hN : (E.1 a).2 = N) (hs : N ≤ 100000) : H_J7_fill_53178 E a v J = some (jF J a 0 N v) := by
  unfold H_J7_fill_53178
  rw [hN]
  exact fill_L hN hs N 0 1000000 J (by omega) (by omega)
theorem row_L {m d : Nat} (hd : d < 8) : ∀ (c i n : Nat) (J : Jm), 80 = i + c → c < n → H_X12_row_L57 m (d : Int) n (i : Int) J = some (0, jF J (m + 16) (80 * d + i) (80 * d + 80) 0) := by
  intro c
  induction c with
  | zero =>
    intro i n J h1 h2
    obtain ⟨n, rfl⟩ : ∃ k, n = k + 1 := ⟨n - 1, by omega⟩
    rw [H_X12_row_L57, if_pos (by omega)]
    have e : i = 80 := by omega
    subst e
    rw [jF_0]
  | succ c ih =>
    intro i n J h1 h2
    obtain ⟨n, rfl⟩ : ∃ k, n = k + 1 := ⟨n - 1, by omega⟩
    have e1 : wr ((i : Int) + 1) = ((i + 1 : Nat) : Int) := by
      rw [wr_id (by omega)]
      omega
    have e2 : wr (80 * (d : Int)) = 80 * (d : Int) := wr_id (by omega)
    have e3 : wr (80 * (d : Int) + (i : Int)) = ((80 * d + i : Nat) : Int) := by
      rw [wr_id (by omega)]
      omega
    rw [H_X12_row_L57, if_neg (by omega), e2, e3, q_jS (n := 640) (by omega), Option.bind_some, e1, ih (i + 1) n _ (by omega) (by omega)]
    have e4 : 80 * d + (i + 1) = 80 * d + i + 1 := by omega
    rw [e4, jF_s (by omega)]
section ROW
variable {x m : Nat} {E : Em} {J : Jm} {d : Nat}
theorem pu32 (hx : x + 73 ≤ m) (w8 : ∀ d, d < 8 → (E.1 (x + 57 + 2 * d + 1)).2 = 80) (hS : Shs x m E J) (z1 z2 z3 : Int) : ∃ (r : Int) (J1 J2 : Jm), H_X11_row E x z1 z2 z3 J = some (r, J1) ∧ H_X12_row m z1 z2 z3 J1 = some (r, J2) ∧ Shs x m E J2 ∧ ∀ b, ¬ ShA x m b → J2 b = J b := by
  by_cases hz : 0 ≤ z1 ∧ z1 < 8
  · obtain ⟨d, rfl, hd⟩ := q_nat hz
    have hd : d < 8 := by omega
    unfold H_X11_row
    rw [sA_in hS hd, Option.bind_some]
    show ∃ (r : Int) (J1 J2 : Jm), (if z2 < 0 then _ else _) = some (r, J1) ∧ _
    have ref : ∀ J1 : Jm, H_X12_row m (d : Int) z2 z3 J1 = (if 0 ≤ z2 ∧ z2 ≤ 2 then (if z3 ≤ 80 then (if 0 ≤ z3 then some (0, jF (jW (jW (jW J1 (m + 9) d 2) (m + 14) d z2) (m + 15) d z3) (m + 16) (80 * d) (80 * d + 80) 0) else some (-14, J1)) else some (-1, J1)) else some (-1, J1)) := by
      intro J1
      unfold H_X12_row
      rw [isS_q, if_pos (show 0 ≤ (d : Int) ∧ (d : Int) < 8 by omega), Option.bind_some, if_neg (show ¬ (1 : Int) = 0 by decide), isq, Option.bind_some]
      by_cases h1 : 0 ≤ z2 ∧ z2 ≤ 2
      · rw [if_pos h1, if_neg (show ¬ (1 : Int) = 0 by decide), if_pos h1]
        by_cases h2 : z3 ≤ 80
        · rw [if_pos h2, if_pos h2]
          by_cases h3 : 0 ≤ z3
          · rw [if_pos h3, if_pos h3, q_jS (n := 8) (by omega), Option.bind_some, q_jS (n := 8) (by omega), Option.bind_some, q_jS (n := 8) (by omega), Option.bind_some]
            exact row_L hd 80 0 1000000 _ (by omega) (by omega)
          · rw [if_neg h3, if_neg h3]
        · rw [if_neg h2, if_neg h2]
      · rw [if_neg h1, if_pos rfl, if_neg h1]
    by_cases h1 : 0 ≤ z2 ∧ z2 ≤ 2
    · rw [if_neg (by omega), if_neg (by omega)]
      by_cases h2 : z3 ≤ 80
      · rw [if_pos h2]
        by_cases h3 : 0 ≤ z3
        · rw [if_pos h3]
          have hh : H_X8_holdRow E (x + 57 + 2 * d) z2 z3 J = some (jF (jW (jW (jW J (x + 57 + 2 * d) 0 2) (x + 57 + 2 * d) 1 z2) (x + 57 + 2 * d) 2 z3) (x + 57 + 2 * d + 1) 0 80 0) := by
            show (H_J7_fill_53178 E (x + 57 + 2 * d + 1) 0 (jW (jW (jW J (x + 57 + 2 * d) 0 2) (x + 57 + 2 * d) 1 z2) (x + 57 + 2 * d) 2 z3)).bind (fun J6 => some J6) = _
            rw [fill_q (w8 d hd) (by omega)]
            rfl
          rw [hh, Option.bind_some]
          refine ⟨0, _, _, rfl, (ref _).trans (by rw [if_pos h1, if_pos h2, if_pos h3]), fun d' hd' => ?_, fun b hb => ?_⟩
          · obtain ⟨t0, t1, t2, t3, t4, t5, t6, t7, t8⟩ := hS d' hd'
            by_cases hdd : d' = d
            · subst hdd
              refine ⟨t0, ?_, ?_, ?_, ?_, ?_, ?_, ?_, fun k' hk' => ?_⟩
              all_goals simp (disch := omega) only [jF_ne, jW_ne, jW_at, jW_of, jF_at]
              · exact ⟨trivial, by omega, by omega⟩
              · exact ⟨trivial, by omega, by omega⟩
              · exact ⟨trivial, by omega, by omega⟩
              · exact t4
              · exact t5
              · exact t6
              · exact t7
            · refine ⟨t0, ?_, ?_, ?_, ?_, ?_, ?_, ?_, fun k' hk' => ?_⟩
              all_goals simp (disch := omega) only [jF_ne, jW_ne, jW_of, jF_of]
              · exact t1
              · exact t2
              · exact t3
              · exact t4
              · exact t5
              · exact t6
              · exact t7
              · exact t8 k' hk'
          · unfold ShA at hb
            simp (disch := omega) only [jF_ne, jW_ne]
        · rw [if_neg h3]
          exact ⟨-14, J, J, rfl, by rw [ref, if_pos h1, if_pos h2, if_neg h3], hS, fun _ _ => rfl⟩
      · rw [if_neg h2]
        exact ⟨-1, J, J, rfl, by rw [ref, if_pos h1, if_neg h2], hS, fun _ _ => rfl⟩
    · refine ⟨-1, J, J, ?_, by rw [ref, if_neg h1], hS, fun _ _ => rfl⟩
      by_cases hn : z2 < 0
      · rw [if_pos hn]
      · rw [if_neg hn, if_pos (by omega)]
  · refine ⟨-1, J, J, ?_, ?_, hS, fun _ _ => rfl⟩
    · unfold H_X11_row; rw [sA_out hz]; rfl
    · unfold H_X12_row; rw [isS_q, if_neg hz]; rfl
end ROW
