/-! COPYING A STRETCH; THE SHELVES: copy -/
def jG (J : Jm) (a lo hi : Nat) (f : Nat → Int) : Jm := up1 J a (fun k => if lo ≤ k ∧ k < hi then f k else J a k)
theorem jG_ne {J : Jm} {a b lo hi : Nat} {f : Nat → Int} (h : b ≠ a) : jG J a lo hi f b = J b := by
  unfold jG up1
  rw [if_neg h]
theorem jG_at {J : Jm} {a lo hi k : Nat} {f : Nat → Int} (h : lo ≤ k ∧ k < hi) : jG J a lo hi f a k = f k := by
  unfold jG up1
  rw [if_pos rfl, if_pos h]
theorem jG_of {J : Jm} {a lo hi k : Nat} {f : Nat → Int} (h : ¬ (lo ≤ k ∧ k < hi)) : jG J a lo hi f a k = J a k := by
  unfold jG up1
  rw [if_pos rfl, if_neg h]
theorem jG_0 {J : Jm} {a lo : Nat} {f : Nat → Int} : jG J a lo lo f = J := by
  funext b k
  by_cases h : b = a
  · subst h; exact jG_of (by omega)
  · rw [jG_ne h]
theorem jG_s {J : Jm} {a lo hi : Nat} {f : Nat → Int} {v : Int} (h : lo < hi) (hv : v = f lo) : jG (jW J a lo v) a (lo + 1) hi f = jG J a lo hi f := by
  subst hv
  funext b k
  by_cases hb : b = a
  · subst hb
    by_cases h1 : lo + 1 ≤ k ∧ k < hi
    · rw [jG_at h1, jG_at (by omega)]
    · rw [jG_of h1]
      by_cases h2 : k = lo
      · subst h2
        rw [jW_at, jG_at (by omega)]
      · rw [jW_of h2, jG_of (by omega)]
  · rw [jG_ne hb, jG_ne hb, jW_ne hb]
theorem copy1_L {K : Jm → Option (Int × Jm)} {m d i N : Nat} {e j : Int} (hd : d < 8) (hi : i + N ≤ 80) (f : Nat → Int) : ∀ (c k n : Nat) (J : Jm), (∀ q, J (m + 16) (80 * d + i + q) = f q) → N = k + c → c < n → H_X12_copy_L124 K m (d : Int) (i : Int) e j (N : Int) n (k : Int) J = K (jG J (m + 17) k N f) := by
  intro c
  induction c with
  | zero =>
    intro k n J hf h1 h2
    obtain ⟨n, rfl⟩ : ∃ t, n = t + 1 := ⟨n - 1, by omega⟩
    rw [H_X12_copy_L124, if_pos (by omega)]
    have e9 : k = N := by omega
    subst e9
    rw [jG_0]
  | succ c ih =>
    intro k n J hf h1 h2
    obtain ⟨n, rfl⟩ : ∃ t, n = t + 1 := ⟨n - 1, by omega⟩
    have e1 : wr ((k : Int) + 1) = ((k + 1 : Nat) : Int) := by
      rw [wr_id (by omega)]
      omega
    have e2 : wr (80 * (d : Int)) = 80 * (d : Int) := wr_id (by omega)
    have e3 : wr (80 * (d : Int) + (i : Int)) = 80 * (d : Int) + (i : Int) := wr_id (by omega)
    have e4 : wr (80 * (d : Int) + (i : Int) + (k : Int)) = ((80 * d + i + k : Nat) : Int) := by
      rw [wr_id (by omega)]
      omega
    rw [H_X12_copy_L124, if_neg (by omega), e2, e3, e4, q_jL (n := 640) (by omega), Option.bind_some, hf k, q_jS (n := 80) (by omega), Option.bind_some, e1, ih (k + 1) n _ (fun q => by rw [jW_ne (by omega)]; exact hf q) (by omega) (by omega), jG_s (by omega) rfl]
theorem copy2_L {m d j N : Nat} (hd : d < 8) (hj : j + N ≤ 80) (f : Nat → Int) : ∀ (c k n : Nat) (J : Jm), (∀ q, q < N → J (m + 17) q = f (80 * d + j + q)) → N = k + c → c < n → H_X12_copy_L161 m (d : Int) (j : Int) (N : Int) n (k : Int) J = some ((N : Int), jG J (m + 16) (80 * d + j + k) (80 * d + j + N) f) := by
  intro c
  induction c with
  | zero =>
    intro k n J hf h1 h2
    obtain ⟨n, rfl⟩ : ∃ t, n = t + 1 := ⟨n - 1, by omega⟩
    rw [H_X12_copy_L161, if_pos (by omega)]
    have e9 : k = N := by omega
    subst e9
    rw [jG_0]
  | succ c ih =>
    intro k n J hf h1 h2
    obtain ⟨n, rfl⟩ : ∃ t, n = t + 1 := ⟨n - 1, by omega⟩
    have e1 : wr ((k : Int) + 1) = ((k + 1 : Nat) : Int) := by
      rw [wr_id (by omega)]
      omega
    have e2 : wr (80 * (d : Int)) = 80 * (d : Int) := wr_id (by omega)
    have e3 : wr (80 * (d : Int) + (j : Int)) = 80 * (d : Int) + (j : Int) := wr_id (by omega)
    have e4 : wr (80 * (d : Int) + (j : Int) + (k : Int)) = ((80 * d + j + k : Nat) : Int) := by
      rw [wr_id (by omega)]
      omega
    have e5 : 80 * d + j + (k + 1) = 80 * d + j + k + 1 := by omega
    rw [H_X12_copy_L161, if_neg (by omega), q_jL (n := 80) (by omega), Option.bind_some, e2, e3, e4, q_jS (n := 640) (by omega), Option.bind_some, e1, ih (k + 1) n _ (fun q hq => by rw [jW_ne (by omega)]; exact hf q hq) (by omega) (by omega), e5, jG_s (by omega) (hf k (by omega))]
section COPY
variable {x m : Nat} {E : Em} {J : Jm} {d : Nat}
theorem stretch_q (a n s : Int) (hs : 0 ≤ s ∧ s ≤ 80) : H_X11_isStretch a n s = some (if 0 ≤ a ∧ 0 ≤ n ∧ a + n ≤ s then 1 else 0) := by
  unfold H_X11_isStretch
  by_cases h1 : a < 0
  · rw [if_pos h1, if_neg (by omega)]
  · rw [if_neg h1]
    by_cases h2 : n < 0
    · rw [if_pos h2, if_neg (by omega)]
    · rw [if_neg h2]
      by_cases h3 : s < a
      · rw [if_pos h3, if_neg (by omega)]
      · have e : wr (s - a) = s - a := wr_id (by omega)
        rw [if_neg h3, e]
        by_cases h4 : s - a < n
        · rw [if_pos h4, if_neg (by omega)]
        · rw [if_neg h4, if_pos (by omega)]
/-- both sides' copy, as one table of cases -/
theorem copyX_in (hS : Shs x m E J) {d e : Nat} (hd : d < 8) (he : e < 8) (i j n : Int) : H_X11_copy E x (d : Int) i (e : Int) j n J = (if J (m + 9) d = 0 ∨ J (m + 9) e = 0 then some (-11, J) else if J (m + 9) d = 2 ∧ J (m + 9) e = 2 ∧ J (m + 14) d = J (m + 14) e then (if 0 ≤ i ∧ 0 ≤ j ∧ 0 ≤ n ∧ i + n ≤ J (m + 15) d ∧ j + n ≤ J (m + 15) e then (jCp J (x + 57 + 2 * d + 1) 80 i (x + 57 + 2 * e + 1) 80 j n).bind fun J2 => some (n, J2) else some (-13, J)) else some (-12, J)) := by
  obtain ⟨s0, ⟨e0, l0⟩, ⟨e1, l1⟩, ⟨e2, l2⟩, -⟩ := hS d hd
  obtain ⟨t0, ⟨f0, k0⟩, ⟨f1, k1⟩, ⟨f2, k2⟩, -⟩ := hS e he
  unfold H_X11_copy
  rw [sA_in hS hd, Option.bind_some, sA_in hS he, Option.bind_some]
  show (if J (x + 57 + 2 * d) 0 = 0 then _ else _) = _
  rw [e0, f0, e1, f1, e2, f2]
  by_cases h1 : J (m + 9) d = 0
  · rw [if_pos h1, if_pos (Or.inl h1)]
  · rw [if_neg h1]
    by_cases h2 : J (m + 9) e = 0
    · rw [if_pos h2, if_pos (Or.inr h2)]
    · rw [if_neg h2, if_neg (show ¬ (J (m + 9) d = 0 ∨ J (m + 9) e = 0) from fun q => q.elim h1 h2)]
      by_cases h3 : J (m + 9) d = 2
      · rw [if_pos h3]
        by_cases h4 : J (m + 9) e = 2
        · rw [if_pos h4]
          by_cases h5 : J (m + 14) d = J (m + 14) e
          · rw [if_pos h5, if_pos ⟨h3, h4, h5⟩, stretch_q _ _ _ l2, Option.bind_some]
            by_cases h6 : 0 ≤ i ∧ 0 ≤ n ∧ i + n ≤ J (m + 15) d
            · rw [if_pos h6, if_neg (show ¬ (1 : Int) = 0 by decide), stretch_q _ _ _ k2, Option.bind_some]
              by_cases h7 : 0 ≤ j ∧ 0 ≤ n ∧ j + n ≤ J (m + 15) e
              · rw [if_pos h7, if_neg (show ¬ (1 : Int) = 0 by decide), if_pos (by omega)]
              · rw [if_neg h7, if_pos rfl, if_neg (by omega)]
            · rw [if_neg h6, if_pos rfl, if_neg (by omega)]
          · rw [if_neg h5, if_neg (fun q => h5 q.2.2)]
        · rw [if_neg h4, if_neg (fun q => h4 q.2.1)]
      · rw [if_neg h3, if_neg (fun q => h3 q.1)]
end COPY
