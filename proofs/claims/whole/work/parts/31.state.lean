/-! AN ORDER'S TEXT, READ: c is the text (-1 behind its end), n its size -/
def cT (T : Int → Int) (n : Int) (p : Int) : Int := if 0 ≤ p ∧ p < n then T p else -1
abbrev Ck : Type := Int × Int × Int × Int
abbrev Ru : Type := List Ck × Int × Int × Int × Int
def pBang (c : Int → Int) : Nat → Int → Int → Int × Int
  | 0, p, t => (p, t)
  | k + 1, p, t => if c p = 33 then pBang c k (p + 1) (1 - t) else (p, t)
abbrev isF (c : Int) : Prop := c = 112 ∨ c = 120 ∨ c = 121 ∨ c = 108 ∨ c = 102 ∨ c = 104 ∨ c = 116 ∨ c = 115 ∨ c = 100
def pMore (c : Int → Int) : Nat → Int → Int → Int × Int
  | 0, v, p => (v, p)
  | k + 1, v, p => if 0 < v ∧ 48 ≤ c p ∧ c p ≤ 57 then pMore c k (10 * v + (c p - 48)) (p + 1) else (v, p)
/-- a CHECK from p on: whether it is one, the place behind it (or of the FAULT), what it says -/
noncomputable def pChk (c : Int → Int) (p : Int) : Bool × Int × Ck :=
  let b := pBang c 81 p 0
  if isF (c b.1) then
    if c (b.1 + 1) = 60 ∨ c (b.1 + 1) = 61 ∨ c (b.1 + 1) = 62 then
      if 48 ≤ c (b.1 + 2) ∧ c (b.1 + 2) ≤ 57 then
        let v := pMore c 2 (c (b.1 + 2) - 48) (b.1 + 3)
        (true, v.2, (b.2, c b.1, c (b.1 + 1), v.1))
      else (false, b.1 + 2, (0, 0, 0, 0))
    else (false, b.1 + 1, (0, 0, 0, 0))
  else (false, b.1, (0, 0, 0, 0))
noncomputable def pTest (c : Int → Int) : Nat → Int → List Ck → Bool × Int × List Ck
  | 0, p, l => (false, p, l)
  | k + 1, p, l =>
    let q := pChk c p
    if q.1 = true then (if c q.2.1 = 38 then pTest c k (q.2.1 + 1) (l ++ [q.2.2]) else (true, q.2.1, l ++ [q.2.2])) else (false, q.2.1, l)
def pAct (c : Int → Int) (p : Int) : Bool × Int × Int × Int × Int × Int :=
  if c p = 117 then (true, p + 1, 117, 0, 0, 0)
  else if c p = 115 then (if 48 ≤ c (p + 1) ∧ c (p + 1) ≤ 51 then (true, p + 2, 115, 0, 0, c (p + 1) - 48) else (false, p + 1, 0, 0, 0, 0))
  else if c p = 103 then
    (if 48 ≤ c (p + 1) ∧ c (p + 1) ≤ 57 then
      (if 48 ≤ c (p + 2) ∧ c (p + 2) ≤ 55 then
        (if 48 ≤ c (p + 3) ∧ c (p + 3) ≤ 51 then (true, p + 4, 103, c (p + 1) - 48, c (p + 2) - 48, c (p + 3) - 48) else (false, p + 3, 0, 0, 0, 0))
      else (false, p + 2, 0, 0, 0, 0))
    else (false, p + 1, 0, 0, 0, 0))
  else (false, p, 0, 0, 0, 0)
noncomputable def pRule (c : Int → Int) (p : Int) : Bool × Int × Ru :=
  let t := pTest c 81 p []
  if t.1 = true then
    if c t.2.1 = 63 then
      let a := pAct c (t.2.1 + 1)
      if a.1 = true then
        if c a.2.1 = 59 then (true, a.2.1 + 1, (t.2.2, a.2.2)) else (false, a.2.1, ([], 0, 0, 0, 0))
      else (false, a.2.1, ([], 0, 0, 0, 0))
    else (false, t.2.1, ([], 0, 0, 0, 0))
  else (false, t.2.1, ([], 0, 0, 0, 0))
/-- the whole text, with r rules read so far: whether it is an ORDER, the place where the reading stops, its RULES -/
noncomputable def pText (c : Int → Int) (n : Int) : Nat → Int → List Ru → Bool × Int × List Ru
  | 0, p, l => (false, p, l)
  | k + 1, p, l =>
    if n ≤ p then (decide (0 < l.length), p, l)
    else if l.length = 6 then (false, p, l)
    else
      let r := pRule c p
      if r.1 = true then pText c n k r.2.1 (l ++ [r.2.2]) else (false, r.2.1, l)
/-- the class's rows of an ORDER -/
def aChk (J : Jm) (q : Nat) : List Ck → Nat → Prop
  | [], _ => True
  | k :: l, j => (J (q + 5) j = k.2.1 ∧ J (q + 6) j = k.2.2.1 ∧ J (q + 7) j = k.2.2.2 ∧ J (q + 8) j = k.1) ∧ aChk J q l (j + 1)
/-- what an ACT may be -/
def wfA (a : Int × Int × Int × Int) : Prop := (a.1 = 117 ∨ a.1 = 115 ∨ a.1 = 103) ∧ (0 ≤ a.2.1 ∧ a.2.1 ≤ 9) ∧ (0 ≤ a.2.2.1 ∧ a.2.2.1 ≤ 7) ∧ (0 ≤ a.2.2.2 ∧ a.2.2.2 ≤ 3)
def nCk : List Ru → Nat
  | [] => 0
  | r :: l => r.1.length + nCk l
def aRul (J : Jm) (q : Nat) : List Ru → Nat → Nat → Prop
  | [], _, _ => True
  | r :: l, i, j => (wfA r.2 ∧ J (q + 1) i = ((j + r.1.length : Nat) : Int) ∧ J (q + 2) i = (if r.2.1 = 117 then 0 else if r.2.1 = 115 then 1 else 2) ∧ J (q + 3) i = 8 * r.2.2.1 + r.2.2.2.1 ∧ J (q + 4) i = r.2.2.2.2) ∧ aChk J q r.1 j ∧ aRul J q l (i + 1) (j + r.1.length)
def Arr (J : Jm) (q : Nat) (L : List Ru) : Prop := J q 0 = (L.length : Int) ∧ aRul J q L 0 0
def OrdA (J : Jm) (q : Nat) (c : Int → Int) (n : Int) : Prop := ∃ L : List Ru, pText c n 8 0 [] = (true, n, L) ∧ Arr J q L ∧ L.length ≤ 6 ∧ nCk L ≤ 20
theorem aChk_E {J J2 : Jm} {q : Nat} (h : ∀ i : Nat, i ≤ 8 → J2 (q + i) = J (q + i)) : ∀ (l : List Ck) (j : Nat), aChk J q l j → aChk J2 q l j
  | [], _, _ => trivial
  | k :: l, j, ⟨h1, h2⟩ => ⟨by rw [h 5 (by omega), h 6 (by omega), h 7 (by omega), h 8 (by omega)]; exact h1, aChk_E h l (j + 1) h2⟩
theorem aRul_E {J J2 : Jm} {q : Nat} (h : ∀ i : Nat, i ≤ 8 → J2 (q + i) = J (q + i)) : ∀ (l : List Ru) (i j : Nat), aRul J q l i j → aRul J2 q l i j
  | [], _, _, _ => trivial
  | r :: l, i, j, ⟨h1, h2, h3⟩ => ⟨by rw [h 1 (by omega), h 2 (by omega), h 3 (by omega), h 4 (by omega)]; exact h1, aChk_E h r.1 j h2, aRul_E h l (i + 1) _ h3⟩
theorem OrdA_E {J J2 : Jm} {q : Nat} {c : Int → Int} {n : Int} (h : ∀ i : Nat, i ≤ 8 → J2 (q + i) = J (q + i)) (hO : OrdA J q c n) : OrdA J2 q c n := by
  obtain ⟨L, h1, ⟨h2, h3⟩, h4⟩ := hO
  exact ⟨L, h1, ⟨by rw [show J2 q = J q from h 0 (by omega)]; exact h2, aRul_E h L 0 0 h3⟩, h4⟩
/-- the text of ORDER k in S -/
def oT (S : Int → Int) (k : Int) : Int → Int := cT (fun i => S (7559 + (80 * k + i))) (S (8359 + k))
theorem oT_E {S S2 : Int → Int} {k : Int} (hk : 0 ≤ k ∧ k < 10) (hn : S (8359 + k) ≤ 80) (h : ∀ z : Int, 7559 ≤ z → z < 8369 → S2 z = S z) : oT S2 k = oT S k := by
  funext p
  unfold oT cT
  rw [h (8359 + k) (by omega) (by omega)]
  by_cases hp : 0 ≤ p ∧ p < S (8359 + k)
  · rw [if_pos hp, if_pos hp]; exact h _ (by omega) (by omega)
  · rw [if_neg hp, if_neg hp]
/-! THE WORLD -/
/-- the class's world at w holds S -/
def Vw (E : Em) (w : Nat) (J : Jm) (S : Int → Int) : Prop := Vs w J S ∧ (∀ g : Int, 0 ≤ g → g < S 0 → ∃ a, E.2.1 (w + 13) g.toNat = some a ∧ Gv J a g S) ∧ (∀ k : Int, 0 ≤ k → k < S 4 → ∃ q, E.2.1 (w + 15) k.toNat = some q ∧ OrdA J q (oT S k) (S (8359 + k)))
/-- the world's cells lie apart -/
def Sp (E : Em) (w : Nat) : Prop :=
  (∀ j a, E.2.1 (w + 13) j = some a → a + 1 < w ∨ w + 32 < a) ∧ (∀ j a i b, E.2.1 (w + 13) j = some a → E.2.1 (w + 13) i = some b → j ≠ i → a + 1 < b ∨ b + 1 < a) ∧
  (∀ j q, E.2.1 (w + 15) j = some q → q + 8 < w ∨ w + 32 < q) ∧ (∀ j a i q, E.2.1 (w + 13) j = some a → E.2.1 (w + 15) i = some q → a + 1 < q ∨ q + 8 < a)

/-- ranges: from where in S, how many, least, most -/
def iT : List (Int × Int × Int × Int) := [(0, 1, 0, 8), (1, 1, 0, 400), (2, 1, 0, 200), (3, 1, 0, 60), (4, 1, 0, 10), (5, 1, 0, 60), (6, 1, 0, 79), (10, 80, 0, 4), (170, 80, 0, 99), (250, 320, -2, 2), (570, 320, -2, 2), (890, 320, -2, 2), (1210, 320, -2, 2), (1530, 320, 0, 999), (2170, 8, 0, 3), (2178, 8, 0, 9), (2186, 8, 0, 7), (2194, 8, 0, 999), (2202, 8, 0, 2), (2210, 8, 0, 1), (2218, 8, 0, 999), (2226, 8, -4, 9), (2234, 8, -4, 400), (2250, 8, -4, 4000), (3770, 60, 0, 9), (3890, 60, 0, 1), (3950, 401, 0, 1), (8359, 10, 0, 80)]
def IvR (S : Int → Int) : Prop := ∀ r ∈ iT, ∀ z : Int, 0 ≤ z → z < r.2.1 → r.2.2.1 ≤ S (r.1 + z) ∧ S (r.1 + z) ≤ r.2.2.2
/-- what else always holds -/
def e1 (S : Int → Int) : Prop := ∀ g : Int, 0 ≤ g → g < S 0 → S (2202 + g) = 0 → 0 < S (10 + (8 * S (2178 + g) + S (2186 + g)))
def e2 (S : Int → Int) : Prop := ∀ g : Int, 0 ≤ g → g < 8 → S (2194 + g) + S (2218 + g) ≤ 999
def e3 (S : Int → Int) : Prop := ∀ g : Int, S 0 ≤ g → g < 8 → 0 ≤ g → S (2202 + g) = 0 ∧ S (2210 + g) = 0 ∧ S (2218 + g) = 0 ∧ S (2242 + g) = 0 ∧ ∀ t : Int, 0 ≤ t → t < 401 → S (4351 + (401 * g + t)) = -1
def e4 (S : Int → Int) : Prop := ∀ g : Int, 0 ≤ g → g < S 0 → S (2226 + g) = -4 ∨ (0 ≤ S (2226 + g) ∧ S (2226 + g) < S 4)
def e5 (S : Int → Int) : Prop := ∀ g : Int, 0 ≤ g → g < S 0 → S (2234 + g) = -4 ∨ (0 ≤ S (2234 + g) ∧ S (2234 + g) ≤ S 1)
def e6 (S : Int → Int) : Prop := ∀ k : Int, 0 ≤ k → k < S 3 → S (3770 + k) < S 4
def e7 (S : Int → Int) : Prop := ∀ g : Int, 0 ≤ g → g < 8 → S (4351 + (401 * g + 400)) = -1
/-- the first CLEANING behind a READING of its GLIDER (k), or its end, finds it fouled -/
def e8 (S : Int → Int) : Prop := (∀ k : Int, 0 ≤ k → k < S 5 → S (3650 + k) ≤ S 2) ∧ ∀ r : Int, 0 ≤ r → r < S 2 → (0 ≤ S (2270 + r) ∧ S (2270 + r) < S 0) ∧ ∀ k : Int, 0 ≤ k → k ≤ S 5 → (∀ j : Int, 0 ≤ j → j < k → ¬ (S (3470 + j) = S (2270 + r) ∧ r < S (3650 + j))) → (k < S 5 → S (3470 + k) = S (2270 + r) → r < S (3650 + k) → 0 < S (3590 + k)) ∧ (k = S 5 → 0 < S (2218 + S (2270 + r)))
def Inv (S : Int → Int) : Prop := IvR S ∧ e1 S ∧ e2 S ∧ e3 S ∧ e4 S ∧ e5 S ∧ e6 S ∧ e7 S ∧ e8 S
section INV
variable {S : Int → Int} {z v : Int}

theorem j_gli (h : IvR S) : 0 ≤ S 0 ∧ S 0 ≤ 8 := h (0, 1, 0, 8) (by decide) 0 (by decide) (by decide)
theorem i_gli (h : Inv S) : 0 ≤ S 0 ∧ S 0 ≤ 8 := j_gli h.1
theorem j_tim (h : IvR S) : 0 ≤ S 1 ∧ S 1 ≤ 400 := h (1, 1, 0, 400) (by decide) 0 (by decide) (by decide)
theorem i_tim (h : Inv S) : 0 ≤ S 1 ∧ S 1 ≤ 400 := j_tim h.1
theorem j_rea (h : IvR S) : 0 ≤ S 2 ∧ S 2 ≤ 200 := h (2, 1, 0, 200) (by decide) 0 (by decide) (by decide)
theorem i_rea (h : Inv S) : 0 ≤ S 2 ∧ S 2 ≤ 200 := j_rea h.1
theorem j_let (h : IvR S) : 0 ≤ S 3 ∧ S 3 ≤ 60 := h (3, 1, 0, 60) (by decide) 0 (by decide) (by decide)
theorem i_let (h : Inv S) : 0 ≤ S 3 ∧ S 3 ≤ 60 := j_let h.1
theorem j_orc (h : IvR S) : 0 ≤ S 4 ∧ S 4 ≤ 10 := h (4, 1, 0, 10) (by decide) 0 (by decide) (by decide)
theorem i_orc (h : Inv S) : 0 ≤ S 4 ∧ S 4 ≤ 10 := j_orc h.1
theorem j_cle (h : IvR S) : 0 ≤ S 5 ∧ S 5 ≤ 60 := h (5, 1, 0, 60) (by decide) 0 (by decide) (by decide)
theorem i_cle (h : Inv S) : 0 ≤ S 5 ∧ S 5 ≤ 60 := j_cle h.1
theorem j_shi (h : IvR S) : 0 ≤ S 6 ∧ S 6 ≤ 79 := h (6, 1, 0, 79) (by decide) 0 (by decide) (by decide)
theorem i_shi (h : Inv S) : 0 ≤ S 6 ∧ S 6 ≤ 79 := j_shi h.1
theorem j_dep (h : IvR S) (h0 : 0 ≤ z) (h1 : z < 80) : 0 ≤ S (10 + z) ∧ S (10 + z) ≤ 4 := h (10, 80, 0, 4) (by decide) z h0 h1
theorem i_dep (h : Inv S) (h0 : 0 ≤ z) (h1 : z < 80) : 0 ≤ S (10 + z) ∧ S (10 + z) ≤ 4 := j_dep h.1 h0 h1
theorem j_dou (h : IvR S) (h0 : 0 ≤ z) (h1 : z < 80) : 0 ≤ S (170 + z) ∧ S (170 + z) ≤ 99 := h (170, 80, 0, 99) (by decide) z h0 h1
theorem i_dou (h : Inv S) (h0 : 0 ≤ z) (h1 : z < 80) : 0 ≤ S (170 + z) ∧ S (170 + z) ≤ 99 := j_dou h.1 h0 h1
theorem j_eas (h : IvR S) (h0 : 0 ≤ z) (h1 : z < 320) : -2 ≤ S (250 + z) ∧ S (250 + z) ≤ 2 := h (250, 320, -2, 2) (by decide) z h0 h1
theorem i_eas (h : Inv S) (h0 : 0 ≤ z) (h1 : z < 320) : -2 ≤ S (250 + z) ∧ S (250 + z) ≤ 2 := j_eas h.1 h0 h1
theorem j_nor (h : IvR S) (h0 : 0 ≤ z) (h1 : z < 320) : -2 ≤ S (570 + z) ∧ S (570 + z) ≤ 2 := h (570, 320, -2, 2) (by decide) z h0 h1
theorem i_nor (h : Inv S) (h0 : 0 ≤ z) (h1 : z < 320) : -2 ≤ S (570 + z) ∧ S (570 + z) ≤ 2 := j_nor h.1 h0 h1
theorem j_mea (h : IvR S) (h0 : 0 ≤ z) (h1 : z < 320) : -2 ≤ S (890 + z) ∧ S (890 + z) ≤ 2 := h (890, 320, -2, 2) (by decide) z h0 h1
theorem i_mea (h : Inv S) (h0 : 0 ≤ z) (h1 : z < 320) : -2 ≤ S (890 + z) ∧ S (890 + z) ≤ 2 := j_mea h.1 h0 h1
theorem j_mno (h : IvR S) (h0 : 0 ≤ z) (h1 : z < 320) : -2 ≤ S (1210 + z) ∧ S (1210 + z) ≤ 2 := h (1210, 320, -2, 2) (by decide) z h0 h1
theorem i_mno (h : Inv S) (h0 : 0 ≤ z) (h1 : z < 320) : -2 ≤ S (1210 + z) ∧ S (1210 + z) ≤ 2 := j_mno h.1 h0 h1
theorem j_sal (h : IvR S) (h0 : 0 ≤ z) (h1 : z < 320) : 0 ≤ S (1530 + z) ∧ S (1530 + z) ≤ 999 := h (1530, 320, 0, 999) (by decide) z h0 h1
theorem i_sal (h : Inv S) (h0 : 0 ≤ z) (h1 : z < 320) : 0 ≤ S (1530 + z) ∧ S (1530 + z) ≤ 999 := j_sal h.1 h0 h1
theorem j_kind (h : IvR S) (h0 : 0 ≤ z) (h1 : z < 8) : 0 ≤ S (2170 + z) ∧ S (2170 + z) ≤ 3 := h (2170, 8, 0, 3) (by decide) z h0 h1
theorem i_kind (h : Inv S) (h0 : 0 ≤ z) (h1 : z < 8) : 0 ≤ S (2170 + z) ∧ S (2170 + z) ≤ 3 := j_kind h.1 h0 h1
theorem j_x (h : IvR S) (h0 : 0 ≤ z) (h1 : z < 8) : 0 ≤ S (2178 + z) ∧ S (2178 + z) ≤ 9 := h (2178, 8, 0, 9) (by decide) z h0 h1
theorem i_x (h : Inv S) (h0 : 0 ≤ z) (h1 : z < 8) : 0 ≤ S (2178 + z) ∧ S (2178 + z) ≤ 9 := j_x h.1 h0 h1
theorem j_y (h : IvR S) (h0 : 0 ≤ z) (h1 : z < 8) : 0 ≤ S (2186 + z) ∧ S (2186 + z) ≤ 7 := h (2186, 8, 0, 7) (by decide) z h0 h1
theorem i_y (h : Inv S) (h0 : 0 ≤ z) (h1 : z < 8) : 0 ≤ S (2186 + z) ∧ S (2186 + z) ≤ 7 := j_y h.1 h0 h1
theorem j_pow (h : IvR S) (h0 : 0 ≤ z) (h1 : z < 8) : 0 ≤ S (2194 + z) ∧ S (2194 + z) ≤ 999 := h (2194, 8, 0, 999) (by decide) z h0 h1
theorem i_pow (h : Inv S) (h0 : 0 ≤ z) (h1 : z < 8) : 0 ≤ S (2194 + z) ∧ S (2194 + z) ≤ 999 := j_pow h.1 h0 h1
theorem j_sta (h : IvR S) (h0 : 0 ≤ z) (h1 : z < 8) : 0 ≤ S (2202 + z) ∧ S (2202 + z) ≤ 2 := h (2202, 8, 0, 2) (by decide) z h0 h1
theorem i_sta (h : Inv S) (h0 : 0 ≤ z) (h1 : z < 8) : 0 ≤ S (2202 + z) ∧ S (2202 + z) ≤ 2 := j_sta h.1 h0 h1
theorem j_lea (h : IvR S) (h0 : 0 ≤ z) (h1 : z < 8) : 0 ≤ S (2210 + z) ∧ S (2210 + z) ≤ 1 := h (2210, 8, 0, 1) (by decide) z h0 h1
theorem i_lea (h : Inv S) (h0 : 0 ≤ z) (h1 : z < 8) : 0 ≤ S (2210 + z) ∧ S (2210 + z) ≤ 1 := j_lea h.1 h0 h1
theorem j_fou (h : IvR S) (h0 : 0 ≤ z) (h1 : z < 8) : 0 ≤ S (2218 + z) ∧ S (2218 + z) ≤ 999 := h (2218, 8, 0, 999) (by decide) z h0 h1
theorem i_fou (h : Inv S) (h0 : 0 ≤ z) (h1 : z < 8) : 0 ≤ S (2218 + z) ∧ S (2218 + z) ≤ 999 := j_fou h.1 h0 h1
theorem j_ord (h : IvR S) (h0 : 0 ≤ z) (h1 : z < 8) : -4 ≤ S (2226 + z) ∧ S (2226 + z) ≤ 9 := h (2226, 8, -4, 9) (by decide) z h0 h1
theorem i_ord (h : Inv S) (h0 : 0 ≤ z) (h1 : z < 8) : -4 ≤ S (2226 + z) ∧ S (2226 + z) ≤ 9 := j_ord h.1 h0 h1
theorem j_hea (h : IvR S) (h0 : 0 ≤ z) (h1 : z < 8) : -4 ≤ S (2234 + z) ∧ S (2234 + z) ≤ 400 := h (2234, 8, -4, 400) (by decide) z h0 h1
theorem i_hea (h : Inv S) (h0 : 0 ≤ z) (h1 : z < 8) : -4 ≤ S (2234 + z) ∧ S (2234 + z) ≤ 400 := j_hea h.1 h0 h1
theorem j_sho (h : IvR S) (h0 : 0 ≤ z) (h1 : z < 8) : -4 ≤ S (2250 + z) ∧ S (2250 + z) ≤ 4000 := h (2250, 8, -4, 4000) (by decide) z h0 h1
theorem i_sho (h : Inv S) (h0 : 0 ≤ z) (h1 : z < 8) : -4 ≤ S (2250 + z) ∧ S (2250 + z) ≤ 4000 := j_sho h.1 h0 h1
theorem j_lor (h : IvR S) (h0 : 0 ≤ z) (h1 : z < 60) : 0 ≤ S (3770 + z) ∧ S (3770 + z) ≤ 9 := h (3770, 60, 0, 9) (by decide) z h0 h1
theorem i_lor (h : Inv S) (h0 : 0 ≤ z) (h1 : z < 60) : 0 ≤ S (3770 + z) ∧ S (3770 + z) ≤ 9 := j_lor h.1 h0 h1
theorem j_lhe (h : IvR S) (h0 : 0 ≤ z) (h1 : z < 60) : 0 ≤ S (3890 + z) ∧ S (3890 + z) ≤ 1 := h (3890, 60, 0, 1) (by decide) z h0 h1
theorem i_lhe (h : Inv S) (h0 : 0 ≤ z) (h1 : z < 60) : 0 ≤ S (3890 + z) ∧ S (3890 + z) ≤ 1 := j_lhe h.1 h0 h1
theorem j_dea (h : IvR S) (h0 : 0 ≤ z) (h1 : z < 401) : 0 ≤ S (3950 + z) ∧ S (3950 + z) ≤ 1 := h (3950, 401, 0, 1) (by decide) z h0 h1
theorem i_dea (h : Inv S) (h0 : 0 ≤ z) (h1 : z < 401) : 0 ≤ S (3950 + z) ∧ S (3950 + z) ≤ 1 := j_dea h.1 h0 h1
theorem j_len (h : IvR S) (h0 : 0 ≤ z) (h1 : z < 10) : 0 ≤ S (8359 + z) ∧ S (8359 + z) ≤ 80 := h (8359, 10, 0, 80) (by decide) z h0 h1
theorem i_len (h : Inv S) (h0 : 0 ≤ z) (h1 : z < 10) : 0 ≤ S (8359 + z) ∧ S (8359 + z) ≤ 80 := j_len h.1 h0 h1
def iDis (r q : Int × Int × Int × Int) : Bool := decide (r = q) || decide (r.1 + r.2.1 ≤ q.1) || decide (q.1 + q.2.1 ≤ r.1)
theorem iDis_all : iT.all (fun r => iT.all (fun q => iDis r q)) = true := by decide +kernel
theorem ir_at (h : IvR S) {r : Int × Int × Int × Int} (hr : r ∈ iT) (h0 : 0 ≤ z) (h1 : z < r.2.1) (hv : r.2.2.1 ≤ v ∧ v ≤ r.2.2.2) : IvR (zU S (r.1 + z) v) := by
  intro q hq y y0 y1
  have d := List.all_eq_true.mp (List.all_eq_true.mp iDis_all r hr) q hq
  unfold iDis at d
  simp only [Bool.or_eq_true, decide_eq_true_eq] at d
  by_cases e : q.1 + y = r.1 + z
  · rw [e, zU_at]
    rcases d with (d | d) | d
    · subst d; exact hv
    · omega
    · omega
  · rw [zU_ne e]; exact h q hq y y0 y1
theorem ir_no2 (h : IvR S) {lo hi : Int} (hz : lo ≤ z ∧ z < hi) (hd : iT.all (fun q => decide (hi ≤ q.1) || decide (q.1 + q.2.1 ≤ lo)) = true) : IvR (zU S z v) := by
  intro q hq y y0 y1
  have d := List.all_eq_true.mp hd q hq
  simp only [Bool.or_eq_true, decide_eq_true_eq] at d
  rw [zU_ne (by omega)]; exact h q hq y y0 y1
/-- a place of S of which e1 .. e8 say nothing -/
def zFree (S : Int → Int) (z : Int) : Prop := z = 6 ∨ 90 ≤ z ∧ z < 2170 ∨ 2210 ≤ z ∧ z < 2210 + S 0 ∨ 2242 ≤ z ∧ z < 2242 + S 0 ∨ 2250 ≤ z ∧ z < 2258 ∨ 2470 ≤ z ∧ z < 3470 ∨ 3530 ≤ z ∧ z < 3590 ∨ 3710 ≤ z ∧ z < 3770 ∨ 3830 ≤ z ∧ z < 4351 ∨ 7559 ≤ z
theorem e8_E {S2 : Int → Int} (h : Inv S) (e : ∀ z : Int, (z = 0 ∨ z = 2 ∨ z = 5 ∨ 2218 ≤ z ∧ z < 2226 ∨ 2270 ≤ z ∧ z < 2470 ∨ 3470 ≤ z ∧ z < 3530 ∨ 3590 ≤ z ∧ z < 3710) → S2 z = S z) : e8 S2 := by
  have hr := i_rea h
  have hc := i_cle h
  have hg := i_gli h
  refine ⟨fun k k0 k1 => ?_, ?_⟩
  · rw [e 5 (by omega)] at k1
    rw [e (3650 + k) (by omega), e 2 (by omega)]
    exact h.2.2.2.2.2.2.2.2.1 k k0 k1
  intro r r0 r1
  rw [e 2 (by omega)] at r1
  obtain ⟨⟨a1, a2⟩, a3⟩ := h.2.2.2.2.2.2.2.2.2 r r0 r1
  rw [e (2270 + r) (by omega), e 0 (by omega), e 5 (by omega)]
  refine ⟨⟨a1, a2⟩, fun k k0 k1 hk => ?_⟩
  obtain ⟨b1, b2⟩ := a3 k k0 k1 (fun j j0 j1 => by have := hk j j0 j1; rw [e (3470 + j) (by omega), e (3650 + j) (by omega)] at this; exact this)
  refine ⟨fun k2 => ?_, fun k2 => ?_⟩
  · rw [e (3470 + k) (by omega), e (3650 + k) (by omega), e (3590 + k) (by omega)]; exact b1 k2
  · rw [e (2218 + S (2270 + r)) (by omega)]; exact b2 k2
theorem inv_free (h : Inv S) (hz : zFree S z) (hr : IvR (zU S (z) v)) : Inv (zU S (z) v) := by
  unfold zFree at hz
  have hg8 := i_gli h
  have hl := i_let h
  have hoc := i_orc h
  refine ⟨hr, ?_, ?_, ?_, ?_, ?_, ?_, ?_, ?_⟩
  · intro g' g0 g1
    rw [zU_ne (by omega)] at g1
    have hx := i_x h (z := g') g0 (by omega)
    have hy := i_y h (z := g') g0 (by omega)
    rw [zU_ne (i := 2202 + g') (by omega), zU_ne (i := 2178 + g') (by omega), zU_ne (i := 2186 + g') (by omega), zU_ne (by omega)]
    exact h.2.1 g' g0 g1
  · intro g' g0 g1
    rw [zU_ne (by omega), zU_ne (by omega)]
    exact h.2.2.1 g' g0 g1
  · intro g' g0 g1 g2
    rw [zU_ne (by omega)] at g0
    obtain ⟨b1, b2, b3, b4, b5⟩ := h.2.2.2.1 g' g0 g1 g2
    rw [zU_ne (by omega), zU_ne (by omega), zU_ne (by omega), zU_ne (by omega)]
    exact ⟨b1, b2, b3, b4, fun t' t0 t1 => by rw [zU_ne (by omega)]; exact b5 t' t0 t1⟩
  · intro g' g0 g1
    rw [zU_ne (by omega)] at g1
    rw [zU_ne (by omega), zU_ne (by omega)]
    exact h.2.2.2.2.1 g' g0 g1
  · intro g' g0 g1
    rw [zU_ne (by omega)] at g1
    rw [zU_ne (by omega), zU_ne (by omega)]
    exact h.2.2.2.2.2.1 g' g0 g1
  · intro k k0 k1
    rw [zU_ne (by omega)] at k1
    rw [zU_ne (by omega), zU_ne (by omega)]
    exact h.2.2.2.2.2.2.1 k k0 k1
  · intro g' g0 g1
    rw [zU_ne (by omega)]
    exact h.2.2.2.2.2.2.2.1 g' g0 g1
  · exact e8_E h (fun y hy => zU_ne (by omega))
theorem inv_fix (h : Inv S) {g t : Int} (hg : 0 ≤ g ∧ g < S 0) (ht : 0 ≤ t ∧ t < 400) (hr : IvR (zU S (4351 + (401 * g + t)) v)) : Inv (zU S (4351 + (401 * g + t)) v) := by
  have hg8 := i_gli h
  have hl := i_let h
  have hoc := i_orc h
  refine ⟨hr, ?_, ?_, ?_, ?_, ?_, ?_, ?_, ?_⟩
  · intro g' g0 g1
    rw [zU_ne (by omega)] at g1
    have hx := i_x h (z := g') g0 (by omega)
    have hy := i_y h (z := g') g0 (by omega)
    rw [zU_ne (i := 2202 + g') (by omega), zU_ne (i := 2178 + g') (by omega), zU_ne (i := 2186 + g') (by omega), zU_ne (by omega)]
    exact h.2.1 g' g0 g1
  · intro g' g0 g1
    rw [zU_ne (by omega), zU_ne (by omega)]
    exact h.2.2.1 g' g0 g1
  · intro g' g0 g1 g2
    rw [zU_ne (by omega)] at g0
    obtain ⟨b1, b2, b3, b4, b5⟩ := h.2.2.2.1 g' g0 g1 g2
    rw [zU_ne (by omega), zU_ne (by omega), zU_ne (by omega), zU_ne (by omega)]
    exact ⟨b1, b2, b3, b4, fun t' t0 t1 => by rw [zU_ne (by omega)]; exact b5 t' t0 t1⟩
  · intro g' g0 g1
    rw [zU_ne (by omega)] at g1
    rw [zU_ne (by omega), zU_ne (by omega)]
    exact h.2.2.2.2.1 g' g0 g1
  · intro g' g0 g1
    rw [zU_ne (by omega)] at g1
    rw [zU_ne (by omega), zU_ne (by omega)]
    exact h.2.2.2.2.2.1 g' g0 g1
  · intro k k0 k1
    rw [zU_ne (by omega)] at k1
    rw [zU_ne (by omega), zU_ne (by omega)]
    exact h.2.2.2.2.2.2.1 k k0 k1
  · intro g' g0 g1
    rw [zU_ne (by omega)]
    exact h.2.2.2.2.2.2.2.1 g' g0 g1
  · exact e8_E h (fun y hy => zU_ne (by omega))
theorem inv_pow (h : Inv S) {g : Int} (hg : 0 ≤ g ∧ g < 8) (hv : v + S (2218 + g) ≤ 999) (hr : IvR (zU S (2194 + g) v)) : Inv (zU S (2194 + g) v) := by
  have hg8 := i_gli h
  have hl := i_let h
  have hoc := i_orc h
  refine ⟨hr, ?_, ?_, ?_, ?_, ?_, ?_, ?_, ?_⟩
  · intro g' g0 g1
    rw [zU_ne (by omega)] at g1
    have hx := i_x h (z := g') g0 (by omega)
    have hy := i_y h (z := g') g0 (by omega)
    rw [zU_ne (i := 2202 + g') (by omega), zU_ne (i := 2178 + g') (by omega), zU_ne (i := 2186 + g') (by omega), zU_ne (by omega)]
    exact h.2.1 g' g0 g1
  · intro g' g0 g1
    by_cases e : g' = g
    · subst e; rw [zU_at, zU_ne (by omega)]; exact hv
    · rw [zU_ne (by omega), zU_ne (by omega)]
      exact h.2.2.1 g' g0 g1
  · intro g' g0 g1 g2
    rw [zU_ne (by omega)] at g0
    obtain ⟨b1, b2, b3, b4, b5⟩ := h.2.2.2.1 g' g0 g1 g2
    rw [zU_ne (by omega), zU_ne (by omega), zU_ne (by omega), zU_ne (by omega)]
    exact ⟨b1, b2, b3, b4, fun t' t0 t1 => by rw [zU_ne (by omega)]; exact b5 t' t0 t1⟩
  · intro g' g0 g1
    rw [zU_ne (by omega)] at g1
    rw [zU_ne (by omega), zU_ne (by omega)]
    exact h.2.2.2.2.1 g' g0 g1
  · intro g' g0 g1
    rw [zU_ne (by omega)] at g1
    rw [zU_ne (by omega), zU_ne (by omega)]
    exact h.2.2.2.2.2.1 g' g0 g1
  · intro k k0 k1
    rw [zU_ne (by omega)] at k1
    rw [zU_ne (by omega), zU_ne (by omega)]
    exact h.2.2.2.2.2.2.1 k k0 k1
  · intro g' g0 g1
    rw [zU_ne (by omega)]
    exact h.2.2.2.2.2.2.2.1 g' g0 g1
  · exact e8_E h (fun y hy => zU_ne (by omega))
theorem inv_ord (h : Inv S) {g : Int} (hg : 0 ≤ g ∧ g < 8) (hv : v = -4 ∨ 0 ≤ v ∧ v < S 4) (hr : IvR (zU S (2226 + g) v)) : Inv (zU S (2226 + g) v) := by
  have hg8 := i_gli h
  have hl := i_let h
  have hoc := i_orc h
  refine ⟨hr, ?_, ?_, ?_, ?_, ?_, ?_, ?_, ?_⟩
  · intro g' g0 g1
    rw [zU_ne (by omega)] at g1
    have hx := i_x h (z := g') g0 (by omega)
    have hy := i_y h (z := g') g0 (by omega)
    rw [zU_ne (i := 2202 + g') (by omega), zU_ne (i := 2178 + g') (by omega), zU_ne (i := 2186 + g') (by omega), zU_ne (by omega)]
    exact h.2.1 g' g0 g1
  · intro g' g0 g1
    rw [zU_ne (by omega), zU_ne (by omega)]
    exact h.2.2.1 g' g0 g1
  · intro g' g0 g1 g2
    rw [zU_ne (by omega)] at g0
    obtain ⟨b1, b2, b3, b4, b5⟩ := h.2.2.2.1 g' g0 g1 g2
    rw [zU_ne (by omega), zU_ne (by omega), zU_ne (by omega), zU_ne (by omega)]
    exact ⟨b1, b2, b3, b4, fun t' t0 t1 => by rw [zU_ne (by omega)]; exact b5 t' t0 t1⟩
  · intro g' g0 g1
    rw [zU_ne (by omega)] at g1
    rw [zU_ne (i := 4) (by omega)]
    by_cases e : g' = g
    · subst e; rw [zU_at]; exact hv
    · rw [zU_ne (by omega)]
      exact h.2.2.2.2.1 g' g0 g1
  · intro g' g0 g1
    rw [zU_ne (by omega)] at g1
    rw [zU_ne (by omega), zU_ne (by omega)]
    exact h.2.2.2.2.2.1 g' g0 g1
  · intro k k0 k1
    rw [zU_ne (by omega)] at k1
    rw [zU_ne (by omega), zU_ne (by omega)]
    exact h.2.2.2.2.2.2.1 k k0 k1
  · intro g' g0 g1
    rw [zU_ne (by omega)]
    exact h.2.2.2.2.2.2.2.1 g' g0 g1
  · exact e8_E h (fun y hy => zU_ne (by omega))
theorem inv_hea (h : Inv S) {g : Int} (hg : 0 ≤ g ∧ g < 8) (hv : 0 ≤ v ∧ v ≤ S 1) (hr : IvR (zU S (2234 + g) v)) : Inv (zU S (2234 + g) v) := by
  have hg8 := i_gli h
  have hl := i_let h
  have hoc := i_orc h
  refine ⟨hr, ?_, ?_, ?_, ?_, ?_, ?_, ?_, ?_⟩
  · intro g' g0 g1
    rw [zU_ne (by omega)] at g1
    have hx := i_x h (z := g') g0 (by omega)
    have hy := i_y h (z := g') g0 (by omega)
    rw [zU_ne (i := 2202 + g') (by omega), zU_ne (i := 2178 + g') (by omega), zU_ne (i := 2186 + g') (by omega), zU_ne (by omega)]
    exact h.2.1 g' g0 g1
  · intro g' g0 g1
    rw [zU_ne (by omega), zU_ne (by omega)]
    exact h.2.2.1 g' g0 g1
  · intro g' g0 g1 g2
    rw [zU_ne (by omega)] at g0
    obtain ⟨b1, b2, b3, b4, b5⟩ := h.2.2.2.1 g' g0 g1 g2
    rw [zU_ne (by omega), zU_ne (by omega), zU_ne (by omega), zU_ne (by omega)]
    exact ⟨b1, b2, b3, b4, fun t' t0 t1 => by rw [zU_ne (by omega)]; exact b5 t' t0 t1⟩
  · intro g' g0 g1
    rw [zU_ne (by omega)] at g1
    rw [zU_ne (by omega), zU_ne (by omega)]
    exact h.2.2.2.2.1 g' g0 g1
  · intro g' g0 g1
    rw [zU_ne (by omega)] at g1
    rw [zU_ne (i := 1) (by omega)]
    by_cases e : g' = g
    · subst e; rw [zU_at]; exact Or.inr hv
    · rw [zU_ne (by omega)]
      exact h.2.2.2.2.2.1 g' g0 g1
  · intro k k0 k1
    rw [zU_ne (by omega)] at k1
    rw [zU_ne (by omega), zU_ne (by omega)]
    exact h.2.2.2.2.2.2.1 k k0 k1
  · intro g' g0 g1
    rw [zU_ne (by omega)]
    exact h.2.2.2.2.2.2.2.1 g' g0 g1
  · exact e8_E h (fun y hy => zU_ne (by omega))
theorem inv_sta (h : Inv S) {g : Int} (hg : 0 ≤ g ∧ g < S 0) (hv : v ≠ 0) (hr : IvR (zU S (2202 + g) v)) : Inv (zU S (2202 + g) v) := by
  have hg8 := i_gli h
  have hl := i_let h
  have hoc := i_orc h
  refine ⟨hr, ?_, ?_, ?_, ?_, ?_, ?_, ?_, ?_⟩
  · intro g' g0 g1
    rw [zU_ne (by omega)] at g1
    have hx := i_x h (z := g') g0 (by omega)
    have hy := i_y h (z := g') g0 (by omega)
    rw [zU_ne (i := 2178 + g') (by omega), zU_ne (i := 2186 + g') (by omega), zU_ne (i := 10 + _) (by omega)]
    by_cases e : g' = g
    · subst e; rw [zU_at]; intro q; exact absurd q hv
    · rw [zU_ne (by omega)]
      exact h.2.1 g' g0 g1
  · intro g' g0 g1
    rw [zU_ne (by omega), zU_ne (by omega)]
    exact h.2.2.1 g' g0 g1
  · intro g' g0 g1 g2
    rw [zU_ne (by omega)] at g0
    obtain ⟨b1, b2, b3, b4, b5⟩ := h.2.2.2.1 g' g0 g1 g2
    rw [zU_ne (by omega), zU_ne (by omega), zU_ne (by omega), zU_ne (by omega)]
    exact ⟨b1, b2, b3, b4, fun t' t0 t1 => by rw [zU_ne (by omega)]; exact b5 t' t0 t1⟩
  · intro g' g0 g1
    rw [zU_ne (by omega)] at g1
    rw [zU_ne (by omega), zU_ne (by omega)]
    exact h.2.2.2.2.1 g' g0 g1
  · intro g' g0 g1
    rw [zU_ne (by omega)] at g1
    rw [zU_ne (by omega), zU_ne (by omega)]
    exact h.2.2.2.2.2.1 g' g0 g1
  · intro k k0 k1
    rw [zU_ne (by omega)] at k1
    rw [zU_ne (by omega), zU_ne (by omega)]
    exact h.2.2.2.2.2.2.1 k k0 k1
  · intro g' g0 g1
    rw [zU_ne (by omega)]
    exact h.2.2.2.2.2.2.2.1 g' g0 g1
  · exact e8_E h (fun y hy => zU_ne (by omega))
theorem inv_tim (h : Inv S) (hv : S 1 ≤ v) (hr : IvR (zU S (1) v)) : Inv (zU S (1) v) := by
  have hg8 := i_gli h
  have hl := i_let h
  have hoc := i_orc h
  refine ⟨hr, ?_, ?_, ?_, ?_, ?_, ?_, ?_, ?_⟩
  · intro g' g0 g1
    rw [zU_ne (by omega)] at g1
    have hx := i_x h (z := g') g0 (by omega)
    have hy := i_y h (z := g') g0 (by omega)
    rw [zU_ne (i := 2202 + g') (by omega), zU_ne (i := 2178 + g') (by omega), zU_ne (i := 2186 + g') (by omega), zU_ne (by omega)]
    exact h.2.1 g' g0 g1
  · intro g' g0 g1
    rw [zU_ne (by omega), zU_ne (by omega)]
    exact h.2.2.1 g' g0 g1
  · intro g' g0 g1 g2
    rw [zU_ne (by omega)] at g0
    obtain ⟨b1, b2, b3, b4, b5⟩ := h.2.2.2.1 g' g0 g1 g2
    rw [zU_ne (by omega), zU_ne (by omega), zU_ne (by omega), zU_ne (by omega)]
    exact ⟨b1, b2, b3, b4, fun t' t0 t1 => by rw [zU_ne (by omega)]; exact b5 t' t0 t1⟩
  · intro g' g0 g1
    rw [zU_ne (by omega)] at g1
    rw [zU_ne (by omega), zU_ne (by omega)]
    exact h.2.2.2.2.1 g' g0 g1
  · intro g' g0 g1
    rw [zU_ne (by omega)] at g1
    rw [zU_at, zU_ne (by omega)]
    have := h.2.2.2.2.2.1 g' g0 g1
    omega
  · intro k k0 k1
    rw [zU_ne (by omega)] at k1
    rw [zU_ne (by omega), zU_ne (by omega)]
    exact h.2.2.2.2.2.2.1 k k0 k1
  · intro g' g0 g1
    rw [zU_ne (by omega)]
    exact h.2.2.2.2.2.2.2.1 g' g0 g1
  · exact e8_E h (fun y hy => zU_ne (by omega))
theorem inv_dep (h : Inv S) {p : Int} (hp : 0 ≤ p ∧ p < 80) (hv : 0 < v ∨ ∀ g : Int, 0 ≤ g → g < S 0 → S (2202 + g) = 0 → 8 * S (2178 + g) + S (2186 + g) ≠ p) (hr : IvR (zU S (10 + p) v)) : Inv (zU S (10 + p) v) := by
  have hg8 := i_gli h
  have hl := i_let h
  have hoc := i_orc h
  refine ⟨hr, ?_, ?_, ?_, ?_, ?_, ?_, ?_, ?_⟩
  · intro g' g0 g1
    rw [zU_ne (by omega)] at g1
    have hx := i_x h (z := g') g0 (by omega)
    have hy := i_y h (z := g') g0 (by omega)
    rw [zU_ne (i := 2202 + g') (by omega), zU_ne (i := 2178 + g') (by omega), zU_ne (i := 2186 + g') (by omega)]
    intro q
    by_cases e : 8 * S (2178 + g') + S (2186 + g') = p
    · rw [zU_eq (by omega)]
      rcases hv with hv | hv
      · exact hv
      · exact absurd e (hv g' g0 g1 q)
    · rw [zU_ne (by omega)]
      exact h.2.1 g' g0 g1 q
  · intro g' g0 g1
    rw [zU_ne (by omega), zU_ne (by omega)]
    exact h.2.2.1 g' g0 g1
  · intro g' g0 g1 g2
    rw [zU_ne (by omega)] at g0
    obtain ⟨b1, b2, b3, b4, b5⟩ := h.2.2.2.1 g' g0 g1 g2
    rw [zU_ne (by omega), zU_ne (by omega), zU_ne (by omega), zU_ne (by omega)]
    exact ⟨b1, b2, b3, b4, fun t' t0 t1 => by rw [zU_ne (by omega)]; exact b5 t' t0 t1⟩
  · intro g' g0 g1
    rw [zU_ne (by omega)] at g1
    rw [zU_ne (by omega), zU_ne (by omega)]
    exact h.2.2.2.2.1 g' g0 g1
  · intro g' g0 g1
    rw [zU_ne (by omega)] at g1
    rw [zU_ne (by omega), zU_ne (by omega)]
    exact h.2.2.2.2.2.1 g' g0 g1
  · intro k k0 k1
    rw [zU_ne (by omega)] at k1
    rw [zU_ne (by omega), zU_ne (by omega)]
    exact h.2.2.2.2.2.2.1 k k0 k1
  · intro g' g0 g1
    rw [zU_ne (by omega)]
    exact h.2.2.2.2.2.2.2.1 g' g0 g1
  · exact e8_E h (fun y hy => zU_ne (by omega))
theorem inv_lor (h : Inv S) {k : Int} (hk : S 3 ≤ k ∧ k < 60) (hr : IvR (zU S (3770 + k) v)) : Inv (zU S (3770 + k) v) := by
  have hg8 := i_gli h
  have hl := i_let h
  have hoc := i_orc h
  refine ⟨hr, ?_, ?_, ?_, ?_, ?_, ?_, ?_, ?_⟩
  · intro g' g0 g1
    rw [zU_ne (by omega)] at g1
    have hx := i_x h (z := g') g0 (by omega)
    have hy := i_y h (z := g') g0 (by omega)
    rw [zU_ne (i := 2202 + g') (by omega), zU_ne (i := 2178 + g') (by omega), zU_ne (i := 2186 + g') (by omega), zU_ne (by omega)]
    exact h.2.1 g' g0 g1
  · intro g' g0 g1
    rw [zU_ne (by omega), zU_ne (by omega)]
    exact h.2.2.1 g' g0 g1
  · intro g' g0 g1 g2
    rw [zU_ne (by omega)] at g0
    obtain ⟨b1, b2, b3, b4, b5⟩ := h.2.2.2.1 g' g0 g1 g2
    rw [zU_ne (by omega), zU_ne (by omega), zU_ne (by omega), zU_ne (by omega)]
    exact ⟨b1, b2, b3, b4, fun t' t0 t1 => by rw [zU_ne (by omega)]; exact b5 t' t0 t1⟩
  · intro g' g0 g1
    rw [zU_ne (by omega)] at g1
    rw [zU_ne (by omega), zU_ne (by omega)]
    exact h.2.2.2.2.1 g' g0 g1
  · intro g' g0 g1
    rw [zU_ne (by omega)] at g1
    rw [zU_ne (by omega), zU_ne (by omega)]
    exact h.2.2.2.2.2.1 g' g0 g1
  · intro k' k0 k1
    rw [zU_ne (by omega)] at k1
    rw [zU_ne (by omega), zU_ne (by omega)]
    exact h.2.2.2.2.2.2.1 k' k0 k1
  · intro g' g0 g1
    rw [zU_ne (by omega)]
    exact h.2.2.2.2.2.2.2.1 g' g0 g1
  · exact e8_E h (fun y hy => zU_ne (by omega))
theorem inv_let (h : Inv S) (hv : v = S 3 + 1) (hn : S (3770 + S 3) < S 4) (hr : IvR (zU S (3) v)) : Inv (zU S (3) v) := by
  have hg8 := i_gli h
  have hl := i_let h
  have hoc := i_orc h
  refine ⟨hr, ?_, ?_, ?_, ?_, ?_, ?_, ?_, ?_⟩
  · intro g' g0 g1
    rw [zU_ne (by omega)] at g1
    have hx := i_x h (z := g') g0 (by omega)
    have hy := i_y h (z := g') g0 (by omega)
    rw [zU_ne (i := 2202 + g') (by omega), zU_ne (i := 2178 + g') (by omega), zU_ne (i := 2186 + g') (by omega), zU_ne (by omega)]
    exact h.2.1 g' g0 g1
  · intro g' g0 g1
    rw [zU_ne (by omega), zU_ne (by omega)]
    exact h.2.2.1 g' g0 g1
  · intro g' g0 g1 g2
    rw [zU_ne (by omega)] at g0
    obtain ⟨b1, b2, b3, b4, b5⟩ := h.2.2.2.1 g' g0 g1 g2
    rw [zU_ne (by omega), zU_ne (by omega), zU_ne (by omega), zU_ne (by omega)]
    exact ⟨b1, b2, b3, b4, fun t' t0 t1 => by rw [zU_ne (by omega)]; exact b5 t' t0 t1⟩
  · intro g' g0 g1
    rw [zU_ne (by omega)] at g1
    rw [zU_ne (by omega), zU_ne (by omega)]
    exact h.2.2.2.2.1 g' g0 g1
  · intro g' g0 g1
    rw [zU_ne (by omega)] at g1
    rw [zU_ne (by omega), zU_ne (by omega)]
    exact h.2.2.2.2.2.1 g' g0 g1
  · intro k k0 k1
    rw [zU_at] at k1
    rw [zU_ne (by omega), zU_ne (by omega)]
    by_cases e : k = S 3
    · rw [e]; exact hn
    · exact h.2.2.2.2.2.2.1 k k0 (by omega)
  · intro g' g0 g1
    rw [zU_ne (by omega)]
    exact h.2.2.2.2.2.2.2.1 g' g0 g1
  · exact e8_E h (fun y hy => zU_ne (by omega))
end INV
/-! WRITES TO THE WORLD -/
def gPl (g z : Int) : Prop := (2170 ≤ z ∧ z < 2258 ∧ (z - 2170) % 8 = g) ∨ (4351 + 401 * g ≤ z ∧ z < 4351 + 401 * g + 401)
section VW
variable {E : Em} {w : Nat} {J J2 : Jm} {S S2 : Int → Int} {a b k : Nat} {g z v : Int}
theorem gv_E (hg : 0 ≤ g ∧ g < 8) (h : Gv J a g S) (e1 : J2 a = J a) (e2 : J2 (a + 1) = J (a + 1)) (e : ∀ z : Int, gPl g z → S2 z = S z) : Gv J2 a g S2 := by
  unfold Gv
  unfold gPl at e
  rw [e1, e2, e (2170 + g) (by omega), e (2178 + g) (by omega), e (2186 + g) (by omega), e (2194 + g) (by omega), e (2202 + g) (by omega), e (2210 + g) (by omega), e (2218 + g) (by omega), e (2226 + g) (by omega), e (2234 + g) (by omega), e (2242 + g) (by omega), e (2250 + g) (by omega)]
  refine ⟨g_kind h, g_pow h, g_sta h, g_lea h, g_fou h, g_ord h, g_hea h, g_div h, g_cell h, g_m01 h, g_l0 h, g_lm h, g_sho h, ?_⟩
  intro t t0 t1
  rw [e _ (by omega)]
  exact g_fix h t0 t1
/-- a write to a row of the world -/
theorem vwS (h : Vw E w J S) (sp : Sp E w) (hi : IvR S) (hb : w ≤ b ∧ b ≤ w + 32) (hz : (5 ≤ z ∨ 1 ≤ z ∧ z ≤ 3) ∧ (z < 2170 ∨ 2258 ≤ z ∧ z < 4351)) (hs : Vs w (jW J b k v) (zU S z v)) : Vw E w (jW J b k v) (zU S z v) := by
  have hg8 := j_gli hi
  have ho := j_orc hi
  refine ⟨hs, fun g g0 g1 => ?_, fun j j0 j1 => ?_⟩
  · rw [zU_ne (by omega)] at g1
    obtain ⟨a, ha, hG⟩ := h.2.1 g g0 g1
    have := sp.1 _ _ ha
    exact ⟨a, ha, gv_E ⟨g0, by omega⟩ hG (jW_ne (by omega)) (jW_ne (by omega)) (fun y hy => zU_ne (by unfold gPl at hy; omega))⟩
  · rw [zU_ne (by omega)] at j1
    obtain ⟨q, hq, hO⟩ := h.2.2 j j0 j1
    have := sp.2.2.1 _ _ hq
    have hl := j_len hi (z := j) j0 (by omega)
    refine ⟨q, hq, ?_⟩
    rw [oT_E ⟨j0, by omega⟩ hl.2 (fun y y0 y1 => zU_ne (by omega)), zU_ne (by omega)]
    exact OrdA_E (fun i hi => jW_ne (by omega)) hO
/-- a GLIDER changed -/
theorem vwG (h : Vw E w J S) (sp : Sp E w) (hi : IvR S) (hg : 0 ≤ g ∧ g < S 0) (ha : E.2.1 (w + 13) g.toNat = some a) (hJ : ∀ c, c ≠ a → c ≠ a + 1 → J2 c = J c) (hS : ∀ z : Int, ¬ gPl g z → S2 z = S z) (hG : Gv J2 a g S2) : Vw E w J2 S2 := by
  have hg8 := j_gli hi
  have ho := j_orc hi
  have hwa := sp.1 _ _ ha
  have S0 : S2 0 = S 0 := hS 0 (by unfold gPl; omega)
  have S4 : S2 4 = S 4 := hS 4 (by unfold gPl; omega)
  refine ⟨?_, fun d d0 d1 => ?_, fun j j0 j1 => ?_⟩
  · intro r hr y y0 y1
    have := vOff_at hr
    rw [hJ _ (by omega) (by omega), hS _ (by unfold gPl; omega)]
    exact h.1 r hr y y0 y1
  · rw [S0] at d1
    by_cases e : d = g
    · subst e; exact ⟨a, ha, hG⟩
    · obtain ⟨c, hc, hC⟩ := h.2.1 d d0 d1
      have := sp.2.1 _ _ _ _ ha hc (by omega)
      exact ⟨c, hc, gv_E ⟨d0, by omega⟩ hC (hJ _ (by omega) (by omega)) (hJ _ (by omega) (by omega)) (fun y hy => hS y (by unfold gPl at hy ⊢; omega))⟩
  · rw [S4] at j1
    obtain ⟨q, hq, hO⟩ := h.2.2 j j0 j1
    have := sp.2.2.2 _ _ _ _ ha hq
    have hl := j_len hi (z := j) j0 (by omega)
    refine ⟨q, hq, ?_⟩
    rw [oT_E ⟨j0, by omega⟩ hl.2 (fun y y0 y1 => hS y (by unfold gPl; omega)), hS _ (by unfold gPl; omega)]
    exact OrdA_E (fun i hi => hJ _ (by omega) (by omega)) hO
/-- nothing of the world changed -/
theorem vwE (h : Vw E w J S) (e : ∀ c, w ≤ c → c ≤ w + 31 → J2 c = J c) (eg : ∀ j a, E.2.1 (w + 13) j = some a → J2 a = J a ∧ J2 (a + 1) = J (a + 1)) (eo : ∀ j q, E.2.1 (w + 15) j = some q → ∀ i : Nat, i ≤ 8 → J2 (q + i) = J (q + i)) : Vw E w J2 S := by
  refine ⟨vE h.1 e, fun d d0 d1 => ?_, fun j j0 j1 => ?_⟩
  · obtain ⟨c, hc, hC⟩ := h.2.1 d d0 d1
    exact ⟨c, hc, gE hC (eg _ _ hc).1 (eg _ _ hc).2⟩
  · obtain ⟨q, hq, hO⟩ := h.2.2 j j0 j1
    exact ⟨q, hq, OrdA_E (eo _ _ hq) hO⟩
/-- a write aside of the world -/
theorem vwN (h : Vw E w J S) (sp : Sp E w) (hb : w + 32 ≤ b ∧ b ≤ w + 43) (ag : ∀ j a, E.2.1 (w + 13) j = some a → a + 1 < w ∨ w + 43 < a) (ao : ∀ j q, E.2.1 (w + 15) j = some q → q + 8 < w ∨ w + 43 < q) : Vw E w (jW J b k v) S :=
  vwE h (fun c h1 h2 => jW_ne (by omega)) (fun j a ha => by have := ag j a ha; exact ⟨jW_ne (by omega), jW_ne (by omega)⟩) (fun j q hq i hi => by have := ao j q hq; exact jW_ne (by omega))
end VW
/-- what the class's operations on its world may change -/
def FrC (E : Em) (w : Nat) (J J2 : Jm) : Prop := ∀ b, (b < w ∨ w + 43 < b) → (∀ j a, E.2.1 (w + 13) j = some a → b ≠ a ∧ b ≠ a + 1) → J2 b = J b
/-- what the reference's operations on its row may change -/
def FrM (m : Nat) (J J2 : Jm) : Prop := (∀ b, (b < m ∨ m + 9 ≤ b ∨ b = m + 2) → J2 b = J b) ∧ J2 m 3 = J m 3 ∧ ((∀ p : Nat, p < 80 → J (m + 8) p = 0) → ∀ p : Nat, p < 80 → J2 (m + 8) p = 0)
section FR
variable {E : Em} {w m b k a : Nat} {J J1 J2 : Jm} {v g : Int}
theorem FrC.r : FrC E w J J := fun _ _ _ => rfl
theorem FrC.t (h1 : FrC E w J J1) (h2 : FrC E w J1 J2) : FrC E w J J2 := fun b hb hg => (h2 b hb hg).trans (h1 b hb hg)
theorem FrC.cw (h1 : FrC E w J J1) (hb : w ≤ b ∧ b ≤ w + 43) : FrC E w J (jW J1 b k v) := fun c hc hg => by rw [jW_ne (by omega)]; exact h1 c hc hg
theorem FrC.cg {j : Nat} (h1 : FrC E w J J1) (ha : E.2.1 (w + 13) j = some a) (hb : b = a ∨ b = a + 1) : FrC E w J (jW J1 b k v) := fun c hc hg => by
  have := hg _ _ ha
  rw [jW_ne (by omega)]; exact h1 c hc hg
theorem FrM.r : FrM m J J := ⟨fun _ _ => rfl, rfl, fun h => h⟩
theorem FrM.t (h1 : FrM m J J1) (h2 : FrM m J1 J2) : FrM m J J2 := ⟨fun b hb => (h2.1 b hb).trans (h1.1 b hb), h2.2.1.trans h1.2.1, fun h => h2.2.2 (h1.2.2 h)⟩
theorem FrM.mw (h1 : FrM m J J1) (hb : (m ≤ b ∧ b < m + 8 ∧ b ≠ m + 2) ∧ (b = m → k ≠ 3)) : FrM m J (jW J1 b k v) := by
  refine ⟨fun c hc => by rw [jW_ne (by omega)]; exact h1.1 c hc, ?_, fun h p hp => by rw [jW_ne (by omega)]; exact h1.2.2 h p hp⟩
  by_cases e : b = m
  · subst e; rw [jW_of (by omega)]; exact h1.2.1
  · rw [jW_ne (by omega)]; exact h1.2.1
end FR
