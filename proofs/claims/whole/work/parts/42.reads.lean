/-! THE REFERENCE READS AN ORDER'S TEXT -/
def Cn (c : Int → Int) (n : Int) : Prop := (0 ≤ n ∧ n ≤ 80) ∧ ∀ p : Int, c p ≠ -1 → 0 ≤ p ∧ p < n
def soP (v o n : Int) : Int := if o = 60 then (if v < n then 1 else 0) else if o = 62 then (if n < v then 1 else 0) else (if v = n then 1 else 0)
/-- does a CHECK hold, by what the fields tell -/
def ckV (vf : Int → Int) (k : Ck) : Int := if soP (vf k.2.1) k.2.2.1 k.2.2.2 = k.1 then 0 else 1
def alV (vf : Int → Int) : List Ck → Int
  | [] => 1
  | k :: l => if ckV vf k = 0 then 0 else alV vf l
theorem ckV_r (vf : Int → Int) (k : Ck) : ckV vf k = 0 ∨ ckV vf k = 1 := by
  unfold ckV; split
  · exact Or.inl rfl
  · exact Or.inr rfl
theorem alV_r (vf : Int → Int) : ∀ l : List Ck, alV vf l = 0 ∨ alV vf l = 1
  | [] => Or.inr rfl
  | k :: l => by
    unfold alV; split
    · exact Or.inl rfl
    · exact alV_r vf l
theorem alV_a (vf : Int → Int) (k : Ck) : ∀ l : List Ck, alV vf (l ++ [k]) = if alV vf l = 0 then 0 else ckV vf k
  | [] => by
    show (if ckV vf k = 0 then 0 else (1 : Int)) = if (1 : Int) = 0 then 0 else ckV vf k
    rw [if_neg (show ¬ (1 : Int) = 0 by decide)]
    rcases ckV_r vf k with h | h
    · rw [if_pos h, h]
    · rw [h]; rfl
  | j :: l => by
    show (if ckV vf j = 0 then 0 else alV vf (l ++ [k])) = if (if ckV vf j = 0 then 0 else alV vf l) = 0 then 0 else ckV vf k
    by_cases h : ckV vf j = 0
    · rw [if_pos h, if_pos h]; rfl
    · rw [if_neg h, if_neg h, alV_a vf k l]
/-- only the reading's own fields changed -/
def Fx (m : Nat) (J J2 : Jm) : Prop := (∀ b, b ≠ m → J2 b = J b) ∧ ∀ k, (k < 12 ∨ k = 13 ∨ 20 < k) → J2 m k = J m k
theorem Fx.r {m : Nat} {J : Jm} : Fx m J J := ⟨fun _ _ => rfl, fun _ _ => rfl⟩
theorem Fx.ww {m k : Nat} {J J1 : Jm} {v : Int} (h : Fx m J J1) (hk : k = 12 ∨ 14 ≤ k ∧ k ≤ 20) : Fx m J (jW J1 m k v) := ⟨fun b hb => by rw [jW_ne hb]; exact h.1 b hb, fun i hi => by rw [jW_of (by omega)]; exact h.2 i hi⟩
theorem Fx.t {m : Nat} {J J1 J2 : Jm} (h1 : Fx m J J1) (h2 : Fx m J1 J2) : Fx m J J2 := ⟨fun b hb => (h2.1 b hb).trans (h1.1 b hb), fun k hk => (h2.2 k hk).trans (h1.2 k hk)⟩
/-- what stands at a place of the text, as long as only the reading's own fields change -/
def At (m : Nat) (c : Int → Int) (J0 : Jm) : Prop := ∀ J : Jm, Fx m J0 J → 0 ≤ J m 12 → H_X12_at m J = some (c (J m 12))
section RTX
variable {m : Nat} {J0 J : Jm} {c : Int → Int} {n g p v t : Int}
theorem r_bang (hc : Cn c n) (hA : At m c J0) (K : Int → Jm → Option (Int × Jm)) : ∀ (k fu : Nat) (t p : Int) (J : Jm), Fx m J0 J → J m 12 = p → 0 ≤ p → p ≤ n → n - p < k → n - p < fu → (t = 0 ∨ t = 1) → ∃ J2, H_X12_takesCheck_L2 K m g fu t J = K (pBang c k p t).2 J2 ∧ Fx m J0 J2 ∧ J2 m 12 = (pBang c k p t).1 ∧ (p ≤ (pBang c k p t).1 ∧ (pBang c k p t).1 ≤ n) ∧ ((pBang c k p t).2 = 0 ∨ (pBang c k p t).2 = 1) ∧ ∀ i, i ≠ 12 → J2 m i = J m i := by
  intro k
  induction k with
  | zero => intro fu t p J h1 h2 h3 h4 h5; omega
  | succ k ih =>
    intro fu t p J h1 h2 h3 h4 h5 h6 h7
    obtain ⟨fu, rfl⟩ : ∃ f, fu = f + 1 := ⟨fu - 1, by omega⟩
    rw [H_X12_takesCheck_L2, hA J h1 (by omega), h2, Option.bind_some]
    unfold pBang
    by_cases h : c p = 33
    · have hp := hc.2 p (by omega)
      rw [if_pos h, if_pos h]
      simp only [nv]
      have e1 : (if t = 0 then (1 : Int) else 0) = 1 - t := by split <;> omega
      rw [e1, wr_id (by have := hc.1; omega)]
      obtain ⟨J2, f1, f2, f3, f4, f5, f6⟩ := ih fu (1 - t) (p + 1) (jW J m 12 (p + 1)) (h1.ww (by omega)) jW_at (by omega) (by omega) (by omega) (by omega) (by omega)
      exact ⟨J2, f1, f2, f3, ⟨by omega, f4.2⟩, f5, fun i hi => by rw [f6 i hi, jW_of hi]⟩
    · rw [if_neg h, if_neg h]
      exact ⟨J, rfl, h1, h2, ⟨Int.le_refl _, h4⟩, h7, fun _ _ => rfl⟩
theorem r_num (hc : Cn c n) (hA : At m c J0) (K : Int → Jm → Option (Int × Jm)) (z2 z4 z5 : Int) : ∀ (k fu : Nat) (ix v p : Int) (J : Jm), Fx m J0 J → J m 12 = p → 0 ≤ p → p ≤ n → ix + k = 3 → k < fu → (0 ≤ v ∧ ((k = 2 ∧ v ≤ 9) ∨ (k = 1 ∧ v ≤ 99) ∨ (k = 0 ∧ v ≤ 999))) → ∃ J2, H_X12_takesCheck_L127 K m z2 z4 z5 fu v ix J = K (pMore c k v p).1 J2 ∧ Fx m J0 J2 ∧ J2 m 12 = (pMore c k v p).2 ∧ (p ≤ (pMore c k v p).2 ∧ (pMore c k v p).2 ≤ n) ∧ ∀ i, i ≠ 12 → J2 m i = J m i := by
  intro k
  induction k with
  | zero =>
    intro fu ix v p J h1 h2 h3 h4 h5 h6 h7
    obtain ⟨fu, rfl⟩ := nx h6
    rw [H_X12_takesCheck_L127, if_pos (by omega)]
    exact ⟨J, rfl, h1, h2, ⟨Int.le_refl _, h4⟩, fun _ _ => rfl⟩
  | succ k ih =>
    intro fu ix v p J h1 h2 h3 h4 h5 h6 h7
    obtain ⟨fu, rfl⟩ := nx h6
    rw [H_X12_takesCheck_L127, if_neg (by omega)]
    unfold pMore
    by_cases hv : v ≤ 0
    · rw [if_pos hv, if_neg (by omega)]
      exact ⟨J, rfl, h1, h2, ⟨Int.le_refl _, h4⟩, fun _ _ => rfl⟩
    · rw [if_neg hv, hA J h1 (by omega), h2, Option.bind_some, isq, Option.bind_some, z01, Option.bind_some]
      simp only [nv]
      by_cases h : 48 ≤ c p ∧ c p ≤ 57
      · have hp := hc.2 p (by omega)
        have hn := hc.1
        rw [if_pos h, if_pos (show 0 < v ∧ 48 ≤ c p ∧ c p ≤ 57 by omega), wr_id (z := p + 1) (by omega), wr_id (z := 10 * v) (by omega), wr_id (z := 10 * v + c p) (by omega), wr_id (z := 10 * v + c p - 48) (by omega), wr_id (z := ix + 1) (by omega), show 10 * v + c p - 48 = 10 * v + (c p - 48) by omega]
        obtain ⟨J2, f1, f2, f3, f4, f6⟩ := ih fu (ix + 1) (10 * v + (c p - 48)) (p + 1) (jW J m 12 (p + 1)) (h1.ww (by omega)) jW_at (by omega) (by omega) (by omega) (by omega) (by omega)
        exact ⟨J2, f1, f2, f3, ⟨by omega, f4.2⟩, fun i hi => by rw [f6 i hi, jW_of hi]⟩
      · rw [if_neg h, if_neg (fun q => h q.2)]
        exact ⟨J, rfl, h1, h2, ⟨Int.le_refl _, h4⟩, fun _ _ => rfl⟩
theorem r_takes (hc : Cn c n) (hA : At m c J0) (hJ : Fx m J0 J) (hp : J m 12 = p) (h0 : 0 ≤ p) (h1 : p ≤ n) {lo hi : Int} (hl : 0 ≤ lo ∧ lo ≤ hi ∧ hi ≤ 9) : (¬ (48 + lo ≤ c p ∧ c p ≤ 48 + hi) → H_X12_takes m lo hi J = some (0, J)) ∧ ((48 + lo ≤ c p ∧ c p ≤ 48 + hi) → H_X12_takes m lo hi J = some (1, jW (jW J m 14 (c p - 48)) m 12 (p + 1)) ∧ p < n) := by
  have hn := hc.1
  refine ⟨fun h => ?_, fun h => ?_⟩
  · unfold H_X12_takes
    rw [hA J hJ (by omega), hp, Option.bind_some, wr_id (z := 48 + lo) (by omega), wr_id (z := 48 + hi) (by omega), isq, Option.bind_some, z01, if_neg h]
  · have hq := hc.2 p (by omega)
    unfold H_X12_takes
    rw [hA J hJ (by omega), hp, Option.bind_some, wr_id (z := 48 + lo) (by omega), wr_id (z := 48 + hi) (by omega), isq, Option.bind_some, z01, if_pos h, Option.bind_some]
    simp only [nv]
    rw [jW_of (by decide), hp, wr_id (by omega), wr_id (by omega)]
    exact ⟨rfl, hq.2⟩
theorem r_isField (f : Int) : H_X12_isField m f = some (if isF f then 1 else 0) := by
  unfold H_X12_isField isF
  repeat' (first | (rw [if_pos (by omega)]; done) | (rw [if_neg (by omega)]; done) | split)
  all_goals first | (rw [if_pos (by omega)]) | (rw [if_neg (by omega)])
/-- what the fields tell, as long as only the reading's own fields change -/
def Vf (m : Nat) (g : Int) (J0 : Jm) (vf : Int → Int) : Prop := ∀ f : Int, isF f → ∀ J : Jm, Fx m J0 J → H_X12_fieldOf m f g J = some (vf f)
theorem r_chk (hc : Cn c n) (hA : At m c J0) {vf : Int → Int} (hv : Vf m g J0 vf) (hJ : Fx m J0 J) (hp : J m 12 = p) (h0 : 0 ≤ p) (h1 : p ≤ n) (h15 : J m 15 = 0 ∨ J m 15 = 1) :
    ∃ J2, H_X12_takesCheck m g J = some (if (pChk c p).1 = true then 1 else 0, J2) ∧ Fx m J0 J2 ∧ J2 m 12 = (pChk c p).2.1 ∧ (p ≤ J2 m 12 ∧ J2 m 12 ≤ n) ∧ ((pChk c p).1 = true → p < J2 m 12 ∧ J2 m 15 = (if J m 15 = 0 then 0 else ckV vf (pChk c p).2.2)) ∧ ∀ i, 16 ≤ i → i ≤ 20 → J2 m i = J m i := by
  have hn := hc.1
  unfold H_X12_takesCheck
  obtain ⟨J1, b1, b2, b3, b4, b5, b6⟩ := r_bang (g := g) hc hA (fun (zy11 : Int) (J12 : Jm) =>
    (H_X12_at m J12).bind fun zv15 =>
    (H_X12_isField m zv15).bind fun zv18 =>
    if zv18 = 0 then
      some ((0 : Int), J12)
    else
      (H_X12_fieldOf m zv15 g J12).bind fun zv22 =>
      nv (jW J12 m 12 (wr ((J12 m 12) + 1))) fun J24 =>
      (H_X12_at m J24).bind fun zv27 =>
      jp (fun (J29 : Jm) =>
        nv (jW J29 m 12 (wr ((J29 m 12) + 1))) fun J31 =>
        (H_X12_takes m 0 9 J31).bind fun (zv34, J32) =>
        if zv34 = 0 then
          some ((0 : Int), J32)
        else
          H_X12_takesCheck_L127 (fun (zy52 : Int) (J53 : Jm) =>
            nv (α := Int) (if zv27 = 60 then (if zy52 ≤ zv22 then 0 else 1) else (if zv27 = 61 then (if zv22 = zy52 then 1 else 0) else (if zv22 ≤ zy52 then 0 else 1))) fun zv54 =>
            nv (α := Int) (if (J53 m 15) = 0 then 0 else (if zv54 = zy11 then 0 else 1)) fun zv57 =>
            (jZ zv57).bind fun _ =>
            nv (jW J53 m 15 zv57) fun J59 =>
            some ((1 : Int), J59)) m zy11 zv22 zv27 1000000 (J32 m 14) 1 J32) fun k28h =>
      if zv27 = 60 then
        k28h J24
      else
        if zv27 = 61 then
          k28h J24
        else
          if zv27 = 62 then
            k28h J24
          else
            some ((0 : Int), J24)) 81 1000000 0 p J hJ hp h0 h1 (by omega) (by omega) (Or.inl rfl)
  rw [b1]
  unfold pChk
  generalize pBang c 81 p 0 = B at b3 b4 b5 ⊢
  obtain ⟨p1, t⟩ := B
  dsimp only at b3 b4 b5 ⊢
  rw [hA J1 b2 (by omega), b3, Option.bind_some, r_isField, Option.bind_some, z01]
  by_cases k1 : isF (c p1)
  · have hp1 := hc.2 p1 (by rcases k1 with h | h | h | h | h | h | h | h | h <;> omega)
    rw [if_pos k1, if_pos k1, hv _ k1 J1 b2, Option.bind_some]
    simp only [nv]
    rw [wr_id (z := p1 + 1) (by omega)]
    have f2 : Fx m J0 (jW J1 m 12 (p1 + 1)) := b2.ww (by omega)
    rw [hA _ f2 (by rw [jW_at]; omega), jW_at, Option.bind_some]
    simp only [jp, jW_at]
    by_cases k2 : c (p1 + 1) = 60 ∨ c (p1 + 1) = 61 ∨ c (p1 + 1) = 62
    · have hp2 := hc.2 (p1 + 1) (by omega)
      rw [if_pos k2]
      have f3 : Fx m J0 (jW (jW J1 m 12 (p1 + 1)) m 12 (p1 + 2)) := f2.ww (by omega)
      have main : ∃ J2, ((H_X12_takes m 0 9 (jW (jW J1 m 12 (p1 + 1)) m 12 (wr (p1 + 1 + 1)))).bind fun (zv34, J32) =>
        if zv34 = 0 then
          some ((0 : Int), J32)
        else
          H_X12_takesCheck_L127 (fun (zy52 : Int) (J53 : Jm) =>
            (jZ (if (J53 m 15) = 0 then 0 else (if (if c (p1 + 1) = 60 then (if zy52 ≤ vf (c p1) then 0 else 1) else (if c (p1 + 1) = 61 then (if vf (c p1) = zy52 then 1 else 0) else (if vf (c p1) ≤ zy52 then 0 else 1))) = t then 0 else 1))).bind fun _ =>
            some ((1 : Int), jW J53 m 15 (if (J53 m 15) = 0 then 0 else (if (if c (p1 + 1) = 60 then (if zy52 ≤ vf (c p1) then 0 else 1) else (if c (p1 + 1) = 61 then (if vf (c p1) = zy52 then 1 else 0) else (if vf (c p1) ≤ zy52 then 0 else 1))) = t then 0 else 1)))) m t (vf (c p1)) (c (p1 + 1)) 1000000 (J32 m 14) 1 J32) = some (if (if 48 ≤ c (p1 + 2) ∧ c (p1 + 2) ≤ 57 then (true, (pMore c 2 (c (p1 + 2) - 48) (p1 + 3)).2, (t, c p1, c (p1 + 1), (pMore c 2 (c (p1 + 2) - 48) (p1 + 3)).1)) else (false, p1 + 2, ((0, 0, 0, 0) : Ck))).1 = true then 1 else 0, J2) ∧ Fx m J0 J2 ∧ J2 m 12 = (if 48 ≤ c (p1 + 2) ∧ c (p1 + 2) ≤ 57 then (true, (pMore c 2 (c (p1 + 2) - 48) (p1 + 3)).2, (t, c p1, c (p1 + 1), (pMore c 2 (c (p1 + 2) - 48) (p1 + 3)).1)) else (false, p1 + 2, ((0, 0, 0, 0) : Ck))).2.1 ∧ (p ≤ J2 m 12 ∧ J2 m 12 ≤ n) ∧ ((if 48 ≤ c (p1 + 2) ∧ c (p1 + 2) ≤ 57 then (true, (pMore c 2 (c (p1 + 2) - 48) (p1 + 3)).2, (t, c p1, c (p1 + 1), (pMore c 2 (c (p1 + 2) - 48) (p1 + 3)).1)) else (false, p1 + 2, ((0, 0, 0, 0) : Ck))).1 = true → p < J2 m 12 ∧ J2 m 15 = (if J m 15 = 0 then 0 else ckV vf (if 48 ≤ c (p1 + 2) ∧ c (p1 + 2) ≤ 57 then (true, (pMore c 2 (c (p1 + 2) - 48) (p1 + 3)).2, (t, c p1, c (p1 + 1), (pMore c 2 (c (p1 + 2) - 48) (p1 + 3)).1)) else (false, p1 + 2, ((0, 0, 0, 0) : Ck))).2.2)) ∧ ∀ i, 16 ≤ i → i ≤ 20 → J2 m i = J m i := by
        rw [wr_id (z := p1 + 1 + 1) (by omega), show p1 + 1 + 1 = p1 + 2 by omega]
        obtain ⟨t1, t2⟩ := r_takes (p := p1 + 2) hc hA f3 jW_at (by omega) (by omega) (lo := 0) (hi := 9) (by omega)
        by_cases k3 : 48 ≤ c (p1 + 2) ∧ c (p1 + 2) ≤ 57
        · obtain ⟨t3, t4⟩ := t2 (by omega)
          rw [if_pos k3, t3, Option.bind_some]
          dsimp only
          rw [if_neg (show ¬ (1 : Int) = 0 by decide), jW_of (by decide), jW_at, show p1 + 2 + 1 = p1 + 3 by omega]
          obtain ⟨J5, g1, g2, g3, g4, g5⟩ := r_num hc hA (fun (zy52 : Int) (J53 : Jm) =>
            (jZ (if (J53 m 15) = 0 then 0 else (if (if c (p1 + 1) = 60 then (if zy52 ≤ vf (c p1) then 0 else 1) else (if c (p1 + 1) = 61 then (if vf (c p1) = zy52 then 1 else 0) else (if vf (c p1) ≤ zy52 then 0 else 1))) = t then 0 else 1))).bind fun _ =>
            some ((1 : Int), jW J53 m 15 (if (J53 m 15) = 0 then 0 else (if (if c (p1 + 1) = 60 then (if zy52 ≤ vf (c p1) then 0 else 1) else (if c (p1 + 1) = 61 then (if vf (c p1) = zy52 then 1 else 0) else (if vf (c p1) ≤ zy52 then 0 else 1))) = t then 0 else 1)))) t (vf (c p1)) (c (p1 + 1)) 2 1000000 1 (c (p1 + 2) - 48) (p1 + 3) (jW (jW (jW (jW J1 m 12 (p1 + 1)) m 12 (p1 + 2)) m 14 (c (p1 + 2) - 48)) m 12 (p1 + 3)) ((f3.ww (by omega)).ww (by omega)) jW_at (by omega) (by omega) (by omega) (by omega) (by omega)
          rw [g1]
          generalize pMore c 2 (c (p1 + 2) - 48) (p1 + 3) = M at g3 g4 ⊢
          obtain ⟨v, p4⟩ := M
          dsimp only at g3 g4 ⊢
          have e15 : J5 m 15 = J m 15 := by
            rw [g5 15 (by decide), jW_of (by decide), jW_of (by decide), jW_of (by decide), jW_of (by decide)]
            exact b6 15 (by decide)
          rw [e15]
          have ez : (if c (p1 + 1) = 60 then (if v ≤ vf (c p1) then 0 else 1) else (if c (p1 + 1) = 61 then (if vf (c p1) = v then 1 else 0) else (if vf (c p1) ≤ v then 0 else 1))) = soP (vf (c p1)) (c (p1 + 1)) v := by
            unfold soP
            rcases k2 with q | q | q
            · rw [if_pos q, if_pos q]
              split <;> split <;> omega
            · have q0 : ¬ c (p1 + 1) = 60 := by omega
              have q2 : ¬ c (p1 + 1) = 62 := by omega
              rw [if_neg q0, if_pos q, if_neg q0, if_neg q2]
            · have q0 : ¬ c (p1 + 1) = 60 := by omega
              have q1 : ¬ c (p1 + 1) = 61 := by omega
              rw [if_neg q0, if_neg q1, if_neg q0, if_pos q]
              split <;> split <;> omega
          rw [ez]
          have hz : (if J m 15 = 0 then 0 else (if soP (vf (c p1)) (c (p1 + 1)) v = t then (0 : Int) else 1)) = 0 ∨ (if J m 15 = 0 then 0 else (if soP (vf (c p1)) (c (p1 + 1)) v = t then (0 : Int) else 1)) = 1 := by
            repeat' (first | exact Or.inl rfl | exact Or.inr rfl | split)
          rw [zZ hz, Option.bind_some]
          refine ⟨_, rfl, g2.ww (by omega), by rw [jW_of (by decide)]; exact g3, by rw [jW_of (by decide), g3]; omega, fun _ => ⟨by rw [jW_of (by decide), g3]; omega, jW_at⟩, fun i i0 i1 => ?_⟩
          rw [jW_of (by omega), g5 i (by omega), jW_of (by omega), jW_of (by omega), jW_of (by omega), jW_of (by omega)]
          exact b6 i (by omega)
        · rw [if_neg k3, t1 (by omega), Option.bind_some]
          dsimp only
          rw [if_pos rfl]
          refine ⟨_, rfl, f3, jW_at, by rw [jW_at]; omega, fun q => (by cases q), fun i i0 i1 => ?_⟩
          rw [jW_of (by omega), jW_of (by omega)]
          exact b6 i (by omega)
      rcases k2 with q | q | q
      · rw [if_pos q]; exact main
      · rw [if_neg (show ¬ c (p1 + 1) = 60 by omega), if_pos q]; exact main
      · rw [if_neg (show ¬ c (p1 + 1) = 60 by omega), if_neg (show ¬ c (p1 + 1) = 61 by omega), if_pos q]; exact main
    · rw [if_neg k2, if_neg (fun q => k2 (Or.inl q)), if_neg (fun q => k2 (Or.inr (Or.inl q))), if_neg (fun q => k2 (Or.inr (Or.inr q)))]
      refine ⟨_, rfl, f2, jW_at, by rw [jW_at]; omega, fun q => (by cases q), fun i i0 i1 => ?_⟩
      rw [jW_of (by omega)]
      exact b6 i (by omega)
  · rw [if_neg k1, if_neg k1]
    exact ⟨J1, rfl, b2, b3, by rw [b3]; exact b4, fun q => (by cases q), fun i i0 i1 => b6 i (by omega)⟩
theorem r_testL (hc : Cn c n) (hA : At m c J0) {vf : Int → Int} (hv : Vf m g J0 vf) : ∀ (k fu : Nat) (p : Int) (J : Jm) (l : List Ck), Fx m J0 J → J m 12 = p → 0 ≤ p → p ≤ n → n - p < k → n - p < fu → J m 15 = alV vf l →
    ∃ J2, ((H_X12_takesCheck m g J).bind fun (zv4, J2) => if zv4 = 0 then some ((0 : Int), J2) else H_X12_takesTest_L15 m g fu J2) = some (if (pTest c k p l).1 = true then 1 else 0, J2) ∧ Fx m J0 J2 ∧ J2 m 12 = (pTest c k p l).2.1 ∧ (p ≤ J2 m 12 ∧ J2 m 12 ≤ n) ∧ ((pTest c k p l).1 = true → p < J2 m 12 ∧ J2 m 15 = alV vf (pTest c k p l).2.2) ∧ ∀ i, 16 ≤ i → i ≤ 20 → J2 m i = J m i := by
  have hn := hc.1
  intro k
  induction k with
  | zero => intro fu p J l h1 h2 h3 h4 h5; omega
  | succ k ih =>
    intro fu p J l h1 h2 h3 h4 h5 h6 h7
    obtain ⟨J1, a1, a2, a3, a4, a5, a6⟩ := r_chk hc hA hv h1 h2 h3 h4 (by rw [h7]; exact alV_r vf l)
    rw [a1, Option.bind_some]
    unfold pTest
    generalize pChk c p = Q at a3 a4 a5 ⊢
    obtain ⟨ok, q, kk⟩ := Q
    dsimp only at a3 a4 a5 ⊢
    cases ok with
    | false =>
      rw [if_neg (show ¬ false = true by decide), if_neg (show ¬ false = true by decide), if_pos rfl]
      exact ⟨J1, rfl, a2, a3, a4, fun q => (by cases q), a6⟩
    | true =>
      obtain ⟨a7, a8⟩ := a5 rfl
      obtain ⟨fu, rfl⟩ : ∃ f, fu = f + 1 := ⟨fu - 1, by omega⟩
      rw [if_pos rfl, if_pos rfl, if_neg (show ¬ (1 : Int) = 0 by decide), H_X12_takesTest_L15, hA J1 a2 (by omega), a3, Option.bind_some]
      have e15 : J1 m 15 = alV vf (l ++ [kk]) := by rw [a8, h7, alV_a]
      by_cases k1 : c q = 38
      · have hq := hc.2 q (by omega)
        rw [if_pos k1, if_pos k1]
        simp only [nv]
        rw [wr_id (z := q + 1) (by omega)]
        obtain ⟨J2, f1, f2, f3, f4, f5, f6⟩ := ih fu (q + 1) (jW J1 m 12 (q + 1)) (l ++ [kk]) (a2.ww (by omega)) jW_at (by omega) (by omega) (by omega) (by omega) (by rw [jW_of (by decide)]; exact e15)
        refine ⟨J2, f1, f2, f3, by omega, fun z => ⟨by have := (f5 z).1; omega, (f5 z).2⟩, fun i i0 i1 => ?_⟩
        rw [f6 i i0 i1, jW_of (by omega)]; exact a6 i i0 i1
      · rw [if_neg k1, if_neg k1]
        exact ⟨J1, rfl, a2, a3, a4, fun _ => ⟨a7, e15⟩, a6⟩
theorem r_test (hc : Cn c n) (hA : At m c J0) {vf : Int → Int} (hv : Vf m g J0 vf) (hJ : Fx m J0 J) (hp : J m 12 = p) (h0 : 0 ≤ p) (h1 : p ≤ n) :
    ∃ J2, H_X12_takesTest m g J = some (if (pTest c 81 p []).1 = true then 1 else 0, J2) ∧ Fx m J0 J2 ∧ J2 m 12 = (pTest c 81 p []).2.1 ∧ (p ≤ J2 m 12 ∧ J2 m 12 ≤ n) ∧ ((pTest c 81 p []).1 = true → p < J2 m 12 ∧ J2 m 15 = alV vf (pTest c 81 p []).2.2) ∧ ∀ i, 16 ≤ i → i ≤ 20 → J2 m i = J m i := by
  have hn := hc.1
  unfold H_X12_takesTest
  simp only [nv]
  obtain ⟨J2, f1, f2, f3, f4, f5, f6⟩ := r_testL (g := g) hc hA hv 81 1000000 p (jW J m 15 1) [] (hJ.ww (by omega)) (by rw [jW_of (by decide)]; exact hp) h0 h1 (by omega) (by omega) jW_at
  exact ⟨J2, f1, f2, f3, f4, f5, fun i i0 i1 => by rw [f6 i i0 i1, jW_of (by omega)]⟩
end RTX
