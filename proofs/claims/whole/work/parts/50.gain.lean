/-! WHAT AN END GAINS -/
def dS (S : Int → Int) : Int → Int := fun c => S (170 + c)
def hfD (D : Int → Int) (c : Int) : Int := (D c + 1) / 2
def gcl (C : Cv) (c v : Int) : Int := if 0 ≤ c then (if C c < v then v - C c else 0) else 0
def gnD (D : Int → Int) (C : Cv) (p : Int) : Int := gcl C p (D p) + gcl C (bsd p 1 0) (hfD D (bsd p 1 0)) + gcl C (bsd p 0 1) (hfD D (bsd p 0 1)) + gcl C (bsd p (-1) 0) (hfD D (bsd p (-1) 0)) + gcl C (bsd p 0 (-1)) (hfD D (bsd p 0 (-1)))
def covD (D : Int → Int) (C : Cv) (p : Int) : Cv := fun c => if c = p then mxZ (C c) (D c) else if 0 ≤ c ∧ (c = bsd p 1 0 ∨ c = bsd p 0 1 ∨ c = bsd p (-1) 0 ∨ c = bsd p 0 (-1)) then mxZ (C c) (hfD D c) else C c
theorem bsd_E (p : Int) (hp : 0 ≤ p ∧ p < 80) : bsd p 1 0 = -1 ∨ (bsd p 1 0 = p + 8 ∧ p + 8 < 80) := by unfold bsd; split <;> omega
theorem bsd_W (p : Int) (hp : 0 ≤ p ∧ p < 80) : bsd p (-1) 0 = -1 ∨ (bsd p (-1) 0 = p - 8 ∧ 0 ≤ p - 8) := by unfold bsd; split <;> omega
theorem bsd_N (p : Int) (hp : 0 ≤ p ∧ p < 80) : bsd p 0 1 = -1 ∨ (bsd p 0 1 = p + 1 ∧ p + 1 < 80) := by unfold bsd; split <;> omega
theorem bsd_S (p : Int) (hp : 0 ≤ p ∧ p < 80) : bsd p 0 (-1) = -1 ∨ (bsd p 0 (-1) = p - 1 ∧ 0 ≤ p - 1) := by unfold bsd; split <;> omega
theorem gcl_0 (C : Cv) (c v : Int) : 0 ≤ gcl C c v := by
  unfold gcl
  split
  · split <;> omega
  · exact Int.le_refl _
theorem gcl_le {C : Cv} (hC : ∀ c, 0 ≤ C c) (c v : Int) : gcl C c v ≤ gcl (fun _ => 0) c v := by
  have := hC c
  unfold gcl
  dsimp only
  split
  · split <;> split <;> omega
  · exact Int.le_refl _
theorem gnD_0 (D : Int → Int) (C : Cv) (p : Int) : 0 ≤ gnD D C p := by
  have h1 := gcl_0 C p (D p)
  have h2 := gcl_0 C (bsd p 1 0) (hfD D (bsd p 1 0))
  have h3 := gcl_0 C (bsd p 0 1) (hfD D (bsd p 0 1))
  have h4 := gcl_0 C (bsd p (-1) 0) (hfD D (bsd p (-1) 0))
  have h5 := gcl_0 C (bsd p 0 (-1)) (hfD D (bsd p 0 (-1)))
  unfold gnD; omega
theorem gnD_le (D : Int → Int) (C : Cv) (hC : ∀ c, 0 ≤ C c) (p : Int) : gnD D C p ≤ gnD D (fun _ => 0) p := by
  have h1 := gcl_le hC p (D p)
  have h2 := gcl_le hC (bsd p 1 0) (hfD D (bsd p 1 0))
  have h3 := gcl_le hC (bsd p 0 1) (hfD D (bsd p 0 1))
  have h4 := gcl_le hC (bsd p (-1) 0) (hfD D (bsd p (-1) 0))
  have h5 := gcl_le hC (bsd p 0 (-1)) (hfD D (bsd p 0 (-1)))
  unfold gnD; omega
theorem covD_0 (D : Int → Int) (C : Cv) (hC : ∀ c, 0 ≤ C c) (p c : Int) : 0 ≤ covD D C p c := by
  have := hC c
  unfold covD mxZ
  split
  · split <;> omega
  · split
    · split <;> omega
    · exact this
/-- bounds: what is covered, what is gained -/
def Cok (C : Cv) : Prop := ∀ c, 0 ≤ C c ∧ C c ≤ 99
theorem gcl_b {C : Cv} (hC : Cok C) {c v : Int} (hv : v ≤ 99) : gcl C c v ≤ 99 := by
  have := hC c
  unfold gcl
  split
  · split <;> omega
  · decide
section GAIN
variable {E : Em} {x w m a : Nat} {J Jr : Jm} {S : Int → Int} {c e n d l g p s v q f : Int} {C : Cv}
theorem dS_b (hi : Inv S) (hq : q = -1 ∨ 0 ≤ q ∧ q < 80) : 0 ≤ q → (0 ≤ dS S q ∧ dS S q ≤ 99) ∧ (0 ≤ hfD (dS S) q ∧ hfD (dS S) q ≤ 50) := by
  intro h
  have := i_dou hi (z := q) h (by omega)
  have e : dS S q = S (170 + q) := rfl
  unfold hfD
  rw [e]
  omega
theorem covD_b (hi : Inv S) (hC : Cok C) (hp : 0 ≤ p ∧ p < 80) : Cok (covD (dS S) C p) := by
  intro c
  have h1 := hC c
  have b1 := bsd_r (c := p) (e := 1) (n := 0)
  have b2 := bsd_r (c := p) (e := 0) (n := 1)
  have b3 := bsd_r (c := p) (e := -1) (n := 0)
  have b4 := bsd_r (c := p) (e := 0) (n := -1)
  unfold covD
  by_cases k1 : c = p
  · have := (dS_b hi (q := c) (by omega) (by omega)).1
    rw [if_pos k1]; unfold mxZ; split <;> omega
  · rw [if_neg k1]
    by_cases k2 : 0 ≤ c ∧ (c = bsd p 1 0 ∨ c = bsd p 0 1 ∨ c = bsd p (-1) 0 ∨ c = bsd p 0 (-1))
    · rw [if_pos k2]
      have := (dS_b hi (q := c) (by omega) k2.1).2
      unfold mxZ; split <;> omega
    · rw [if_neg k2]; exact h1
/-- a row of 80 numbers holds C -/
def Cm (J : Jm) (a : Nat) (C : Cv) : Prop := ∀ z : Int, 0 ≤ z → z < 80 → J a z.toNat = C z
theorem Cm.ww {a : Nat} (h : Cm J a C) (h0 : 0 ≤ q) : Cm (jW J a q.toNat v) a (zU C q v) := by
  intro y y0 y1
  by_cases e : y = q
  · subst e; rw [jW_at, zU_at]
  · rw [jW_of (by omega), zU_ne e]; exact h y y0 y1
theorem Cm.ee {a : Nat} {C2 : Cv} (h : Cm J a C) (e : ∀ c, 0 ≤ c → c < 80 → C2 c = C c) : Cm J a C2 := fun y y0 y1 => by rw [e y y0 y1]; exact h y y0 y1
theorem Cm.o {a : Nat} {J2 : Jm} (h : Cm J a C) (e : J2 a = J a) : Cm J2 a C := fun y y0 y1 => by rw [e]; exact h y y0 y1
def rsC (C : Cv) (q v : Int) : Cv := if 0 ≤ q then zU C q (mxZ (C q) v) else C
theorem rsC_at {i : Int} : rsC C q v i = if i = q ∧ 0 ≤ q then mxZ (C i) v else C i := by
  unfold rsC
  by_cases h : 0 ≤ q
  · rw [if_pos h]
    by_cases e : i = q
    · rw [if_pos ⟨e, h⟩, zU_eq e, e]
    · rw [if_neg (fun z => e z.1), zU_ne e]
  · rw [if_neg h, if_neg (fun z => h z.2)]
theorem rsC_ne {i : Int} (h : i ≠ q ∨ q < 0) : rsC C q v i = C i := by rw [rsC_at, if_neg (by omega)]
theorem gcl_rs {u : Int} (h : c ≠ q ∨ q < 0 ∨ c < 0) : gcl (rsC C q v) c u = gcl C c u := by
  unfold gcl
  by_cases h0 : 0 ≤ c
  · rw [if_pos h0, if_pos h0, rsC_ne (by omega)]
  · rw [if_neg h0, if_neg h0]
theorem ne_of {i q1 q2 : Int} (h : q1 < 0 ∨ q1 ≠ q2) (e : i = q2) : i ≠ q1 ∨ q1 < 0 := h.elim Or.inr (fun z => Or.inl (fun k => z (k.symm.trans e)))
/-- covering cell by cell, in any order of the sides -/
theorem cov_rs (D : Int → Int) (hp : 0 ≤ p) {q1 q2 q3 q4 : Int} (h : ∀ c : Int, (c = q1 ∨ c = q2 ∨ c = q3 ∨ c = q4) ↔ (c = bsd p 1 0 ∨ c = bsd p 0 1 ∨ c = bsd p (-1) 0 ∨ c = bsd p 0 (-1))) (h1 : q1 < 0 ∨ q1 ≠ p) (h2 : q2 < 0 ∨ q2 ≠ p) (h3 : q3 < 0 ∨ q3 ≠ p) (h4 : q4 < 0 ∨ q4 ≠ p) (h12 : q1 < 0 ∨ q1 ≠ q2) (h13 : q1 < 0 ∨ q1 ≠ q3) (h14 : q1 < 0 ∨ q1 ≠ q4) (h23 : q2 < 0 ∨ q2 ≠ q3) (h24 : q2 < 0 ∨ q2 ≠ q4) (h34 : q3 < 0 ∨ q3 ≠ q4) : ∀ c, covD D C p c = rsC (rsC (rsC (rsC (rsC C p (D p)) q1 (hfD D q1)) q2 (hfD D q2)) q3 (hfD D q3)) q4 (hfD D q4) c := by
  intro c
  unfold covD
  have hc := h c
  by_cases k1 : c = p
  · rw [if_pos k1, rsC_ne (ne_of h4 k1), rsC_ne (ne_of h3 k1), rsC_ne (ne_of h2 k1), rsC_ne (ne_of h1 k1), rsC_at, if_pos ⟨k1, hp⟩, k1]
  · rw [if_neg k1]
    by_cases k2 : 0 ≤ c ∧ (c = bsd p 1 0 ∨ c = bsd p 0 1 ∨ c = bsd p (-1) 0 ∨ c = bsd p 0 (-1))
    · rw [if_pos k2]
      have k3 := hc.mpr k2.2
      by_cases e4 : c = q4
      · rw [rsC_at, if_pos ⟨e4, e4 ▸ k2.1⟩, rsC_ne (ne_of h34 e4), rsC_ne (ne_of h24 e4), rsC_ne (ne_of h14 e4), rsC_ne (Or.inl k1), ← e4]
      · by_cases e3 : c = q3
        · rw [rsC_ne (Or.inl e4), rsC_at, if_pos ⟨e3, e3 ▸ k2.1⟩, rsC_ne (ne_of h23 e3), rsC_ne (ne_of h13 e3), rsC_ne (Or.inl k1), ← e3]
        · by_cases e2 : c = q2
          · rw [rsC_ne (Or.inl e4), rsC_ne (Or.inl e3), rsC_at, if_pos ⟨e2, e2 ▸ k2.1⟩, rsC_ne (ne_of h12 e2), rsC_ne (Or.inl k1), ← e2]
          · have e1 : c = q1 := by
              rcases k3 with k3 | k3 | k3 | k3
              · exact k3
              · exact absurd k3 e2
              · exact absurd k3 e3
              · exact absurd k3 e4
            rw [rsC_ne (Or.inl e4), rsC_ne (Or.inl e3), rsC_ne (Or.inl e2), rsC_at, if_pos ⟨e1, e1 ▸ k2.1⟩, rsC_ne (Or.inl k1), ← e1]
    · have nq : ∀ q' : Int, (c = q' → (c = q1 ∨ c = q2 ∨ c = q3 ∨ c = q4)) → (c ≠ q' ∨ q' < 0) := by
        intro q' hq
        by_cases z : q' < 0
        · exact Or.inr z
        · exact Or.inl (fun e => k2 ⟨by omega, hc.mp (hq e)⟩)
      rw [if_neg k2, rsC_ne (nq q4 (fun e => Or.inr (Or.inr (Or.inr e)))), rsC_ne (nq q3 (fun e => Or.inr (Or.inr (Or.inl e)))), rsC_ne (nq q2 (fun e => Or.inr (Or.inl e))), rsC_ne (nq q1 Or.inl), rsC_ne (Or.inl k1)]
/-! the reference -/
theorem r_raise (hC : Cm J (m + 8) C) (hc : Cok C) (hq : 0 ≤ q ∧ q < 80) (hv : 0 ≤ v ∧ v ≤ 99) : ∃ J2, H_X12_raise m q v J = some (gcl C q v, J2) ∧ Cm J2 (m + 8) (rsC C q v) ∧ ∀ b, b ≠ m + 8 → J2 b = J b := by
  have := hc q
  unfold H_X12_raise gcl rsC
  rw [zL (by omega) (by omega), Option.bind_some, hC q hq.1 hq.2, if_pos hq.1, if_pos hq.1]
  by_cases h : C q < v
  · rw [if_pos h, if_pos h, Option.bind_some, zS (by omega) (by omega), Option.bind_some, wr_id (by omega)]
    have e : mxZ (C q) v = v := by unfold mxZ; rw [if_pos h]
    rw [e]
    exact ⟨_, rfl, hC.ww hq.1, fun b hb => jW_ne hb⟩
  · rw [if_neg h, if_neg h]
    have e : mxZ (C q) v = C q := by unfold mxZ; rw [if_neg h]
    rw [e, zU_i]
    exact ⟨J, rfl, hC, fun _ _ => rfl⟩
theorem r_gain1 (hi : Inv S) (hR : Rf m J S) (hC : Cm J (m + 8) C) (hc : Cok C) (hp : 0 ≤ p ∧ p < 80) {way : Int} (hw : 0 ≤ way ∧ way ≤ 3) (hb : H_X12_besideOf m p way = some q) (hq : q = -1 ∨ 0 ≤ q ∧ q < 80) (hs : 0 ≤ s ∧ s ≤ 10000) (fu : Nat) : ∃ J2, H_X12_gainAt_L18 m p (fu + 1) s way J = H_X12_gainAt_L18 m p fu (s + gcl C q (hfD (dS S) q)) (way + 1) J2 ∧ Cm J2 (m + 8) (rsC C q (hfD (dS S) q)) ∧ ∀ b, b ≠ m + 8 → J2 b = J b := by
  rw [H_X12_gainAt_L18, if_neg (by omega), hb, Option.bind_some, wr_id (z := way + 1) (by omega)]
  by_cases h : q < 0
  · rw [if_pos h]
    refine ⟨J, ?_, ?_, fun _ _ => rfl⟩
    · unfold gcl; rw [if_neg (by omega), Int.add_zero]
    · unfold rsC; rw [if_neg (by omega)]; exact hC
  · have hd := (dS_b hi hq (by omega)).2
    have hdd := i_dou hi (z := q) (by omega) (by omega)
    obtain ⟨J2, f1, f2, f3⟩ := r_raise hC hc (q := q) (v := hfD (dS S) q) (by omega) (by omega)
    have g0 := gcl_0 C q (hfD (dS S) q)
    have g1 := gcl_b hc (c := q) (v := hfD (dS S) q) (by omega)
    have e : jD (wr (S (170 + q) + 1)) 2 = some (hfD (dS S) q) := by rw [wr_id (by omega), zD (by omega) (by omega) (by decide)]; rfl
    rw [if_neg h, Option.bind_some, Option.bind_some, wr_id (z := 170 + q) (by omega), rL hR (by omega) (by omega), Option.bind_some, e, Option.bind_some, f1, Option.bind_some]
    dsimp only
    rw [wr_id (by omega)]
    exact ⟨J2, rfl, f2, f3⟩
theorem r_gainAt (hi : Inv S) (hR : Rf m J S) (hC : Cm J (m + 8) C) (hc : Cok C) (hp : 0 ≤ p ∧ p < 80) : ∃ J2, H_X12_gainAt m p J = some (gnD (dS S) C p, J2) ∧ Cm J2 (m + 8) (covD (dS S) C p) ∧ ∀ b, b ≠ m + 8 → J2 b = J b := by
  have hdp := (dS_b hi (q := p) (by omega) hp.1).1
  have bE := bsd_E p hp
  have bN := bsd_N p hp
  have bW := bsd_W p hp
  have bS := bsd_S p hp
  have rE0 := bsd_r (c := p) (e := 1) (n := 0)
  have rN0 := bsd_r (c := p) (e := 0) (n := 1)
  have rW0 := bsd_r (c := p) (e := -1) (n := 0)
  have rS0 := bsd_r (c := p) (e := 0) (n := -1)
  have ck : ∀ (C : Cv) (q v : Int), Cok C → v ≤ 99 → Cok (rsC C q v) := by
    intro C q v hC hv c
    have := hC c
    rw [rsC_at]
    split
    · unfold mxZ; split <;> omega
    · exact this
  have hfb : ∀ q : Int, (q = -1 ∨ 0 ≤ q ∧ q < 80) → 0 ≤ q → hfD (dS S) q ≤ 99 := fun q hq h => by have := (dS_b hi hq h).2; omega
  have ck2 : ∀ (C : Cv) (q : Int), (q = -1 ∨ 0 ≤ q ∧ q < 80) → Cok C → Cok (rsC C q (hfD (dS S) q)) := by
    intro C q hq hC
    by_cases h : 0 ≤ q
    · exact ck C q _ hC (hfb q hq h)
    · unfold rsC; rw [if_neg h]; exact hC
  unfold H_X12_gainAt
  obtain ⟨J1, a1, a2, a3⟩ := r_raise hC hc hp (v := dS S p) hdp
  have e0 : S (170 + p) = dS S p := rfl
  rw [wr_id (by omega), rL hR (by omega) (by omega), Option.bind_some, e0, a1, Option.bind_some]
  dsimp only
  have c1 := ck C p (dS S p) hc hdp.2
  have g0 := gcl_0 C p (dS S p)
  have g0' := gcl_b hc (c := p) hdp.2
  obtain ⟨J2, b1, b2, b3⟩ := r_gain1 hi (rE hR (a3 _ (by omega))) a2 c1 hp (by omega) (rb0 hp) rE0 (s := gcl C p (dS S p)) (by omega) 999999
  have c2 := ck2 _ _ rE0 c1
  have u1 := gcl_0 (rsC C p (dS S p)) (bsd p 1 0) (hfD (dS S) (bsd p 1 0))
  have gb : ∀ (C : Cv) (q : Int), Cok C → (q = -1 ∨ 0 ≤ q ∧ q < 80) → gcl C q (hfD (dS S) q) ≤ 99 := by
    intro C q hC hq
    by_cases h : 0 ≤ q
    · exact gcl_b hC (hfb q hq h)
    · unfold gcl; rw [if_neg h]; decide
  have u1' := gb _ _ c1 rE0
  obtain ⟨J3, d1, d2, d3⟩ := r_gain1 hi (rE (rE hR (a3 _ (by omega))) (b3 _ (by omega))) b2 c2 hp (by omega) (rb1 hp) rN0 (s := gcl C p (dS S p) + gcl (rsC C p (dS S p)) (bsd p 1 0) (hfD (dS S) (bsd p 1 0))) (by omega) 999998
  have c3 := ck2 _ _ rN0 c2
  have u2 := gcl_0 (rsC (rsC C p (dS S p)) (bsd p 1 0) (hfD (dS S) (bsd p 1 0))) (bsd p 0 1) (hfD (dS S) (bsd p 0 1))
  have u2' := gb _ _ c2 rN0
  obtain ⟨J4, k1, k2, k3⟩ := r_gain1 hi (rE (rE (rE hR (a3 _ (by omega))) (b3 _ (by omega))) (d3 _ (by omega))) d2 c3 hp (by omega) (rb2 hp) rW0 (s := gcl C p (dS S p) + gcl (rsC C p (dS S p)) (bsd p 1 0) (hfD (dS S) (bsd p 1 0)) + gcl (rsC (rsC C p (dS S p)) (bsd p 1 0) (hfD (dS S) (bsd p 1 0))) (bsd p 0 1) (hfD (dS S) (bsd p 0 1))) (by omega) 999997
  have c4 := ck2 _ _ rW0 c3
  have u3 := gcl_0 (rsC (rsC (rsC C p (dS S p)) (bsd p 1 0) (hfD (dS S) (bsd p 1 0))) (bsd p 0 1) (hfD (dS S) (bsd p 0 1))) (bsd p (-1) 0) (hfD (dS S) (bsd p (-1) 0))
  have u3' := gb _ _ c3 rW0
  obtain ⟨J5, l1, l2, l3⟩ := r_gain1 hi (rE (rE (rE (rE hR (a3 _ (by omega))) (b3 _ (by omega))) (d3 _ (by omega))) (k3 _ (by omega))) k2 c4 hp (by omega) (rb3 hp) rS0 (s := gcl C p (dS S p) + gcl (rsC C p (dS S p)) (bsd p 1 0) (hfD (dS S) (bsd p 1 0)) + gcl (rsC (rsC C p (dS S p)) (bsd p 1 0) (hfD (dS S) (bsd p 1 0))) (bsd p 0 1) (hfD (dS S) (bsd p 0 1)) + gcl (rsC (rsC (rsC C p (dS S p)) (bsd p 1 0) (hfD (dS S) (bsd p 1 0))) (bsd p 0 1) (hfD (dS S) (bsd p 0 1))) (bsd p (-1) 0) (hfD (dS S) (bsd p (-1) 0))) (by omega) 999996
  refine ⟨J5, ?_, ?_, fun b hb => by rw [l3 b hb, k3 b hb, d3 b hb, b3 b hb, a3 b hb]⟩
  · rw [show (1000000 : Nat) = 999999 + 1 from rfl, b1, show (999999 : Nat) = 999998 + 1 from rfl, show (0 : Int) + 1 = 1 from rfl, d1, show (999998 : Nat) = 999997 + 1 from rfl, show (1 : Int) + 1 = 2 from rfl, k1, show (999997 : Nat) = 999996 + 1 from rfl, show (2 : Int) + 1 = 3 from rfl, l1, show (999996 : Nat) = 999995 + 1 from rfl, show (3 : Int) + 1 = 4 from rfl, H_X12_gainAt_L18, if_pos (by decide)]
    unfold gnD
    rw [gcl_rs (by omega), gcl_rs (by omega), gcl_rs (by omega), gcl_rs (by omega), gcl_rs (by omega), gcl_rs (by omega), gcl_rs (by omega), gcl_rs (by omega), gcl_rs (by omega), gcl_rs (by omega)]
  · refine l2.ee (fun c h0 h1 => ?_)
    exact cov_rs (dS S) hp.1 (fun c => Iff.rfl) (by omega) (by omega) (by omega) (by omega) (by omega) (by omega) (by omega) (by omega) (by omega) (by omega) c
end GAIN
