/-! WHO PLANS, AND THE ENDS -/
def plD (S : Int → Int) (d g : Int) : Int := mnZ d (zsk (S (2170 + g)))
def plC (S : Int → Int) (d g : Int) : Int := (snk S 1 (plD S d g) 5 0 (clS S g) 0).1
/-- the end by a heading, or -1 -/
def enS (S : Int → Int) (d g h : Int) : Int := if hdg (S (2170 + g)) (h / 9 - 4) (h % 9 - 4) then wlk S (plC S d g) (h / 9 - 4) (h % 9 - 4) else -1
def okP (S : Int → Int) (d g : Int) : Prop := S (2202 + g) = 0 ∧ zck (S (2170 + g)) (S (2210 + g)) (plD S d g) ≤ S (2194 + g)
def tmL (S : Int → Int) (d : Int) : Nat → Int → Nat → List Int
  | 0, _, _ => []
  | n + 1, i, k => if k = 0 then [] else if S (2202 + i) = 0 ∧ zck (S (2170 + i)) (S (2210 + i)) (plD S d i) ≤ S (2194 + i) then i :: tmL S d n (i + 1) (k - 1) else tmL S d n (i + 1) k

section PEND
variable {E : Em} {x w m pl : Nat} {J Jr : Jm} {S : Int → Int} {c e n d g p s v q f h : Int} {C : Cv}
theorem plD_r (hd : 0 ≤ d ∧ d ≤ 3) : 0 ≤ plD S d g ∧ plD S d g ≤ 3 := by
  have := zsk_r (S (2170 + g))
  unfold plD mnZ
  split <;> omega
theorem plC_r (hi : Inv S) (hg : 0 ≤ g ∧ g < 8) (hd : 0 ≤ d ∧ d ≤ 3) : 0 ≤ plC S d g ∧ plC S d g < 80 := by
  have := plD_r (S := S) (g := g) hd
  exact (snk_r (S := S) (mp := 1) (d := plD S d g) 5 (l := 0) (s := 0) (clS_r hi hg) (by omega)).1
theorem enS_r (hi : Inv S) (hg : 0 ≤ g ∧ g < 8) (hd : 0 ≤ d ∧ d ≤ 3) : enS S d g h = -1 ∨ (0 ≤ enS S d g h ∧ enS S d g h < 80) := by
  unfold enS
  split
  · exact Or.inr (wlk_r (plC_r hi hg hd))
  · exact Or.inl rfl
/-- the reference's planners and ends -/
def RefE (J : Jm) (m : Nat) (S : Int → Int) (d : Int) (l : List Int) : Prop := J m 26 = (l.length : Int) ∧ ∀ (k : Nat) (g : Int), l[k]? = some g → J (m + 4) k = g ∧ ∀ i : Nat, i < 81 → J (m + 5) (81 * k + i) = enS S d g (i : Int)
/-- what finding the ends may change -/
def Fe (m : Nat) (J J2 : Jm) : Prop := (∀ b, b ≠ m → b ≠ m + 4 → b ≠ m + 5 → J2 b = J b) ∧ ∀ k, (k < 4 ∨ 7 < k ∧ k ≠ 26) → J2 m k = J m k
theorem Fe.r : Fe m J J := ⟨fun _ _ _ _ => rfl, fun _ _ => rfl⟩
theorem Fe.tt {J1 J2 : Jm} (h1 : Fe m J J1) (h2 : Fe m J1 J2) : Fe m J J2 := ⟨fun b a1 a2 a3 => (h2.1 b a1 a2 a3).trans (h1.1 b a1 a2 a3), fun k hk => (h2.2 k hk).trans (h1.2 k hk)⟩
theorem r_fe72 (hi : Inv S) (hg : 0 ≤ g ∧ g < 8) (hd : 0 ≤ d ∧ d ≤ 3) {k : Nat} (hk : k < 3) (K : Jm → Option Jm) : ∀ (t fu j : Nat) (J : Jm), Rf m J S → J m 26 = (k : Int) → 81 = j + t → t < fu → (∀ i : Nat, i < j → J (m + 5) (81 * k + i) = enS S d g (i : Int)) → ∃ J2, H_X12_findEnds_L72 K m d g fu (j : Int) J = K J2 ∧ (∀ i : Nat, i < 81 → J2 (m + 5) (81 * k + i) = enS S d g (i : Int)) ∧ (∀ i : Nat, i < 81 * k → J2 (m + 5) i = J (m + 5) i) ∧ (∀ b, b ≠ m → b ≠ m + 5 → J2 b = J b) ∧ ∀ i, (i < 4 ∨ 7 < i) → J2 m i = J m i := by
  intro t
  induction t with
  | zero =>
    intro fu j J hR h26 h1 h2 hj
    obtain ⟨fu, rfl⟩ := nx h2
    rw [H_X12_findEnds_L72, if_pos (by omega)]
    exact ⟨J, rfl, fun i hi => hj i (by omega), fun _ _ => rfl, fun _ _ _ => rfl, fun _ _ => rfl⟩
  | succ t ih =>
    intro fu j J hR h26 h1 h2 hj
    obtain ⟨fu, rfl⟩ := nx h2
    have hjt : ((81 : Int) * (k : Int) + (j : Int)).toNat = 81 * k + j := by omega
    rw [H_X12_findEnds_L72, if_neg (by omega), h26, wr_id (z := 81 * (k : Int)) (by omega), wr_id (z := 81 * (k : Int) + (j : Int)) (by omega), zS (by omega) (by omega), Option.bind_some, zD (by omega) (by omega) (by decide), zM (by omega) (by decide), hjt]
    simp only [Option.bind_some]
    have hR1 : Rf m (jW J (m + 5) (81 * k + j) (-1)) S := rN hR (by omega)
    rw [wr_id (z := (j : Int) / 9 - 4) (by omega), wr_id (z := (j : Int) % 9 - 4) (by omega), r_isHeading hR1 hg, Option.bind_some, z01, wr_id (z := (j : Int) + 1) (by omega), show (j : Int) + 1 = ((j + 1 : Nat) : Int) by omega]
    have old : ∀ (J9 : Jm) (v : Int), (∀ b, b ≠ m → J9 b = J b) → ∀ i : Nat, i < j + 1 → (i = j → v = enS S d g (j : Int)) → jW J9 (m + 5) (81 * k + j) v (m + 5) (81 * k + i) = enS S d g (i : Int) := by
      intro J9 v e i hi hv
      by_cases q : i = j
      · subst q; rw [jW_at]; exact hv rfl
      · rw [jW_of (by omega), e (m + 5) (by omega)]; exact hj i (by omega)
    by_cases hh : hdg (S (2170 + g)) ((j : Int) / 9 - 4) ((j : Int) % 9 - 4)
    · have hb := hdg_r hh
      have hpl := plD_r (S := S) (g := g) hd
      rw [if_pos hh, r_layerFor hR1 hg, Option.bind_some]
      obtain ⟨J1, a1, a2, a3⟩ := r_endBy hi hR1 hg (d := plD S d g) (e := (j : Int) / 9 - 4) (n := (j : Int) % 9 - 4) hpl hb.1 hb.2
      have a1' : H_X12_endBy m g (mnZ d (zsk (S (2170 + g)))) ((j : Int) / 9 - 4) ((j : Int) % 9 - 4) (jW J (m + 5) (81 * k + j) (-1)) = some J1 := a1
      have hw := wlk_r (S := S) (e := (j : Int) / 9 - 4) (n := (j : Int) % 9 - 4) (plC_r hi hg hd)
      have een : enS S d g (j : Int) = wlk S (plC S d g) ((j : Int) / 9 - 4) ((j : Int) % 9 - 4) := by unfold enS; rw [if_pos hh]
      have h261 : J1 m 26 = (k : Int) := by rw [a3.2 26 (by omega), jW_ne (by omega)]; exact h26
      have a2' : Wy m J1 (wlk S (plC S d g) ((j : Int) / 9 - 4) ((j : Int) % 9 - 4)) := a2
      rw [a1', Option.bind_some, h261, wr_id (z := 81 * (k : Int)) (by omega), wr_id (z := 81 * (k : Int) + (j : Int)) (by omega), a2'.1, a2'.2, ← een]
      rw [← een] at hw
      rw [wr_id (z := 8 * (enS S d g (j : Int) / 8)) (by omega), wr_id (z := 8 * (enS S d g (j : Int) / 8) + _) (by omega), show 8 * (enS S d g (j : Int) / 8) + enS S d g (j : Int) % 8 = enS S d g (j : Int) by omega, zS (by omega) (by omega), Option.bind_some, hjt]
      have eJ1 : ∀ b, b ≠ m → b ≠ m + 5 → J1 b = J b := fun b hb hb5 => by rw [a3.1 b hb, jW_ne hb5]
      have e5 : ∀ i : Nat, i ≠ 81 * k + j → J1 (m + 5) i = J (m + 5) i := fun i hi => by rw [a3.1 (m + 5) (by omega), jW_of hi]
      obtain ⟨J2, f1, f2, f3, f4, f5⟩ := ih fu (j + 1) (jW J1 (m + 5) (81 * k + j) (enS S d g (j : Int))) (rN (a3.R hR1) (by omega)) (by rw [jW_ne (by omega)]; exact h261) (by omega) (by omega) (fun i hi => by
        by_cases q : i = j
        · subst q; rw [jW_at]
        · rw [jW_of (by omega), e5 _ (by omega)]; exact hj i (by omega))
      refine ⟨J2, f1, f2, fun i hi => by rw [f3 i hi, jW_of (by omega), e5 _ (by omega)], fun b hb hb5 => by rw [f4 b hb hb5, jW_ne hb5, eJ1 b hb hb5], fun i hi => by rw [f5 i hi, jW_ne (by omega), a3.2 i (by omega), jW_ne (by omega)]⟩
    · have een : enS S d g (j : Int) = -1 := by unfold enS; rw [if_neg hh]
      rw [if_neg hh]
      obtain ⟨J2, f1, f2, f3, f4, f5⟩ := ih fu (j + 1) (jW J (m + 5) (81 * k + j) (-1)) hR1 (by rw [jW_ne (by omega)]; exact h26) (by omega) (by omega) (fun i hi => old J (-1) (fun _ _ => rfl) i hi (fun _ => een.symm))
      refine ⟨J2, f1, f2, fun i hi => by rw [f3 i hi, jW_of (by omega)], fun b hb hb5 => by rw [f4 b hb hb5, jW_ne hb5], fun i hi => by rw [f5 i hi, jW_ne (by omega)]⟩
theorem r_fe7 (hi : Inv S) (hd : 0 ≤ d ∧ d ≤ 3) : ∀ (t fu : Nat) (i : Int) (l : List Int) (J : Jm), Rf m J S → RefE J m S d l → l.length ≤ 3 → S 0 = i + t → 0 ≤ i → t < fu → ∃ J2, H_X12_findEnds_L7 m d fu i J = some J2 ∧ RefE J2 m S d (l ++ tmL S d t i (3 - l.length)) ∧ Fe m J J2 := by
  have h8 := i_gli hi
  intro t
  induction t with
  | zero =>
    intro fu i l J hR hE hl h1 h2 h3
    obtain ⟨fu, rfl⟩ := nx h3
    rw [H_X12_findEnds_L7, rL hR (by omega) (by omega), Option.bind_some, if_pos (by omega)]
    refine ⟨J, rfl, ?_, Fe.r⟩
    have e : tmL S d 0 i (3 - l.length) = [] := rfl
    rw [e, List.append_nil]; exact hE
  | succ t ih =>
    intro fu i l J hR hE hl h1 h2 h3
    obtain ⟨fu, rfl⟩ := nx h3
    have hpl := plD_r (S := S) (g := i) hd
    rw [H_X12_findEnds_L7, rL hR (by omega) (by omega), Option.bind_some, if_neg (by omega), hE.1]
    unfold tmL
    by_cases k3 : l.length = 3
    · rw [if_pos (show 3 ≤ (l.length : Int) by omega), if_pos (by omega), List.append_nil]
      exact ⟨J, rfl, hE, Fe.r⟩
    · rw [if_neg (show ¬ 3 ≤ (l.length : Int) by omega), if_neg (show ¬ 3 - l.length = 0 by omega), r_isUp hR (by omega), Option.bind_some, z01, wr_id (z := i + 1) (by omega)]
      have no := ih fu (i + 1) l J hR hE hl (by omega) (by omega) (by omega)
      by_cases hu : S (2202 + i) = 0
      · rw [if_pos hu, wr_id (z := 2194 + i) (by omega), rL hR (by omega) (by omega), Option.bind_some, r_layerFor hR (by omega), Option.bind_some]
        have ec : H_X12_cost m i (mnZ d (zsk (S (2170 + i)))) J = some (zck (S (2170 + i)) (S (2210 + i)) (plD S d i)) := r_cost hR (by omega) hpl
        rw [ec, Option.bind_some]
        by_cases hp : zck (S (2170 + i)) (S (2210 + i)) (plD S d i) ≤ S (2194 + i)
        · rw [if_pos hp, if_pos ⟨hu, hp⟩, zS (by omega) (by omega), Option.bind_some]
          have elt : ((l.length : Nat) : Int).toNat = l.length := by omega
          rw [elt]
          obtain ⟨J2, f1, f2, f3, f4, f5⟩ := r_fe72 hi (g := i) (by omega) hd (k := l.length) (by omega) (fun (J52 : Jm) => nv (jW J52 m 26 (wr ((J52 m 26) + 1))) fun J54 => H_X12_findEnds_L7 m d fu (i + 1) J54) 81 1000000 0 (jW J (m + 4) l.length i) (rN hR (by omega)) (by rw [jW_ne (by omega)]; exact hE.1) (by omega) (by omega) (fun i hi => by omega)
          have f1' : H_X12_findEnds_L72 (fun (J52 : Jm) => nv (jW J52 m 26 (wr ((J52 m 26) + 1))) fun J54 => H_X12_findEnds_L7 m d fu (i + 1) J54) m d i 1000000 0 (jW J (m + 4) l.length i) = _ := f1
          have h26 : J2 m 26 = (l.length : Int) := by rw [f5 26 (by omega), jW_ne (by omega)]; exact hE.1
          rw [f1']
          simp only [nv]
          rw [h26, wr_id (by omega)]
          have hR2 : Rf m (jW J2 m 26 ((l.length : Int) + 1)) S := rN (rE hR (by rw [f4 (m + 1) (by omega) (by omega), jW_ne (by omega)])) (by omega)
          have hE2 : RefE (jW J2 m 26 ((l.length : Int) + 1)) m S d (l ++ [i]) := by
            refine ⟨by rw [jW_at, List.length_append, List.length_singleton]; omega, fun k g hk => ?_⟩
            by_cases hkl : k < l.length
            · rw [List.getElem?_append_left hkl] at hk
              obtain ⟨q1, q2⟩ := hE.2 k g hk
              refine ⟨?_, fun i' hi' => ?_⟩
              · rw [jW_ne (by omega), f4 (m + 4) (by omega) (by omega), jW_of (by omega)]; exact q1
              · rw [jW_ne (by omega), f3 _ (by omega), jW_ne (by omega)]; exact q2 i' hi'
            · have hkk : k = l.length := by
                have := (List.getElem?_eq_some_iff.mp hk).1
                rw [List.length_append, List.length_singleton] at this
                omega
              subst hkk
              rw [List.getElem?_append_right (Nat.le_refl _), Nat.sub_self] at hk
              cases hk
              refine ⟨?_, fun i' hi' => ?_⟩
              · rw [jW_ne (by omega), f4 (m + 4) (by omega) (by omega), jW_at]
              · rw [jW_ne (by omega)]; exact f2 i' hi'
          obtain ⟨J3, g1, g2, g3⟩ := ih fu (i + 1) (l ++ [i]) _ hR2 hE2 (by rw [List.length_append, List.length_singleton]; omega) (by omega) (by omega) (by omega)
          rw [List.length_append, List.length_singleton, List.append_assoc, show 3 - (l.length + 1) = 3 - l.length - 1 by omega] at g2
          refine ⟨J3, g1, g2, Fe.tt ⟨fun b b1 b2 b3 => by rw [jW_ne b1, f4 b b1 b3, jW_ne b2], fun k hk => by rw [jW_of (by omega), f5 k (by omega), jW_ne (by omega)]⟩ g3⟩
        · rw [if_neg hp, if_neg (fun q => hp q.2)]; exact no
      · rw [if_neg hu, if_neg (fun q => hu q.1)]; exact no
theorem r_findEnds (hi : Inv S) (hR : Rf m J S) (hd : 0 ≤ d ∧ d ≤ 3) : ∃ J2, H_X12_findEnds m d J = some J2 ∧ RefE J2 m S d (tmL S d (S 0).toNat 0 3) ∧ Fe m J J2 := by
  have h8 := i_gli hi
  unfold H_X12_findEnds
  simp only [nv]
  obtain ⟨J2, f1, f2, f3⟩ := r_fe7 hi hd (S 0).toNat 1000000 0 [] (jW J m 26 0) (rN hR (by omega)) ⟨jW_at, fun k g hk => by rw [List.getElem?_nil] at hk; cases hk⟩ (by decide) (by omega) (by omega) (by omega)
  exact ⟨J2, f1, f2, Fe.tt ⟨fun b b1 _ _ => jW_ne b1, fun k hk => jW_of (by omega)⟩ f3⟩
end PEND
