/-! ROOM FOR A GLIDER -/
section ROOM
variable {E E' : Em} {M : Mm} {J J' : Jm} {a b k t n c w x m o q0 i : Nat} {S : Int → Int}
def GRoom (E : Em) (J : Jm) (w i a : Nat) (E' : Em) (J' : Jm) : Prop := Xk E E' ∧ E'.2.1 (w + 13) = up1 (E.2.1 (w + 13)) i (some a) ∧ (∀ b, b < E.2.2.2 → b ≠ w + 13 → E'.2.1 b = E.2.1 b) ∧ (∀ b, b < E.2.2.2 → J' b = J b) ∧ W0 E' a ∧ (E.2.1 (w + 13) i = some a ∨ E.2.1 (w + 13) i = none ∧ E.2.2.2 ≤ a)
theorem o_roomFor (hM : Mre E M J) (k0 : K0 E) (hw : W10 E w) {p1 : Int32} (tp : p1.toInt = (i : Int)) (hi : i < 8) : Ok (F_X10_roomFor w p1 M) (fun q => ∃ a E' J', q.1 = some a ∧ Mre E' q.2 J' ∧ GRoom E J w i a E' J') := by
  have hN : mN M = E.2.2.2 := hM.2.2.2.1
  have ht : ((i : Nat) : Int).toNat = i := by omega
  have ej : jR E (w + 13) 8 (i : Int) = some (E.2.1 (w + 13) i) := by
    unfold jR
    rw [if_pos ⟨by omega, by omega⟩, ht]
  obtain ⟨l1, l2⟩ := o_ldR hM hw.2.2.1.2.1 (n := 8) rfl tp ej
  unfold F_X10_roomFor
  refine ok_b (o_rdS hM hw.1 hw.2.2.1.1) (ok_s (ok_b l1 ?_))
  cases hv : E.2.1 (w + 13) i with
  | some a =>
    simp only [oe]
    refine ok_b (o_rdS hM hw.1 hw.2.2.1.1) (ok_s (ok_b l1 ⟨_, rfl, a, E, J, hv, hM, ⟨k0, Nat.le_refl _, fun _ _ => rfl, fun _ _ _ _ _ _ => rfl⟩, ?_, fun _ _ _ => rfl, fun _ _ => rfl, hw.2.2.1.2.2 i a hv, Or.inl hv⟩))
    funext j
    unfold up1
    by_cases e : j = i
    · rw [if_pos e, e, hv]
    · rw [if_neg e]
  | none =>
    simp only [oe, nv]
    rw [hN]
    have hw13 : w + 13 < E.2.2.2 := k0 _ (by rw [hw.2.2.1.2.1]; decide)
    have hw0 : w < E.2.2.2 := k0 _ (by rw [hw.1]; decide)
    have hM7 := mre_nw (kd := (7, 0)) hM
    have hM8 := mre_nw (kd := (1, 400)) hM7
    have n7 : (eN E (7, 0)).2.2.2 = E.2.2.2 + 1 := rfl
    have a8 : (eN (eN E (7, 0)) (1, 400)).1 E.2.2.2 = (0 + 7, 0) := (eN_k (by rw [n7]; omega)).trans eN_k2
    obtain ⟨M9, e9, hM9⟩ := o_wrR (k := 11) (v := some (E.2.2.2 + 1)) hM8 a8
    have f0 : F_X0_init E.2.2.2 (nw M (0 + 7, 0)) = some M9 := by
      unfold F_X0_init
      simp only [nv]
      rw [hM7.2.2.2.1, n7, e9, Option.bind_some]
    refine ok_b (o_rdS hM hw.1 hw.2.2.1.1) (ok_b f0 (ok_s ?_))
    have old : ∀ b, b < E.2.2.2 → (eR (eN (eN E (7, 0)) (1, 400)) E.2.2.2 11 (some (E.2.2.2 + 1))).1 b = E.1 b := fun b hb => (eN_k (by rw [n7]; omega)).trans (eN_k hb)
    have oldr : ∀ b, b < E.2.2.2 → (eR (eN (eN E (7, 0)) (1, 400)) E.2.2.2 11 (some (E.2.2.2 + 1))).2.1 b = E.2.1 b := fun b hb => (eR_n (by omega)).trans ((eN_r (by rw [n7]; omega)).trans (eN_r hb))
    obtain ⟨M10, e10, hM10⟩ := o_stR (i := p1) (I := (i : Int)) (e := 0) (c := E.2.2.2) hM9 ((old _ hw13).trans hw.2.2.1.2.1) tp (by omega) a8
    rw [ht] at hM10
    refine ok_b e10 ?_
    have k10 : (eR (eR (eN (eN E (7, 0)) (1, 400)) E.2.2.2 11 (some (E.2.2.2 + 1))) (w + 13) i (some E.2.2.2)).1 w = (10 + 7, 0) := (old _ hw0).trans hw.1
    have r10 : (eR (eR (eN (eN E (7, 0)) (1, 400)) E.2.2.2 11 (some (E.2.2.2 + 1))) (w + 13) i (some E.2.2.2)).2.1 w 1 = some (w + 13) := by
      rw [eR_n (by omega), oldr _ hw0]; exact hw.2.2.1.1
    have k13 : (eR (eR (eN (eN E (7, 0)) (1, 400)) E.2.2.2 11 (some (E.2.2.2 + 1))) (w + 13) i (some E.2.2.2)).1 (w + 13) = (3, 8) := (old _ hw13).trans hw.2.2.1.2.1
    have ej2 : jR (eR (eR (eN (eN E (7, 0)) (1, 400)) E.2.2.2 11 (some (E.2.2.2 + 1))) (w + 13) i (some E.2.2.2)) (w + 13) 8 (i : Int) = some (some E.2.2.2) := by
      unfold jR
      rw [if_pos ⟨by omega, by omega⟩, ht, eR_s]
    obtain ⟨l3, l4⟩ := o_ldR hM10 k13 (n := 8) rfl tp ej2
    refine ok_b (o_rdS hM10 k10 r10) (ok_s (ok_b l3 ⟨_, rfl, E.2.2.2, _, _, rfl, hM10, ⟨k0_R (k0_R (k0_N (k0_N k0))), ?_, old, fun b hb _ h4 _ _ => ?_⟩, ?_, fun b hb h => ?_, fun b hb => ?_, ?_, Or.inr ⟨hv, Nat.le_refl _⟩⟩))
    · show E.2.2.2 ≤ E.2.2.2 + 1 + 1; omega
    · by_cases e : b = w + 13
      · subst e
        exfalso
        rename_i h3 _ _
        exact h3 (by rw [hw.2.2.1.2.1])
      · rw [eR_n e]; exact oldr b hb
    · show up1 _ (w + 13) (up1 _ i (some E.2.2.2)) (w + 13) = _
      rw [up1_s, oldr _ hw13]
    · rw [eR_n h]; exact oldr b hb
    · rw [jN_n (by rw [n7]; omega), jN_n hb]
    · refine ⟨a8, ?_, ?_⟩
      · rw [eR_n (by omega), eR_s]
      · show (eN (eN E (7, 0)) (1, 400)).1 (E.2.2.2 + 1) = (1, 400)
        exact eN_k2
end ROOM
