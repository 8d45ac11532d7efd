/-! LEARNING -/
def ndg (v o : Int) : Int := if 0 < o then (if v < 2 then v + 1 else v) else if o < 0 then (if -2 < v then v - 1 else v) else v
theorem ndg_r {v o : Int} (h : -2 ≤ v ∧ v ≤ 2) : -2 ≤ ndg v o ∧ ndg v o ≤ 2 := by
  unfold ndg
  split
  · split <;> omega
  · split
    · split <;> omega
    · exact h
def smL (S : Int → Int) (b : Int) : Nat → Int → Int
  | 0, _ => 0
  | k + 1, z => S (b + z) + smL S b k (z + 1)
def lrn (oE oN : Int) : Nat → Int → (Int → Int) → Int → Int
  | 0, _, S => S
  | k + 1, z, S => lrn oE oN k (z + 1) (zU (zU S (890 + z) (ndg (S (890 + z)) oE)) (1210 + z) (ndg (S (1210 + z)) oN))
section LRN
variable {E : Em} {x w m a : Nat} {J Jr : Jm} {S : Int → Int} {c e n d l g p s v q f : Int}
theorem smL_r (b : Int) (hb : ∀ z : Int, 0 ≤ z → z < 320 → -2 ≤ S (b + z) ∧ S (b + z) ≤ 2) : ∀ (k : Nat) (z : Int), 0 ≤ z → z + k ≤ 320 → -(2 * (k : Int)) ≤ smL S b k z ∧ smL S b k z ≤ 2 * (k : Int)
  | 0, z, h0, h1 => by unfold smL; omega
  | k + 1, z, h0, h1 => by
    unfold smL
    have h2 := hb z h0 (by omega)
    have h3 := smL_r b hb k (z + 1) (by omega) (by omega)
    omega
theorem c_ndg (h : -2 ≤ v ∧ v ≤ 2) (ho : -100 ≤ q ∧ q ≤ 100) : H_X7_nudged v q = some (ndg v q) := by
  unfold H_X7_nudged ndg mxZ mnZ
  rw [wr_id (z := v - 1) (by omega), wr_id (z := v + 1) (by omega)]
  by_cases h1 : q ≤ 0
  · rw [if_pos h1, if_neg (show ¬ 0 < q by omega)]
    by_cases h2 : 0 ≤ q
    · rw [if_pos h2, if_neg (show ¬ q < 0 by omega)]
    · rw [if_neg h2, if_pos (show q < 0 by omega)]
      congr 1
      split <;> split <;> omega
  · rw [if_neg h1, if_pos (show 0 < q by omega)]
    congr 1
    split <;> split <;> omega
theorem r_ndg {t : Int} (h : -2 ≤ v ∧ v ≤ 2) (ho : -100 ≤ q ∧ q ≤ 100) (ht : -100 ≤ t ∧ t ≤ 100) : H_X12_nearer m v q t = some (ndg v (q - t)) := by
  unfold H_X12_nearer ndg
  rw [wr_id (z := v - 1) (by omega), wr_id (z := v + 1) (by omega)]
  by_cases h1 : q ≤ t
  · rw [if_pos h1, if_neg (show ¬ 0 < q - t by omega)]
    by_cases h2 : t ≤ q
    · rw [if_pos h2, if_neg (show ¬ q - t < 0 by omega)]
    · rw [if_neg h2, if_pos (show q - t < 0 by omega)]
      by_cases h3 : v ≤ -2
      · rw [if_pos h3, if_neg (show ¬ -2 < v by omega)]
      · rw [if_neg h3, if_pos (show -2 < v by omega)]
  · rw [if_neg h1, if_pos (show 0 < q - t by omega)]
    by_cases h3 : 2 ≤ v
    · rw [if_pos h3, if_pos (show t ≤ q by omega), if_neg (show ¬ v < 2 by omega)]
    · rw [if_neg h3, if_pos (show v < 2 by omega)]
theorem c_l24 (k : Int → Int → Jm → Option Jm) (hs : Vs w J S) (hr : IvR S) (hf : 0 ≤ f ∧ f < 80) : ∀ (t fu : Nat) (oE oN l : Int), 0 ≤ l → l + t ≤ 4 → (-(20 + 2 * l) ≤ oE ∧ oE ≤ 20 + 2 * l) → (-(20 + 2 * l) ≤ oN ∧ oN ≤ 20 + 2 * l) → t < fu → H_X7_learn_L24 k (w + 1) f (l + t) fu oE oN l J = k (oE - smL S 890 t (4 * f + l)) (oN - smL S 1210 t (4 * f + l)) J := by
  intro t
  induction t with
  | zero =>
    intro fu oE oN l h1 h2 h3 h4 h5
    obtain ⟨fu, rfl⟩ := nx h5
    rw [H_X7_learn_L24, if_pos (by omega)]
    unfold smL
    rw [Int.sub_zero, Int.sub_zero]
  | succ t ih =>
    intro fu oE oN l h1 h2 h3 h4 h5
    obtain ⟨fu, rfl⟩ := nx h5
    have bE := j_mea hr (z := 4 * f + l) (by omega) (by omega)
    have bN := j_mno hr (z := 4 * f + l) (by omega) (by omega)
    rw [H_X7_learn_L24, if_neg (by omega), z_placeOf (by omega), Option.bind_some, vL_mea hs (by omega) (by omega), Option.bind_some, Option.bind_some, vL_mno hs (by omega) (by omega), Option.bind_some, wr_id (z := oE - _) (by omega), wr_id (z := oN - _) (by omega), wr_id (z := l + 1) (by omega), show l + ((t + 1 : Nat) : Int) = (l + 1) + (t : Int) by omega, ih fu _ _ (l + 1) (by omega) (by omega) (by omega) (by omega) (by omega)]
    have e1 : smL S 890 (t + 1) (4 * f + l) = S (890 + (4 * f + l)) + smL S 890 t (4 * f + l + 1) := rfl
    have e2 : smL S 1210 (t + 1) (4 * f + l) = S (1210 + (4 * f + l)) + smL S 1210 t (4 * f + l + 1) := rfl
    rw [e1, e2, show 4 * f + (l + 1) = 4 * f + l + 1 by omega]
    congr 1 <;> omega
theorem c_l78 (sp : Sp E w) (hf : 0 ≤ f ∧ f < 80) {oE oN : Int} (hE : -100 ≤ oE ∧ oE ≤ 100) (hN : -100 ≤ oN ∧ oN ≤ 100) : ∀ (t fu : Nat) (l : Int) (J : Jm) (S : Int → Int), Vw E w J S → Inv S → 0 ≤ l → l + t ≤ 4 → t < fu → ∃ J2, H_X7_learn_L78 (w + 1) f (l + t) oE oN fu l J = some J2 ∧ Vw E w J2 (lrn oE oN t (4 * f + l) S) ∧ Inv (lrn oE oN t (4 * f + l) S) ∧ ∀ b, b ≠ w + 1 + 9 + 1 → b ≠ w + 1 + 9 + 2 → J2 b = J b := by
  intro t
  induction t with
  | zero =>
    intro fu l J S hV hi h1 h2 h5
    obtain ⟨fu, rfl⟩ := nx h5
    rw [H_X7_learn_L78, if_pos (by omega)]
    exact ⟨J, rfl, hV, hi, fun _ _ _ => rfl⟩
  | succ t ih =>
    intro fu l J S hV hi h1 h2 h5
    obtain ⟨fu, rfl⟩ := nx h5
    have bE := i_mea hi (z := 4 * f + l) (by omega) (by omega)
    have bN := i_mno hi (z := 4 * f + l) (by omega) (by omega)
    have v1 := vwS hV sp hi.1 (by omega) (by omega) (vW_mea (v := ndg (S (890 + (4 * f + l))) oE) hV.1 (z := 4 * f + l) (by omega) (by omega))
    have i1 : Inv (zU S (890 + (4 * f + l)) (ndg (S (890 + (4 * f + l))) oE)) := inv_free hi (by unfold zFree; omega) (ir_at hi.1 (r := (890, 320, -2, 2)) (by decide) (by omega) (by dsimp only; omega) (ndg_r bE))
    have v2 := vwS v1 sp i1.1 (by omega) (by omega) (vW_mno (v := ndg (S (1210 + (4 * f + l))) oN) v1.1 (z := 4 * f + l) (by omega) (by omega))
    have i2 : Inv (zU (zU S (890 + (4 * f + l)) (ndg (S (890 + (4 * f + l))) oE)) (1210 + (4 * f + l)) (ndg (S (1210 + (4 * f + l))) oN)) := inv_free i1 (by unfold zFree; omega) (ir_at i1.1 (r := (1210, 320, -2, 2)) (by decide) (by omega) (by dsimp only; omega) (ndg_r bN))
    have eN : jL (jW J (w + 1 + 9 + 1) (4 * f + l).toNat (ndg (S (890 + (4 * f + l))) oE)) (w + 1 + 9 + 2) 320 (4 * f + l) = some (S (1210 + (4 * f + l))) := by
      rw [vL_mno v1.1 (by omega) (by omega), zU_ne (by omega)]
    rw [H_X7_learn_L78, if_neg (by omega), z_placeOf (by omega), Option.bind_some, vL_mea hV.1 (by omega) (by omega), Option.bind_some, c_ndg bE hE, Option.bind_some, zS (by omega) (by omega), Option.bind_some, eN, Option.bind_some, c_ndg bN hN, Option.bind_some, zS (by omega) (by omega), Option.bind_some, wr_id (z := l + 1) (by omega), show l + ((t + 1 : Nat) : Int) = (l + 1) + (t : Int) by omega]
    obtain ⟨J2, g1, g2, g3, g4⟩ := ih fu (l + 1) _ _ v2 i2 (by omega) (by omega) (by omega)
    rw [show 4 * f + (l + 1) = 4 * f + l + 1 by omega] at g2 g3
    exact ⟨J2, g1, g2, g3, fun b h1 h2 => by rw [g4 b h1 h2, jW_ne h2, jW_ne h1]⟩
/-- how many LAYERS are learnt of -/
def lay (S : Int → Int) (f s : Int) : Int := if s + 1 ≤ S (10 + f) then s + 1 else S (10 + f)
theorem c_lrn (sp : Sp E w) (hV : Vw E w J S) (hi : Inv S) (hf : 0 ≤ f ∧ f < 80) (hs : 0 ≤ s ∧ s ≤ 3) {dE dN : Int} (hE : -20 ≤ dE ∧ dE ≤ 20) (hN : -20 ≤ dN ∧ dN ≤ 20) : ∃ J2, H_X7_learn (w + 1) f s dE dN J = some J2 ∧ Vw E w J2 (lrn (dE - smL S 890 (lay S f s).toNat (4 * f)) (dN - smL S 1210 (lay S f s).toNat (4 * f)) (lay S f s).toNat (4 * f) S) ∧ Inv (lrn (dE - smL S 890 (lay S f s).toNat (4 * f)) (dN - smL S 1210 (lay S f s).toNat (4 * f)) (lay S f s).toNat (4 * f) S) ∧ ∀ b, b ≠ w + 1 + 9 + 1 → b ≠ w + 1 + 9 + 2 → J2 b = J b := by
  have hd := i_dep hi (z := f) hf.1 hf.2
  have hl : 0 ≤ lay S f s ∧ lay S f s ≤ 4 := by unfold lay; split <;> omega
  have s1 := smL_r (S := S) 890 (fun z h0 h1 => i_mea hi h0 h1) (lay S f s).toNat (4 * f) (by omega) (by omega)
  have s2 := smL_r (S := S) 1210 (fun z h0 h1 => i_mno hi h0 h1) (lay S f s).toNat (4 * f) (by omega) (by omega)
  unfold H_X7_learn
  rw [vL_dep hV.1 hf.1 hf.2, Option.bind_some, wr_id (z := s + 1) (by omega)]
  have em : mnZ (s + 1) (S (10 + f)) = 0 + ((lay S f s).toNat : Int) := by unfold mnZ lay; split <;> split <;> omega
  rw [em, c_l24 _ hV.1 hi.1 hf _ _ dE dN 0 (by omega) (by omega) (by omega) (by omega) (by omega), Int.add_zero]
  obtain ⟨J2, g1, g2, g3, g4⟩ := c_l78 (oE := dE - smL S 890 (lay S f s).toNat (4 * f)) (oN := dN - smL S 1210 (lay S f s).toNat (4 * f)) sp hf (by omega) (by omega) (lay S f s).toNat 1000000 0 J S hV hi (by omega) (by omega) (by omega)
  rw [Int.add_zero] at g2 g3
  exact ⟨J2, g1, g2, g3, g4⟩
theorem r_l73 (k : Int → Int → Jm → Option Jm) (a7 a8 : Int) (hR : Rf m J S) (hr : IvR S) (hf : 0 ≤ f ∧ f < 80) (h6 : J m 6 = s) (hs : 0 ≤ s ∧ s ≤ 3) : ∀ (t fu : Nat) (oE oN l : Int), 0 ≤ l → l + t = lay S f s → (-(2 * l) ≤ oE ∧ oE ≤ 2 * l) → (-(2 * l) ≤ oN ∧ oN ≤ 2 * l) → t < fu → H_X12_learn_L73 k m f a7 a8 fu oE oN l J = k (oE + smL S 890 t (4 * f + l)) (oN + smL S 1210 t (4 * f + l)) J := by
  have hd := j_dep hr (z := f) hf.1 hf.2
  have hl : lay S f s ≤ 4 := by unfold lay; split <;> omega
  intro t
  induction t with
  | zero =>
    intro fu oE oN l h1 h2 h3 h4 h5
    obtain ⟨fu, rfl⟩ := nx h5
    have e0 : k (oE + smL S 890 0 (4 * f + l)) (oN + smL S 1210 0 (4 * f + l)) J = k oE oN J := by unfold smL; rw [Int.add_zero, Int.add_zero]
    rw [H_X12_learn_L73, h6, e0]
    by_cases q1 : s < l
    · rw [if_pos q1]
    · rw [if_neg q1, wr_id (by omega), rL hR (by omega) (by omega), Option.bind_some, if_pos]
      unfold lay at h2
      split at h2 <;> omega
  | succ t ih =>
    intro fu oE oN l h1 h2 h3 h4 h5
    obtain ⟨fu, rfl⟩ := nx h5
    have bE := j_mea hr (z := 4 * f + l) (by omega) (by omega)
    have bN := j_mno hr (z := 4 * f + l) (by omega) (by omega)
    have hlt : l ≤ s ∧ l < S (10 + f) := by unfold lay at h2; split at h2 <;> omega
    have x1 : wr (wr (890 + wr (4 * f)) + l) = 890 + (4 * f + l) := by rw [wr_id (z := 4 * f) (by omega), wr_id (z := 890 + 4 * f) (by omega), wr_id (by omega)]; omega
    have x2 : wr (wr (1210 + wr (4 * f)) + l) = 1210 + (4 * f + l) := by rw [wr_id (z := 4 * f) (by omega), wr_id (z := 1210 + 4 * f) (by omega), wr_id (by omega)]; omega
    rw [H_X12_learn_L73, h6, if_neg (show ¬ s < l by omega), wr_id (z := 10 + f) (by omega), rL hR (by omega) (by omega), Option.bind_some, if_neg (show ¬ S (10 + f) ≤ l by omega), x1, x2, rL hR (by omega) (by omega), Option.bind_some, rL hR (by omega) (by omega), Option.bind_some, wr_id (z := oE + _) (by omega), wr_id (z := oN + _) (by omega), wr_id (z := l + 1) (by omega), ih fu _ _ (l + 1) (by omega) (by omega) (by omega) (by omega) (by omega)]
    have e1 : smL S 890 (t + 1) (4 * f + l) = S (890 + (4 * f + l)) + smL S 890 t (4 * f + l + 1) := rfl
    have e2 : smL S 1210 (t + 1) (4 * f + l) = S (1210 + (4 * f + l)) + smL S 1210 t (4 * f + l + 1) := rfl
    rw [e1, e2, show 4 * f + (l + 1) = 4 * f + l + 1 by omega]
    congr 1 <;> omega
theorem r_l145 (hf : 0 ≤ f ∧ f < 80) (hs : 0 ≤ s ∧ s ≤ 3) {dE dN tE tN L : Int} (hE : -100 ≤ dE ∧ dE ≤ 100) (hN : -100 ≤ dN ∧ dN ≤ 100) (htE : -100 ≤ tE ∧ tE ≤ 100) (htN : -100 ≤ tN ∧ tN ≤ 100) : ∀ (t fu : Nat) (l : Int) (J : Jm) (S : Int → Int), Rf m J S → IvR S → J m 6 = s → 0 ≤ l → l + t = lay S f s → t < fu → ∃ J2, H_X12_learn_L145 m f dE dN tE tN fu l J = some J2 ∧ Rf m J2 (lrn (dE - tE) (dN - tN) t (4 * f + l) S) ∧ ∀ b, b ≠ m + 1 → J2 b = J b := by
  intro t
  induction t with
  | zero =>
    intro fu l J S hR hr h6 h1 h2 h5
    obtain ⟨fu, rfl⟩ := nx h5
    have hd := j_dep hr (z := f) hf.1 hf.2
    rw [H_X12_learn_L145, h6]
    by_cases q1 : s < l
    · rw [if_pos q1]
      exact ⟨J, rfl, hR, fun _ _ => rfl⟩
    · rw [if_neg q1, wr_id (by omega), rL hR (by omega) (by omega), Option.bind_some, if_pos]
      · exact ⟨J, rfl, hR, fun _ _ => rfl⟩
      · unfold lay at h2
        split at h2 <;> omega
  | succ t ih =>
    intro fu l J S hR hr h6 h1 h2 h5
    obtain ⟨fu, rfl⟩ := nx h5
    have hd := j_dep hr (z := f) hf.1 hf.2
    have hl : lay S f s ≤ 4 := by unfold lay; split <;> omega
    have bE := j_mea hr (z := 4 * f + l) (by omega) (by omega)
    have bN := j_mno hr (z := 4 * f + l) (by omega) (by omega)
    have hlt : l ≤ s ∧ l < S (10 + f) := by unfold lay at h2; split at h2 <;> omega
    have x1 : wr (wr (890 + wr (4 * f)) + l) = 890 + (4 * f + l) := by rw [wr_id (z := 4 * f) (by omega), wr_id (z := 890 + 4 * f) (by omega), wr_id (by omega)]; omega
    have x2 : wr (wr (1210 + wr (4 * f)) + l) = 1210 + (4 * f + l) := by rw [wr_id (z := 4 * f) (by omega), wr_id (z := 1210 + 4 * f) (by omega), wr_id (by omega)]; omega
    have a1 := rW (v := ndg (S (890 + (4 * f + l))) (dE - tE)) hR (z := 890 + (4 * f + l)) (by omega)
    have a2 := rW (v := ndg (S (1210 + (4 * f + l))) (dN - tN)) a1 (z := 1210 + (4 * f + l)) (by omega)
    have b1 := ir_at hr (v := ndg (S (890 + (4 * f + l))) (dE - tE)) (z := 4 * f + l) (r := (890, 320, -2, 2)) (by decide) (by omega) (by dsimp only; omega) (ndg_r bE)
    have b2 := ir_at b1 (v := ndg (S (1210 + (4 * f + l))) (dN - tN)) (z := 4 * f + l) (r := (1210, 320, -2, 2)) (by decide) (by omega) (by dsimp only; omega) (ndg_r bN)
    rw [H_X12_learn_L145, h6, if_neg (show ¬ s < l by omega), wr_id (z := 10 + f) (by omega), rL hR (by omega) (by omega), Option.bind_some, if_neg (show ¬ S (10 + f) ≤ l by omega), x1, x2, rL hR (by omega) (by omega), Option.bind_some, r_ndg bE hE htE, Option.bind_some, zS (by omega) (by omega), Option.bind_some, rL a1 (by omega) (by omega), Option.bind_some, zU_ne (by omega), r_ndg bN hN htN, Option.bind_some, zS (by omega) (by omega), Option.bind_some, wr_id (z := l + 1) (by omega)]
    obtain ⟨J2, g1, g2, g3⟩ := ih fu (l + 1) _ _ a2 b2 (by rw [jW_ne (by omega), jW_ne (by omega)]; exact h6) (by omega) (by unfold lay at h2 ⊢; rw [zU_ne (by omega), zU_ne (by omega)]; omega) (by omega)
    rw [show 4 * f + (l + 1) = 4 * f + l + 1 by omega] at g2
    exact ⟨J2, g1, g2, fun b h1 => by rw [g3 b h1, jW_ne h1, jW_ne h1]⟩
theorem r_lrn (hi : Inv S) (hR : Rf m J S) (hW : Wy m J c) (hc : 0 ≤ c ∧ c < 80) (hf : 0 ≤ f ∧ f < 80) (h6 : J m 6 = s) (hs : 0 ≤ s ∧ s ≤ 3) (he : -4 ≤ e ∧ e ≤ 4) (hn : -4 ≤ n ∧ n ≤ 4) : ∃ J2, H_X12_learn m f e n J = some J2 ∧ Rf m J2 (lrn (c / 8 - wlk S f e n / 8 - smL S 890 (lay S f s).toNat (4 * f)) (c % 8 - wlk S f e n % 8 - smL S 1210 (lay S f s).toNat (4 * f)) (lay S f s).toNat (4 * f) S) ∧ Wy m J2 c ∧ (∀ b, b ≠ m + 1 → b ≠ m → J2 b = J b) ∧ J2 m 3 = J m 3 := by
  have hd := i_dep hi (z := f) hf.1 hf.2
  have hl : 0 ≤ lay S f s ∧ lay S f s ≤ 4 := by unfold lay; split <;> omega
  have s1 := smL_r (S := S) 890 (fun z h0 h1 => i_mea hi h0 h1) (lay S f s).toNat (4 * f) (by omega) (by omega)
  have s2 := smL_r (S := S) 1210 (fun z h0 h1 => i_mno hi h0 h1) (lay S f s).toNat (4 * f) (by omega) (by omega)
  unfold H_X12_learn
  rw [zD hf.1 (by omega) (by omega), zM hf.1 (by omega)]
  simp only [Option.bind_some, nv]
  have hR1 : Rf m (jW (jW J m 4 (f / 8)) m 5 (f % 8)) S := rN (rN hR (by omega)) (by omega)
  obtain ⟨J1, f1, f2, f3⟩ := r_wlk hR1 (c := f) ⟨by rw [jW_of (by decide), jW_at], jW_at⟩ hf he hn
  have hw := wlk_r (S := S) (e := e) (n := n) hf
  rw [f1, Option.bind_some, f2.1, f2.2, hW.1, hW.2, wr_id (z := c / 8 - wlk S f e n / 8) (by omega), wr_id (z := c % 8 - wlk S f e n % 8) (by omega)]
  have f0 : Fw m 4 5 J (jW (jW J1 m 4 (c / 8)) m 5 (c % 8)) := Fw.ww (Fw.ww ((Fw.ww (Fw.ww Fw.r (by omega)) (by omega)).t f3) (by omega)) (by omega)
  have hR2 : Rf m (jW (jW J1 m 4 (c / 8)) m 5 (c % 8)) S := f0.R hR
  have h62 : jW (jW J1 m 4 (c / 8)) m 5 (c % 8) m 6 = s := (f0.2 6 (by omega)).trans h6
  rw [r_l73 _ _ _ hR2 hi.1 hf h62 hs (lay S f s).toNat 1000000 0 0 0 (by omega) (by omega) (by omega) (by omega) (by omega), Int.add_zero, Int.zero_add, Int.zero_add]
  obtain ⟨J2, g1, g2, g3⟩ := r_l145 (dE := c / 8 - wlk S f e n / 8) (dN := c % 8 - wlk S f e n % 8) (tE := smL S 890 (lay S f s).toNat (4 * f)) (tN := smL S 1210 (lay S f s).toNat (4 * f)) (L := 0) hf hs (by omega) (by omega) (by omega) (by omega) (lay S f s).toNat 1000000 0 _ S hR2 hi.1 h62 (by omega) (by omega) (by omega)
  rw [Int.add_zero] at g2
  refine ⟨J2, g1, g2, ⟨by rw [g3 m (by omega), jW_of (by decide), jW_at], by rw [g3 m (by omega), jW_at]⟩, fun b h1 h2 => (g3 b h1).trans (f0.1 b h2), ?_⟩
  rw [g3 m (by omega)]; exact f0.2 3 (by omega)
end LRN
