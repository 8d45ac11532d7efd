/-! BESIDE; DOUBT HALVED; MEASURING -/
def bsd (c e n : Int) : Int := if 0 ≤ c / 8 + e ∧ c / 8 + e < 10 ∧ 0 ≤ c % 8 + n ∧ c % 8 + n < 8 then 8 * (c / 8 + e) + (c % 8 + n) else -1
theorem bsd_r {c e n : Int} : bsd c e n = -1 ∨ (0 ≤ bsd c e n ∧ bsd c e n < 80) := by
  unfold bsd; split
  · right; omega
  · left; rfl
theorem jT2_0 : jT 2 0 = some 0 := by decide
theorem jT2_1 : jT 2 1 = some 1 := by decide
theorem jT2_2 : jT 2 2 = some (-1) := by decide
theorem jT2_3 : jT 2 3 = some 0 := by decide
theorem jT2_4 : jT 2 4 = some 0 := by decide
theorem jT3_0 : jT 3 0 = some 0 := by decide
theorem jT3_1 : jT 3 1 = some 0 := by decide
theorem jT3_2 : jT 3 2 = some 0 := by decide
theorem jT3_3 : jT 3 3 = some 1 := by decide
theorem jT3_4 : jT 3 4 = some (-1) := by decide
theorem c_bsd {q : Nat} {c side e n : Int} (hc : 0 ≤ c ∧ c < 80) (h2 : jT 2 side = some e) (h3 : jT 3 side = some n) (he : -1 ≤ e ∧ e ≤ 1) (hn : -1 ≤ n ∧ n ≤ 1) : H_X7_beside q c side = some (bsd c e n) := by
  unfold H_X7_beside bsd
  rw [z_xOf (by omega), z_yOf (by omega), h2, h3]
  simp only [Option.bind_some]
  rw [wr_id (z := c / 8 + e) (by omega), wr_id (z := c % 8 + n) (by omega), z_isCell]
  simp only [Option.bind_some, z01]
  by_cases h : 0 ≤ c / 8 + e ∧ c / 8 + e < 10 ∧ 0 ≤ c % 8 + n ∧ c % 8 + n < 8
  · rw [if_pos h, if_pos h, z_cellOf (by omega)]; rfl
  · rw [if_neg h, if_neg h]
theorem cb0 {q : Nat} {c : Int} (hc : 0 ≤ c ∧ c < 80) : H_X7_beside q c 0 = some c := by
  rw [c_bsd hc jT2_0 jT3_0 (by decide) (by decide)]
  unfold bsd
  rw [if_pos (by omega)]
  exact congrArg some (by omega)
theorem cb1 {q : Nat} {c : Int} (hc : 0 ≤ c ∧ c < 80) : H_X7_beside q c 1 = some (bsd c 1 0) := c_bsd hc jT2_1 jT3_1 (by decide) (by decide)
theorem cb2 {q : Nat} {c : Int} (hc : 0 ≤ c ∧ c < 80) : H_X7_beside q c 2 = some (bsd c (-1) 0) := c_bsd hc jT2_2 jT3_2 (by decide) (by decide)
theorem cb3 {q : Nat} {c : Int} (hc : 0 ≤ c ∧ c < 80) : H_X7_beside q c 3 = some (bsd c 0 1) := c_bsd hc jT2_3 jT3_3 (by decide) (by decide)
theorem cb4 {q : Nat} {c : Int} (hc : 0 ≤ c ∧ c < 80) : H_X7_beside q c 4 = some (bsd c 0 (-1)) := c_bsd hc jT2_4 jT3_4 (by decide) (by decide)
theorem r_bsd {m : Nat} {c way e n : Int} (hc : 0 ≤ c ∧ c < 80) (h2 : (if way = 0 then (1 : Int) else (if way = 2 then (-1) else 0)) = e) (h3 : (if way = 1 then (1 : Int) else (if way = 3 then (-1) else 0)) = n) (he : -1 ≤ e ∧ e ≤ 1) (hn : -1 ≤ n ∧ n ≤ 1) : H_X12_besideOf m c way = some (bsd c e n) := by
  unfold H_X12_besideOf bsd
  rw [zD hc.1 (by omega) (by omega), zM hc.1 (by omega)]
  simp only [Option.bind_some, nv]
  rw [h2, h3, wr_id (z := c / 8 + e) (by omega), wr_id (z := c % 8 + n) (by omega), z_rIsCell]
  simp only [Option.bind_some, z01]
  by_cases h : 0 ≤ c / 8 + e ∧ c / 8 + e < 10 ∧ 0 ≤ c % 8 + n ∧ c % 8 + n < 8
  · rw [if_pos h, if_pos h, wr_id (z := 8 * _) (by omega), wr_id (by omega)]
  · rw [if_neg h, if_neg h]
theorem rb0 {m : Nat} {c : Int} (hc : 0 ≤ c ∧ c < 80) : H_X12_besideOf m c 0 = some (bsd c 1 0) := r_bsd hc rfl rfl (by decide) (by decide)
theorem rb1 {m : Nat} {c : Int} (hc : 0 ≤ c ∧ c < 80) : H_X12_besideOf m c 1 = some (bsd c 0 1) := r_bsd hc rfl rfl (by decide) (by decide)
theorem rb2 {m : Nat} {c : Int} (hc : 0 ≤ c ∧ c < 80) : H_X12_besideOf m c 2 = some (bsd c (-1) 0) := r_bsd hc rfl rfl (by decide) (by decide)
theorem rb3 {m : Nat} {c : Int} (hc : 0 ≤ c ∧ c < 80) : H_X12_besideOf m c 3 = some (bsd c 0 (-1)) := r_bsd hc rfl rfl (by decide) (by decide)
/-! rows of S written in another order -/
theorem zU_c {S : Int → Int} {z y v u : Int} (h : y ≠ z) : zU (zU S z v) y u = zU (zU S y u) z v := by
  funext i
  by_cases e : i = z
  · rw [zU_eq (S := zU S y u) e, zU_ne (by omega), zU_eq e]
  · rw [zU_ne (S := zU S y u) e]
    by_cases e2 : i = y
    · rw [zU_eq e2, zU_eq e2]
    · rw [zU_ne e2, zU_ne e2, zU_ne e]
theorem zU_s {S : Int → Int} {z v u : Int} : zU (zU S z v) z u = zU S z u := by
  funext i
  by_cases e : i = z
  · rw [zU_eq e, zU_eq e]
  · rw [zU_ne e, zU_ne e, zU_ne e]
def hlf (S : Int → Int) (q : Int) : Int → Int := if 0 ≤ q then zU S (170 + q) (S (170 + q) / 2) else S
theorem hlf_c {S : Int → Int} {z v q : Int} (h : q < 0 ∨ z ≠ 170 + q) : hlf (zU S z v) q = zU (hlf S q) z v := by
  unfold hlf
  by_cases h0 : 0 ≤ q
  · rw [if_pos h0, if_pos h0, zU_ne (by omega), zU_c (by omega)]
  · rw [if_neg h0, if_neg h0]
theorem hlf_h {S : Int → Int} {q p : Int} (h : p = -1 ∨ q ≠ p) : hlf (hlf S q) p = hlf (hlf S p) q := by
  by_cases hp : 0 ≤ p
  · have e : hlf S p = zU S (170 + p) (S (170 + p) / 2) := if_pos hp
    rw [e, hlf_c (by omega)]
    unfold hlf
    rw [if_pos hp]
    by_cases hq : 0 ≤ q
    · rw [if_pos hq, zU_ne (by omega)]
    · rw [if_neg hq]
  · have e : ∀ T : Int → Int, hlf T p = T := fun T => if_neg hp
    rw [e, e]
theorem hlf_ne {S : Int → Int} {q z : Int} (h : q < 0 ∨ z ≠ 170 + q) : hlf S q z = S z := by
  unfold hlf
  split
  · exact zU_ne (by omega)
  · rfl
/-- the rows of a kept READING -/
def rdg (S : Int → Int) (g p l sh : Int) : Int → Int :=
  if S 2 < 200 then zU (zU (zU (zU (zU (zU (zU S (2270 + S 2) g) (2470 + S 2) (S 1)) (2670 + S 2) p) (2870 + S 2) l) (3070 + S 2) (S (2218 + g))) (3270 + S 2) sh) 2 (S 2 + 1) else S
def shw (S : Int → Int) (g p l : Int) : Int := S (1530 + (4 * p + l)) + 3 * S (2218 + g)
def dbt (S : Int → Int) (p : Int) : Int → Int := hlf (hlf (hlf (hlf (zU S (170 + p) 0) (bsd p 1 0)) (bsd p 0 1)) (bsd p (-1) 0)) (bsd p 0 (-1))
/-- all that measuring changes -/
def msr (S : Int → Int) (g p l : Int) : Int → Int := dbt (zU (zU (rdg S g p l (shw S g p l)) (2250 + g) (shw S g p l)) (2218 + g) (S (2218 + g) + 1)) p
theorem bsd_ne {p : Int} (hp : 0 ≤ p ∧ p < 80) : bsd p (-1) 0 = -1 ∨ bsd p 0 1 ≠ bsd p (-1) 0 := by
  unfold bsd
  split
  · right; split <;> omega
  · left; rfl
theorem dbt_c {S : Int → Int} {p z v : Int} (hp : 0 ≤ p ∧ p < 80) (hz : z < 170 ∨ 250 ≤ z) : dbt (zU S z v) p = zU (dbt S p) z v := by
  unfold dbt
  have b1 := bsd_r (c := p) (e := 1) (n := 0)
  have b2 := bsd_r (c := p) (e := 0) (n := 1)
  have b3 := bsd_r (c := p) (e := -1) (n := 0)
  have b4 := bsd_r (c := p) (e := 0) (n := -1)
  rw [zU_c (by omega), hlf_c (by omega), hlf_c (by omega), hlf_c (by omega), hlf_c (by omega)]
theorem dbt_ne {S : Int → Int} {p z : Int} (hp : 0 ≤ p ∧ p < 80) (hz : z < 170 ∨ 250 ≤ z) : dbt S p z = S z := by
  unfold dbt
  have b1 := bsd_r (c := p) (e := 1) (n := 0)
  have b2 := bsd_r (c := p) (e := 0) (n := 1)
  have b3 := bsd_r (c := p) (e := -1) (n := 0)
  have b4 := bsd_r (c := p) (e := 0) (n := -1)
  rw [hlf_ne (by omega), hlf_ne (by omega), hlf_ne (by omega), hlf_ne (by omega), zU_ne (by omega)]
section MSC
variable {E : Em} {x w m a : Nat} {J Jr : Jm} {S : Int → Int} {c e n d l g p s v q : Int}
theorem hlf_iv (h : IvR S) (hq : q = -1 ∨ 0 ≤ q ∧ q < 80) : IvR (hlf S q) := by
  unfold hlf
  split
  · have := j_dou h (z := q) (by omega) (by omega)
    exact ir_at h (r := (170, 80, 0, 99)) (by decide) (by omega) (by dsimp only; omega) (by dsimp only; omega)
  · exact h
theorem c_hlf (sp : Sp E w) (hV : Vw E w J S) (hr : IvR S) {side : Int} (fu : Nat) (hs : 1 ≤ side ∧ side ≤ 4) (hb : H_X7_beside (w + 1) c side = some q) (hq : q = -1 ∨ 0 ≤ q ∧ q < 80) : ∃ J2, H_X7_lessenDoubt_L9 (w + 1) c (fu + 1) side J = H_X7_lessenDoubt_L9 (w + 1) c fu (side + 1) J2 ∧ Vw E w J2 (hlf S q) ∧ ∀ b, b ≠ w + 1 + 3 → J2 b = J b := by
  rw [H_X7_lessenDoubt_L9, if_neg (by omega), hb, Option.bind_some, wr_id (by omega)]
  unfold hlf
  by_cases h : 0 ≤ q
  · have := j_dou hr (z := q) (by omega) (by omega)
    rw [if_neg (by omega), if_pos h, vL_dou hV.1 (by omega) (by omega), Option.bind_some, zD (by omega) (by omega) (by omega), Option.bind_some, zS (by omega) (by omega), Option.bind_some]
    exact ⟨_, rfl, vwS hV sp hr (by omega) (by omega) (vW_dou hV.1 (by omega) (by omega)), fun b hb => jW_ne hb⟩
  · rw [if_pos (by omega), if_neg h]
    exact ⟨J, rfl, hV, fun _ _ => rfl⟩
theorem c_dbt (sp : Sp E w) (hV : Vw E w J S) (hr : IvR S) (hp : 0 ≤ p ∧ p < 80) : ∃ J2, H_X7_lessenDoubt (w + 1) p J = some J2 ∧ Vw E w J2 (dbt S p) ∧ IvR (dbt S p) ∧ ∀ b, b ≠ w + 1 + 3 → J2 b = J b := by
  unfold H_X7_lessenDoubt dbt
  rw [zS (by omega) (by omega), Option.bind_some]
  have v0 : Vw E w (jW J (w + 1 + 3) p.toNat 0) (zU S (170 + p) 0) := vwS hV sp hr (by omega) (by omega) (vW_dou hV.1 (by omega) (by omega))
  have r0 : IvR (zU S (170 + p) 0) := ir_at hr (r := (170, 80, 0, 99)) (by decide) (by omega) (by dsimp only; omega) (by dsimp only; omega)
  obtain ⟨J1, f1, v1, g1⟩ := c_hlf sp v0 r0 999999 (by omega) (cb1 hp) bsd_r
  have r1 := hlf_iv r0 (bsd_r (c := p) (e := 1) (n := 0))
  obtain ⟨J2, f2, v2, g2⟩ := c_hlf sp v1 r1 999998 (by omega) (cb2 hp) bsd_r
  have r2 := hlf_iv r1 (bsd_r (c := p) (e := -1) (n := 0))
  obtain ⟨J3, f3, v3, g3⟩ := c_hlf sp v2 r2 999997 (by omega) (cb3 hp) bsd_r
  have r3 := hlf_iv r2 (bsd_r (c := p) (e := 0) (n := 1))
  obtain ⟨J4, f4, v4, g4⟩ := c_hlf sp v3 r3 999996 (by omega) (cb4 hp) bsd_r
  have r4 := hlf_iv r3 (bsd_r (c := p) (e := 0) (n := -1))
  have eq := hlf_h (S := hlf (zU S (170 + p) 0) (bsd p 1 0)) (bsd_ne hp)
  rw [eq]
  refine ⟨J4, ?_, v4, r4, fun b hb => by rw [g4 b hb, g3 b hb, g2 b hb, g1 b hb, jW_ne hb]⟩
  rw [show (1000000 : Nat) = 999999 + 1 from rfl, f1, show (999999 : Nat) = 999998 + 1 from rfl, show (1 : Int) + 1 = 2 from rfl, f2, show (999998 : Nat) = 999997 + 1 from rfl, show (2 : Int) + 1 = 3 from rfl, f3, show (999997 : Nat) = 999996 + 1 from rfl, show (3 : Int) + 1 = 4 from rfl, f4, show (999996 : Nat) = 999995 + 1 from rfl, show (4 : Int) + 1 = 5 from rfl, H_X7_lessenDoubt_L9, if_pos (by decide)]
theorem c_numL (sp : Sp E w) (hV : Vw E w J S) (hr : IvR S) (hg : 0 ≤ g ∧ g < S 0) (ha : E.2.1 (w + 13) g.toNat = some a) : ∀ (t fu : Nat) (i : Int), g = i + t → 0 ≤ i → t < fu → H_X10_numberOf_L2 E w a J fu i = some g := by
  have h8 := j_gli hr
  intro t
  induction t with
  | zero =>
    intro fu i h1 h2 h3
    obtain ⟨fu, rfl⟩ := nx h3
    have e : i = g := by omega
    subst e
    rw [H_X10_numberOf_L2, v_gli hV.1, if_neg (by omega)]
    unfold jR
    rw [if_pos (by omega), ha, Option.bind_some, if_pos rfl]
  | succ t ih =>
    intro fu i h1 h2 h3
    obtain ⟨fu, rfl⟩ := nx h3
    rw [H_X10_numberOf_L2, v_gli hV.1, if_neg (by omega)]
    obtain ⟨b, hb, -⟩ := hV.2.1 i h2 (by omega)
    have hd := sp.2.1 _ _ _ _ hb ha (by omega)
    unfold jR
    rw [if_pos (by omega), hb, Option.bind_some, if_neg (fun q => by have := Option.some.inj q; omega), wr_id (by omega)]
    exact ih fu (i + 1) (by omega) (by omega) (by omega)
theorem c_num (sp : Sp E w) (hV : Vw E w J S) (hr : IvR S) (hg : 0 ≤ g ∧ g < S 0) (ha : E.2.1 (w + 13) g.toNat = some a) : H_X10_numberOf E w a J = some g := by
  have h8 := j_gli hr
  exact c_numL sp hV hr hg ha g.toNat 1000000 0 (by omega) (by omega) (by omega)
theorem gCur (hV : Vw E w J S) (hg : 0 ≤ g ∧ g < S 0) (ha : E.2.1 (w + 13) g.toNat = some a) : Gv J a g S := by
  obtain ⟨b, hb, h⟩ := hV.2.1 g hg.1 hg.2
  have e : b = a := Option.some.inj (hb.symm.trans ha)
  subst e; exact h
theorem c_rdg (sp : Sp E w) (hV : Vw E w J S) (hr : IvR S) (hg : 0 ≤ g ∧ g < S 0) (ha : E.2.1 (w + 13) g.toNat = some a) (hp : J a 1 = p) {sh : Int} (hs : J a 9 = sh) : ∃ J2, H_X6_addReading (w + 21) g a (S 1) l J = some J2 ∧ Vw E w J2 (rdg S g p l sh) ∧ IvR (rdg S g p l sh) ∧ ∀ b, (b < w + 21 ∨ w + 27 < b) → J2 b = J b := by
  have hrr := j_rea hr
  have h8 := j_gli hr
  have hwa := sp.1 _ _ ha
  have hG := gCur hV hg ha
  have a1 := v_rea hV.1
  have a2 := g_fou hG
  unfold H_X6_addReading rdg
  rw [a1]
  by_cases h : S 2 < 200
  · rw [if_pos h, if_pos h]
    simp (disch := omega) only [nv, jW_ne, a1, a2, hp, hs, zS, Option.bind_some, wr_id]
    have i1 := ir_no2 (v := g) (z := 2270 + S 2) hr (lo := 2270) (hi := 2470) (by omega) (by decide +kernel)
    have i2 := ir_no2 (v := S 1) (z := 2470 + S 2) i1 (lo := 2470) (hi := 2670) (by omega) (by decide +kernel)
    have i3 := ir_no2 (v := p) (z := 2670 + S 2) i2 (lo := 2670) (hi := 2870) (by omega) (by decide +kernel)
    have i4 := ir_no2 (v := l) (z := 2870 + S 2) i3 (lo := 2870) (hi := 3070) (by omega) (by decide +kernel)
    have i5 := ir_no2 (v := S (2218 + g)) (z := 3070 + S 2) i4 (lo := 3070) (hi := 3270) (by omega) (by decide +kernel)
    have i6 := ir_no2 (v := sh) (z := 3270 + S 2) i5 (lo := 3270) (hi := 3470) (by omega) (by decide +kernel)
    have i7 := ir_at i6 (v := S 2 + 1) (r := (2, 1, 0, 200)) (z := 0) (by decide) (by omega) (by dsimp only; omega) (by dsimp only; omega)
    have v1 := vwS hV sp hr (by omega) (by omega) (vW_rby (z := S 2) (v := g) hV.1 (by omega) (by omega))
    have v2 := vwS v1 sp i1 (by omega) (by omega) (vW_rti (z := S 2) (v := S 1) v1.1 (by omega) (by omega))
    have v3 := vwS v2 sp i2 (by omega) (by omega) (vW_rce (z := S 2) (v := p) v2.1 (by omega) (by omega))
    have v4 := vwS v3 sp i3 (by omega) (by omega) (vW_rla (z := S 2) (v := l) v3.1 (by omega) (by omega))
    have v5 := vwS v4 sp i4 (by omega) (by omega) (vW_rfo (z := S 2) (v := S (2218 + g)) v4.1 (by omega) (by omega))
    have v6 := vwS v5 sp i5 (by omega) (by omega) (vW_rsh (z := S 2) (v := sh) v5.1 (by omega) (by omega))
    have v7 := vwS v6 sp i6 (by omega) (by omega) (vW_rea (v := S 2 + 1) v6.1)
    exact ⟨_, rfl, v7, i7, fun b hb => by simp (disch := omega) only [jW_ne]⟩
  · rw [if_neg h, if_neg h]
    exact ⟨J, rfl, hV, hr, fun _ _ => rfl⟩
theorem c_msr (sp : Sp E w) (hV : Vw E w J S) (hr : IvR S) (hg : 0 ≤ g ∧ g < S 0) (ha : E.2.1 (w + 13) g.toNat = some a) (hp : clS S g = p) (hw : 0 < S (10 + p)) (hs : 0 ≤ s ∧ s ≤ 3) (hl : l = if s < S (10 + p) then s else S (10 + p) - 1) (hf : S (2218 + g) < 999) : ∃ J2, H_X10_measure E w a s J = some J2 ∧ Vw E w J2 (msr S g p l) ∧ IvR (msr S g p l) ∧ FrC E w J J2 ∧ J2 (w + 32) = J (w + 32) ∧ J2 w = J w := by
  have h8 := j_gli hr
  have hx := j_x hr (z := g) hg.1 (by omega)
  have hy := j_y hr (z := g) hg.1 (by omega)
  have hfo := j_fou hr (z := g) hg.1 (by omega)
  have hwa := sp.1 _ _ ha
  have hpr : 0 ≤ p ∧ p < 80 := by unfold clS at hp; omega
  have hd := j_dep hr (z := p) hpr.1 hpr.2
  have hG := gCur hV hg ha
  have hc : J a 1 = p := (g_cell hG).trans hp
  have hl4 : 0 ≤ l ∧ l ≤ 3 := by rw [hl]; split <;> omega
  have hsa := j_sal hr (z := 4 * p + l) (by omega) (by omega)
  unfold H_X10_measure
  rw [hc, vL_dep hV.1 (by omega) (by omega), Option.bind_some, wr_id (z := S (10 + p) - 1) (by omega)]
  have el : mxZ 0 (mnZ s (S (10 + p) - 1)) = l := by
    rw [hl]; unfold mxZ mnZ
    split <;> split <;> split <;> omega
  rw [el, z_placeOf (by omega), Option.bind_some, vL_sal hV.1 (by omega) (by omega), Option.bind_some, g_fou hG]
  simp only [nv]
  rw [wr_id (z := 3 * S (2218 + g)) (by omega), wr_id (z := S (1530 + (4 * p + l)) + 3 * S (2218 + g)) (by omega)]
  rw [show S (1530 + (4 * p + l)) + 3 * S (2218 + g) = shw S g p l from rfl]
  have hsh : 0 ≤ shw S g p l ∧ shw S g p l ≤ 4000 := by unfold shw; omega
  have v1 : Vw E w (jW (jW J a 9 (shw S g p l)) a 10 1) (zU S (2250 + g) (shw S g p l)) := vwG hV sp hr hg ha (fun c h1 _ => by rw [jW_ne h1, jW_ne h1]) (gpl 2250 (by omega)) (gW_sho (by omega) hG hsh.1)
  have r1 : IvR (zU S (2250 + g) (shw S g p l)) := ir_at hr (r := (2250, 8, -4, 4000)) (by decide) (by omega) (by dsimp only; omega) (by dsimp only; omega)
  have S0 : zU S (2250 + g) (shw S g p l) 0 = S 0 := zU_ne (by omega)
  rw [c_num sp v1 r1 (by rw [S0]; exact hg) ha, Option.bind_some]
  have et : jW (jW J a 9 (shw S g p l)) a 10 1 w 3 = zU S (2250 + g) (shw S g p l) 1 := v_tim v1.1
  rw [et]
  obtain ⟨J3, f3, v3, r3, g3⟩ := c_rdg (l := l) (sh := shw S g p l) (p := p) sp v1 r1 (by rw [S0]; exact hg) ha (by simp (disch := omega) only [jW_of]; exact hc) (by simp (disch := omega) only [jW_of, jW_at])
  rw [f3, Option.bind_some]
  have hc3 : J3 a 1 = p := by
    rw [g3 a (by omega)]
    simp (disch := omega) only [jW_of]; exact hc
  rw [hc3]
  obtain ⟨J4, f4, v4, r4, g4⟩ := c_dbt sp v3 r3 hpr
  rw [f4, Option.bind_some]
  have e0 : dbt (rdg (zU S (2250 + g) (shw S g p l)) g p l (shw S g p l)) p 0 = S 0 := by
    have hrr := j_rea hr
    rw [dbt_ne hpr (by omega)]
    unfold rdg
    rw [zU_ne (i := 2) (by omega)]
    split
    · simp (disch := omega) only [zU_ne]
    · exact S0
  have hg4 : 0 ≤ g ∧ g < dbt (rdg (zU S (2250 + g) (shw S g p l)) g p l (shw S g p l)) p 0 := by rw [e0]; exact hg
  have hG4 := gCur v4 hg4 ha
  have ef : dbt (rdg (zU S (2250 + g) (shw S g p l)) g p l (shw S g p l)) p (2218 + g) = S (2218 + g) := by
    have hrr := j_rea hr
    rw [dbt_ne hpr (by omega)]
    unfold rdg
    rw [zU_ne (i := 2) (by omega)]
    split
    · simp (disch := omega) only [zU_ne]
    · simp (disch := omega) only [zU_ne]
  rw [g_fou hG4, ef, wr_id (by omega)]
  have v5 := vwG v4 sp r4 hg4 ha (J2 := jW J4 a 5 (S (2218 + g) + 1)) (fun c h1 _ => jW_ne h1) (gpl (v := S (2218 + g) + 1) 2218 (by omega)) (gW_fou (by omega) hG4)
  have r5 := ir_at r4 (v := S (2218 + g) + 1) (z := g) (r := (2218, 8, 0, 999)) (by decide) (by omega) (by dsimp only; omega) (by dsimp only; omega)
  have em : zU (dbt (rdg (zU S (2250 + g) (shw S g p l)) g p l (shw S g p l)) p) (2218 + g) (S (2218 + g) + 1) = msr S g p l := by
    have hrr := j_rea hr
    unfold msr
    rw [← dbt_c hpr (by omega)]
    congr 2
    unfold rdg
    rw [zU_ne (i := 2) (by omega), zU_ne (i := 1) (by omega), zU_ne (i := 2218 + g) (by omega)]
    split
    · rw [zU_c (z := 2250 + g) (y := 2270 + S 2) (by omega), zU_c (z := 2250 + g) (y := 2470 + S 2) (by omega), zU_c (z := 2250 + g) (y := 2670 + S 2) (by omega), zU_c (z := 2250 + g) (y := 2870 + S 2) (by omega), zU_c (z := 2250 + g) (y := 3070 + S 2) (by omega), zU_c (z := 2250 + g) (y := 3270 + S 2) (by omega), zU_c (z := 2250 + g) (y := 2) (by omega)]
    · rfl
  rw [em] at v5
  dsimp only at r5
  rw [em] at r5
  refine ⟨_, rfl, v5, r5, ?_, ?_, ?_⟩
  · intro b hb hgb
    have := hgb _ _ ha
    rw [jW_ne (by omega), g4 b (by omega), g3 b (by omega), jW_ne (by omega), jW_ne (by omega)]
  · rw [jW_ne (by omega), g4 _ (by omega), g3 _ (by omega), jW_ne (by omega), jW_ne (by omega)]
  · rw [jW_ne (by omega), g4 _ (by omega), g3 _ (by omega), jW_ne (by omega), jW_ne (by omega)]
end MSC
section MSR
variable {m : Nat} {J Jr : Jm} {S : Int → Int} {c e n d l g p s v q : Int}
theorem r_hlf (hR : Rf m J S) (hr : IvR S) {way : Int} (fu : Nat) (hs : 0 ≤ way ∧ way ≤ 3) (hb : H_X12_besideOf m c way = some q) (hq : q = -1 ∨ 0 ≤ q ∧ q < 80) : ∃ J2, H_X12_measure_L230 m c (fu + 1) way J = H_X12_measure_L230 m c fu (way + 1) J2 ∧ Rf m J2 (hlf S q) ∧ ∀ b, b ≠ m + 1 → J2 b = J b := by
  rw [H_X12_measure_L230, if_neg (by omega), hb, Option.bind_some, wr_id (z := way + 1) (by omega)]
  unfold hlf
  by_cases h : 0 ≤ q
  · have := j_dou hr (z := q) (by omega) (by omega)
    rw [if_neg (by omega), if_pos h, Option.bind_some, wr_id (by omega), rL hR (by omega) (by omega), Option.bind_some, zD (by omega) (by omega) (by omega), Option.bind_some, zS (by omega) (by omega), Option.bind_some]
    exact ⟨_, rfl, rW hR (by omega), fun b hb => jW_ne hb⟩
  · rw [if_pos (by omega), if_neg h]
    exact ⟨J, rfl, hR, fun _ _ => rfl⟩
theorem r_dbt (hR : Rf m J (zU S (170 + p) 0)) (hr : IvR S) (hp : 0 ≤ p ∧ p < 80) : ∃ J2, H_X12_measure_L230 m p 1000000 0 J = some J2 ∧ Rf m J2 (dbt S p) ∧ ∀ b, b ≠ m + 1 → J2 b = J b := by
  unfold dbt
  have r0 : IvR (zU S (170 + p) 0) := ir_at hr (r := (170, 80, 0, 99)) (by decide) (by omega) (by dsimp only; omega) (by dsimp only; omega)
  obtain ⟨J1, f1, v1, g1⟩ := r_hlf hR r0 999999 (by omega) (rb0 hp) bsd_r
  have r1 := hlf_iv r0 (bsd_r (c := p) (e := 1) (n := 0))
  obtain ⟨J2, f2, v2, g2⟩ := r_hlf v1 r1 999998 (by omega) (rb1 hp) bsd_r
  have r2 := hlf_iv r1 (bsd_r (c := p) (e := 0) (n := 1))
  obtain ⟨J3, f3, v3, g3⟩ := r_hlf v2 r2 999997 (by omega) (rb2 hp) bsd_r
  have r3 := hlf_iv r2 (bsd_r (c := p) (e := -1) (n := 0))
  obtain ⟨J4, f4, v4, g4⟩ := r_hlf v3 r3 999996 (by omega) (rb3 hp) bsd_r
  refine ⟨J4, ?_, v4, fun b hb => by rw [g4 b hb, g3 b hb, g2 b hb, g1 b hb]⟩
  rw [show (1000000 : Nat) = 999999 + 1 from rfl, f1, show (999999 : Nat) = 999998 + 1 from rfl, show (0 : Int) + 1 = 1 from rfl, f2, show (999998 : Nat) = 999997 + 1 from rfl, show (1 : Int) + 1 = 2 from rfl, f3, show (999997 : Nat) = 999996 + 1 from rfl, show (2 : Int) + 1 = 3 from rfl, f4, show (999996 : Nat) = 999995 + 1 from rfl, show (3 : Int) + 1 = 4 from rfl, H_X12_measure_L230, if_pos (by decide)]
theorem r_msr (hR : Rf m J S) (hr : IvR S) (hg : 0 ≤ g ∧ g < 8) (hp : 0 ≤ p ∧ p < 80) (hW : Wy m J p) (h6 : J m 6 = s) (hw : 0 < S (10 + p)) (hs : 0 ≤ s ∧ s ≤ 3) (hl : l = if s < S (10 + p) then s else S (10 + p) - 1) (hf : S (2218 + g) < 999) : ∃ J2, H_X12_measure m g J = some J2 ∧ Rf m J2 (msr S g p l) ∧ ∀ b, b ≠ m + 1 → J2 b = J b := by
  have hrr := j_rea hr
  have hd := j_dep hr (z := p) hp.1 hp.2
  have hfo := j_fou hr (z := g) hg.1 (by omega)
  have hl4 : 0 ≤ l ∧ l ≤ 3 := by rw [hl]; split <;> omega
  have hsa := j_sal hr (z := 4 * p + l) (by omega) (by omega)
  have ec : wr (wr (8 * J m 4) + J m 5) = p := by rw [hW.1, hW.2, wr_id (z := 8 * (p / 8)) (by omega), wr_id (by omega)]; omega
  unfold H_X12_measure
  rw [ec, wr_id (z := 10 + p) (by omega), rL hR (by omega) (by omega), h6]
  simp only [jp, Option.bind_some]
  have key : ∀ J0 : Jm, J0 = J → ∃ J2, ((jL J0 (m + 1) 8369 (wr (wr (1530 + wr (4 * p)) + l))).bind fun zv11 =>
      (jL J0 (m + 1) 8369 (wr (2218 + g))).bind fun zv14 =>
      (jL J0 (m + 1) 8369 2).bind fun zv17 =>
      if 200 ≤ zv17 then
        (jS J0 (m + 1) 8369 (wr (2250 + g)) (wr (zv11 + wr (3 * zv14)))).bind fun J22 =>
        (jL J22 (m + 1) 8369 (wr (2218 + g))).bind fun zv25 =>
        (jS J22 (m + 1) 8369 (wr (2218 + g)) (wr (zv25 + 1))).bind fun J27 =>
        (jS J27 (m + 1) 8369 (wr (170 + p)) 0).bind fun J29 =>
        H_X12_measure_L230 m p 1000000 0 J29
      else
        (jS J0 (m + 1) 8369 (wr (2270 + zv17)) g).bind fun J48 =>
        (jL J48 (m + 1) 8369 1).bind fun zv52 =>
        (jS J48 (m + 1) 8369 (wr (2470 + zv17)) zv52).bind fun J54 =>
        (jS J54 (m + 1) 8369 (wr (2670 + zv17)) p).bind fun J57 =>
        (jS J57 (m + 1) 8369 (wr (2870 + zv17)) l).bind fun J60 =>
        (jL J60 (m + 1) 8369 (wr (2218 + g))).bind fun zv64 =>
        (jS J60 (m + 1) 8369 (wr (3070 + zv17)) zv64).bind fun J66 =>
        (jS J66 (m + 1) 8369 (wr (3270 + zv17)) (wr (zv11 + wr (3 * zv14)))).bind fun J69 =>
        (jL J69 (m + 1) 8369 2).bind fun zv72 =>
        (jS J69 (m + 1) 8369 2 (wr (zv72 + 1))).bind fun J74 =>
        (jS J74 (m + 1) 8369 (wr (2250 + g)) (wr (zv11 + wr (3 * zv14)))).bind fun J22 =>
        (jL J22 (m + 1) 8369 (wr (2218 + g))).bind fun zv25 =>
        (jS J22 (m + 1) 8369 (wr (2218 + g)) (wr (zv25 + 1))).bind fun J27 =>
        (jS J27 (m + 1) 8369 (wr (170 + p)) 0).bind fun J29 =>
        H_X12_measure_L230 m p 1000000 0 J29) = some J2 ∧ Rf m J2 (msr S g p l) ∧ ∀ b, b ≠ m + 1 → J2 b = J b := by
    intro J0 e0
    subst e0
    have e1 : wr (wr (1530 + wr (4 * p)) + l) = 1530 + (4 * p + l) := by rw [wr_id (z := 4 * p) (by omega), wr_id (z := 1530 + 4 * p) (by omega), wr_id (by omega)]; omega
    rw [e1, rL hR (by omega) (by omega), wr_id (z := 2218 + g) (by omega), wr_id (z := 2250 + g) (by omega), wr_id (z := 170 + p) (by omega), rL hR (by omega) (by omega), rL hR (by omega) (by omega)]
    simp only [Option.bind_some]
    rw [wr_id (z := 3 * S (2218 + g)) (by omega), wr_id (z := S (1530 + (4 * p + l)) + 3 * S (2218 + g)) (by omega), show S (1530 + (4 * p + l)) + 3 * S (2218 + g) = shw S g p l from rfl]
    have tail : ∀ (J9 : Jm) (T : Int → Int), Rf m J9 T → IvR T → (∀ b, b ≠ m + 1 → J9 b = J0 b) → T = rdg S g p l (shw S g p l) → ∃ J2, ((jS J9 (m + 1) 8369 (2250 + g) (shw S g p l)).bind fun J22 =>
        (jL J22 (m + 1) 8369 (2218 + g)).bind fun zv25 =>
        (jS J22 (m + 1) 8369 (2218 + g) (wr (zv25 + 1))).bind fun J27 =>
        (jS J27 (m + 1) 8369 (170 + p) 0).bind fun J29 =>
        H_X12_measure_L230 m p 1000000 0 J29) = some J2 ∧ Rf m J2 (msr S g p l) ∧ ∀ b, b ≠ m + 1 → J2 b = J0 b := by
      intro J9 T hT iT hb eT
      have tf : T (2218 + g) = S (2218 + g) := by
        rw [eT]; unfold rdg
        split
        · simp (disch := omega) only [zU_ne]
        · rfl
      have a1 := rW (v := shw S g p l) hT (z := 2250 + g) (by omega)
      have a2 := rW (v := S (2218 + g) + 1) a1 (z := 2218 + g) (by omega)
      have a3 := rW (v := 0) a2 (z := 170 + p) (by omega)
      have hsh : 0 ≤ shw S g p l ∧ shw S g p l ≤ 4000 := by unfold shw; omega
      have b1 := ir_at iT (v := shw S g p l) (z := g) (r := (2250, 8, -4, 4000)) (by decide) (by omega) (by dsimp only; omega) (by dsimp only; omega)
      have b2 := ir_at b1 (v := S (2218 + g) + 1) (z := g) (r := (2218, 8, 0, 999)) (by decide) (by omega) (by dsimp only; omega) (by dsimp only; omega)
      obtain ⟨J2, f1, f2, f3⟩ := r_dbt a3 b2 hp
      rw [zS (by omega) (by omega), Option.bind_some, rL a1 (by omega) (by omega), Option.bind_some, zU_ne (by omega), tf, wr_id (by omega), zS (by omega) (by omega), Option.bind_some, zS (by omega) (by omega), Option.bind_some, f1]
      refine ⟨J2, rfl, ?_, fun b hb2 => by rw [f3 b hb2, jW_ne hb2, jW_ne hb2, jW_ne hb2, hb b hb2]⟩
      unfold msr
      rw [← eT]; exact f2
    by_cases h : 200 ≤ S 2
    · rw [if_pos h]
      exact tail J0 S hR hr (fun _ _ => rfl) (by unfold rdg; rw [if_neg (by omega)])
    · rw [if_neg h]
      have a1 := rW (v := g) hR (z := 2270 + S 2) (by omega)
      have a2 := rW (v := S 1) a1 (z := 2470 + S 2) (by omega)
      have a3 := rW (v := p) a2 (z := 2670 + S 2) (by omega)
      have a4 := rW (v := l) a3 (z := 2870 + S 2) (by omega)
      have a5 := rW (v := S (2218 + g)) a4 (z := 3070 + S 2) (by omega)
      have a6 := rW (v := shw S g p l) a5 (z := 3270 + S 2) (by omega)
      have a7 := rW (v := S 2 + 1) a6 (z := 2) (by omega)
      rw [wr_id (z := 2270 + S 2) (by omega), wr_id (z := 2470 + S 2) (by omega), wr_id (z := 2670 + S 2) (by omega), wr_id (z := 2870 + S 2) (by omega), wr_id (z := 3070 + S 2) (by omega), wr_id (z := 3270 + S 2) (by omega)]
      rw [zS (by omega) (by omega), Option.bind_some, rL a1 (by omega) (by omega), Option.bind_some, zU_ne (by omega), zS (by omega) (by omega), Option.bind_some, zS (by omega) (by omega), Option.bind_some, zS (by omega) (by omega), Option.bind_some, rL a4 (by omega) (by omega), Option.bind_some]
      simp (disch := omega) only [zU_ne]
      rw [zS (by omega) (by omega), Option.bind_some, zS (by omega) (by omega), Option.bind_some, rL a6 (by omega) (by omega), Option.bind_some]
      simp (disch := omega) only [zU_ne]
      rw [wr_id (z := S 2 + 1) (by omega), zS (by omega) (by omega), Option.bind_some]
      have i1 := ir_no2 (v := g) (z := 2270 + S 2) hr (lo := 2270) (hi := 2470) (by omega) (by decide +kernel)
      have i2 := ir_no2 (v := S 1) (z := 2470 + S 2) i1 (lo := 2470) (hi := 2670) (by omega) (by decide +kernel)
      have i3 := ir_no2 (v := p) (z := 2670 + S 2) i2 (lo := 2670) (hi := 2870) (by omega) (by decide +kernel)
      have i4 := ir_no2 (v := l) (z := 2870 + S 2) i3 (lo := 2870) (hi := 3070) (by omega) (by decide +kernel)
      have i5 := ir_no2 (v := S (2218 + g)) (z := 3070 + S 2) i4 (lo := 3070) (hi := 3270) (by omega) (by decide +kernel)
      have i6 := ir_no2 (v := shw S g p l) (z := 3270 + S 2) i5 (lo := 3270) (hi := 3470) (by omega) (by decide +kernel)
      have i7 := ir_at i6 (v := S 2 + 1) (r := (2, 1, 0, 200)) (z := 0) (by decide) (by omega) (by dsimp only; omega) (by dsimp only; omega)
      exact tail _ _ a7 i7 (fun b hb => by simp (disch := omega) only [jW_ne]) (by unfold rdg; rw [if_pos (by omega)])
  by_cases h : S (10 + p) ≤ s
  · have el : wr (S (10 + p) - 1) = l := by rw [wr_id (by omega), hl, if_neg (by omega)]
    rw [if_pos h, el]
    exact key J rfl
  · have el : s = l := by rw [hl, if_pos (by omega)]
    rw [if_neg h, el]
    exact key J rfl
end MSR
