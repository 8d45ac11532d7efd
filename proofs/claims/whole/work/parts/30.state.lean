/-! THE STATE AS ONE ROW OF NUMBERS (the reference's own row), and the class's world against it -/
def zU (S : Int → Int) (z v : Int) : Int → Int := fun i => if i = z then v else S i
theorem zU_at {S : Int → Int} {z v : Int} : zU S z v z = v := if_pos rfl
theorem zU_eq {S : Int → Int} {z v i : Int} (h : i = z) : zU S z v i = v := if_pos h
theorem zU_ne {S : Int → Int} {z v i : Int} (h : i ≠ z) : zU S z v i = S i := if_neg h
/-- the reference's row holds S -/
def Rf (m : Nat) (J : Jm) (S : Int → Int) : Prop := ∀ z : Int, 0 ≤ z → z < 8369 → J (m + 1) z.toNat = S z
section REF
variable {m : Nat} {J J2 : Jm} {S : Int → Int} {z v n : Int} {a b k : Nat}
theorem zL (h0 : 0 ≤ z) (h1 : z < n) : jL J a n z = some (J a z.toNat) := if_pos ⟨h0, h1⟩
theorem zS (h0 : 0 ≤ z) (h1 : z < n) : jS J a n z v = some (jW J a z.toNat v) := if_pos ⟨h0, h1⟩
theorem rL (h : Rf m J S) (h0 : 0 ≤ z) (h1 : z < 8369) : jL J (m + 1) 8369 z = some (S z) := by rw [zL h0 h1, h z h0 h1]
theorem rW (h : Rf m J S) (h0 : 0 ≤ z) : Rf m (jW J (m + 1) z.toNat v) (zU S z v) := by
  intro y y0 y1
  by_cases e : y = z
  · subst e; rw [jW_at, zU_at]
  · rw [jW_of (by omega), zU_ne e]; exact h y y0 y1
theorem rN (h : Rf m J S) (hb : b ≠ m + 1) : Rf m (jW J b k v) S := by
  intro y y0 y1
  rw [jW_ne (Ne.symm hb)]; exact h y y0 y1
theorem rE (h : Rf m J S) (e : J2 (m + 1) = J (m + 1)) : Rf m J2 S := by
  intro y y0 y1
  rw [e]; exact h y y0 y1
end REF
theorem zD {z k : Int} (h0 : 0 ≤ z) (h1 : z ≤ 2147483647) (hk : 0 < k) : jD z k = some (z / k) := by
  unfold jD
  have e : z.tdiv k = z / k := Int.tdiv_eq_ediv_of_nonneg h0
  have a1 : 0 ≤ z / k := Int.ediv_nonneg h0 (by omega)
  have a2 : z / k ≤ z := Int.ediv_le_self k h0
  rw [if_neg (by omega), e, wr_id (by omega)]
theorem zM {z k : Int} (h0 : 0 ≤ z) (hk : 0 < k) : jM z k = some (z % k) := by
  unfold jM
  rw [if_neg (by omega), Int.tmod_eq_emod_of_nonneg h0]
theorem zZ {z : Int} (h : z = 0 ∨ z = 1) : jZ z = some () := if_pos h
theorem zZ01 {c : Prop} [Decidable c] : jZ (if c then 1 else 0) = some () := by
  by_cases h : c
  · rw [if_pos h]; rfl
  · rw [if_neg h]; rfl
theorem z01 {α : Type} {c : Prop} [Decidable c] {A B : α} : (if (if c then (1 : Int) else 0) = 0 then A else B) = if c then B else A := by
  by_cases h : c
  · rw [if_pos h, if_pos h]; rfl
  · rw [if_neg h, if_neg h]; rfl
theorem z10 {α : Type} {c : Prop} [Decidable c] {A B : α} : (if (if c then (0 : Int) else 1) = 0 then A else B) = if c then A else B := by
  by_cases h : c
  · rw [if_pos h, if_pos h]; rfl
  · rw [if_neg h, if_neg h]; rfl
theorem z_abs {z : Int} (h : -1000000 ≤ z ∧ z ≤ 1000000) : abZ z = if 0 ≤ z then z else -z := by
  unfold abZ
  by_cases k : 0 ≤ z
  · rw [if_pos k, if_pos k]
  · rw [if_neg k, if_neg k, wr_id (by omega)]; omega
theorem z_isCell (a b : Int) : H_X11_isCell a b = some (if 0 ≤ a ∧ a < 10 ∧ 0 ≤ b ∧ b < 8 then 1 else 0) := by
  unfold H_X11_isCell
  by_cases h : 0 ≤ a ∧ a < 10 ∧ 0 ≤ b ∧ b < 8
  · rw [if_pos h, if_neg (by omega), if_neg (by omega), if_neg (by omega), if_neg (by omega)]
  · rw [if_neg h]
    by_cases h1 : a < 0
    · rw [if_pos h1]
    · by_cases h2 : 10 ≤ a
      · rw [if_neg h1, if_pos h2]
      · by_cases h3 : b < 0
        · rw [if_neg h1, if_neg h2, if_pos h3]
        · rw [if_neg h1, if_neg h2, if_neg h3, if_pos (by omega)]
theorem z_rIsCell (m : Nat) (a b : Int) : H_X12_isCell m a b = some (if 0 ≤ a ∧ a < 10 ∧ 0 ≤ b ∧ b < 8 then 1 else 0) := by
  unfold H_X12_isCell
  rw [isq, isq, Option.bind_some, z01]
  by_cases h : 0 ≤ a ∧ a < 10 ∧ 0 ≤ b ∧ b < 8
  · rw [if_pos h, if_pos (by omega), Option.bind_some, z01, if_pos (by omega)]
  · rw [if_neg h]
    by_cases h1 : 0 ≤ a ∧ a ≤ 9
    · rw [if_pos h1, Option.bind_some, z01, if_neg (by omega)]
    · rw [if_neg h1]
theorem z_isLayer (a : Int) : H_X11_isLayer a = some (if 0 ≤ a ∧ a ≤ 3 then 1 else 0) := by
  unfold H_X11_isLayer
  by_cases h : 0 ≤ a ∧ a ≤ 3
  · rw [if_pos h, if_neg (by omega), if_neg (by omega)]
  · rw [if_neg h]
    by_cases h1 : a < 0
    · rw [if_pos h1]
    · rw [if_neg h1, if_pos (by omega)]
theorem z_isStream (a : Int) : H_X11_isStream a = some (if -2 ≤ a ∧ a ≤ 2 then 1 else 0) := by
  unfold H_X11_isStream
  by_cases h : -2 ≤ a ∧ a ≤ 2
  · rw [if_pos h, if_neg (by omega), if_neg (by omega)]
  · rw [if_neg h]
    by_cases h1 : a < -2
    · rw [if_pos h1]
    · rw [if_neg h1, if_pos (by omega)]
theorem z_cellOf {a b : Int} (h : 0 ≤ a ∧ a < 1000 ∧ 0 ≤ b ∧ b < 1000) : H_X11_cellOf a b = some (8 * a + b) := by
  unfold H_X11_cellOf
  rw [wr_id (z := 8 * a) (by omega), wr_id (by omega)]
theorem z_placeOf {a b : Int} (h : 0 ≤ a ∧ a < 1000 ∧ 0 ≤ b ∧ b < 1000) : H_X11_placeOf a b = some (4 * a + b) := by
  unfold H_X11_placeOf
  rw [wr_id (z := 4 * a) (by omega), wr_id (by omega)]
theorem z_xOf {a : Int} (h : 0 ≤ a ∧ a < 1000) : H_X11_xOf a = some (a / 8) := by
  unfold H_X11_xOf
  rw [zD h.1 (by omega) (by omega)]; rfl
theorem z_yOf {a : Int} (h : 0 ≤ a ∧ a < 1000) : H_X11_yOf a = some (a % 8) := by
  unfold H_X11_yOf
  rw [zM h.1 (by omega)]; rfl

abbrev vRow : Type := Nat × Nat × Int × Int
/-- the world's rows: address behind it, first place, how many, where in S -/
def vT : List vRow := [(0, 2, 1, 0), (0, 3, 1, 1), (0, 4, 1, 6), (0, 7, 1, 4), (16, 0, 1, 3), (21, 0, 1, 2), (21, 7, 1, 5), (2, 0, 80, 10), (3, 0, 80, 90), (4, 0, 80, 170), (5, 0, 320, 1530), (6, 0, 320, 1850), (8, 0, 320, 250), (9, 0, 320, 570), (11, 0, 320, 890), (12, 0, 320, 1210), (14, 0, 401, 3950), (17, 0, 60, 3710), (18, 0, 60, 3770), (19, 0, 60, 3830), (20, 0, 60, 3890), (22, 0, 200, 2270), (23, 0, 200, 2470), (24, 0, 200, 2670), (25, 0, 200, 2870), (26, 0, 200, 3070), (27, 0, 200, 3270), (28, 0, 60, 3470), (29, 0, 60, 3530), (30, 0, 60, 3590), (31, 0, 60, 3650)]
def vDis (r q : vRow) : Bool := decide (r = q) || ((decide (r.1 ≠ q.1) || decide (r.2.1 + r.2.2.1.toNat ≤ q.2.1) || decide (q.2.1 + q.2.2.1.toNat ≤ r.2.1)) && (decide (r.2.2.2 + r.2.2.1 ≤ q.2.2.2) || decide (q.2.2.2 + q.2.2.1 ≤ r.2.2.2)))
theorem vDis_all : vT.all (fun r => vT.all (fun q => vDis r q)) = true := by decide +kernel
theorem vDis_at {r q : vRow} (hr : r ∈ vT) (hq : q ∈ vT) : r = q ∨ ((r.1 ≠ q.1 ∨ r.2.1 + r.2.2.1.toNat ≤ q.2.1 ∨ q.2.1 + q.2.2.1.toNat ≤ r.2.1) ∧ (r.2.2.2 + r.2.2.1 ≤ q.2.2.2 ∨ q.2.2.2 + q.2.2.1 ≤ r.2.2.2)) := by
  have d := List.all_eq_true.mp (List.all_eq_true.mp vDis_all r hr) q hq
  unfold vDis at d
  simp only [Bool.or_eq_true, Bool.and_eq_true, decide_eq_true_eq, or_assoc] at d
  exact d
theorem vOff_all : vT.all (fun r => decide (r.1 ≤ 31) && (decide (r.2.2.2 + r.2.2.1 ≤ 2170) || decide (2270 ≤ r.2.2.2) && decide (r.2.2.2 + r.2.2.1 ≤ 4351))) = true := by decide +kernel
theorem vOff_at {r : vRow} (hr : r ∈ vT) : r.1 ≤ 31 ∧ (r.2.2.2 + r.2.2.1 ≤ 2170 ∨ 2270 ≤ r.2.2.2 ∧ r.2.2.2 + r.2.2.1 ≤ 4351) := by
  have d := List.all_eq_true.mp vOff_all r hr
  simp only [Bool.or_eq_true, Bool.and_eq_true, decide_eq_true_eq] at d
  exact d
/-- the world at w holds S, in its rows -/
def Vs (w : Nat) (J : Jm) (S : Int → Int) : Prop := ∀ r ∈ vT, ∀ z : Int, 0 ≤ z → z < r.2.2.1 → J (w + r.1) (z.toNat + r.2.1) = S (r.2.2.2 + z)
theorem vW {w : Nat} {J : Jm} {S : Int → Int} (h : Vs w J S) {r : vRow} (hr : r ∈ vT) {z v : Int} (h0 : 0 ≤ z) (h1 : z < r.2.2.1) : Vs w (jW J (w + r.1) (z.toNat + r.2.1) v) (zU S (r.2.2.2 + z) v) := by
  intro q hq y y0 y1
  rcases vDis_at hr hq with e | ⟨d1, d2⟩
  · subst e
    by_cases ez : y = z
    · subst ez; rw [jW_at, zU_at]
    · rw [jW_of (by omega), zU_ne (by omega)]; exact h r hr y y0 y1
  · rw [zU_ne (by omega)]
    by_cases ea : w + q.1 = w + r.1
    · rw [ea, jW_of (by omega), ← ea]; exact h q hq y y0 y1
    · rw [jW_ne ea]; exact h q hq y y0 y1
theorem vE {w : Nat} {J J2 : Jm} {S : Int → Int} (h : Vs w J S) (e : ∀ b, w ≤ b → b ≤ w + 31 → J2 b = J b) : Vs w J2 S := by
  intro q hq y y0 y1
  rw [e _ (by omega) (by have := (vOff_at hq).1; omega)]; exact h q hq y y0 y1
theorem vN {w : Nat} {J : Jm} {S : Int → Int} {b k : Nat} {v : Int} (h : Vs w J S) (e : b < w ∨ w + 31 < b) : Vs w (jW J b k v) S := vE h (fun c h1 h2 => jW_ne (by omega))
theorem vU {w : Nat} {J : Jm} {S : Int → Int} {z v : Int} (h : Vs w J S) (hz : 2170 ≤ z ∧ z < 2270 ∨ 4351 ≤ z) : Vs w J (zU S z v) := by
  intro q hq y y0 y1
  have := (vOff_at hq).2
  rw [zU_ne (by omega)]; exact h q hq y y0 y1
section ROWS
variable {w : Nat} {J : Jm} {S : Int → Int} {z v : Int}

theorem v_gli (h : Vs w J S) : J (w) 2 = S 0 := h (0, 2, 1, 0) (by decide) 0 (by decide) (by decide)
theorem vW_gli (h : Vs w J S) : Vs w (jW J (w) 2 v) (zU S 0 v) := vW h (r := (0, 2, 1, 0)) (by decide) (z := 0) (by decide) (by decide)
theorem v_tim (h : Vs w J S) : J (w) 3 = S 1 := h (0, 3, 1, 1) (by decide) 0 (by decide) (by decide)
theorem vW_tim (h : Vs w J S) : Vs w (jW J (w) 3 v) (zU S 1 v) := vW h (r := (0, 3, 1, 1)) (by decide) (z := 0) (by decide) (by decide)
theorem v_shi (h : Vs w J S) : J (w) 4 = S 6 := h (0, 4, 1, 6) (by decide) 0 (by decide) (by decide)
theorem vW_shi (h : Vs w J S) : Vs w (jW J (w) 4 v) (zU S 6 v) := vW h (r := (0, 4, 1, 6)) (by decide) (z := 0) (by decide) (by decide)
theorem v_orc (h : Vs w J S) : J (w) 7 = S 4 := h (0, 7, 1, 4) (by decide) 0 (by decide) (by decide)
theorem vW_orc (h : Vs w J S) : Vs w (jW J (w) 7 v) (zU S 4 v) := vW h (r := (0, 7, 1, 4)) (by decide) (z := 0) (by decide) (by decide)
theorem v_let (h : Vs w J S) : J (w + 16) 0 = S 3 := h (16, 0, 1, 3) (by decide) 0 (by decide) (by decide)
theorem vW_let (h : Vs w J S) : Vs w (jW J (w + 16) 0 v) (zU S 3 v) := vW h (r := (16, 0, 1, 3)) (by decide) (z := 0) (by decide) (by decide)
theorem v_rea (h : Vs w J S) : J (w + 21) 0 = S 2 := h (21, 0, 1, 2) (by decide) 0 (by decide) (by decide)
theorem vW_rea (h : Vs w J S) : Vs w (jW J (w + 21) 0 v) (zU S 2 v) := vW h (r := (21, 0, 1, 2)) (by decide) (z := 0) (by decide) (by decide)
theorem v_cle (h : Vs w J S) : J (w + 21) 7 = S 5 := h (21, 7, 1, 5) (by decide) 0 (by decide) (by decide)
theorem vW_cle (h : Vs w J S) : Vs w (jW J (w + 21) 7 v) (zU S 5 v) := vW h (r := (21, 7, 1, 5)) (by decide) (z := 0) (by decide) (by decide)
theorem v_dep (h : Vs w J S) (h0 : 0 ≤ z) (h1 : z < 80) : J (w + 1 + 1) z.toNat = S (10 + z) := h (2, 0, 80, 10) (by decide) z h0 h1
theorem vL_dep (h : Vs w J S) (h0 : 0 ≤ z) (h1 : z < 80) : jL J (w + 1 + 1) 80 z = some (S (10 + z)) := by rw [zL h0 h1, v_dep h h0 h1]
theorem vW_dep (h : Vs w J S) (h0 : 0 ≤ z) (h1 : z < 80) : Vs w (jW J (w + 1 + 1) z.toNat v) (zU S (10 + z) v) := vW h (r := (2, 0, 80, 10)) (by decide) h0 h1
theorem v_lan (h : Vs w J S) (h0 : 0 ≤ z) (h1 : z < 80) : J (w + 1 + 2) z.toNat = S (90 + z) := h (3, 0, 80, 90) (by decide) z h0 h1
theorem vL_lan (h : Vs w J S) (h0 : 0 ≤ z) (h1 : z < 80) : jL J (w + 1 + 2) 80 z = some (S (90 + z)) := by rw [zL h0 h1, v_lan h h0 h1]
theorem vW_lan (h : Vs w J S) (h0 : 0 ≤ z) (h1 : z < 80) : Vs w (jW J (w + 1 + 2) z.toNat v) (zU S (90 + z) v) := vW h (r := (3, 0, 80, 90)) (by decide) h0 h1
theorem v_dou (h : Vs w J S) (h0 : 0 ≤ z) (h1 : z < 80) : J (w + 1 + 3) z.toNat = S (170 + z) := h (4, 0, 80, 170) (by decide) z h0 h1
theorem vL_dou (h : Vs w J S) (h0 : 0 ≤ z) (h1 : z < 80) : jL J (w + 1 + 3) 80 z = some (S (170 + z)) := by rw [zL h0 h1, v_dou h h0 h1]
theorem vW_dou (h : Vs w J S) (h0 : 0 ≤ z) (h1 : z < 80) : Vs w (jW J (w + 1 + 3) z.toNat v) (zU S (170 + z) v) := vW h (r := (4, 0, 80, 170)) (by decide) h0 h1
theorem v_sal (h : Vs w J S) (h0 : 0 ≤ z) (h1 : z < 320) : J (w + 1 + 4) z.toNat = S (1530 + z) := h (5, 0, 320, 1530) (by decide) z h0 h1
theorem vL_sal (h : Vs w J S) (h0 : 0 ≤ z) (h1 : z < 320) : jL J (w + 1 + 4) 320 z = some (S (1530 + z)) := by rw [zL h0 h1, v_sal h h0 h1]
theorem vW_sal (h : Vs w J S) (h0 : 0 ≤ z) (h1 : z < 320) : Vs w (jW J (w + 1 + 4) z.toNat v) (zU S (1530 + z) v) := vW h (r := (5, 0, 320, 1530)) (by decide) h0 h1
theorem v_net (h : Vs w J S) (h0 : 0 ≤ z) (h1 : z < 320) : J (w + 1 + 5) z.toNat = S (1850 + z) := h (6, 0, 320, 1850) (by decide) z h0 h1
theorem vL_net (h : Vs w J S) (h0 : 0 ≤ z) (h1 : z < 320) : jL J (w + 1 + 5) 320 z = some (S (1850 + z)) := by rw [zL h0 h1, v_net h h0 h1]
theorem vW_net (h : Vs w J S) (h0 : 0 ≤ z) (h1 : z < 320) : Vs w (jW J (w + 1 + 5) z.toNat v) (zU S (1850 + z) v) := vW h (r := (6, 0, 320, 1850)) (by decide) h0 h1
theorem v_eas (h : Vs w J S) (h0 : 0 ≤ z) (h1 : z < 320) : J (w + 1 + 6 + 1) z.toNat = S (250 + z) := h (8, 0, 320, 250) (by decide) z h0 h1
theorem vL_eas (h : Vs w J S) (h0 : 0 ≤ z) (h1 : z < 320) : jL J (w + 1 + 6 + 1) 320 z = some (S (250 + z)) := by rw [zL h0 h1, v_eas h h0 h1]
theorem vW_eas (h : Vs w J S) (h0 : 0 ≤ z) (h1 : z < 320) : Vs w (jW J (w + 1 + 6 + 1) z.toNat v) (zU S (250 + z) v) := vW h (r := (8, 0, 320, 250)) (by decide) h0 h1
theorem v_nor (h : Vs w J S) (h0 : 0 ≤ z) (h1 : z < 320) : J (w + 1 + 6 + 2) z.toNat = S (570 + z) := h (9, 0, 320, 570) (by decide) z h0 h1
theorem vL_nor (h : Vs w J S) (h0 : 0 ≤ z) (h1 : z < 320) : jL J (w + 1 + 6 + 2) 320 z = some (S (570 + z)) := by rw [zL h0 h1, v_nor h h0 h1]
theorem vW_nor (h : Vs w J S) (h0 : 0 ≤ z) (h1 : z < 320) : Vs w (jW J (w + 1 + 6 + 2) z.toNat v) (zU S (570 + z) v) := vW h (r := (9, 0, 320, 570)) (by decide) h0 h1
theorem v_mea (h : Vs w J S) (h0 : 0 ≤ z) (h1 : z < 320) : J (w + 1 + 9 + 1) z.toNat = S (890 + z) := h (11, 0, 320, 890) (by decide) z h0 h1
theorem vL_mea (h : Vs w J S) (h0 : 0 ≤ z) (h1 : z < 320) : jL J (w + 1 + 9 + 1) 320 z = some (S (890 + z)) := by rw [zL h0 h1, v_mea h h0 h1]
theorem vW_mea (h : Vs w J S) (h0 : 0 ≤ z) (h1 : z < 320) : Vs w (jW J (w + 1 + 9 + 1) z.toNat v) (zU S (890 + z) v) := vW h (r := (11, 0, 320, 890)) (by decide) h0 h1
theorem v_mno (h : Vs w J S) (h0 : 0 ≤ z) (h1 : z < 320) : J (w + 1 + 9 + 2) z.toNat = S (1210 + z) := h (12, 0, 320, 1210) (by decide) z h0 h1
theorem vL_mno (h : Vs w J S) (h0 : 0 ≤ z) (h1 : z < 320) : jL J (w + 1 + 9 + 2) 320 z = some (S (1210 + z)) := by rw [zL h0 h1, v_mno h h0 h1]
theorem vW_mno (h : Vs w J S) (h0 : 0 ≤ z) (h1 : z < 320) : Vs w (jW J (w + 1 + 9 + 2) z.toNat v) (zU S (1210 + z) v) := vW h (r := (12, 0, 320, 1210)) (by decide) h0 h1
theorem v_dea (h : Vs w J S) (h0 : 0 ≤ z) (h1 : z < 401) : J (w + 14) z.toNat = S (3950 + z) := h (14, 0, 401, 3950) (by decide) z h0 h1
theorem vL_dea (h : Vs w J S) (h0 : 0 ≤ z) (h1 : z < 401) : jL J (w + 14) 401 z = some (S (3950 + z)) := by rw [zL h0 h1, v_dea h h0 h1]
theorem vW_dea (h : Vs w J S) (h0 : 0 ≤ z) (h1 : z < 401) : Vs w (jW J (w + 14) z.toNat v) (zU S (3950 + z) v) := vW h (r := (14, 0, 401, 3950)) (by decide) h0 h1
theorem v_lto (h : Vs w J S) (h0 : 0 ≤ z) (h1 : z < 60) : J (w + 16 + 1) z.toNat = S (3710 + z) := h (17, 0, 60, 3710) (by decide) z h0 h1
theorem vL_lto (h : Vs w J S) (h0 : 0 ≤ z) (h1 : z < 60) : jL J (w + 16 + 1) 60 z = some (S (3710 + z)) := by rw [zL h0 h1, v_lto h h0 h1]
theorem vW_lto (h : Vs w J S) (h0 : 0 ≤ z) (h1 : z < 60) : Vs w (jW J (w + 16 + 1) z.toNat v) (zU S (3710 + z) v) := vW h (r := (17, 0, 60, 3710)) (by decide) h0 h1
theorem v_lor (h : Vs w J S) (h0 : 0 ≤ z) (h1 : z < 60) : J (w + 16 + 2) z.toNat = S (3770 + z) := h (18, 0, 60, 3770) (by decide) z h0 h1
theorem vL_lor (h : Vs w J S) (h0 : 0 ≤ z) (h1 : z < 60) : jL J (w + 16 + 2) 60 z = some (S (3770 + z)) := by rw [zL h0 h1, v_lor h h0 h1]
theorem vW_lor (h : Vs w J S) (h0 : 0 ≤ z) (h1 : z < 60) : Vs w (jW J (w + 16 + 2) z.toNat v) (zU S (3770 + z) v) := vW h (r := (18, 0, 60, 3770)) (by decide) h0 h1
theorem v_lse (h : Vs w J S) (h0 : 0 ≤ z) (h1 : z < 60) : J (w + 16 + 3) z.toNat = S (3830 + z) := h (19, 0, 60, 3830) (by decide) z h0 h1
theorem vL_lse (h : Vs w J S) (h0 : 0 ≤ z) (h1 : z < 60) : jL J (w + 16 + 3) 60 z = some (S (3830 + z)) := by rw [zL h0 h1, v_lse h h0 h1]
theorem vW_lse (h : Vs w J S) (h0 : 0 ≤ z) (h1 : z < 60) : Vs w (jW J (w + 16 + 3) z.toNat v) (zU S (3830 + z) v) := vW h (r := (19, 0, 60, 3830)) (by decide) h0 h1
theorem v_lhe (h : Vs w J S) (h0 : 0 ≤ z) (h1 : z < 60) : J (w + 16 + 4) z.toNat = S (3890 + z) := h (20, 0, 60, 3890) (by decide) z h0 h1
theorem vL_lhe (h : Vs w J S) (h0 : 0 ≤ z) (h1 : z < 60) : jL J (w + 16 + 4) 60 z = some (S (3890 + z)) := by rw [zL h0 h1, v_lhe h h0 h1]
theorem vW_lhe (h : Vs w J S) (h0 : 0 ≤ z) (h1 : z < 60) : Vs w (jW J (w + 16 + 4) z.toNat v) (zU S (3890 + z) v) := vW h (r := (20, 0, 60, 3890)) (by decide) h0 h1
theorem v_rby (h : Vs w J S) (h0 : 0 ≤ z) (h1 : z < 200) : J (w + 21 + 1) z.toNat = S (2270 + z) := h (22, 0, 200, 2270) (by decide) z h0 h1
theorem vL_rby (h : Vs w J S) (h0 : 0 ≤ z) (h1 : z < 200) : jL J (w + 21 + 1) 200 z = some (S (2270 + z)) := by rw [zL h0 h1, v_rby h h0 h1]
theorem vW_rby (h : Vs w J S) (h0 : 0 ≤ z) (h1 : z < 200) : Vs w (jW J (w + 21 + 1) z.toNat v) (zU S (2270 + z) v) := vW h (r := (22, 0, 200, 2270)) (by decide) h0 h1
theorem v_rti (h : Vs w J S) (h0 : 0 ≤ z) (h1 : z < 200) : J (w + 21 + 2) z.toNat = S (2470 + z) := h (23, 0, 200, 2470) (by decide) z h0 h1
theorem vL_rti (h : Vs w J S) (h0 : 0 ≤ z) (h1 : z < 200) : jL J (w + 21 + 2) 200 z = some (S (2470 + z)) := by rw [zL h0 h1, v_rti h h0 h1]
theorem vW_rti (h : Vs w J S) (h0 : 0 ≤ z) (h1 : z < 200) : Vs w (jW J (w + 21 + 2) z.toNat v) (zU S (2470 + z) v) := vW h (r := (23, 0, 200, 2470)) (by decide) h0 h1
theorem v_rce (h : Vs w J S) (h0 : 0 ≤ z) (h1 : z < 200) : J (w + 21 + 3) z.toNat = S (2670 + z) := h (24, 0, 200, 2670) (by decide) z h0 h1
theorem vL_rce (h : Vs w J S) (h0 : 0 ≤ z) (h1 : z < 200) : jL J (w + 21 + 3) 200 z = some (S (2670 + z)) := by rw [zL h0 h1, v_rce h h0 h1]
theorem vW_rce (h : Vs w J S) (h0 : 0 ≤ z) (h1 : z < 200) : Vs w (jW J (w + 21 + 3) z.toNat v) (zU S (2670 + z) v) := vW h (r := (24, 0, 200, 2670)) (by decide) h0 h1
theorem v_rla (h : Vs w J S) (h0 : 0 ≤ z) (h1 : z < 200) : J (w + 21 + 4) z.toNat = S (2870 + z) := h (25, 0, 200, 2870) (by decide) z h0 h1
theorem vL_rla (h : Vs w J S) (h0 : 0 ≤ z) (h1 : z < 200) : jL J (w + 21 + 4) 200 z = some (S (2870 + z)) := by rw [zL h0 h1, v_rla h h0 h1]
theorem vW_rla (h : Vs w J S) (h0 : 0 ≤ z) (h1 : z < 200) : Vs w (jW J (w + 21 + 4) z.toNat v) (zU S (2870 + z) v) := vW h (r := (25, 0, 200, 2870)) (by decide) h0 h1
theorem v_rfo (h : Vs w J S) (h0 : 0 ≤ z) (h1 : z < 200) : J (w + 21 + 5) z.toNat = S (3070 + z) := h (26, 0, 200, 3070) (by decide) z h0 h1
theorem vL_rfo (h : Vs w J S) (h0 : 0 ≤ z) (h1 : z < 200) : jL J (w + 21 + 5) 200 z = some (S (3070 + z)) := by rw [zL h0 h1, v_rfo h h0 h1]
theorem vW_rfo (h : Vs w J S) (h0 : 0 ≤ z) (h1 : z < 200) : Vs w (jW J (w + 21 + 5) z.toNat v) (zU S (3070 + z) v) := vW h (r := (26, 0, 200, 3070)) (by decide) h0 h1
theorem v_rsh (h : Vs w J S) (h0 : 0 ≤ z) (h1 : z < 200) : J (w + 21 + 6) z.toNat = S (3270 + z) := h (27, 0, 200, 3270) (by decide) z h0 h1
theorem vL_rsh (h : Vs w J S) (h0 : 0 ≤ z) (h1 : z < 200) : jL J (w + 21 + 6) 200 z = some (S (3270 + z)) := by rw [zL h0 h1, v_rsh h h0 h1]
theorem vW_rsh (h : Vs w J S) (h0 : 0 ≤ z) (h1 : z < 200) : Vs w (jW J (w + 21 + 6) z.toNat v) (zU S (3270 + z) v) := vW h (r := (27, 0, 200, 3270)) (by decide) h0 h1
theorem v_cof (h : Vs w J S) (h0 : 0 ≤ z) (h1 : z < 60) : J (w + 21 + 7) z.toNat = S (3470 + z) := h (28, 0, 60, 3470) (by decide) z h0 h1
theorem vL_cof (h : Vs w J S) (h0 : 0 ≤ z) (h1 : z < 60) : jL J (w + 21 + 7) 60 z = some (S (3470 + z)) := by rw [zL h0 h1, v_cof h h0 h1]
theorem vW_cof (h : Vs w J S) (h0 : 0 ≤ z) (h1 : z < 60) : Vs w (jW J (w + 21 + 7) z.toNat v) (zU S (3470 + z) v) := vW h (r := (28, 0, 60, 3470)) (by decide) h0 h1
theorem v_ctm (h : Vs w J S) (h0 : 0 ≤ z) (h1 : z < 60) : J (w + 21 + 8) z.toNat = S (3530 + z) := h (29, 0, 60, 3530) (by decide) z h0 h1
theorem vL_ctm (h : Vs w J S) (h0 : 0 ≤ z) (h1 : z < 60) : jL J (w + 21 + 8) 60 z = some (S (3530 + z)) := by rw [zL h0 h1, v_ctm h h0 h1]
theorem vW_ctm (h : Vs w J S) (h0 : 0 ≤ z) (h1 : z < 60) : Vs w (jW J (w + 21 + 8) z.toNat v) (zU S (3530 + z) v) := vW h (r := (29, 0, 60, 3530)) (by decide) h0 h1
theorem v_cfo (h : Vs w J S) (h0 : 0 ≤ z) (h1 : z < 60) : J (w + 21 + 9) z.toNat = S (3590 + z) := h (30, 0, 60, 3590) (by decide) z h0 h1
theorem vL_cfo (h : Vs w J S) (h0 : 0 ≤ z) (h1 : z < 60) : jL J (w + 21 + 9) 60 z = some (S (3590 + z)) := by rw [zL h0 h1, v_cfo h h0 h1]
theorem vW_cfo (h : Vs w J S) (h0 : 0 ≤ z) (h1 : z < 60) : Vs w (jW J (w + 21 + 9) z.toNat v) (zU S (3590 + z) v) := vW h (r := (30, 0, 60, 3590)) (by decide) h0 h1
theorem v_cat (h : Vs w J S) (h0 : 0 ≤ z) (h1 : z < 60) : J (w + 21 + 10) z.toNat = S (3650 + z) := h (31, 0, 60, 3650) (by decide) z h0 h1
theorem vL_cat (h : Vs w J S) (h0 : 0 ≤ z) (h1 : z < 60) : jL J (w + 21 + 10) 60 z = some (S (3650 + z)) := by rw [zL h0 h1, v_cat h h0 h1]
theorem vW_cat (h : Vs w J S) (h0 : 0 ≤ z) (h1 : z < 60) : Vs w (jW J (w + 21 + 10) z.toNat v) (zU S (3650 + z) v) := vW h (r := (31, 0, 60, 3650)) (by decide) h0 h1
end ROWS
/-- a GLIDER's object at a is the reference's g-th -/
def Gv (J : Jm) (a : Nat) (g : Int) (S : Int → Int) : Prop :=
  J a 0 = S (2170 + g) ∧ J a 2 = S (2194 + g) ∧ J a 3 = S (2202 + g) ∧ J a 4 = S (2210 + g) ∧ J a 5 = S (2218 + g) ∧ J a 6 = S (2226 + g) ∧ J a 7 = S (2234 + g) ∧ J a 8 = S (2242 + g) ∧ J a 1 = 8 * S (2178 + g) + S (2186 + g) ∧ (J a 10 = 0 ∨ J a 10 = 1) ∧ 0 ≤ J a 9 ∧ (J a 10 = 0 → J a 9 = 0) ∧ S (2250 + g) = (if J a 10 = 0 then -4 else J a 9) ∧
  ∀ t : Int, 0 ≤ t → t < 400 → (J (a + 1) t.toNat = -4 ∧ S (4351 + (401 * g + t)) = -1) ∨ (0 ≤ J (a + 1) t.toNat ∧ S (4351 + (401 * g + t)) = J (a + 1) t.toNat)
section GLI
variable {J : Jm} {a : Nat} {g v : Int} {S : Int → Int}
theorem g_kind (h : Gv J a g S) : J a 0 = S (2170 + g) := h.1
theorem g_pow (h : Gv J a g S) : J a 2 = S (2194 + g) := h.2.1
theorem g_sta (h : Gv J a g S) : J a 3 = S (2202 + g) := h.2.2.1
theorem g_lea (h : Gv J a g S) : J a 4 = S (2210 + g) := h.2.2.2.1
theorem g_fou (h : Gv J a g S) : J a 5 = S (2218 + g) := h.2.2.2.2.1
theorem g_ord (h : Gv J a g S) : J a 6 = S (2226 + g) := h.2.2.2.2.2.1
theorem g_hea (h : Gv J a g S) : J a 7 = S (2234 + g) := h.2.2.2.2.2.2.1
theorem g_div (h : Gv J a g S) : J a 8 = S (2242 + g) := h.2.2.2.2.2.2.2.1
theorem g_cell (h : Gv J a g S) : J a 1 = 8 * S (2178 + g) + S (2186 + g) := h.2.2.2.2.2.2.2.2.1
theorem g_m01 (h : Gv J a g S) : J a 10 = 0 ∨ J a 10 = 1 := h.2.2.2.2.2.2.2.2.2.1
theorem g_l0 (h : Gv J a g S) : 0 ≤ J a 9 := h.2.2.2.2.2.2.2.2.2.2.1
theorem g_lm (h : Gv J a g S) : J a 10 = 0 → J a 9 = 0 := h.2.2.2.2.2.2.2.2.2.2.2.1
theorem g_sho (h : Gv J a g S) : S (2250 + g) = (if J a 10 = 0 then -4 else J a 9) := h.2.2.2.2.2.2.2.2.2.2.2.2.1
theorem g_fix (h : Gv J a g S) {t : Int} (h0 : 0 ≤ t) (h1 : t < 400) : (J (a + 1) t.toNat = -4 ∧ S (4351 + (401 * g + t)) = -1) ∨ (0 ≤ J (a + 1) t.toNat ∧ S (4351 + (401 * g + t)) = J (a + 1) t.toNat) := h.2.2.2.2.2.2.2.2.2.2.2.2.2 t h0 h1
theorem gE {J2 : Jm} (h : Gv J a g S) (e1 : J2 a = J a) (e2 : J2 (a + 1) = J (a + 1)) : Gv J2 a g S := by
  unfold Gv
  rw [e1, e2]; exact h
/-- a place of S that no GLIDER g reads -/
def gOut (g z : Int) : Prop := (∀ b : Int, b ∈ ([2170, 2178, 2186, 2194, 2202, 2210, 2218, 2226, 2234, 2242, 2250] : List Int) → z ≠ b + g) ∧ (z < 4351 + 401 * g ∨ 4351 + 401 * g + 400 ≤ z)
theorem gU (h : Gv J a g S) {z : Int} (hz : gOut g z) : Gv J a g (zU S z v) := by
  obtain ⟨hz, hf⟩ := hz
  unfold Gv
  have e : ∀ b : Int, b ∈ ([2170, 2178, 2186, 2194, 2202, 2210, 2218, 2226, 2234, 2242, 2250] : List Int) → zU S z v (b + g) = S (b + g) := fun b hb => zU_ne (Ne.symm (hz b hb))
  rw [e 2170 (by decide), e 2178 (by decide), e 2186 (by decide), e 2194 (by decide), e 2202 (by decide), e 2210 (by decide), e 2218 (by decide), e 2226 (by decide), e 2234 (by decide), e 2242 (by decide), e 2250 (by decide)]
  refine ⟨g_kind h, g_pow h, g_sta h, g_lea h, g_fou h, g_ord h, g_hea h, g_div h, g_cell h, g_m01 h, g_l0 h, g_lm h, g_sho h, ?_⟩
  intro t t0 t1
  rw [zU_ne (by omega)]
  exact g_fix h t0 t1
theorem gOut_lo {g z : Int} (hg : 0 ≤ g ∧ g < 8) (h : z < 2170 ∨ 2258 ≤ z ∧ z < 4351 ∨ 7559 ≤ z) : gOut g z := by
  refine ⟨fun b hb => ?_, by omega⟩
  simp only [List.mem_cons, List.not_mem_nil, or_false] at hb
  omega
theorem gOut_at {g d z b : Int} (hg : 0 ≤ g ∧ g < 8) (hd : 0 ≤ d ∧ d < 8) (hgd : g ≠ d) (hb : b ∈ ([2170, 2178, 2186, 2194, 2202, 2210, 2218, 2226, 2234, 2242, 2250] : List Int)) (hz : z = b + d) : gOut g z := by
  simp only [List.mem_cons, List.not_mem_nil, or_false] at hb
  refine ⟨fun c hc => ?_, by omega⟩
  simp only [List.mem_cons, List.not_mem_nil, or_false] at hc
  omega
theorem gOut_fix {g d z t : Int} (hg : 0 ≤ g ∧ g < 8) (hd : 0 ≤ d ∧ d < 8) (hgd : g ≠ d) (ht : 0 ≤ t ∧ t < 401) (hz : z = 4351 + (401 * d + t)) : gOut g z := by
  refine ⟨fun c hc => ?_, by omega⟩
  simp only [List.mem_cons, List.not_mem_nil, or_false] at hc
  omega
theorem gW_kind (hg : 0 ≤ g ∧ g < 8) (h : Gv J a g S) : Gv (jW J a 0 v) a g (zU S (2170 + g) v) := by
  unfold Gv
  simp (disch := omega) only [jW_at, jW_of, jW_ne, zU_at, zU_ne]
  refine ⟨trivial, g_pow h, g_sta h, g_lea h, g_fou h, g_ord h, g_hea h, g_div h, g_cell h, g_m01 h, g_l0 h, g_lm h, g_sho h, ?_⟩
  intro t t0 t1
  rw [zU_ne (by omega)]
  exact g_fix h t0 t1
theorem gW_pow (hg : 0 ≤ g ∧ g < 8) (h : Gv J a g S) : Gv (jW J a 2 v) a g (zU S (2194 + g) v) := by
  unfold Gv
  simp (disch := omega) only [jW_at, jW_of, jW_ne, zU_at, zU_ne]
  refine ⟨g_kind h, trivial, g_sta h, g_lea h, g_fou h, g_ord h, g_hea h, g_div h, g_cell h, g_m01 h, g_l0 h, g_lm h, g_sho h, ?_⟩
  intro t t0 t1
  rw [zU_ne (by omega)]
  exact g_fix h t0 t1
theorem gW_sta (hg : 0 ≤ g ∧ g < 8) (h : Gv J a g S) : Gv (jW J a 3 v) a g (zU S (2202 + g) v) := by
  unfold Gv
  simp (disch := omega) only [jW_at, jW_of, jW_ne, zU_at, zU_ne]
  refine ⟨g_kind h, g_pow h, trivial, g_lea h, g_fou h, g_ord h, g_hea h, g_div h, g_cell h, g_m01 h, g_l0 h, g_lm h, g_sho h, ?_⟩
  intro t t0 t1
  rw [zU_ne (by omega)]
  exact g_fix h t0 t1
theorem gW_lea (hg : 0 ≤ g ∧ g < 8) (h : Gv J a g S) : Gv (jW J a 4 v) a g (zU S (2210 + g) v) := by
  unfold Gv
  simp (disch := omega) only [jW_at, jW_of, jW_ne, zU_at, zU_ne]
  refine ⟨g_kind h, g_pow h, g_sta h, trivial, g_fou h, g_ord h, g_hea h, g_div h, g_cell h, g_m01 h, g_l0 h, g_lm h, g_sho h, ?_⟩
  intro t t0 t1
  rw [zU_ne (by omega)]
  exact g_fix h t0 t1
theorem gW_fou (hg : 0 ≤ g ∧ g < 8) (h : Gv J a g S) : Gv (jW J a 5 v) a g (zU S (2218 + g) v) := by
  unfold Gv
  simp (disch := omega) only [jW_at, jW_of, jW_ne, zU_at, zU_ne]
  refine ⟨g_kind h, g_pow h, g_sta h, g_lea h, trivial, g_ord h, g_hea h, g_div h, g_cell h, g_m01 h, g_l0 h, g_lm h, g_sho h, ?_⟩
  intro t t0 t1
  rw [zU_ne (by omega)]
  exact g_fix h t0 t1
theorem gW_ord (hg : 0 ≤ g ∧ g < 8) (h : Gv J a g S) : Gv (jW J a 6 v) a g (zU S (2226 + g) v) := by
  unfold Gv
  simp (disch := omega) only [jW_at, jW_of, jW_ne, zU_at, zU_ne]
  refine ⟨g_kind h, g_pow h, g_sta h, g_lea h, g_fou h, trivial, g_hea h, g_div h, g_cell h, g_m01 h, g_l0 h, g_lm h, g_sho h, ?_⟩
  intro t t0 t1
  rw [zU_ne (by omega)]
  exact g_fix h t0 t1
theorem gW_hea (hg : 0 ≤ g ∧ g < 8) (h : Gv J a g S) : Gv (jW J a 7 v) a g (zU S (2234 + g) v) := by
  unfold Gv
  simp (disch := omega) only [jW_at, jW_of, jW_ne, zU_at, zU_ne]
  refine ⟨g_kind h, g_pow h, g_sta h, g_lea h, g_fou h, g_ord h, trivial, g_div h, g_cell h, g_m01 h, g_l0 h, g_lm h, g_sho h, ?_⟩
  intro t t0 t1
  rw [zU_ne (by omega)]
  exact g_fix h t0 t1
theorem gW_div (hg : 0 ≤ g ∧ g < 8) (h : Gv J a g S) : Gv (jW J a 8 v) a g (zU S (2242 + g) v) := by
  unfold Gv
  simp (disch := omega) only [jW_at, jW_of, jW_ne, zU_at, zU_ne]
  refine ⟨g_kind h, g_pow h, g_sta h, g_lea h, g_fou h, g_ord h, g_hea h, trivial, g_cell h, g_m01 h, g_l0 h, g_lm h, g_sho h, ?_⟩
  intro t t0 t1
  rw [zU_ne (by omega)]
  exact g_fix h t0 t1
theorem gW_cell {X Y : Int} (hg : 0 ≤ g ∧ g < 8) (h : Gv J a g S) (hv : v = 8 * X + Y) : Gv (jW J a 1 v) a g (zU (zU S (2178 + g) X) (2186 + g) Y) := by
  unfold Gv
  simp (disch := omega) only [jW_at, jW_of, jW_ne, zU_at, zU_ne]
  refine ⟨g_kind h, g_pow h, g_sta h, g_lea h, g_fou h, g_ord h, g_hea h, g_div h, hv, g_m01 h, g_l0 h, g_lm h, g_sho h, ?_⟩
  intro t t0 t1
  rw [zU_ne (by omega), zU_ne (by omega)]
  exact g_fix h t0 t1
theorem gW_sho (hg : 0 ≤ g ∧ g < 8) (h : Gv J a g S) (hv : 0 ≤ v) : Gv (jW (jW J a 9 v) a 10 1) a g (zU S (2250 + g) v) := by
  unfold Gv
  simp (disch := omega) only [jW_at, jW_of, jW_ne, zU_at, zU_ne]
  refine ⟨g_kind h, g_pow h, g_sta h, g_lea h, g_fou h, g_ord h, g_hea h, g_div h, g_cell h, Or.inr trivial, hv, fun q => absurd q (by decide), ?_, ?_⟩
  · rw [if_neg (by decide)]
  · intro t t0 t1
    rw [zU_ne (by omega)]
    exact g_fix h t0 t1
theorem gW_fix {t : Int} (hg : 0 ≤ g ∧ g < 8) (ht : 0 ≤ t ∧ t < 400) (h : Gv J a g S) (hv : 0 ≤ v) : Gv (jW J (a + 1) t.toNat v) a g (zU S (4351 + (401 * g + t)) v) := by
  unfold Gv
  simp (disch := omega) only [jW_ne, zU_ne]
  refine ⟨g_kind h, g_pow h, g_sta h, g_lea h, g_fou h, g_ord h, g_hea h, g_div h, g_cell h, g_m01 h, g_l0 h, g_lm h, g_sho h, ?_⟩
  intro y y0 y1
  by_cases e : y = t
  · subst e
    rw [jW_at, zU_at]
    exact Or.inr ⟨hv, rfl⟩
  · rw [jW_of (by omega), zU_ne (by omega)]
    exact g_fix h y0 y1
end GLI
