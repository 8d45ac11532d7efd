/-! THE ENDS THAT THE CLASS LISTS -/
abbrev vh (h : Nat) : Prop := (if 4 ≤ h / 9 then h / 9 - 4 else 4 - h / 9) + (if 4 ≤ h % 9 then h % 9 - 4 else 4 - h % 9) ≤ 4
def cnt : Nat → Nat
  | 0 => 0
  | j + 1 => cnt j + (if vh j then 1 else 0)
theorem cnt_m (j : Nat) : ∀ n : Nat, cnt j ≤ cnt (j + n)
  | 0 => Nat.le_refl _
  | n + 1 => Nat.le_trans (cnt_m j n) (Nat.le_add_right _ _)
theorem ddl_c {e : Int → Int} (he : ∀ h : Nat, 0 ≤ e (h : Int) → vh h) : ∀ j : Nat, (ddl e j).length ≤ cnt j
  | 0 => Nat.le_refl _
  | j + 1 => by
    have ih := ddl_c he j
    unfold ddl cnt
    split
    · rename_i k
      rw [if_pos (he j k.1), List.length_append, List.length_singleton]; omega
    · omega
theorem ddl_41 {e : Int → Int} (he : ∀ h : Nat, 0 ≤ e (h : Int) → vh h) {j : Nat} (hj : j < 81) (hp : 0 ≤ e (j : Int)) : (ddl e j).length < 41 := by
  have a := ddl_c he j
  have b := cnt_m (j + 1) (80 - j)
  rw [show j + 1 + (80 - j) = 81 by omega, show cnt 81 = 41 by decide] at b
  have c : cnt (j + 1) = cnt j + (if vh j then 1 else 0) := rfl
  rw [if_pos (he j hp)] at c
  omega
theorem ddl_sk {e : Int → Int} (a : Nat) : ∀ n : Nat, (∀ i : Nat, a ≤ i → i < a + n → ¬ 0 ≤ e (i : Int)) → ddl e (a + n) = ddl e a
  | 0, _ => rfl
  | n + 1, h => by
    have ih := ddl_sk (e := e) a n (fun i h1 h2 => h i h1 (by omega))
    have ed : ddl e (a + (n + 1)) = if 0 ≤ e ((a + n : Nat) : Int) ∧ ∀ h ∈ ddl e (a + n), e (h : Int) ≠ e ((a + n : Nat) : Int) then ddl e (a + n) ++ [a + n] else ddl e (a + n) := rfl
    rw [ed, if_neg (fun q => h (a + n) (by omega) (by omega) q.1)]
    exact ih
section LENDS
variable {E : Em} {x w m pl : Nat} {J J1 J2 : Jm} {S : Int → Int} {c n d g p s v q f : Int} {C : Cv} {e : Int → Int} {D : Int → Int} {k h : Nat} {L : List Nat}
theorem en_no (hz : ¬ hdg (S (2170 + g)) ((h : Int) / 9 - 4) ((h : Int) % 9 - 4)) : ¬ 0 ≤ enS S d g (h : Int) := by
  unfold enS; rw [if_neg hz]; decide
theorem en_vh (h : Nat) (hp : 0 ≤ enS S d g (h : Int)) : vh h := by
  have hz : hdg (S (2170 + g)) ((h : Int) / 9 - 4) ((h : Int) % 9 - 4) := Classical.byContradiction (fun q => en_no q hp)
  have := zgk_r (S (2170 + g))
  unfold hdg at hz
  unfold vh
  split at hz <;> split at hz <;> split <;> split <;> omega
/-- the ends of level k as the class lists them -/
def Lst (J : Jm) (pl k : Nat) (e : Int → Int) (D : Int → Int) (L : List Nat) : Prop := J (pl + 2) k = (L.length : Int) ∧ ∀ i h : Nat, L[i]? = some h → J (pl + 3) (41 * k + i) = e (h : Int) ∧ J (pl + 4) (41 * k + i) = 20 * ((h : Int) / 9 + 6) + ((h : Int) % 9 + 6) ∧ J (pl + 5) (41 * k + i) = gnD D czero (e (h : Int))
def Ae (pl k : Nat) (J J2 : Jm) : Prop := (∀ b, (b < pl + 2 ∨ pl + 5 < b) → J2 b = J b) ∧ (∀ i, i ≠ k → J2 (pl + 2) i = J (pl + 2) i) ∧ ∀ i, i < 41 * k → J2 (pl + 3) i = J (pl + 3) i ∧ J2 (pl + 4) i = J (pl + 4) i ∧ J2 (pl + 5) i = J (pl + 5) i
theorem Ae.r : Ae pl k J J := ⟨fun _ _ => rfl, fun _ _ => rfl, fun _ _ => ⟨rfl, rfl, rfl⟩⟩
theorem Ae.tt (h1 : Ae pl k J J1) (h2 : Ae pl k J1 J2) : Ae pl k J J2 := ⟨fun b hb => (h2.1 b hb).trans (h1.1 b hb), fun i hi => (h2.2.1 i hi).trans (h1.2.1 i hi), fun i hi => ⟨(h2.2.2 i hi).1.trans (h1.2.2 i hi).1, (h2.2.2 i hi).2.1.trans (h1.2.2 i hi).2.1, (h2.2.2 i hi).2.2.trans (h1.2.2 i hi).2.2⟩⟩
theorem Lst.ae {k2 : Nat} (h : Lst J pl k e D L) (ha : Ae pl k2 J J2) (hk : k < k2) (hl : L.length ≤ 41) : Lst J2 pl k e D L := by
  refine ⟨by rw [ha.2.1 k (by omega)]; exact h.1, fun i x hx => ?_⟩
  have := lt_sm hx
  obtain ⟨a1, a2, a3⟩ := ha.2.2 (41 * k + i) (by omega)
  rw [a1, a2, a3]; exact h.2 i x hx
theorem c_addL (K : Jm → Option Jm) (code : Int) {len : Nat} (hk : k < 3) (hl : len ≤ 41) : ∀ (t fu i : Nat), len = i + t → t < fu → (H_X5_addEnd_L21 K E pl (k : Int) p code ((41 * k + len : Nat) : Int) fu ((41 * k + i : Nat) : Int) J = some J ∧ ∃ j, j < len ∧ J (pl + 3) (41 * k + j) = p) ∨ (H_X5_addEnd_L21 K E pl (k : Int) p code ((41 * k + len : Nat) : Int) fu ((41 * k + i : Nat) : Int) J = K J ∧ ∀ j, i ≤ j → j < len → J (pl + 3) (41 * k + j) ≠ p)
  | 0, fu, i, h1, h2 => by
    obtain ⟨fu, rfl⟩ := nx h2
    rw [H_X5_addEnd_L21, if_pos (by omega)]
    exact Or.inr ⟨rfl, fun j h3 h4 => by omega⟩
  | t + 1, fu, i, h1, h2 => by
    obtain ⟨fu, rfl⟩ := nx h2
    rw [H_X5_addEnd_L21, if_neg (by omega), q_jL (by omega), Option.bind_some, wr_id (z := ((41 * k + i : Nat) : Int) + 1) (by omega), show ((41 * k + i : Nat) : Int) + 1 = ((41 * k + (i + 1) : Nat) : Int) by omega]
    by_cases hz : J (pl + 3) (41 * k + i) = p
    · rw [if_pos hz]
      exact Or.inl ⟨rfl, i, by omega, hz⟩
    · rw [if_neg hz]
      rcases c_addL K code hk hl t fu (i + 1) (by omega) (by omega) with ⟨a, b⟩ | ⟨a, b⟩
      · exact Or.inl ⟨a, b⟩
      · refine Or.inr ⟨a, fun j h3 h4 => ?_⟩
        by_cases e : j = i
        · rw [e]; exact hz
        · exact b j (by omega) h4
def Ak (E : Em) (pl : Nat) (k X p code : Int) (J10 : Jm) : Option Jm :=
  (jL J10 (pl + 2) 3 k).bind fun zv12 =>
  if 41 ≤ zv12 then
    some J10
  else
    (jS J10 (pl + 3) 123 X p).bind fun J16 =>
    (jS J16 (pl + 4) 123 X code).bind fun J19 =>
    (H_X5_gainBy E pl p J19).bind fun zv24 =>
    (jS J19 (pl + 5) 123 X zv24).bind fun J25 =>
    (jL J25 (pl + 2) 3 k).bind fun zv28 =>
    (jS J25 (pl + 2) 3 k (wr (zv28 + 1))).bind fun J30 =>
    some J30
theorem c_addEnd (hpl : w + 32 < pl) (hV : Vs w J S) (hi : Inv S) (h1 : E.2.1 pl 1 = some (w + 1)) (hC : Cm J (pl + 7) czero) (hk : k < 3) (he : ∀ h : Nat, 0 ≤ e (h : Int) → vh h) (hL : Lst J pl k e (dS S) (ddl e h)) (hh : h < 81) (hp : 0 ≤ e (h : Int) ∧ e (h : Int) < 80) : ∃ J2, H_X5_addEnd E pl (k : Int) (e (h : Int)) (20 * ((h : Int) / 9 + 6) + ((h : Int) % 9 + 6)) J = some J2 ∧ Lst J2 pl k e (dS S) (ddl e (h + 1)) ∧ Ae pl k J J2 := by
  have hl := ddl_41 he hh hp.1
  unfold H_X5_addEnd
  have ed : ddl e (h + 1) = if 0 ≤ e (h : Int) ∧ ∀ i ∈ ddl e h, e (i : Int) ≠ e (h : Int) then ddl e h ++ [h] else ddl e h := rfl
  rw [q_jL (by omega), Option.bind_some, hL.1, ed]
  generalize ddl e h = L at *
  rw [show wr (wr ((k : Int) * 41) + (L.length : Int)) = ((41 * k + L.length : Nat) : Int) by rw [wr_id (z := (k : Int) * 41) (by omega), wr_id (by omega)]; omega, show wr ((k : Int) * 41) = ((41 * k + 0 : Nat) : Int) by rw [wr_id (by omega)]; omega]
  rcases c_addL (E := E) (pl := pl) (J := J) (p := e (h : Int)) (Ak E pl (k : Int) ((41 * k + L.length : Nat) : Int) (e (h : Int)) (20 * ((h : Int) / 9 + 6) + ((h : Int) % 9 + 6))) (20 * ((h : Int) / 9 + 6) + ((h : Int) % 9 + 6)) hk (Nat.le_of_lt hl) L.length 1000000 0 (by omega) (by omega) with ⟨a, j, b1, b2⟩ | ⟨a, b⟩
  · rw [if_neg]
    · exact ⟨J, a, hL, Ae.r⟩
    · rintro ⟨-, q⟩
      have hj : L[j]? = some L[j] := List.getElem?_eq_getElem b1
      exact q L[j] (List.getElem_mem b1) ((hL.2 j _ hj).1.symm.trans b2)
  · rw [if_pos]
    · have hx : ((41 * k + L.length : Nat) : Int).toNat = 41 * k + L.length := by omega
      have hkk : ((k : Nat) : Int).toNat = k := by omega
      have key : ∃ J2, Ak E pl (k : Int) ((41 * k + L.length : Nat) : Int) (e (h : Int)) (20 * ((h : Int) / 9 + 6) + ((h : Int) % 9 + 6)) J = some J2 ∧ Lst J2 pl k e (dS S) (L ++ [h]) ∧ Ae pl k J J2 := by
        unfold Ak
        rw [q_jL (by omega), Option.bind_some, hL.1, if_neg (by omega), zS (by omega) (by omega), Option.bind_some, zS (by omega) (by omega), Option.bind_some, hx, c_gainBy (vN (vN hV (by omega)) (by omega)) hi h1 ((hC.o (jW_ne (by omega))).o (jW_ne (by omega))) (fun c => (show (0 : Int) ≤ 0 ∧ (0 : Int) ≤ 99 by decide)) hp, Option.bind_some, zS (by omega) (by omega), Option.bind_some, q_jL (by omega), Option.bind_some, hx, jW_ne (by omega), jW_ne (by omega), jW_ne (by omega), hL.1, wr_id (by omega), zS (by omega) (by omega), Option.bind_some, hkk]
        refine ⟨_, rfl, ⟨?_, fun i y hy => ?_⟩, fun b hb => ?_, fun i hi => ?_, fun i hi => ?_⟩
        · rw [jW_at, List.length_append, List.length_singleton]; omega
        · rcases sg_sm hy with ⟨a1, a2⟩ | ⟨a1, a2⟩
          · rw [jW_ne (by omega), jW_ne (by omega), jW_ne (by omega), jW_of (by omega), jW_ne (by omega), jW_ne (by omega), jW_of (by omega), jW_ne (by omega), jW_ne (by omega), jW_of (by omega), jW_ne (by omega), jW_ne (by omega)]
            exact hL.2 i y a2
          · rw [a1, a2, jW_ne (by omega), jW_ne (by omega), jW_ne (by omega), jW_at, jW_ne (by omega), jW_ne (by omega), jW_at, jW_ne (by omega), jW_at]
            exact ⟨rfl, rfl, rfl⟩
        · rw [jW_ne (by omega), jW_ne (by omega), jW_ne (by omega), jW_ne (by omega)]
        · rw [jW_of (by omega), jW_ne (by omega), jW_ne (by omega), jW_ne (by omega)]
        · rw [jW_ne (by omega), jW_ne (by omega), jW_ne (by omega), jW_of (by omega), jW_ne (by omega), jW_ne (by omega), jW_of (by omega), jW_ne (by omega), jW_ne (by omega), jW_of (by omega), jW_ne (by omega), jW_ne (by omega)]
          exact ⟨rfl, rfl, rfl⟩
      obtain ⟨J2, f1, f2, f3⟩ := key
      exact ⟨J2, a.trans f1, f2, f3⟩
    · refine ⟨hp.1, fun i hi hq => ?_⟩
      obtain ⟨j, hj, ej⟩ := List.getElem_of_mem hi
      have hj2 : L[j]? = some i := by rw [List.getElem?_eq_getElem hj, ej]
      exact b j (Nat.zero_le j) hj ((hL.2 j i hj2).1.trans hq)
/-- where the class is behind heading j -/
def LA (w : Nat) (J : Jm) (S : Int → Int) (pl k : Nat) (d g : Int) (j : Nat) : Prop := Cm J (pl + 7) czero ∧ Vs w J S ∧ Lst J pl k (enS S d g) (dS S) (ddl (enS S d g) j)
theorem LA.ae (hpl : w + 32 < pl) {j j2 : Nat} (h : LA w J S pl k d g j) (ha : Ae pl k J J2) (hL : Lst J2 pl k (enS S d g) (dS S) (ddl (enS S d g) j2)) : LA w J2 S pl k d g j2 := ⟨h.1.o (ha.1 _ (by omega)), vE h.2.1 (fun b h1 h2 => ha.1 b (by omega)), hL⟩
theorem LA.sk {a : Nat} (h : LA w J S pl k d g a) (t : Nat) (hn : ∀ i : Nat, a ≤ i → i < a + t → ¬ 0 ≤ enS S d g (i : Int)) : LA w J S pl k d g (a + t) := ⟨h.1, h.2.1, by rw [ddl_sk a t hn]; exact h.2.2⟩
theorem c_l31 (hpl : w + 32 < pl) (hi : Inv S) (hg : 0 ≤ g ∧ g < 8) (hd : 0 ≤ d ∧ d ≤ 3) (h1 : E.2.1 pl 1 = some (w + 1)) (hk : k < 3) (K : Jm → Option Jm) {e4 z5 : Int} (hr : -4 ≤ e4 ∧ e4 ≤ 4) (h5 : z5 = zgk (S (2170 + g)) - abz e4) (h50 : 0 ≤ z5) : ∀ (t fu : Nat) (n : Int) (J : Jm), z5 + 1 = n + t → -z5 ≤ n → t < fu → LA w J S pl k d g (9 * (e4 + 4) + (n + 4)).toNat → ∃ J2, H_X5_listEnds_L31 K E pl (k : Int) (plC S d g) (zgk (S (2170 + g))) e4 z5 fu n J = K J2 ∧ LA w J2 S pl k d g (9 * (e4 + 4) + (z5 + 1 + 4)).toNat ∧ Ae pl k J J2 := by
  have hz := zgk_r (S (2170 + g))
  have hab : abz e4 = e4 ∨ abz e4 = -e4 := by unfold abz; split <;> omega
  have hab2 : 0 ≤ abz e4 := by unfold abz; split <;> omega
  intro t
  induction t with
  | zero =>
    intro fu n J e1 e2 e3 hA
    obtain ⟨fu, rfl⟩ := nx e3
    have en : n = z5 + 1 := by omega
    rw [H_X5_listEnds_L31, if_pos (by omega)]
    subst en
    exact ⟨J, rfl, hA, Ae.r⟩
  | succ t ih =>
    intro fu n J e1 e2 e3 hA
    obtain ⟨fu, rfl⟩ := nx e3
    obtain ⟨h, hh⟩ : ∃ h : Nat, (9 * (e4 + 4) + (n + 4)).toNat = h := ⟨_, rfl⟩
    rw [hh] at hA
    have hh1 : (h : Int) / 9 - 4 = e4 ∧ (h : Int) % 9 - 4 = n := by omega
    have hcode : 20 * ((h : Int) / 9 + 6) + ((h : Int) % 9 + 6) = 20 * (e4 + 10) + n + 10 := by omega
    have een : enS S d g (h : Int) = wlk S (plC S d g) e4 n := by
      unfold enS
      rw [hh1.1, hh1.2, if_pos]
      unfold hdg
      unfold abz at h5
      split at h5 <;> split <;> split <;> omega
    have hpr := wlk_r (S := S) (e := e4) (n := n) (plC_r hi hg hd)
    rw [H_X5_listEnds_L31, if_neg (by omega), h1, Option.bind_some, c_wlk hA.2.1 (plC_r hi hg hd) hr (by omega), Option.bind_some, ← een, wr_id (z := e4 + 10) (by omega), wr_id (z := 20 * (e4 + 10)) (by omega), wr_id (z := 20 * (e4 + 10) + n) (by omega), wr_id (z := 20 * (e4 + 10) + n + 10) (by omega), ← hcode, wr_id (z := n + 1) (by omega)]
    obtain ⟨J1, a1, a2, a3⟩ := c_addEnd (e := enS S d g) hpl hA.2.1 hi h1 hA.1 hk en_vh hA.2.2 (by omega) (by rw [een]; exact hpr)
    rw [a1, Option.bind_some]
    have hA1 : LA w J1 S pl k d g (h + 1) := hA.ae hpl a3 a2
    obtain ⟨J2, b1, b2, b3⟩ := ih fu (n + 1) J1 (by omega) (by omega) (by omega) (by rw [show (9 * (e4 + 4) + (n + 1 + 4)).toNat = h + 1 by omega]; exact hA1)
    exact ⟨J2, b1, b2, a3.tt b3⟩
theorem c_l11 (hpl : w + 32 < pl) (hi : Inv S) (hg : 0 ≤ g ∧ g < 8) (hd : 0 ≤ d ∧ d ≤ 3) (h1 : E.2.1 pl 1 = some (w + 1)) (hk : k < 3) : ∀ (t fu : Nat) (e4 : Int) (J : Jm), zgk (S (2170 + g)) + 1 = e4 + t → -zgk (S (2170 + g)) ≤ e4 → t < fu → LA w J S pl k d g (9 * (e4 + 4)).toNat → ∃ J2, H_X5_listEnds_L11 E pl (k : Int) (plC S d g) (zgk (S (2170 + g))) fu e4 J = some J2 ∧ LA w J2 S pl k d g (9 * (zgk (S (2170 + g)) + 1 + 4)).toNat ∧ Ae pl k J J2 := by
  have hz := zgk_r (S (2170 + g))
  intro t
  induction t with
  | zero =>
    intro fu e4 J e1 e2 e3 hA
    obtain ⟨fu, rfl⟩ := nx e3
    have en : e4 = zgk (S (2170 + g)) + 1 := by omega
    rw [H_X5_listEnds_L11, if_pos (by omega)]
    subst en
    exact ⟨J, rfl, hA, Ae.r⟩
  | succ t ih =>
    intro fu e4 J e1 e2 e3 hA
    obtain ⟨fu, rfl⟩ := nx e3
    have hab : abZ e4 = abz e4 := by
      unfold abZ abz
      split
      · rfl
      · rw [wr_id (by omega)]; omega
    obtain ⟨z5, h5⟩ : ∃ z5, z5 = zgk (S (2170 + g)) - abz e4 := ⟨_, rfl⟩
    have h50 : 0 ≤ z5 ∧ z5 ≤ 4 := by
      unfold abz at h5
      split at h5 <;> omega
    have inv : ∀ i : Nat, (i : Int) / 9 - 4 = e4 → ((i : Int) % 9 - 4 < -z5 ∨ z5 < (i : Int) % 9 - 4) → ¬ 0 ≤ enS S d g (i : Int) := fun i hi1 hi2 => en_no (fun hq => by
      unfold hdg at hq
      rw [hi1] at hq
      unfold abz at h5
      split at h5 <;> split at hq <;> split at hq <;> omega)
    rw [H_X5_listEnds_L11, if_neg (by omega), hab, wr_id (z := zgk (S (2170 + g)) - abz e4) (by omega), ← h5, wr_id (z := -z5) (by omega), wr_id (z := e4 + 1) (by omega)]
    have hA1 := hA.sk (4 - z5).toNat (fun i hi1 hi2 => inv i (by omega) (by omega))
    rw [show (9 * (e4 + 4)).toNat + (4 - z5).toNat = (9 * (e4 + 4) + (-z5 + 4)).toNat by omega] at hA1
    obtain ⟨J1, a1, a2, a3⟩ := c_l31 hpl hi hg hd h1 hk (fun (J15 : Jm) => H_X5_listEnds_L11 E pl (k : Int) (plC S d g) (zgk (S (2170 + g))) fu (e4 + 1) J15) (e4 := e4) (by omega) h5 h50.1 (2 * z5 + 1).toNat 1000000 (-z5) J (by omega) (by omega) (by omega) hA1
    have hA2 := a2.sk (4 - z5).toNat (fun i hi1 hi2 => inv i (by omega) (by omega))
    rw [show (9 * (e4 + 4) + (z5 + 1 + 4)).toNat + (4 - z5).toNat = (9 * (e4 + 1 + 4)).toNat by omega] at hA2
    obtain ⟨J2, b1, b2, b3⟩ := ih fu (e4 + 1) J1 (by omega) (by omega) (by omega) hA2
    exact ⟨J2, a1.trans b1, b2, a3.tt b3⟩
theorem c_listEnds (hpl : w + 32 < pl) (hV : Vs w J S) (hi : Inv S) (hg : 0 ≤ g ∧ g < 8) (hd : 0 ≤ d ∧ d ≤ 3) (h1 : E.2.1 pl 1 = some (w + 1)) (hC : Cm J (pl + 7) czero) (hk : k < 3) : ∃ J2, H_X5_listEnds E pl (k : Int) (plC S d g) (zgk (S (2170 + g))) J = some J2 ∧ LA w J2 S pl k d g 81 ∧ Ae pl k J J2 := by
  have hz := zgk_r (S (2170 + g))
  have hkk : ((k : Nat) : Int).toNat = k := by omega
  unfold H_X5_listEnds
  rw [zS (by omega) (by omega), Option.bind_some, hkk, wr_id (z := -zgk (S (2170 + g))) (by omega)]
  have hA0 : LA w (jW J (pl + 2) k 0) S pl k d g 0 := ⟨hC.o (jW_ne (by omega)), vN hV (by omega), jW_at, fun i h hh => by
    have hh' : ([] : List Nat)[i]? = some h := hh
    rw [List.getElem?_nil] at hh'; cases hh'⟩
  have hA1 := hA0.sk (9 * (-zgk (S (2170 + g)) + 4)).toNat (fun i hi1 hi2 => en_no (fun hq => by
    unfold hdg at hq
    split at hq <;> split at hq <;> omega))
  rw [Nat.zero_add] at hA1
  obtain ⟨J2, a1, a2, a3⟩ := c_l11 hpl hi hg hd h1 hk (2 * zgk (S (2170 + g)) + 1).toNat 1000000 (-zgk (S (2170 + g))) _ (by omega) (by omega) (by omega) hA1
  have hA2 := a2.sk (9 * (4 - zgk (S (2170 + g)))).toNat (fun i hi1 hi2 => en_no (fun hq => by
    unfold hdg at hq
    split at hq <;> split at hq <;> omega))
  rw [show (9 * (zgk (S (2170 + g)) + 1 + 4)).toNat + (9 * (4 - zgk (S (2170 + g)))).toNat = 81 by omega] at hA2
  exact ⟨J2, a1, hA2, Ae.tt ⟨fun b hb => jW_ne (by omega), fun i hi => jW_of hi, fun i hi => ⟨by rw [jW_ne (by omega)], by rw [jW_ne (by omega)], by rw [jW_ne (by omega)]⟩⟩ a3⟩
end LENDS
