/-! THE REFERENCE'S SEARCH -/
/-- how many steps the levels below take at most -/
def sc : Nat → Nat
  | 0 => 0
  | r + 1 => 81 * (1 + sc r) + 1
section ODOM
variable {m : Nat} {J J1 J2 : Jm} {S : Int → Int} {d g p h v : Int} {b : Bs} {l us pre : List Int} {k n : Nat}
def Bst (J : Jm) (m : Nat) (b : Bs) : Prop := J m 27 = b.1 ∧ ∀ (i : Nat) (h : Int), b.2[i]? = some h → J (m + 7) i = h
def Od (J : Jm) (m : Nat) (S : Int → Int) (d : Int) (l : List Int) (b : Bs) : Prop := Rf m J S ∧ RefE J m S d l ∧ Cm J (m + 8) czero ∧ Bst J m b
def Fo (m k : Nat) (J J2 : Jm) : Prop := (∀ b, b ≠ m → b ≠ m + 6 → b ≠ m + 7 → b ≠ m + 8 → J2 b = J b) ∧ (∀ i, i ≠ 27 → J2 m i = J m i) ∧ ∀ i, i < k → J2 (m + 6) i = J (m + 6) i
def Tp (J : Jm) (m : Nat) (us pre : List Int) (k : Nat) : Prop := us.length = k ∧ pre.length = k ∧ (∀ (i : Nat) (q : Int), us[i]? = some q → Ed J m i q ∧ 0 ≤ q ∧ q < 80) ∧ ∀ (i : Nat) (h : Int), pre[i]? = some h → J (m + 6) i = h
theorem lt_sm {α : Type} {l : List α} {i : Nat} {a : α} (h : l[i]? = some a) : i < l.length := (List.getElem?_eq_some_iff.mp h).1
theorem sg_sm {α : Type} {l : List α} {a x : α} {i : Nat} (h : (l ++ [a])[i]? = some x) : (i < l.length ∧ l[i]? = some x) ∨ (i = l.length ∧ x = a) := by
  by_cases hi : i < l.length
  · rw [List.getElem?_append_left hi] at h; exact Or.inl ⟨hi, h⟩
  · have := lt_sm h
    rw [List.length_append, List.length_singleton] at this
    have e : i = l.length := by omega
    subst e
    rw [List.getElem?_append_right (Nat.le_refl _), Nat.sub_self] at h
    cases h
    exact Or.inr ⟨rfl, rfl⟩
theorem Fo.tp (hf : Fo m k J J2) (h : Tp J m us pre k) : Tp J2 m us pre k := by
  obtain ⟨h1, h2, h3, h4⟩ := h
  refine ⟨h1, h2, fun i q hq => ?_, fun i h hh => ?_⟩
  · obtain ⟨⟨z, x1, x2, x3⟩, x4⟩ := h3 i q hq
    have := lt_sm hq
    exact ⟨⟨z, by rw [hf.2.2 i (by omega)]; exact x1, x2, by rw [hf.1 _ (by omega) (by omega) (by omega) (by omega)]; exact x3⟩, x4⟩
  · have := lt_sm hh
    rw [hf.2.2 i (by omega)]; exact h4 i h hh
theorem Fo.tt (h1 : Fo m k J J1) (h2 : Fo m n J1 J2) (hk : k ≤ n) : Fo m k J J2 := ⟨fun b a1 a2 a3 a4 => (h2.1 b a1 a2 a3 a4).trans (h1.1 b a1 a2 a3 a4), fun i a => (h2.2.1 i a).trans (h1.2.1 i a), fun i a => (h2.2.2 i (by omega)).trans (h1.2.2 i a)⟩
theorem Fo.h6 (hk : k ≤ n) : Fo m k J (jW J (m + 6) n v) := ⟨fun b _ a2 _ _ => jW_ne a2, fun i _ => by rw [jW_ne (by omega)], fun i a => jW_of (by omega)⟩
theorem Tp.ss (h : Tp J m us pre k) {j : Nat} (h6 : J (m + 6) k = (j : Int)) (hj : j < 81) (h5 : J (m + 5) (81 * k + j) = p) (hp : 0 ≤ p ∧ p < 80) : Tp J m (us ++ [p]) (pre ++ [(j : Int)]) (k + 1) := by
  obtain ⟨h1, h2, h3, h4⟩ := h
  refine ⟨by rw [List.length_append, List.length_singleton, h1], by rw [List.length_append, List.length_singleton, h2], fun i q hq => ?_, fun i x hx => ?_⟩
  · rcases sg_sm hq with ⟨a1, a2⟩ | ⟨a1, a2⟩
    · exact h3 i q a2
    · rw [a2, a1, h1]; exact ⟨⟨j, h6, hj, h5⟩, hp⟩
  · rcases sg_sm hx with ⟨a1, a2⟩ | ⟨a1, a2⟩
    · exact h4 i x a2
    · rw [a2, a1, h2]; exact h6
theorem RefE.ee (h : RefE J m S d l) (e1 : J2 m 26 = J m 26) (e2 : J2 (m + 4) = J (m + 4)) (e3 : J2 (m + 5) = J (m + 5)) : RefE J2 m S d l := ⟨by rw [e1]; exact h.1, fun i g hg => ⟨by rw [e2]; exact (h.2 i g hg).1, by rw [e3]; exact (h.2 i g hg).2⟩⟩
theorem Od.h6 (h : Od J m S d l b) : Od (jW J (m + 6) n v) m S d l b := ⟨rN h.1 (by omega), h.2.1.ee (by rw [jW_ne (by omega)]) (jW_ne (by omega)) (jW_ne (by omega)), h.2.2.1.o (jW_ne (by omega)), by rw [jW_ne (by omega)]; exact h.2.2.2.1, fun i x hx => by rw [jW_ne (by omega)]; exact h.2.2.2.2 i x hx⟩
theorem r_cp (K : Jm → Option (Int × Jm)) (z : Int) : ∀ (t fu i : Nat) (J : Jm), J m 26 = (n : Int) → n ≤ 3 → n = i + t → t < fu → ∃ J2, H_X12_findPlan_L122 K m z fu (i : Int) J = K J2 ∧ (∀ a, a ≠ m + 7 → J2 a = J a) ∧ (∀ q, q < i → J2 (m + 7) q = J (m + 7) q) ∧ ∀ q, i ≤ q → q < n → J2 (m + 7) q = J (m + 6) q
  | 0, fu, i, J, h26, h3, h1, h2 => by
    obtain ⟨fu, rfl⟩ := nx h2
    rw [H_X12_findPlan_L122, h26, if_pos (by omega)]
    exact ⟨J, rfl, fun _ _ => rfl, fun _ _ => rfl, fun q _ _ => by omega⟩
  | t + 1, fu, i, J, h26, h3, h1, h2 => by
    obtain ⟨fu, rfl⟩ := nx h2
    have ei : ((i : Nat) : Int).toNat = i := by omega
    rw [H_X12_findPlan_L122, h26, if_neg (by omega), q_jL (by omega), Option.bind_some, zS (by omega) (by omega), Option.bind_some, ei, wr_id (z := (i : Int) + 1) (by omega), show (i : Int) + 1 = ((i + 1 : Nat) : Int) by omega]
    obtain ⟨J2, f1, f2, f3, f4⟩ := r_cp K z t fu (i + 1) (jW J (m + 7) i (J (m + 6) i)) (by rw [jW_ne (by omega)]; exact h26) h3 (by omega) (by omega)
    refine ⟨J2, f1, fun a ha => (f2 a ha).trans (jW_ne ha), fun q hq => by rw [f3 q (by omega), jW_of (by omega)], fun q hq hn => ?_⟩
    by_cases e : q = i
    · rw [e, f3 i (by omega), jW_at]
    · rw [f4 q (by omega) hn, jW_ne (by omega)]
/-- what is done with a heading that is apart -/
def Bd (K : Jm → Option (Int × Jm)) (m fu : Nat) (k : Int) (J : Jm) : Option (Int × Jm) :=
  if (wr ((J m 26) - 1)) ≤ k then
    (H_X12_gainOf m J).bind fun (zv27, J25) =>
    if (J25 m 27) < zv27 then
      nv (jW J25 m 27 zv27) fun J30 =>
      H_X12_findPlan_L122 (fun (J40 : Jm) => H_X12_findPlan_L33 K m fu k J40) m k 1000000 0 J30
    else
      H_X12_findPlan_L33 K m fu k J25
  else
    (jS J (m + 6) 3 (wr (k + 1)) (-1)).bind fun J42 =>
    H_X12_findPlan_L33 K m fu (wr (k + 1)) J42
theorem r_lv {K : Jm → Option (Int × Jm)} {es : List (Int → Int)} {c : Nat} (hk : l[k]? = some g) (hl : l.length ≤ 3) (sub : ∀ (fu : Nat) (J : Jm) (b : Bs) (j : Nat), Od J m S d l b → Tp J m us pre k → J (m + 6) k = (j : Int) → j < 81 → 0 ≤ enS S d g (j : Int) → enS S d g (j : Int) ∉ us → c ≤ fu → ∃ (J2 : Jm) (fu2 : Nat), Bd K m fu (k : Int) J = H_X12_findPlan_L33 K m fu2 (k : Int) J2 ∧ fu ≤ fu2 + c ∧ Od J2 m S d l (RX (gnD (dS S)) (covD (dS S)) es (CT (dS S) czero (us ++ [enS S d g (j : Int)])) (GT (dS S) czero (us ++ [enS S d g (j : Int)])) (us ++ [enS S d g (j : Int)]) (pre ++ [(j : Int)]) b) ∧ Fo m (k + 1) J J2) : ∀ (t j fu : Nat) (J : Jm) (b : Bs), 81 = j + t → Od J m S d l b → Tp J m us pre k → J (m + 6) k = (j : Int) - 1 → t * (1 + c) + 1 ≤ fu → ∃ (J2 : Jm) (fu2 : Nat), H_X12_findPlan_L33 K m fu (k : Int) J = H_X12_findPlan_L33 K m fu2 ((k : Int) - 1) J2 ∧ fu ≤ fu2 + (t * (1 + c) + 1) ∧ Od J2 m S d l ((List.range' j t).foldl (RXs (gnD (dS S)) (covD (dS S)) (enS S d g) es (CT (dS S) czero us) (GT (dS S) czero us) us pre) b) ∧ Fo m k J J2 := by
  have hkl := lt_sm hk
  have ek : ((k : Nat) : Int).toNat = k := by omega
  intro t
  induction t with
  | zero =>
    intro j fu J b h1 hO hT h6 hf
    obtain ⟨fu, rfl⟩ : ∃ f, fu = f + 1 := ⟨fu - 1, by omega⟩
    have ej : (j : Int) - 1 + 1 = (j : Int) := by omega
    rw [H_X12_findPlan_L33, if_neg (by omega), q_jL (by omega), Option.bind_some, h6, ej, wr_id (z := (j : Int)) (by omega), zS (by omega) (by omega), Option.bind_some, ek, q_jL (by omega), Option.bind_some, jW_at, if_neg (show ¬ (j : Int) ≤ 80 by omega), wr_id (z := (k : Int) + -1) (by omega), show (k : Int) + -1 = (k : Int) - 1 by omega]
    exact ⟨_, fu, rfl, by omega, hO.h6, Fo.h6 (Nat.le_refl k)⟩
  | succ t ih =>
    intro j fu J b h1 hO hT h6 hf
    have em : (t + 1) * (1 + c) = t * (1 + c) + (1 + c) := Nat.succ_mul _ _
    obtain ⟨fu, rfl⟩ : ∃ f, fu = f + 1 := ⟨fu - 1, by omega⟩
    have ej : (j : Int) - 1 + 1 = (j : Int) := by omega
    have ej2 : (j : Int) = ((j + 1 : Nat) : Int) - 1 := by omega
    have hO1 : Od (jW J (m + 6) k (j : Int)) m S d l b := hO.h6
    have hT1 : Tp (jW J (m + 6) k (j : Int)) m us pre k := (Fo.h6 (Nat.le_refl k)).tp hT
    have hE : Ed (jW J (m + 6) k (j : Int)) m k (enS S d g (j : Int)) := ⟨j, jW_at, by omega, (hO1.2.1.2 k g hk).2 j (by omega)⟩
    rw [H_X12_findPlan_L33, if_neg (by omega), q_jL (by omega), Option.bind_some, h6, ej, wr_id (z := (j : Int)) (by omega), zS (by omega) (by omega), Option.bind_some, ek, q_jL (by omega), Option.bind_some, jW_at, if_pos (show (j : Int) ≤ 80 by omega), r_apart hE (by omega) hT1.1 (fun i q hq => (hT1.2.2.1 i q hq).1), Option.bind_some, z01, List.range'_succ, List.foldl_cons]
    by_cases hp : 0 ≤ enS S d g (j : Int) ∧ enS S d g (j : Int) ∉ us
    · rw [if_pos hp]
      obtain ⟨J3, fu3, s1, s2, s3, s4⟩ := sub fu _ b j hO1 hT1 jW_at (by omega) hp.1 hp.2 (by omega)
      have er : RXs (gnD (dS S)) (covD (dS S)) (enS S d g) es (CT (dS S) czero us) (GT (dS S) czero us) us pre b j = RX (gnD (dS S)) (covD (dS S)) es (CT (dS S) czero (us ++ [enS S d g (j : Int)])) (GT (dS S) czero (us ++ [enS S d g (j : Int)])) (us ++ [enS S d g (j : Int)]) (pre ++ [(j : Int)]) b := by
        unfold RXs
        rw [if_pos hp, GT_a, CT_a]
      rw [er]
      have hF : Fo m k J J3 := (Fo.h6 (Nat.le_refl k)).tt s4 (Nat.le_succ k)
      obtain ⟨J4, fu4, i1, i2, i3, i4⟩ := ih (j + 1) fu3 J3 _ (by omega) s3 (hF.tp hT) (by rw [s4.2.2 k (Nat.lt_succ_self k), jW_at]; exact ej2) (by omega)
      exact ⟨J4, fu4, s1.trans i1, by omega, i3, hF.tt i4 (Nat.le_refl k)⟩
    · rw [if_neg hp]
      have er : RXs (gnD (dS S)) (covD (dS S)) (enS S d g) es (CT (dS S) czero us) (GT (dS S) czero us) us pre b j = b := by
        unfold RXs
        rw [if_neg hp]
      rw [er]
      obtain ⟨J4, fu4, i1, i2, i3, i4⟩ := ih (j + 1) fu _ b (by omega) hO1 hT1 (by rw [jW_at]; exact ej2) (by omega)
      exact ⟨J4, fu4, i1, by omega, i3, (Fo.h6 (Nat.le_refl k)).tt i4 (Nat.le_refl k)⟩
theorem r_odo (hi : Inv S) (hl : l.length ≤ 3) (hd : 0 ≤ d ∧ d ≤ 3) (hlg : ∀ g ∈ l, 0 ≤ g ∧ g < 8) (K : Jm → Option (Int × Jm)) : ∀ (rest l0 : List Int) (g : Int) (us pre : List Int), l0 ++ g :: rest = l → ∀ (t j fu : Nat) (J : Jm) (b : Bs), 81 = j + t → Od J m S d l b → Tp J m us pre l0.length → J (m + 6) l0.length = (j : Int) - 1 → t * (1 + sc rest.length) + 1 ≤ fu → ∃ (J2 : Jm) (fu2 : Nat), H_X12_findPlan_L33 K m fu (l0.length : Int) J = H_X12_findPlan_L33 K m fu2 ((l0.length : Int) - 1) J2 ∧ fu ≤ fu2 + (t * (1 + sc rest.length) + 1) ∧ Od J2 m S d l ((List.range' j t).foldl (RXs (gnD (dS S)) (covD (dS S)) (enS S d g) (rest.map (enS S d)) (CT (dS S) czero us) (GT (dS S) czero us) us pre) b) ∧ Fo m l0.length J J2
  | [], l0, g, us, pre, e => by
    have hln : l0.length + 1 = l.length := by rw [← e, List.length_append, List.length_singleton]
    have hk : l[l0.length]? = some g := by rw [← e, List.getElem?_append_right (Nat.le_refl _), Nat.sub_self]; rfl
    have hg := hlg g (by rw [← e]; exact List.mem_append.mpr (Or.inr List.mem_cons_self))
    refine r_lv hk hl (fun fu J b j hO hT h6 hj hp hn hc => ?_)
    have hpr := enS_r (h := (j : Int)) hi hg hd
    have hT2 := hT.ss h6 hj ((hO.2.1.2 _ g hk).2 j hj) ⟨hp, by omega⟩
    have hul : (us ++ [enS S d g (j : Int)]).length = l.length := by rw [hT2.1]; exact hln
    have h26 : J m 26 = (l.length : Int) := hO.2.1.1
    obtain ⟨J1, a1, a2, a3⟩ := r_gainOf hi (us := us ++ [enS S d g (j : Int)]) (by omega) hO.1 (by rw [hul]; exact h26) hT2.2.2.1 hO.2.2.1
    unfold Bd
    rw [h26, wr_id (by omega), if_pos (by omega), a1, Option.bind_some]
    dsimp only
    rw [a3 m (by omega), hO.2.2.2.1]
    have eR : RX (gnD (dS S)) (covD (dS S)) (([] : List Int).map (enS S d)) (CT (dS S) czero (us ++ [enS S d g (j : Int)])) (GT (dS S) czero (us ++ [enS S d g (j : Int)])) (us ++ [enS S d g (j : Int)]) (pre ++ [(j : Int)]) b = if b.1 < GT (dS S) czero (us ++ [enS S d g (j : Int)]) then (GT (dS S) czero (us ++ [enS S d g (j : Int)]), pre ++ [(j : Int)]) else b := rfl
    rw [eR]
    generalize GT (dS S) czero (us ++ [enS S d g (j : Int)]) = G at *
    by_cases hG : b.1 < G
    · rw [if_pos hG, if_pos hG]
      simp only [nv]
      obtain ⟨J2, f1, f2, f3, f4⟩ := r_cp (m := m) (n := l.length) (fun (J40 : Jm) => H_X12_findPlan_L33 K m fu (l0.length : Int) J40) (l0.length : Int) l.length 1000000 0 (jW J1 m 27 G) (by rw [jW_of (by omega), a3 m (by omega)]; exact h26) hl (by omega) (by omega)
      have e2 : ∀ a, a ≠ m → a ≠ m + 7 → a ≠ m + 8 → J2 a = J a := fun a b1 b2 b3 => by rw [f2 a b2, jW_ne b1, a3 a b3]
      refine ⟨J2, fu, f1, by omega, ⟨rE hO.1 (e2 _ (by omega) (by omega) (by omega)), hO.2.1.ee (by rw [f2 m (by omega), jW_of (by omega), a3 m (by omega)]) (e2 _ (by omega) (by omega) (by omega)) (e2 _ (by omega) (by omega) (by omega)), a2.o (by rw [f2 (m + 8) (by omega), jW_ne (by omega)]), by rw [f2 m (by omega), jW_at], fun i x hx => ?_⟩, fun a b1 b2 b3 b4 => e2 a b1 b3 b4, fun i hi => by rw [f2 m (by omega), jW_of hi, a3 m (by omega)], fun i hi => by rw [e2 _ (by omega) (by omega) (by omega)]⟩
      have hil := lt_sm hx
      rw [f4 i (by omega) (by rw [hT2.2.1] at hil; omega), jW_ne (by omega), a3 _ (by omega)]
      exact hT2.2.2.2 i x hx
    · rw [if_neg hG, if_neg hG]
      refine ⟨J1, fu, rfl, by omega, ⟨rE hO.1 (a3 _ (by omega)), hO.2.1.ee (by rw [a3 m (by omega)]) (a3 _ (by omega)) (a3 _ (by omega)), a2, by rw [a3 m (by omega)]; exact hO.2.2.2.1, fun i x hx => by rw [a3 _ (by omega)]; exact hO.2.2.2.2 i x hx⟩, fun a b1 b2 b3 b4 => a3 a b4, fun i hi => by rw [a3 m (by omega)], fun i hi => by rw [a3 _ (by omega)]⟩
  | g2 :: rest, l0, g, us, pre, e => by
    have hln : l0.length + (rest.length + 1 + 1) = l.length := by rw [← e, List.length_append, List.length_cons, List.length_cons]
    have hk : l[l0.length]? = some g := by rw [← e, List.getElem?_append_right (Nat.le_refl _), Nat.sub_self]; rfl
    have hg := hlg g (by rw [← e]; exact List.mem_append.mpr (Or.inr List.mem_cons_self))
    refine r_lv hk hl (fun fu J b j hO hT h6 hj hp hn hc => ?_)
    have hpr := enS_r (h := (j : Int)) hi hg hd
    have hT2 := hT.ss h6 hj ((hO.2.1.2 _ g hk).2 j hj) ⟨hp, by omega⟩
    have h26 : J m 26 = (l.length : Int) := hO.2.1.1
    have el : (l0 ++ [g]).length = l0.length + 1 := by rw [List.length_append, List.length_singleton]
    have ekk : ((l0.length : Int) + 1).toNat = l0.length + 1 := by omega
    have hF : Fo m (l0.length + 1) J (jW J (m + 6) (l0.length + 1) (-1)) := Fo.h6 (Nat.le_refl _)
    have ih := r_odo hi hl hd hlg K rest (l0 ++ [g]) g2 (us ++ [enS S d g (j : Int)]) (pre ++ [(j : Int)]) (by rw [List.append_assoc]; exact e) 81 0 fu (jW J (m + 6) (l0.length + 1) (-1)) b rfl hO.h6 (by rw [el]; exact hF.tp hT2) (by rw [el, jW_at]; rfl) hc
    rw [el, show (((l0.length + 1 : Nat) : Int)) = (l0.length : Int) + 1 by omega, show (l0.length : Int) + 1 - 1 = (l0.length : Int) by omega] at ih
    obtain ⟨J2, fu2, i1, i2, i3, i4⟩ := ih
    unfold Bd
    rw [h26, wr_id (z := (l.length : Int) - 1) (by omega), if_neg (by omega), wr_id (z := (l0.length : Int) + 1) (by omega), zS (by omega) (by omega), Option.bind_some, ekk]
    refine ⟨J2, fu2, i1, i2, ?_, hF.tt i4 (Nat.le_refl _)⟩
    have eR : RX (gnD (dS S)) (covD (dS S)) ((g2 :: rest).map (enS S d)) (CT (dS S) czero (us ++ [enS S d g (j : Int)])) (GT (dS S) czero (us ++ [enS S d g (j : Int)])) (us ++ [enS S d g (j : Int)]) (pre ++ [(j : Int)]) b = (List.range 81).foldl (RXs (gnD (dS S)) (covD (dS S)) (enS S d g2) (rest.map (enS S d)) (CT (dS S) czero (us ++ [enS S d g (j : Int)])) (GT (dS S) czero (us ++ [enS S d g (j : Int)])) (us ++ [enS S d g (j : Int)]) (pre ++ [(j : Int)])) b := rfl
    rw [eR, List.range_eq_range']
    exact i3
theorem tmL_r (S : Int → Int) (d : Int) : ∀ (n : Nat) (i : Int) (k : Nat), (tmL S d n i k).length ≤ k ∧ ∀ g ∈ tmL S d n i k, i ≤ g ∧ g < i + n
  | 0, i, k => ⟨Nat.zero_le k, fun g hg => absurd hg List.not_mem_nil⟩
  | n + 1, i, k => by
    unfold tmL
    split
    · exact ⟨Nat.zero_le k, fun g hg => absurd hg List.not_mem_nil⟩
    · split
      · have := tmL_r S d n (i + 1) (k - 1)
        refine ⟨by rw [List.length_cons]; omega, fun g hg => ?_⟩
        rcases List.mem_cons.mp hg with h | h
        · omega
        · have := this.2 g h; omega
      · have := tmL_r S d n (i + 1) k
        exact ⟨this.1, fun g hg => by have := this.2 g hg; omega⟩
/-- the best plan of the reference -/
def bsR (S : Int → Int) (d : Int) : Bs := RX (gnD (dS S)) (covD (dS S)) ((tmL S d (S 0).toNat 0 3).map (enS S d)) czero 0 [] [] (-1, [])
def Ff (m : Nat) (J J2 : Jm) : Prop := (∀ b, b ≠ m → b ≠ m + 4 → b ≠ m + 5 → b ≠ m + 6 → b ≠ m + 7 → b ≠ m + 8 → J2 b = J b) ∧ ∀ k, (k < 4 ∨ 7 < k ∧ k < 26 ∨ 27 < k) → J2 m k = J m k
theorem r_findPlan (hi : Inv S) (hR : Rf m J S) (hd : 0 ≤ d ∧ d ≤ 3) (hC : Cm J (m + 8) czero) : ∃ J2, H_X12_findPlan m d J = some (if (bsR S d).1 < 0 then 0 else 1, J2) ∧ Od J2 m S d (tmL S d (S 0).toNat 0 3) (bsR S d) ∧ Ff m J J2 := by
  have h8 := i_gli hi
  obtain ⟨hl, hlg⟩ := tmL_r S d (S 0).toNat 0 3
  have hlg' : ∀ g ∈ tmL S d (S 0).toNat 0 3, 0 ≤ g ∧ g < 8 := fun g hg => by have := hlg g hg; omega
  obtain ⟨J1, a1, a2, a3⟩ := r_findEnds hi hR hd
  unfold H_X12_findPlan
  rw [a1, Option.bind_some]
  simp only [nv]
  rw [jW_of (by omega), a2.1]
  unfold bsR
  generalize tmL S d (S 0).toNat 0 3 = l at *
  have hO : Od (jW J1 m 27 (-1)) m S d l (-1, []) := ⟨rN (rE hR (a3.1 _ (by omega) (by omega) (by omega))) (by omega), a2.ee (jW_of (by omega)) (jW_ne (by omega)) (jW_ne (by omega)), hC.o (by rw [jW_ne (by omega), a3.1 _ (by omega) (by omega) (by omega)]), jW_at, fun i x hx => by rw [List.getElem?_nil] at hx; cases hx⟩
  match l, hl, hlg', a2, hO with
  | [], hl, hlg', a2, hO =>
    rw [if_pos (by rfl)]
    refine ⟨_, rfl, ⟨rN hO.1 (by omega), hO.2.1.ee (jW_of (by omega)) (jW_ne (by omega)) (jW_ne (by omega)), hO.2.2.1.o (jW_ne (by omega)), jW_at, fun i x hx => by cases hx⟩, fun b b1 b2 b3 b4 b5 b6 => by rw [jW_ne b1, jW_ne b1, a3.1 b b1 b2 b3], fun k hk => by rw [jW_of (by omega), jW_of (by omega), a3.2 k (by omega)]⟩
  | g :: rest, hl, hlg', a2, hO =>
    have hln : ((g :: rest).length : Int) = (rest.length : Int) + 1 := by rw [List.length_cons]; omega
    have hl' : rest.length + 1 ≤ 3 := by rw [List.length_cons] at hl; exact hl
    rw [if_neg (by omega), zS (by decide) (by decide), Option.bind_some]
    have hs : sc rest.length ≤ 6724 := by
      have : rest.length = 0 ∨ rest.length = 1 ∨ rest.length = 2 := by omega
      rcases this with h | h | h <;> rw [h] <;> decide
    have hTp : Tp (jW (jW J1 m 27 (-1)) (m + 6) 0 (-1)) m [] [] ([] : List Int).length := ⟨rfl, rfl, fun i q hq => (by rw [List.getElem?_nil] at hq; cases hq), fun i h hh => (by rw [List.getElem?_nil] at hh; cases hh)⟩
    obtain ⟨J3, fu3, i1, i2, i3, i4⟩ := r_odo hi hl hd hlg' (fun (J44 : Jm) =>
      if (J44 m 27) < 0 then
        some ((0 : Int), J44)
      else
        some ((1 : Int), J44)) rest [] g [] [] rfl 81 0 1000000 (jW (jW J1 m 27 (-1)) (m + 6) 0 (-1)) (-1, []) rfl hO.h6 hTp jW_at (by omega)
    obtain ⟨fu3, rfl⟩ : ∃ f, fu3 = f + 1 := ⟨fu3 - 1, by omega⟩
    have st : ∀ K : Jm → Option (Int × Jm), H_X12_findPlan_L33 K m (fu3 + 1) (0 - 1) J3 = K J3 := fun K => by rw [H_X12_findPlan_L33, if_pos (by decide)]
    rw [show (([] : List Int).length : Int) = 0 from rfl, st] at i1
    rw [i3.2.2.2.1] at i1
    have eR : RX (gnD (dS S)) (covD (dS S)) ((g :: rest).map (enS S d)) czero 0 [] [] (-1, []) = (List.range 81).foldl (RXs (gnD (dS S)) (covD (dS S)) (enS S d g) (rest.map (enS S d)) (CT (dS S) czero []) (GT (dS S) czero []) [] []) (-1, []) := rfl
    rw [eR, List.range_eq_range']
    refine ⟨J3, ?_, i3, fun b b1 b2 b3 b4 b5 b6 => by rw [i4.1 b b1 b4 b5 b6, jW_ne b4, jW_ne b1, a3.1 b b1 b2 b3], fun k hk => by rw [i4.2.1 k (by omega), jW_ne (by omega), jW_of (by omega), a3.2 k (by omega)]⟩
    refine Eq.trans i1 ?_
    split <;> rfl
end ODOM
