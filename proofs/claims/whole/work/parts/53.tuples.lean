/-! THE REFERENCE GOES THROUGH ALL TUPLES -/
def GT (D : Int → Int) : Cv → List Int → Int
  | _, [] => 0
  | C, p :: l => gnD D C p + GT D (covD D C p) l
def CT (D : Int → Int) : Cv → List Int → Cv
  | C, [] => C
  | C, p :: l => CT D (covD D C p) l
theorem GT_a (D : Int → Int) (p : Int) : ∀ (l : List Int) (C : Cv), GT D C (l ++ [p]) = GT D C l + gnD D (CT D C l) p
  | [], C => by show gnD D C p + 0 = 0 + gnD D C p; omega
  | q :: l, C => by show gnD D C q + GT D (covD D C q) (l ++ [p]) = gnD D C q + GT D (covD D C q) l + gnD D (CT D (covD D C q) l) p; rw [GT_a D p l]; omega
theorem CT_a (D : Int → Int) (p : Int) : ∀ (l : List Int) (C : Cv), CT D C (l ++ [p]) = covD D (CT D C l) p
  | [], _ => rfl
  | q :: l, C => CT_a D p l (covD D C q)
theorem CT_ne (D : Int → Int) (c : Int) : ∀ (l : List Int) (C : Cv), (∀ p ∈ l, ¬ nearP p c) → CT D C l c = C c
  | [], _, _ => rfl
  | p :: l, C, h => by
    show CT D (covD D C p) l c = C c
    rw [CT_ne D c l _ (fun q hq => h q (List.mem_cons_of_mem p hq)), covD_ne (h p List.mem_cons_self)]
def czero : Cv := fun _ => 0
section ODO
variable {m : Nat} {J J0 : Jm} {S : Int → Int} {d p g s : Int} {C : Cv} {k : Nat}
/-- headings that are set, and where they end -/
def Ed (J : Jm) (m : Nat) (i : Nat) (p : Int) : Prop := ∃ h : Nat, J (m + 6) i = (h : Int) ∧ h < 81 ∧ J (m + 5) (81 * i + h) = p
theorem ed_rd (h : Ed J m k p) (hk : k < 3) : ∃ z : Int, jL J (m + 6) 3 (k : Int) = some z ∧ jL J (m + 5) 243 (wr (wr (81 * (k : Int)) + z)) = some p := by
  obtain ⟨h1, h2, h3, h4⟩ := h
  refine ⟨(h1 : Int), ?_, ?_⟩
  · rw [q_jL (by omega), h2]
  · have e : wr (wr (81 * (k : Int)) + (h1 : Int)) = ((81 * k + h1 : Nat) : Int) := by rw [wr_id (z := 81 * (k : Int)) (by omega), wr_id (by omega)]; omega
    rw [e, q_jL (by omega), h4]
theorem r_apL (hk : Ed J m k p) (h3 : k < 3) : ∀ (suf pre : List Int) (fu : Nat) (fl : Int), pre.length + suf.length = k → (∀ i q, (pre ++ suf)[i]? = some q → Ed J m i q) → fl = (if 0 ≤ p ∧ p ∉ pre then 1 else 0) → suf.length < fu → H_X12_isApart_L27 m (k : Int) J fu fl (pre.length : Int) = some (if 0 ≤ p ∧ p ∉ pre ++ suf then 1 else 0)
  | [], pre, fu, fl, h1, h2, hf, h4 => by
    obtain ⟨fu, rfl⟩ : ∃ f, fu = f + 1 := ⟨fu - 1, by omega⟩
    rw [List.length_nil] at h1
    rw [H_X12_isApart_L27, if_pos (by omega), hf, zZ01, Option.bind_some, List.append_nil]
  | q :: suf, pre, fu, fl, h1, h2, hf, h4 => by
    rw [List.length_cons] at h1 h4
    obtain ⟨fu, rfl⟩ : ∃ f, fu = f + 1 := ⟨fu - 1, by omega⟩
    have hq : Ed J m pre.length q := h2 pre.length q (by rw [List.getElem?_append_right (Nat.le_refl _), Nat.sub_self]; rfl)
    obtain ⟨z1, a1, a2⟩ := ed_rd hq (by omega)
    obtain ⟨z2, b1, b2⟩ := ed_rd hk h3
    have ih := r_apL hk h3 suf (pre ++ [q]) fu
    have el : ((pre ++ [q]).length : Int) = (pre.length : Int) + 1 := by rw [List.length_append, List.length_singleton]; omega
    have ea : pre ++ [q] ++ suf = pre ++ q :: suf := by rw [List.append_assoc]; rfl
    rw [el, ea] at ih
    rw [H_X12_isApart_L27, if_neg (by omega), wr_id (z := (pre.length : Int) + 1) (by omega)]
    by_cases h0 : fl = 0
    · rw [if_pos h0]
      refine ih 0 (by rw [List.length_append, List.length_singleton]; omega) h2 ?_ (by omega)
      rw [if_neg]
      rintro ⟨k1, k2⟩
      rw [h0] at hf
      by_cases k3 : 0 ≤ p ∧ p ∉ pre
      · rw [if_pos k3] at hf; exact absurd hf (by decide)
      · exact k3 ⟨k1, fun z => k2 (List.mem_append.mpr (Or.inl z))⟩
    · rw [if_neg h0, a1, Option.bind_some, a2, Option.bind_some, b1, Option.bind_some, b2, Option.bind_some]
      simp only [nv]
      refine ih _ (by rw [List.length_append, List.length_singleton]; omega) h2 ?_ (by omega)
      have k3 : 0 ≤ p ∧ p ∉ pre := Classical.byContradiction (fun z => h0 (by rw [hf, if_neg z]))
      by_cases e : q = p
      · rw [if_pos e, if_neg]
        rintro ⟨-, z⟩
        exact z (List.mem_append.mpr (Or.inr (List.mem_singleton.mpr e.symm)))
      · rw [if_neg e, if_pos]
        refine ⟨k3.1, fun z => ?_⟩
        rcases List.mem_append.mp z with z | z
        · exact k3.2 z
        · exact e (List.mem_singleton.mp z).symm
theorem r_apart (hk : Ed J m k p) (h3 : k < 3) {us : List Int} (hl : us.length = k) (hu : ∀ i q, us[i]? = some q → Ed J m i q) : H_X12_isApart m (k : Int) J = some (if 0 ≤ p ∧ p ∉ us then 1 else 0) := by
  unfold H_X12_isApart
  obtain ⟨z2, b1, b2⟩ := ed_rd hk h3
  rw [b1, Option.bind_some, b2, Option.bind_some]
  simp only [nv]
  have := r_apL hk h3 us [] 1000000 (if p < 0 then 0 else 1) (by rw [List.length_nil, Nat.zero_add]; exact hl) (by rw [List.nil_append]; exact hu) (by
    by_cases h : p < 0
    · rw [if_pos h, if_neg (fun z => by omega)]
    · rw [if_neg h, if_pos ⟨by omega, List.not_mem_nil⟩]) (by omega)
  rw [List.nil_append, show (([] : List Int).length : Int) = 0 from rfl] at this
  exact this
theorem gnD_b (hi : Inv S) (hC : Cok C) (hp : 0 ≤ p ∧ p < 80) : gnD (dS S) C p ≤ 495 := by
  have gb : ∀ (q : Int), (q = -1 ∨ 0 ≤ q ∧ q < 80) → gcl C q (hfD (dS S) q) ≤ 99 := by
    intro q hq
    by_cases h : 0 ≤ q
    · exact gcl_b hC (by have := (dS_b hi hq h).2; omega)
    · unfold gcl; rw [if_neg h]; decide
  have b0 := gcl_b hC (c := p) (v := dS S p) (dS_b hi (q := p) (by omega) hp.1).1.2
  have b1 := gb _ (bsd_r (c := p) (e := 1) (n := 0))
  have b2 := gb _ (bsd_r (c := p) (e := 0) (n := 1))
  have b3 := gb _ (bsd_r (c := p) (e := -1) (n := 0))
  have b4 := gb _ (bsd_r (c := p) (e := 0) (n := -1))
  unfold gnD; omega
theorem r_goL (hi : Inv S) (K : Int → Jm → Option (Int × Jm)) {us : List Int} (h3 : us.length ≤ 3) : ∀ (suf pre : List Int) (fu : Nat) (s : Int) (J : Jm) (C : Cv), pre ++ suf = us → Rf m J S → J m 26 = (us.length : Int) → (∀ i q, us[i]? = some q → Ed J m i q ∧ 0 ≤ q ∧ q < 80) → Cm J (m + 8) C → Cok C → (0 ≤ s ∧ s ≤ 500 * (pre.length : Int)) → suf.length < fu → ∃ J2, H_X12_gainOf_L4 K m fu s (pre.length : Int) J = K (s + GT (dS S) C suf) J2 ∧ Cm J2 (m + 8) (CT (dS S) C suf) ∧ ∀ b, b ≠ m + 8 → J2 b = J b
  | [], pre, fu, s, J, C, e, hR, h26, hu, hC, hc, hs, hf => by
    obtain ⟨fu, rfl⟩ : ∃ f, fu = f + 1 := ⟨fu - 1, by omega⟩
    rw [List.append_nil] at e
    rw [H_X12_gainOf_L4, h26, e, if_pos (Int.le_refl _)]
    exact ⟨J, by rw [show GT (dS S) C [] = 0 from rfl, Int.add_zero], hC, fun _ _ => rfl⟩
  | q :: suf, pre, fu, s, J, C, e, hR, h26, hu, hC, hc, hs, hf => by
    rw [List.length_cons] at hf
    obtain ⟨fu, rfl⟩ : ∃ f, fu = f + 1 := ⟨fu - 1, by omega⟩
    have hlen : pre.length + (suf.length + 1) = us.length := by rw [← e, List.length_append, List.length_cons]
    obtain ⟨hq, q0, q1⟩ := hu pre.length q (by rw [← e, List.getElem?_append_right (Nat.le_refl _), Nat.sub_self]; rfl)
    obtain ⟨z1, a1, a2⟩ := ed_rd hq (by omega)
    obtain ⟨J1, g1, g2, g3⟩ := r_gainAt hi hR hC hc ⟨q0, q1⟩
    have gb := gnD_b hi hc ⟨q0, q1⟩
    have g0 := gnD_0 (dS S) C q
    rw [H_X12_gainOf_L4, h26, if_neg (by omega), a1, Option.bind_some, a2, Option.bind_some, g1, Option.bind_some]
    dsimp only
    rw [wr_id (z := s + _) (by omega), wr_id (z := (pre.length : Int) + 1) (by omega)]
    have el : ((pre ++ [q]).length : Int) = (pre.length : Int) + 1 := by rw [List.length_append, List.length_singleton]; omega
    obtain ⟨J2, f1, f2, f3⟩ := r_goL hi K h3 suf (pre ++ [q]) fu (s + gnD (dS S) C q) J1 (covD (dS S) C q) (by rw [List.append_assoc]; exact e) (rE hR (g3 _ (by omega))) (by rw [g3 m (by omega)]; exact h26) (fun i r hr => by
      obtain ⟨⟨h, x1, x2, x3⟩, x4⟩ := hu i r hr
      exact ⟨⟨h, by rw [g3 _ (by omega)]; exact x1, x2, by rw [g3 _ (by omega)]; exact x3⟩, x4⟩) g2 (covD_b hi hc ⟨q0, q1⟩) (by rw [el]; omega) (by omega)
    rw [el] at f1
    have eg : GT (dS S) C (q :: suf) = gnD (dS S) C q + GT (dS S) (covD (dS S) C q) suf := rfl
    refine ⟨J2, ?_, f2, fun b hb => (f3 b hb).trans (g3 b hb)⟩
    rw [eg, ← Int.add_assoc]; exact f1
theorem r_clL {us : List Int} (h3 : us.length ≤ 3) (s : Int) : ∀ (suf pre : List Int) (fu : Nat) (J : Jm) (C : Cv), pre ++ suf = us → J m 26 = (us.length : Int) → (∀ i q, us[i]? = some q → Ed J m i q ∧ 0 ≤ q ∧ q < 80) → Cm J (m + 8) C → suf.length < fu → ∃ (J2 : Jm) (C2 : Cv), H_X12_gainOf_L43 m s fu (pre.length : Int) J = some (s, J2) ∧ Cm J2 (m + 8) C2 ∧ (∀ c, 0 ≤ c → (C c = 0 ∨ ∃ p ∈ suf, nearP p c) → C2 c = 0) ∧ ∀ b, b ≠ m + 8 → J2 b = J b
  | [], pre, fu, J, C, e, h26, hu, hC, hf => by
    obtain ⟨fu, rfl⟩ : ∃ f, fu = f + 1 := ⟨fu - 1, by omega⟩
    rw [List.append_nil] at e
    rw [H_X12_gainOf_L43, h26, e, if_pos (Int.le_refl _)]
    exact ⟨J, C, rfl, hC, fun c _ h => h.elim id (fun ⟨p, hp, _⟩ => absurd hp List.not_mem_nil), fun _ _ => rfl⟩
  | q :: suf, pre, fu, J, C, e, h26, hu, hC, hf => by
    rw [List.length_cons] at hf
    obtain ⟨fu, rfl⟩ : ∃ f, fu = f + 1 := ⟨fu - 1, by omega⟩
    have hlen : pre.length + (suf.length + 1) = us.length := by rw [← e, List.length_append, List.length_cons]
    obtain ⟨hq, q0, q1⟩ := hu pre.length q (by rw [← e, List.getElem?_append_right (Nat.le_refl _), Nat.sub_self]; rfl)
    obtain ⟨z1, a1, a2⟩ := ed_rd hq (by omega)
    obtain ⟨J1, C1, g1, g2, g3, g4, g5⟩ := r_clearAt hC ⟨q0, q1⟩
    rw [H_X12_gainOf_L43, h26, if_neg (by omega), a1, Option.bind_some, a2, Option.bind_some, g1, Option.bind_some, wr_id (z := (pre.length : Int) + 1) (by omega)]
    have el : ((pre ++ [q]).length : Int) = (pre.length : Int) + 1 := by rw [List.length_append, List.length_singleton]; omega
    obtain ⟨J2, C2, f1, f2, f3, f4⟩ := r_clL h3 s suf (pre ++ [q]) fu J1 C1 (by rw [List.append_assoc]; exact e) (by rw [g5 m (by omega)]; exact h26) (fun i r hr => by
      obtain ⟨⟨h, x1, x2, x3⟩, x4⟩ := hu i r hr
      exact ⟨⟨h, by rw [g5 _ (by omega)]; exact x1, x2, by rw [g5 _ (by omega)]; exact x3⟩, x4⟩) g2 (by omega)
    rw [el] at f1
    refine ⟨J2, C2, f1, f2, fun c c0 h => f3 c c0 ?_, fun b hb => (f4 b hb).trans (g5 b hb)⟩
    rcases h with h | ⟨p, hp, hn⟩
    · rcases g4 c with z | z
      · exact Or.inl (z.trans h)
      · exact Or.inl z
    · rcases List.mem_cons.mp hp with z | z
      · subst z; exact Or.inl (g3 c c0 hn)
      · exact Or.inr ⟨p, z, hn⟩
theorem r_gainOf (hi : Inv S) {us : List Int} (h3 : us.length ≤ 3) (hR : Rf m J S) (h26 : J m 26 = (us.length : Int)) (hu : ∀ i q, us[i]? = some q → Ed J m i q ∧ 0 ≤ q ∧ q < 80) (hC : Cm J (m + 8) czero) : ∃ J2, H_X12_gainOf m J = some (GT (dS S) czero us, J2) ∧ Cm J2 (m + 8) czero ∧ ∀ b, b ≠ m + 8 → J2 b = J b := by
  unfold H_X12_gainOf
  obtain ⟨J1, a1, a2, a3⟩ := r_goL hi (fun (zy13 : Int) (J14 : Jm) => H_X12_gainOf_L43 m zy13 1000000 0 J14) h3 us [] 1000000 0 J czero rfl hR h26 hu hC (fun c => (show (0:Int) ≤ 0 ∧ (0:Int) ≤ 99 by decide)) ⟨Int.le_refl _, by omega⟩ (by omega)
  obtain ⟨J2, C2, b1, b2, b3, b4⟩ := r_clL h3 (0 + GT (dS S) czero us) us [] 1000000 J1 _ rfl (by rw [a3 m (by omega)]; exact h26) (fun i r hr => by
    obtain ⟨⟨h, x1, x2, x3⟩, x4⟩ := hu i r hr
    exact ⟨⟨h, by rw [a3 _ (by omega)]; exact x1, x2, by rw [a3 _ (by omega)]; exact x3⟩, x4⟩) a2 (by omega)
  rw [show (([] : List Int).length : Int) = 0 from rfl] at a1 b1
  have e1 : H_X12_gainOf_L4 (fun (zy13 : Int) (J14 : Jm) => H_X12_gainOf_L43 m zy13 1000000 0 J14) m 1000000 0 0 J = some (0 + GT (dS S) czero us, J2) := a1.trans b1
  rw [Int.zero_add] at e1
  refine ⟨J2, e1, b2.ee (fun c c0 c1 => ?_), fun b hb => (b4 b hb).trans (a3 b hb)⟩
  refine (b3 c c0 ?_).symm
  by_cases h : ∃ p ∈ us, nearP p c
  · exact Or.inr h
  · exact Or.inl (CT_ne _ c us czero (fun p hp hn => h ⟨p, hp, hn⟩))
end ODO
