/-! THE PLAN, AS A SEARCH: all tuples; and what may be left out -/
abbrev Cv : Type := Int → Int
abbrev Bs : Type := Int × List Int
/-- all tuples of ends, one of each level, no two alike: the best gain, the first that has it -/
def RX (gn : Cv → Int → Int) (cov : Cv → Int → Cv) : List (Int → Int) → Cv → Int → List Int → List Int → Bs → Bs
  | [], _, G, _, pre, b => if b.1 < G then (G, pre) else b
  | e :: es, C, G, us, pre, b => (List.range 81).foldl (fun (b : Bs) (h : Nat) => if 0 ≤ e (h : Int) ∧ e (h : Int) ∉ us then RX gn cov es (cov C (e (h : Int))) (G + gn C (e (h : Int))) (us ++ [e (h : Int)]) (pre ++ [(h : Int)]) b else b) b
/-- one step of the search at a level -/
def RXs (gn : Cv → Int → Int) (cov : Cv → Int → Cv) (e : Int → Int) (es : List (Int → Int)) (C : Cv) (G : Int) (us pre : List Int) (b : Bs) (h : Nat) : Bs := if 0 ≤ e (h : Int) ∧ e (h : Int) ∉ us then RX gn cov es (cov C (e (h : Int))) (G + gn C (e (h : Int))) (us ++ [e (h : Int)]) (pre ++ [(h : Int)]) b else b
/-- no tuple from here on gains more than x -/
def UBx (gn : Cv → Int → Int) (cov : Cv → Int → Cv) : List (Int → Int) → Cv → List Int → Int → Prop
  | [], _, _, x => 0 ≤ x
  | e :: es, C, us, x => ∀ h : Nat, h < 81 → 0 ≤ e (h : Int) → e (h : Int) ∉ us → UBx gn cov es (cov C (e (h : Int))) (us ++ [e (h : Int)]) (x - gn C (e (h : Int)))
section RXS
variable {gn : Cv → Int → Int} {cov : Cv → Int → Cv}
theorem UBx_m : ∀ (es : List (Int → Int)) (C : Cv) (us : List Int) (x y : Int), x ≤ y → UBx gn cov es C us x → UBx gn cov es C us y
  | [], _, _, x, y, h, hx => Int.le_trans hx h
  | e :: es, C, us, x, y, h, hx => fun i h1 h2 h3 => UBx_m es _ _ _ _ (by omega) (hx i h1 h2 h3)
theorem fold_id {α β : Type} (f : β → α → β) : ∀ (l : List α) (b : β), (∀ a ∈ l, f b a = b) → l.foldl f b = b
  | [], _, _ => rfl
  | a :: l, b, h => by
    rw [List.foldl_cons, h a List.mem_cons_self]
    exact fold_id f l b (fun c hc => h c (List.mem_cons_of_mem a hc))
theorem fold_in {α β : Type} (f : β → α → β) (Q : β → Prop) : ∀ (l : List α) (b : β), Q b → (∀ b a, a ∈ l → Q b → Q (f b a)) → Q (l.foldl f b)
  | [], _, h, _ => h
  | a :: l, b, h, h2 => by
    rw [List.foldl_cons]
    exact fold_in f Q l (f b a) (h2 b a List.mem_cons_self h) (fun c d hd hc => h2 c d (List.mem_cons_of_mem a hd) hc)
theorem fold_all {α β : Type} (f : β → α → β) (Q : α → β → Prop) (hm : ∀ c b a, Q c b → Q c (f b a)) (hs : ∀ b a, Q a (f b a)) : ∀ (l : List α) (b : β) (a : α), a ∈ l → Q a (l.foldl f b)
  | [], _, _, h => absurd h List.not_mem_nil
  | c :: l, b, a, h => by
    rw [List.foldl_cons]
    rcases List.mem_cons.mp h with h | h
    · subst h
      exact fold_in f (Q a) l _ (hs b a) (fun b' a' _ hq => hm a b' a' hq)
    · exact fold_all f Q hm hs l _ a h
/-- what can't be better changes nothing -/
theorem RX_no : ∀ (es : List (Int → Int)) (C : Cv) (G : Int) (us pre : List Int) (b : Bs), UBx gn cov es C us (b.1 - G) → RX gn cov es C G us pre b = b
  | [], C, G, us, pre, b, h => by
    have h' : 0 ≤ b.1 - G := h
    unfold RX
    rw [if_neg (by omega)]
  | e :: es, C, G, us, pre, b, h => by
    unfold RX
    refine fold_id _ _ b (fun i hi => ?_)
    have hi' := List.mem_range.mp hi
    by_cases k : 0 ≤ e (i : Int) ∧ e (i : Int) ∉ us
    · rw [if_pos k]
      refine RX_no es _ _ _ _ b ?_
      have := h i hi' k.1 k.2
      rw [show b.1 - (G + gn C (e (i : Int))) = b.1 - G - gn C (e (i : Int)) by omega]
      exact this
    · rw [if_neg k]
theorem RX_le : ∀ (es : List (Int → Int)) (C : Cv) (G : Int) (us pre : List Int) (b : Bs), b.1 ≤ (RX gn cov es C G us pre b).1
  | [], C, G, us, pre, b => by
    unfold RX
    split
    · rename_i h; exact Int.le_of_lt h
    · exact Int.le_refl _
  | e :: es, C, G, us, pre, b => by
    unfold RX
    refine fold_in _ (fun c => b.1 ≤ c.1) _ b (Int.le_refl _) (fun c i _ hc => ?_)
    split
    · exact Int.le_trans hc (RX_le es _ _ _ _ c)
    · exact hc
/-- behind the search nothing is better -/
theorem RX_ub : ∀ (es : List (Int → Int)) (C : Cv) (G : Int) (us pre : List Int) (b : Bs), UBx gn cov es C us ((RX gn cov es C G us pre b).1 - G)
  | [], C, G, us, pre, b => by
    unfold RX UBx
    split
    · dsimp only; omega
    · omega
  | e :: es, C, G, us, pre, b => by
    intro h h1 h2 h3
    unfold RX
    have key := fold_all (fun (b : Bs) (h : Nat) => if 0 ≤ e (h : Int) ∧ e (h : Int) ∉ us then RX gn cov es (cov C (e (h : Int))) (G + gn C (e (h : Int))) (us ++ [e (h : Int)]) (pre ++ [(h : Int)]) b else b) (fun h b => 0 ≤ e (h : Int) → e (h : Int) ∉ us → UBx gn cov es (cov C (e (h : Int))) (us ++ [e (h : Int)]) (b.1 - G - gn C (e (h : Int)))) ?_ ?_ (List.range 81) b h (List.mem_range.mpr h1) h2 h3
    · exact key
    · intro c b a hq q1 q2
      refine UBx_m es _ _ _ _ ?_ (hq q1 q2)
      split
      · have := RX_le (gn := gn) (cov := cov) es (cov C (e (a : Int))) (G + gn C (e (a : Int))) (us ++ [e (a : Int)]) (pre ++ [(a : Int)]) b
        omega
      · exact Int.le_refl _
    · intro b a q1 q2
      rw [if_pos ⟨q1, q2⟩, show ∀ y : Int, y - G - gn C (e (a : Int)) = y - (G + gn C (e (a : Int))) from fun y => by omega]
      exact RX_ub es _ _ _ _ b
/-- the ends that differ, each with the first heading that leads there, of the first j headings -/
def ddl (e : Int → Int) : Nat → List Nat
  | 0 => []
  | j + 1 => if 0 ≤ e (j : Int) ∧ ∀ h ∈ ddl e j, e (h : Int) ≠ e (j : Int) then ddl e j ++ [j] else ddl e j
theorem ddl_v (e : Int → Int) : ∀ (j h : Nat), h ∈ ddl e j → 0 ≤ e (h : Int) ∧ h < j
  | 0, h, hh => absurd hh List.not_mem_nil
  | j + 1, h, hh => by
    unfold ddl at hh
    split at hh
    · rename_i k
      rcases List.mem_append.mp hh with q | q
      · have := ddl_v e j h q
        exact ⟨this.1, by omega⟩
      · have := List.mem_singleton.mp q
        subst this
        exact ⟨k.1, by omega⟩
    · have := ddl_v e j h hh
      exact ⟨this.1, by omega⟩
theorem ddl_a (e : Int → Int) : ∀ (j h : Nat), h < j → 0 ≤ e (h : Int) → ∃ i ∈ ddl e j, e (i : Int) = e (h : Int)
  | 0, h, h1, _ => by omega
  | j + 1, h, h1, h2 => by
    unfold ddl
    by_cases k : h = j
    · subst k
      split
      · exact ⟨h, List.mem_append.mpr (Or.inr (List.mem_singleton.mpr rfl)), rfl⟩
      · rename_i q
        refine Classical.byContradiction (fun hn => q ⟨h2, fun i hi he => hn ⟨i, hi, he⟩⟩)
    · obtain ⟨i, hi, he⟩ := ddl_a e j h (by omega) h2
      split
      · exact ⟨i, List.mem_append.mpr (Or.inl hi), he⟩
      · exact ⟨i, hi, he⟩
/-- the headings that come to an end where one was already change nothing -/
theorem RX_dd (e : Int → Int) (es : List (Int → Int)) (C : Cv) (G : Int) (us pre : List Int) (b : Bs) : ∀ j : Nat, (List.range j).foldl (RXs gn cov e es C G us pre) b = (ddl e j).foldl (RXs gn cov e es C G us pre) b ∧ ∀ h : Nat, h < j → 0 ≤ e (h : Int) → e (h : Int) ∉ us → UBx gn cov es (cov C (e (h : Int))) (us ++ [e (h : Int)]) (((List.range j).foldl (RXs gn cov e es C G us pre) b).1 - (G + gn C (e (h : Int))))
  | 0 => ⟨rfl, fun h hh => by omega⟩
  | j + 1 => by
    obtain ⟨i1, i2⟩ := RX_dd e es C G us pre b j
    have hr : (List.range (j + 1)).foldl (RXs gn cov e es C G us pre) b = RXs gn cov e es C G us pre ((List.range j).foldl (RXs gn cov e es C G us pre) b) j := by
      rw [List.range_succ, List.foldl_append]; rfl
    have hmono : ((List.range j).foldl (RXs gn cov e es C G us pre) b).1 ≤ (RXs gn cov e es C G us pre ((List.range j).foldl (RXs gn cov e es C G us pre) b) j).1 := by
      unfold RXs
      split
      · exact RX_le es _ _ _ _ _
      · exact Int.le_refl _
    refine ⟨?_, fun h h1 h2 h3 => ?_⟩
    · rw [hr]
      unfold ddl
      by_cases k : 0 ≤ e (j : Int) ∧ ∀ h ∈ ddl e j, e (h : Int) ≠ e (j : Int)
      · rw [if_pos k, List.foldl_append, ← i1]; rfl
      · rw [if_neg k, ← i1]
        by_cases k2 : 0 ≤ e (j : Int) ∧ e (j : Int) ∉ us
        · have hex : ∃ i ∈ ddl e j, e (i : Int) = e (j : Int) := Classical.byContradiction (fun hn => k ⟨k2.1, fun i hi he => hn ⟨i, hi, he⟩⟩)
          obtain ⟨i, hi, he⟩ := hex
          have hv := ddl_v e j i hi
          have := i2 i hv.2 hv.1 (by rw [he]; exact k2.2)
          rw [he] at this
          generalize (List.range j).foldl (RXs gn cov e es C G us pre) b = B at this ⊢
          unfold RXs
          rw [if_pos k2]
          exact RX_no es _ _ _ _ B this
        · generalize (List.range j).foldl (RXs gn cov e es C G us pre) b = B
          unfold RXs
          rw [if_neg k2]
    · rw [hr]
      by_cases k : h = j
      · subst k
        generalize (List.range h).foldl (RXs gn cov e es C G us pre) b = B
        unfold RXs
        rw [if_pos ⟨h2, h3⟩]
        exact RX_ub es _ _ _ _ B
      · refine UBx_m es _ _ _ _ ?_ (i2 h (by omega) h2 h3)
        omega
/-- the most that a level gains, each for itself -/
def mxl (g0 : Int → Int) (e : Int → Int) (l : List Nat) : Int := l.foldl (fun (m : Int) (h : Nat) => mxZ m (g0 (e (h : Int)))) 0
def mos (g0 : Int → Int) : List (Int → Int) → Int
  | [] => 0
  | e :: es => mos g0 es + mxl g0 e (ddl e 81)
theorem mxl_le (g0 : Int → Int) (e : Int → Int) (l : List Nat) (h : Nat) (hh : h ∈ l) : g0 (e (h : Int)) ≤ mxl g0 e l := by
  unfold mxl
  refine fold_all (fun (m : Int) (h : Nat) => mxZ m (g0 (e (h : Int)))) (fun h m => g0 (e (h : Int)) ≤ m) ?_ ?_ l 0 h hh
  · intro c b a hq
    unfold mxZ
    split
    · rename_i q; exact Int.le_of_lt (Int.lt_of_le_of_lt hq q)
    · exact hq
  · intro b a
    show g0 (e (a : Int)) ≤ mxZ b (g0 (e (a : Int)))
    unfold mxZ
    split <;> omega
theorem mos_ub {g0 : Int → Int} (h0 : ∀ C : Cv, (∀ c, 0 ≤ C c) → ∀ p, gn C p ≤ g0 p) (hc : ∀ C : Cv, (∀ c, 0 ≤ C c) → ∀ p c, 0 ≤ cov C p c) : ∀ (es : List (Int → Int)) (C : Cv) (us : List Int) (x : Int), (∀ c, 0 ≤ C c) → mos g0 es ≤ x → UBx gn cov es C us x
  | [], _, _, _, _, h => h
  | e :: es, C, us, x, hC, h => fun i h1 h2 h3 => by
    obtain ⟨j, hj, he⟩ := ddl_a e 81 i h1 h2
    have a1 := mxl_le g0 e (ddl e 81) j hj
    have a2 := h0 C hC (e (i : Int))
    have h' : mos g0 es + mxl g0 e (ddl e 81) ≤ x := h
    rw [he] at a1
    exact mos_ub h0 hc es _ _ _ (hc C hC _) (by omega)
/-- the search that leaves what can't be better -/
def RC (gn : Cv → Int → Int) (cov : Cv → Int → Cv) (g0 : Int → Int) : List (Int → Int) → Cv → Int → List Int → List Int → Bs → Bs
  | [], _, G, _, pre, _ => (G, pre)
  | e :: es, C, G, us, pre, b => (ddl e 81).foldl (fun (b : Bs) (h : Nat) => if b.1 < G + g0 (e (h : Int)) + mos g0 es ∧ e (h : Int) ∉ us ∧ b.1 < G + gn C (e (h : Int)) + mos g0 es then RC gn cov g0 es (cov C (e (h : Int))) (G + gn C (e (h : Int))) (us ++ [e (h : Int)]) (pre ++ [(h : Int)]) b else b) b
theorem fold_eq {α β : Type} (f g : β → α → β) : ∀ (l : List α) (b : β), (∀ b a, a ∈ l → f b a = g b a) → l.foldl f b = l.foldl g b
  | [], _, _ => rfl
  | a :: l, b, h => by
    rw [List.foldl_cons, List.foldl_cons, h b a List.mem_cons_self]
    exact fold_eq f g l _ (fun c d hd => h c d (List.mem_cons_of_mem a hd))
theorem RC_RX {g0 : Int → Int} (h0 : ∀ C : Cv, (∀ c, 0 ≤ C c) → ∀ p, gn C p ≤ g0 p) (hc : ∀ C : Cv, (∀ c, 0 ≤ C c) → ∀ p c, 0 ≤ cov C p c) : ∀ (es : List (Int → Int)) (C : Cv) (G : Int) (us pre : List Int) (b : Bs), (∀ c, 0 ≤ C c) → (es = [] → b.1 < G) → RC gn cov g0 es C G us pre b = RX gn cov es C G us pre b
  | [], C, G, us, pre, b, hC, hb => by
    unfold RC RX
    rw [if_pos (hb rfl)]
  | e :: es, C, G, us, pre, b, hC, _ => by
    have e1 : RX gn cov (e :: es) C G us pre b = (ddl e 81).foldl (RXs gn cov e es C G us pre) b := (RX_dd e es C G us pre b 81).1
    rw [e1]
    unfold RC
    refine fold_eq _ _ _ b (fun b h hh => ?_)
    have hv := ddl_v e 81 h hh
    unfold RXs
    by_cases k1 : e (h : Int) ∉ us
    · rw [if_pos (c := 0 ≤ e (h : Int) ∧ e (h : Int) ∉ us) ⟨hv.1, k1⟩]
      have hg := h0 C hC (e (h : Int))
      by_cases k2 : b.1 < G + gn C (e (h : Int)) + mos g0 es
      · rw [if_pos ⟨by omega, k1, k2⟩]
        refine RC_RX h0 hc es _ _ _ _ b (hc C hC _) (fun he => ?_)
        subst he
        have z : mos g0 [] = 0 := rfl
        omega
      · rw [if_neg (fun q => k2 q.2.2)]
        exact (RX_no es _ _ _ _ b (mos_ub h0 hc es _ _ _ (hc C hC _) (by omega))).symm
    · rw [if_neg (fun q => k1 q.2.1), if_neg (c := 0 ≤ e (h : Int) ∧ e (h : Int) ∉ us) (fun q => k1 q.2)]
/-- from which value below 0 the search begins doesn't matter -/
theorem RX_b (hg : ∀ (C : Cv) (p : Int), 0 ≤ gn C p) : ∀ (es : List (Int → Int)) (C : Cv) (G : Int) (us pre : List Int) (b d : Bs), 0 ≤ G → b.1 < 0 → d.1 < 0 → (RX gn cov es C G us pre b = b ∧ RX gn cov es C G us pre d = d) ∨ (RX gn cov es C G us pre b = RX gn cov es C G us pre d ∧ 0 ≤ (RX gn cov es C G us pre b).1)
  | [], C, G, us, pre, b, d, hG, hb, hd => by
    unfold RX
    rw [if_pos (by omega), if_pos (by omega)]
    exact Or.inr ⟨rfl, hG⟩
  | e :: es, C, G, us, pre, b, d, hG, hb, hd => by
    unfold RX
    have key : ∀ (l : List Nat) (x y : Bs), ((x = b ∧ y = d) ∨ (x = y ∧ 0 ≤ x.1)) → (l.foldl (RXs gn cov e es C G us pre) x = b ∧ l.foldl (RXs gn cov e es C G us pre) y = d) ∨ (l.foldl (RXs gn cov e es C G us pre) x = l.foldl (RXs gn cov e es C G us pre) y ∧ 0 ≤ (l.foldl (RXs gn cov e es C G us pre) x).1) := by
      intro l
      induction l with
      | nil => intro x y h; exact h
      | cons a l ih =>
        intro x y h
        rw [List.foldl_cons, List.foldl_cons]
        refine ih _ _ ?_
        rcases h with ⟨h1, h2⟩ | ⟨h1, h2⟩
        · subst h1; subst h2
          unfold RXs
          by_cases k : 0 ≤ e (a : Int) ∧ e (a : Int) ∉ us
          · rw [if_pos k, if_pos k]
            exact RX_b hg es _ _ _ _ x y (by have := hg C (e (a : Int)); omega) hb hd
          · rw [if_neg k, if_neg k]
            exact Or.inl ⟨rfl, rfl⟩
        · subst h1
          refine Or.inr ⟨rfl, Int.le_trans h2 ?_⟩
          unfold RXs
          split
          · exact RX_le es _ _ _ _ _
          · exact Int.le_refl _
    exact key (List.range 81) b d (Or.inl ⟨rfl, rfl⟩)
end RXS
