/-! THE CLASS'S SEARCH -/
theorem RX_len {gn : Cv → Int → Int} {cov : Cv → Int → Cv} : ∀ (es : List (Int → Int)) (C : Cv) (G : Int) (us pre : List Int) (b : Bs), RX gn cov es C G us pre b = b ∨ (RX gn cov es C G us pre b).2.length = pre.length + es.length
  | [], C, G, us, pre, b => by
    unfold RX
    split
    · exact Or.inr rfl
    · exact Or.inl rfl
  | e :: es, C, G, us, pre, b => by
    unfold RX
    refine fold_in _ (fun c => c = b ∨ c.2.length = pre.length + (e :: es).length) _ b (Or.inl rfl) (fun c i _ hc => ?_)
    split
    · rcases RX_len es (cov C (e (i : Int))) (G + gn C (e (i : Int))) (us ++ [e (i : Int)]) (pre ++ [(i : Int)]) c with h | h
      · rw [h]; exact hc
      · refine Or.inr (h.trans ?_)
        rw [List.length_append, List.length_singleton, List.length_cons]; omega
    · exact hc
theorem czok : Cok czero := fun c => (show (0 : Int) ≤ 0 ∧ (0 : Int) ≤ 99 by decide)
section CSEA
variable {E : Em} {w pl : Nat} {J J1 J2 : Jm} {S : Int → Int} {d g p : Int} {C : Cv} {e : Int → Int} {D : Int → Int} {k : Nat} {L : List Nat} {gs us pre : List Int} {b : Bs}
abbrev g0S (S : Int → Int) : Int → Int := gnD (dS S) czero
/-- the levels of the class and their lists -/
def Cs (J : Jm) (pl : Nat) (S : Int → Int) (d : Int) (gs : List Int) : Prop := J pl 3 = (gs.length : Int) ∧ ∀ (k : Nat) (g : Int), gs[k]? = some g → J (pl + 1) k = g ∧ Lst J pl k (enS S d g) (dS S) (ddl (enS S d g) 81)
theorem ddl_l (S : Int → Int) (d g : Int) : (ddl (enS S d g) 81).length ≤ 41 := by
  have := ddl_c (e := enS S d g) (fun h => en_vh h) 81
  rw [show cnt 81 = 41 by decide] at this
  exact this
theorem mxl_b {g0 : Int → Int} {l : List Nat} (h : ∀ h ∈ l, g0 (e (h : Int)) ≤ 495) : 0 ≤ mxl g0 e l ∧ mxl g0 e l ≤ 495 := by
  unfold mxl
  refine fold_in _ (fun m => 0 ≤ m ∧ m ≤ 495) l 0 ⟨by decide, by decide⟩ (fun b a ha hb => ?_)
  have := h a ha
  unfold mxZ
  split <;> omega
theorem g0_b (hi : Inv S) (hg : 0 ≤ g ∧ g < 8) (hd : 0 ≤ d ∧ d ≤ 3) {h : Int} (hp : 0 ≤ enS S d g h) : g0S S (enS S d g h) ≤ 495 := by
  have hpr := enS_r (h := h) hi hg hd
  exact gnD_b hi czok ⟨hp, by omega⟩
theorem mxl_s (hi : Inv S) (hg : 0 ≤ g ∧ g < 8) (hd : 0 ≤ d ∧ d ≤ 3) : 0 ≤ mxl (g0S S) (enS S d g) (ddl (enS S d g) 81) ∧ mxl (g0S S) (enS S d g) (ddl (enS S d g) 81) ≤ 495 := mxl_b (fun h hh => g0_b hi hg hd (ddl_v _ 81 h hh).1)
theorem mos_b (hi : Inv S) (hd : 0 ≤ d ∧ d ≤ 3) : ∀ gs : List Int, (∀ g ∈ gs, 0 ≤ g ∧ g < 8) → 0 ≤ mos (g0S S) (gs.map (enS S d)) ∧ mos (g0S S) (gs.map (enS S d)) ≤ 495 * (gs.length : Int)
  | [], _ => ⟨Int.le_refl _, Int.le_refl _⟩
  | g :: gs, h => by
    have a := mos_b hi hd gs (fun q hq => h q (List.mem_cons_of_mem g hq))
    have c := mxl_s hi (h g List.mem_cons_self) hd
    have e : mos (g0S S) ((g :: gs).map (enS S d)) = mos (g0S S) (gs.map (enS S d)) + mxl (g0S S) (enS S d g) (ddl (enS S d g) 81) := rfl
    rw [e, List.length_cons]
    omega
theorem c_l25 (hL : Lst J pl k e D L) (hk : k < 3) (hl : L.length ≤ 41) (K : Int → Jm → Option Jm) : ∀ (suf pre : List Nat) (fu : Nat) (mx : Int), pre ++ suf = L → suf.length < fu → H_X5_sumMostFrom_L25 K pl (k : Int) fu mx (pre.length : Int) J = K (suf.foldl (fun (m : Int) (h : Nat) => mxZ m (gnD D czero (e (h : Int)))) mx) J
  | [], pre, fu, mx, e1, h2 => by
    obtain ⟨fu, rfl⟩ : ∃ f, fu = f + 1 := ⟨fu - 1, by omega⟩
    rw [List.append_nil] at e1
    rw [H_X5_sumMostFrom_L25, q_jL (by omega), Option.bind_some, hL.1, e1, if_pos (Int.le_refl _)]
    rfl
  | h :: suf, pre, fu, mx, e1, h2 => by
    rw [List.length_cons] at h2
    obtain ⟨fu, rfl⟩ : ∃ f, fu = f + 1 := ⟨fu - 1, by omega⟩
    have hlen : pre.length + (suf.length + 1) = L.length := by rw [← e1, List.length_append, List.length_cons]
    have hh : L[pre.length]? = some h := by rw [← e1, List.getElem?_append_right (Nat.le_refl _), Nat.sub_self]; rfl
    have ih := c_l25 hL hk hl K suf (pre ++ [h]) fu (mxZ mx (gnD D czero (e (h : Int)))) (by rw [List.append_assoc]; exact e1) (by omega)
    have el : ((pre ++ [h]).length : Int) = (pre.length : Int) + 1 := by rw [List.length_append, List.length_singleton]; omega
    rw [el] at ih
    rw [H_X5_sumMostFrom_L25, q_jL (by omega), Option.bind_some, hL.1, if_neg (by omega), show wr (wr ((k : Int) * 41) + (pre.length : Int)) = ((41 * k + pre.length : Nat) : Int) by rw [wr_id (z := (k : Int) * 41) (by omega), wr_id (by omega)]; omega, q_jL (by omega), Option.bind_some, (hL.2 _ h hh).2.2, wr_id (z := (pre.length : Int) + 1) (by omega)]
    exact ih
def Sk (pl n6 : Nat) (k zy16 : Int) (J17 : Jm) : Option Jm :=
  (jL J17 (pl + 6) 4 (wr (k + 1))).bind fun zv20 =>
  (jS J17 (pl + 6) 4 k (wr (zv20 + zy16))).bind fun J22 =>
  H_X5_sumMostFrom_L17 pl n6 (wr (k + (-1))) J22
theorem Cs.o (h : Cs J pl S d gs) (e0 : J2 pl 3 = J pl 3) (e1 : ∀ b, pl < b → b ≤ pl + 5 → J2 b = J b) : Cs J2 pl S d gs := ⟨by rw [e0]; exact h.1, fun k g hk => by
  obtain ⟨a1, a2, a3⟩ := h.2 k g hk
  exact ⟨by rw [e1 _ (by omega) (by omega)]; exact a1, by rw [e1 _ (by omega) (by omega)]; exact a2, fun i y hy => by rw [e1 _ (by omega) (by omega), e1 (pl + 4) (by omega) (by omega), e1 (pl + 5) (by omega) (by omega)]; exact a3 i y hy⟩⟩
/-- the most from each level on -/
def Mo (J : Jm) (pl : Nat) (S : Int → Int) (d : Int) (gs : List Int) (t : Nat) : Prop := ∀ j : Nat, t ≤ j → j ≤ gs.length → J (pl + 6) j = mos (g0S S) ((gs.drop j).map (enS S d))
theorem c_m17 (hi : Inv S) (hd : 0 ≤ d ∧ d ≤ 3) (hn : gs.length ≤ 3) (hgs : ∀ g ∈ gs, 0 ≤ g ∧ g < 8) : ∀ (t fu : Nat) (J : Jm), t ≤ gs.length → t < fu → Cs J pl S d gs → Mo J pl S d gs t → ∃ J2, H_X5_sumMostFrom_L17 pl fu ((t : Int) - 1) J = some J2 ∧ Mo J2 pl S d gs 0 ∧ ∀ b, b ≠ pl + 6 → J2 b = J b
  | 0, fu, J, h1, h2, hC, hM => by
    obtain ⟨fu, rfl⟩ : ∃ f, fu = f + 1 := ⟨fu - 1, by omega⟩
    rw [H_X5_sumMostFrom_L17, if_pos (by omega)]
    exact ⟨J, rfl, hM, fun _ _ => rfl⟩
  | t + 1, fu, J, h1, h2, hC, hM => by
    obtain ⟨fu, rfl⟩ : ∃ f, fu = f + 1 := ⟨fu - 1, by omega⟩
    have hg : gs[t]? = some gs[t] := List.getElem?_eq_getElem (by omega)
    have hgr := hgs gs[t] (List.getElem_mem (by omega))
    have hm := mxl_s hi hgr hd
    have hmb := mos_b (S := S) hi hd (gs.drop (t + 1)) (fun q hq => hgs q (List.mem_of_mem_drop hq))
    have hdl : (gs.drop (t + 1)).length = gs.length - (t + 1) := List.length_drop
    have ekk : ((t : Nat) : Int).toNat = t := by omega
    have hM1 := hM (t + 1) (Nat.le_refl _) h1
    have a := c_l25 (pl := pl) (hC.2 t _ hg).2 (by omega) (ddl_l S d gs[t]) (Sk pl fu (t : Int)) (ddl (enS S d gs[t]) 81) [] 1000000 0 rfl (by have := ddl_l S d gs[t]; omega)
    rw [show (([] : List Nat).length : Int) = 0 from rfl] at a
    have ed : gs.drop t = gs[t] :: gs.drop (t + 1) := List.drop_eq_getElem_cons (by omega)
    have em : mos (g0S S) ((gs.drop t).map (enS S d)) = mos (g0S S) ((gs.drop (t + 1)).map (enS S d)) + mxl (g0S S) (enS S d gs[t]) (ddl (enS S d gs[t]) 81) := by rw [ed]; rfl
    have hM2 : Mo (jW J (pl + 6) t (mos (g0S S) ((gs.drop t).map (enS S d)))) pl S d gs t := fun j h3 h4 => by
      by_cases q : j = t
      · rw [q, jW_at]
      · rw [jW_of q]; exact hM j (by omega) h4
    obtain ⟨J2, f1, f2, f3⟩ := c_m17 hi hd hn hgs t fu (jW J (pl + 6) t (mos (g0S S) ((gs.drop t).map (enS S d)))) (by omega) (by omega) (hC.o (by rw [jW_ne (by omega)]) (fun b b1 b2 => jW_ne (by omega))) hM2
    have s : Sk pl fu (t : Int) (mxl (g0S S) (enS S d gs[t]) (ddl (enS S d gs[t]) 81)) J = some J2 := by
      unfold Sk
      rw [wr_id (z := (t : Int) + 1) (by omega), show (t : Int) + 1 = ((t + 1 : Nat) : Int) by omega, q_jL (by omega), Option.bind_some, hM1, wr_id (z := mos _ _ + _) (by omega), ← em, zS (by omega) (by omega), Option.bind_some, ekk, wr_id (z := (t : Int) + -1) (by omega), show (t : Int) + -1 = (t : Int) - 1 by omega]
      exact f1
    rw [H_X5_sumMostFrom_L17, if_neg (by omega), show ((t + 1 : Nat) : Int) - 1 = (t : Int) by omega]
    exact ⟨J2, a.trans s, f2, fun b hb => (f3 b hb).trans (jW_ne hb)⟩
theorem c_sum (hi : Inv S) (hd : 0 ≤ d ∧ d ≤ 3) (hn : gs.length ≤ 3) (hgs : ∀ g ∈ gs, 0 ≤ g ∧ g < 8) (hC : Cs J pl S d gs) : ∃ J2, H_X5_sumMostFrom pl J = some J2 ∧ Mo J2 pl S d gs 0 ∧ ∀ b, b ≠ pl + 6 → J2 b = J b := by
  have ekk : ((gs.length : Nat) : Int).toNat = gs.length := by omega
  unfold H_X5_sumMostFrom
  rw [hC.1, zS (by omega) (by omega), Option.bind_some, ekk, jW_ne (by omega), hC.1, wr_id (by omega)]
  have hM : Mo (jW J (pl + 6) gs.length 0) pl S d gs gs.length := fun j h1 h2 => by
    have ej : j = gs.length := by omega
    rw [ej, jW_at, List.drop_length]; rfl
  obtain ⟨J2, f1, f2, f3⟩ := c_m17 hi hd hn hgs gs.length 1000000 (jW J (pl + 6) gs.length 0) (Nat.le_refl _) (by omega) (hC.o (by rw [jW_ne (by omega)]) (fun b b1 b2 => jW_ne (by omega))) hM
  exact ⟨J2, f1, f2, fun b hb => (f3 b hb).trans (jW_ne hb)⟩
/-- the picks of the levels before k -/
def Pk (J : Jm) (pl : Nat) (us pre : List Int) (k : Nat) : Prop := us.length = k ∧ pre.length = k ∧ ∀ i : Nat, i < k → ∃ z : Nat, z < 123 ∧ J (pl + 9) i = (z : Int) ∧ (∀ q : Int, us[i]? = some q → J (pl + 3) z = q) ∧ ∀ h : Int, pre[i]? = some h → J (pl + 4) z = 20 * (h / 9 + 6) + (h % 9 + 6)
theorem c_tkL (hP : Pk J pl us pre k) (hk : k ≤ 3) : ∀ (suf pr : List Int) (fu : Nat), pr ++ suf = us → suf.length < fu → H_X5_isTaken_L2 pl (k : Int) p J fu (pr.length : Int) = some (if p ∈ suf then 1 else 0)
  | [], pr, fu, e, h2 => by
    obtain ⟨fu, rfl⟩ : ∃ f, fu = f + 1 := ⟨fu - 1, by omega⟩
    rw [List.append_nil] at e
    have h1 := hP.1
    rw [H_X5_isTaken_L2, e, h1, if_pos (Int.le_refl _), if_neg List.not_mem_nil]
  | q :: suf, pr, fu, e, h2 => by
    rw [List.length_cons] at h2
    obtain ⟨fu, rfl⟩ : ∃ f, fu = f + 1 := ⟨fu - 1, by omega⟩
    have hlen : pr.length + (suf.length + 1) = k := by rw [← hP.1, ← e, List.length_append, List.length_cons]
    have hq : us[pr.length]? = some q := by rw [← e, List.getElem?_append_right (Nat.le_refl _), Nat.sub_self]; rfl
    obtain ⟨z, z1, z2, z3, z4⟩ := hP.2.2 pr.length (by omega)
    have ih := c_tkL hP hk suf (pr ++ [q]) fu (by rw [List.append_assoc]; exact e) (by omega)
    have el : ((pr ++ [q]).length : Int) = (pr.length : Int) + 1 := by rw [List.length_append, List.length_singleton]; omega
    rw [el] at ih
    rw [H_X5_isTaken_L2, if_neg (by omega), q_jL (by omega), Option.bind_some, z2, q_jL (by omega), Option.bind_some, z3 q hq, wr_id (z := (pr.length : Int) + 1) (by omega), ih]
    by_cases e : q = p
    · rw [if_pos e, if_pos (List.mem_cons.mpr (Or.inl e.symm))]
    · rw [if_neg e]
      by_cases m : p ∈ suf
      · rw [if_pos m, if_pos (List.mem_cons_of_mem q m)]
      · rw [if_neg m, if_neg (fun x => (List.mem_cons.mp x).elim (fun y => e y.symm) m)]
theorem c_take (hP : Pk J pl us pre k) (hk : k ≤ 3) : H_X5_isTaken pl (k : Int) p J = some (if p ∈ us then 1 else 0) := by
  have a := c_tkL (p := p) hP hk us [] 1000000 rfl (by have := hP.1; omega)
  rw [show (([] : List Int).length : Int) = 0 from rfl] at a
  exact a
end CSEA
