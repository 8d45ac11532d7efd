/-! THE CLASS'S SEARCH, LEVEL BY LEVEL -/
def RCs (gn : Cv → Int → Int) (cov : Cv → Int → Cv) (g0 : Int → Int) (e : Int → Int) (es : List (Int → Int)) (C : Cv) (G : Int) (us pre : List Int) (b : Bs) (h : Nat) : Bs := if b.1 < G + g0 (e (h : Int)) + mos g0 es ∧ e (h : Int) ∉ us ∧ b.1 < G + gn C (e (h : Int)) + mos g0 es then RC gn cov g0 es (cov C (e (h : Int))) (G + gn C (e (h : Int))) (us ++ [e (h : Int)]) (pre ++ [(h : Int)]) b else b
section CSEB
variable {E : Em} {w pl : Nat} {J J1 J2 : Jm} {S : Int → Int} {d g p : Int} {C : Cv} {k : Nat} {gs us pre : List Int} {b b2 : Bs}
def Bc (J : Jm) (pl : Nat) (b : Bs) : Prop := J pl 13 = b.1 ∧ ∀ (i : Nat) (h : Int), b.2[i]? = some h → ∃ z : Nat, z < 123 ∧ J (pl + 10) i = (z : Int) ∧ J (pl + 4) z = 20 * (h / 9 + 6) + (h % 9 + 6)
def Fs (pl k : Nat) (J J2 : Jm) : Prop := (∀ b, b ≠ pl → (b < pl + 7 ∨ pl + 10 < b) → J2 b = J b) ∧ (∀ i, i ≠ 13 → J2 pl i = J pl i) ∧ (∀ i, i < k → J2 (pl + 9) i = J (pl + 9) i) ∧ ∀ i, i < 5 * k → J2 (pl + 8) i = J (pl + 8) i
theorem Fs.r : Fs pl k J J := ⟨fun _ _ _ => rfl, fun _ _ => rfl, fun _ _ => rfl, fun _ _ => rfl⟩
theorem Fs.tt (h1 : Fs pl k J J1) {n : Nat} (h2 : Fs pl n J1 J2) (hk : k ≤ n) : Fs pl k J J2 := ⟨fun b a1 a2 => (h2.1 b a1 a2).trans (h1.1 b a1 a2), fun i a => (h2.2.1 i a).trans (h1.2.1 i a), fun i a => (h2.2.2.1 i (by omega)).trans (h1.2.2.1 i a), fun i a => (h2.2.2.2 i (by omega)).trans (h1.2.2.2 i a)⟩
def SI (J : Jm) (w pl : Nat) (S : Int → Int) (d : Int) (gs us pre : List Int) (k : Nat) (b : Bs) : Prop := Cs J pl S d gs ∧ Mo J pl S d gs 0 ∧ Vs w J S ∧ Cm J (pl + 7) (CT (dS S) czero us) ∧ Pk J pl us pre k ∧ Bc J pl b
theorem SI.fs (h : SI J w pl S d gs us pre k b) (f : Fs pl k J J2) (hV : Vs w J2 S) (hC : Cm J2 (pl + 7) (CT (dS S) czero us)) (hB : Bc J2 pl b2) : SI J2 w pl S d gs us pre k b2 := by
  obtain ⟨a1, a2, a3, a4, a5, a6⟩ := h
  refine ⟨a1.o (f.2.1 3 (by omega)) (fun b b1 b2 => f.1 b (by omega) (by omega)), fun j j1 j2 => by rw [f.1 (pl + 6) (by omega) (by omega)]; exact a2 j j1 j2, hV, hC, ⟨a5.1, a5.2.1, fun i hi => ?_⟩, hB⟩
  obtain ⟨z, z1, z2, z3, z4⟩ := a5.2.2 i hi
  exact ⟨z, z1, by rw [f.2.2.1 i hi]; exact z2, by rw [f.1 (pl + 3) (by omega) (by omega)]; exact z3, by rw [f.1 (pl + 4) (by omega) (by omega)]; exact z4⟩
theorem CT_ok (hi : Inv S) : ∀ (us : List Int) (C : Cv), Cok C → (∀ q ∈ us, 0 ≤ q ∧ q < 80) → Cok (CT (dS S) C us)
  | [], _, h, _ => h
  | q :: us, C, h, hq => CT_ok hi us _ (covD_b hi h (hq q List.mem_cons_self)) (fun r hr => hq r (List.mem_cons_of_mem q hr))
theorem c_lv (hpl : w + 32 < pl) (hi : Inv S) (hd : 0 ≤ d ∧ d ≤ 3) (h1 : E.2.1 pl 1 = some (w + 1)) (hn : gs.length ≤ 3) (hgs : ∀ g ∈ gs, 0 ≤ g ∧ g < 8) (hk : gs[k]? = some g) {X3 : Int} (hX : X3 = 41 * (k : Int)) {rech : Nat → Int → Int → Jm → Option Jm} (hG : 0 ≤ GT (dS S) czero us ∧ GT (dS S) czero us ≤ 495 * (k : Int)) (hus : ∀ q ∈ us, 0 ≤ q ∧ q < 80) (sub : ∀ (J : Jm) (h : Nat) (b : Bs), 0 ≤ enS S d g (h : Int) → SI J w pl S d gs (us ++ [enS S d g (h : Int)]) (pre ++ [(h : Int)]) (k + 1) b → ∃ J2, rech pl ((k + 1 : Nat) : Int) (GT (dS S) czero (us ++ [enS S d g (h : Int)])) J = some J2 ∧ Cm J2 (pl + 7) (CT (dS S) czero (us ++ [enS S d g (h : Int)])) ∧ Vs w J2 S ∧ Bc J2 pl (RC (gnD (dS S)) (covD (dS S)) (g0S S) ((gs.drop (k + 1)).map (enS S d)) (CT (dS S) czero (us ++ [enS S d g (h : Int)])) (GT (dS S) czero (us ++ [enS S d g (h : Int)])) (us ++ [enS S d g (h : Int)]) (pre ++ [(h : Int)]) b) ∧ Fs pl (k + 1) J J2) : ∀ (suf pr : List Nat) (fu : Nat) (J : Jm) (b : Bs), pr ++ suf = ddl (enS S d g) 81 → suf.length < fu → SI J w pl S d gs us pre k b → ∃ J2, H_X5_search_L33 rech E pl (k : Int) (GT (dS S) czero us) X3 fu ((41 * k + pr.length : Nat) : Int) J = some J2 ∧ Cm J2 (pl + 7) (CT (dS S) czero us) ∧ Vs w J2 S ∧ Bc J2 pl (suf.foldl (RCs (gnD (dS S)) (covD (dS S)) (g0S S) (enS S d g) ((gs.drop (k + 1)).map (enS S d)) (CT (dS S) czero us) (GT (dS S) czero us) us pre) b) ∧ Fs pl k J J2 := by
  have hkl := lt_sm hk
  have hgr : 0 ≤ g ∧ g < 8 := hgs g (by rw [← Option.some.inj ((List.getElem?_eq_getElem hkl).symm.trans hk)]; exact List.getElem_mem hkl)
  have hll := ddl_l S d g
  have hmb := mos_b (S := S) hi hd (gs.drop (k + 1)) (fun q hq => hgs q (List.mem_of_mem_drop hq))
  have hdl : (gs.drop (k + 1)).length = gs.length - (k + 1) := List.length_drop
  have ekk : ((k : Nat) : Int).toNat = k := by omega
  have hok := CT_ok hi us czero czok hus
  intro suf
  induction suf with
  | nil =>
    intro pr fu J b e1 h2 hS
    obtain ⟨fu, rfl⟩ : ∃ f, fu = f + 1 := ⟨fu - 1, by omega⟩
    rw [List.append_nil] at e1
    have lst := (hS.1.2 k g hk).2
    rw [H_X5_search_L33, q_jL (by omega), Option.bind_some, lst.1, e1, wr_id (by omega), if_pos (by omega)]
    exact ⟨J, rfl, hS.2.2.2.1, hS.2.2.1, hS.2.2.2.2.2, Fs.r⟩
  | cons h suf ih =>
    intro pr fu J b e1 h2 hS
    rw [List.length_cons] at h2
    obtain ⟨fu, rfl⟩ : ∃ f, fu = f + 1 := ⟨fu - 1, by omega⟩
    have lst := (hS.1.2 k g hk).2
    have hlen : pr.length + (suf.length + 1) = (ddl (enS S d g) 81).length := by rw [← e1, List.length_append, List.length_cons]
    have hh : (ddl (enS S d g) 81)[pr.length]? = some h := by rw [← e1, List.getElem?_append_right (Nat.le_refl _), Nat.sub_self]; rfl
    have hmem : h ∈ ddl (enS S d g) 81 := by rw [← e1]; exact List.mem_append.mpr (Or.inr List.mem_cons_self)
    have hp := (ddl_v _ 81 h hmem).1
    have hpr := enS_r (h := (h : Int)) hi hgr hd
    have hp2 : 0 ≤ enS S d g (h : Int) ∧ enS S d g (h : Int) < 80 := ⟨hp, by omega⟩
    obtain ⟨v1, v2, v3⟩ := lst.2 pr.length h hh
    have eg : g0S S (enS S d g (h : Int)) = gnD (dS S) czero (enS S d g (h : Int)) := rfl
    have b0 : gnD (dS S) czero (enS S d g (h : Int)) ≤ 495 := g0_b hi hgr hd hp
    have b00 := gnD_0 (dS S) czero (enS S d g (h : Int))
    have b1 := gnD_b hi hok hp2
    have b10 := gnD_0 (dS S) (CT (dS S) czero us) (enS S d g (h : Int))
    have hM : J (pl + 6) (k + 1) = _ := hS.2.1 (k + 1) (by omega) (by omega)
    have hB := hS.2.2.2.2.2
    have no := ih (pr ++ [h]) fu J b (by rw [List.append_assoc]; exact e1) (by omega) hS
    have el : ((41 * k + (pr ++ [h]).length : Nat) : Int) = ((41 * k + pr.length : Nat) : Int) + 1 := by rw [List.length_append, List.length_singleton]; omega
    rw [el] at no
    have go := fun (J9 : Jm) (b9 : Bs) (hS9 : SI J9 w pl S d gs us pre k b9) => ih (pr ++ [h]) fu J9 b9 (by rw [List.append_assoc]; exact e1) (by omega) hS9
    rw [el] at go
    rw [H_X5_search_L33, q_jL (by omega), Option.bind_some, lst.1, wr_id (z := X3 + _) (by omega), if_neg (by omega), q_jL (by omega), Option.bind_some, v3, wr_id (z := (k : Int) + 1) (by omega), show (k : Int) + 1 = ((k + 1 : Nat) : Int) by omega, q_jL (by omega), Option.bind_some, hM, wr_id (z := GT (dS S) czero us + gnD (dS S) czero (enS S d g (h : Int))) (by omega), wr_id (z := GT (dS S) czero us + gnD (dS S) czero (enS S d g (h : Int)) + _) (by omega), hB.1, wr_id (z := ((41 * k + pr.length : Nat) : Int) + 1) (by omega), List.foldl_cons]
    simp only [nv]
    by_cases c1 : GT (dS S) czero us + gnD (dS S) czero (enS S d g (h : Int)) + mos (g0S S) ((gs.drop (k + 1)).map (enS S d)) ≤ b.1
    · have er : RCs (gnD (dS S)) (covD (dS S)) (g0S S) (enS S d g) ((gs.drop (k + 1)).map (enS S d)) (CT (dS S) czero us) (GT (dS S) czero us) us pre b h = b := by
        unfold RCs
        rw [if_neg (fun q => by omega)]
      rw [if_pos c1, if_pos (show (0 : Int) = 0 from rfl), er]
      exact no
    · rw [if_neg c1, if_neg (show ¬ (1 : Int) = 0 by decide), q_jL (by omega), Option.bind_some, v1, c_take hS.2.2.2.2.1 (by omega), Option.bind_some]
      by_cases c2 : enS S d g (h : Int) ∈ us
      · have er : RCs (gnD (dS S)) (covD (dS S)) (g0S S) (enS S d g) ((gs.drop (k + 1)).map (enS S d)) (CT (dS S) czero us) (GT (dS S) czero us) us pre b h = b := by
          unfold RCs
          rw [if_neg (fun q => q.2.1 c2)]
        rw [if_pos c2, if_neg (show ¬ (1 : Int) = 0 by decide), er]
        exact no
      · rw [if_neg c2, if_pos (show (0 : Int) = 0 from rfl), Option.bind_some, c_gainBy hS.2.2.1 hi h1 hS.2.2.2.1 hok hp2, Option.bind_some, Option.bind_some, wr_id (z := GT (dS S) czero us + gnD (dS S) (CT (dS S) czero us) (enS S d g (h : Int))) (by omega), wr_id (z := GT (dS S) czero us + gnD (dS S) (CT (dS S) czero us) (enS S d g (h : Int)) + _) (by omega)]
        by_cases c3 : GT (dS S) czero us + gnD (dS S) (CT (dS S) czero us) (enS S d g (h : Int)) + mos (g0S S) ((gs.drop (k + 1)).map (enS S d)) ≤ b.1
        · have er : RCs (gnD (dS S)) (covD (dS S)) (g0S S) (enS S d g) ((gs.drop (k + 1)).map (enS S d)) (CT (dS S) czero us) (GT (dS S) czero us) us pre b h = b := by
            unfold RCs
            rw [if_neg (fun q => by omega)]
          rw [if_pos c3, er]
          exact no
        · have er : RCs (gnD (dS S)) (covD (dS S)) (g0S S) (enS S d g) ((gs.drop (k + 1)).map (enS S d)) (CT (dS S) czero us) (GT (dS S) czero us) us pre b h = RC (gnD (dS S)) (covD (dS S)) (g0S S) ((gs.drop (k + 1)).map (enS S d)) (CT (dS S) czero (us ++ [enS S d g (h : Int)])) (GT (dS S) czero (us ++ [enS S d g (h : Int)])) (us ++ [enS S d g (h : Int)]) (pre ++ [(h : Int)]) b := by
            unfold RCs
            rw [if_pos ⟨by omega, c2, by omega⟩, GT_a, CT_a]
          rw [if_neg c3, zS (by omega) (by omega), Option.bind_some, ekk, q_jL (by omega), Option.bind_some, jW_ne (by omega), v1, er]
          have hk2 : 0 ≤ (k : Int) ∧ (k : Int) ≤ 2 := by omega
          obtain ⟨J42, d1, d2, d3, d4, d5, d6⟩ := c_cover (J := jW J (pl + 9) k ((41 * k + pr.length : Nat) : Int)) hpl (vN hS.2.2.1 (by omega)) hi h1 (hS.2.2.2.1.o (jW_ne (by omega))) hk2 hp2
          have f42 : ∀ a, a ≠ pl + 7 → a ≠ pl + 8 → a ≠ pl + 9 → J42 a = J a := fun a a1 a2 a3 => (d6 a a1 a2).trans (jW_ne a3)
          rw [← CT_a] at d2
          have hP : Pk J42 pl (us ++ [enS S d g (h : Int)]) (pre ++ [(h : Int)]) (k + 1) := by
            obtain ⟨p1, p2, p3⟩ := hS.2.2.2.2.1
            refine ⟨by rw [List.length_append, List.length_singleton, p1], by rw [List.length_append, List.length_singleton, p2], fun i hi3 => ?_⟩
            by_cases q : i = k
            · refine ⟨41 * k + pr.length, by omega, by rw [q, d6 (pl + 9) (by omega) (by omega), jW_at], fun y hy => ?_, fun y hy => ?_⟩
              · rcases sg_sm hy with ⟨a1, a2⟩ | ⟨a1, a2⟩
                · omega
                · rw [f42 (pl + 3) (by omega) (by omega) (by omega), a2]; exact v1
              · rcases sg_sm hy with ⟨a1, a2⟩ | ⟨a1, a2⟩
                · omega
                · rw [f42 (pl + 4) (by omega) (by omega) (by omega), a2]; exact v2
            · obtain ⟨z, z1, z2, z3, z4⟩ := p3 i (by omega)
              refine ⟨z, z1, by rw [d6 (pl + 9) (by omega) (by omega), jW_of q]; exact z2, fun y hy => ?_, fun y hy => ?_⟩
              · rcases sg_sm hy with ⟨a1, a2⟩ | ⟨a1, a2⟩
                · rw [f42 (pl + 3) (by omega) (by omega) (by omega)]; exact z3 y a2
                · omega
              · rcases sg_sm hy with ⟨a1, a2⟩ | ⟨a1, a2⟩
                · rw [f42 (pl + 4) (by omega) (by omega) (by omega)]; exact z4 y a2
                · omega
          have hS2 : SI J42 w pl S d gs (us ++ [enS S d g (h : Int)]) (pre ++ [(h : Int)]) (k + 1) b := ⟨hS.1.o (by rw [f42 pl (by omega) (by omega) (by omega)]) (fun a a1 a2 => f42 a (by omega) (by omega) (by omega)), fun j j1 j2 => by rw [f42 (pl + 6) (by omega) (by omega) (by omega)]; exact hS.2.1 j j1 j2, d5, d2, hP, by rw [f42 pl (by omega) (by omega) (by omega)]; exact hB.1, fun i y hy => by rw [f42 (pl + 10) (by omega) (by omega) (by omega), f42 (pl + 4) (by omega) (by omega) (by omega)]; exact hB.2 i y hy⟩
          obtain ⟨J44, s1, s2, s3, s4, s5⟩ := sub J42 h b hp hS2
          rw [d1, Option.bind_some, ← GT_a, s1, Option.bind_some, q_jL (by omega), Option.bind_some, s5.1 (pl + 3) (by omega) (by omega), f42 (pl + 3) (by omega) (by omega) (by omega), v1]
          rw [CT_a] at s2
          have hU : Una J44 pl (k : Int) (enS S d g (h : Int)) (CT (dS S) czero us) := by
            obtain ⟨u1, u2, u3, u4, u5⟩ := d3
            exact ⟨by rw [s5.2.2.2 _ (by omega)]; exact u1, fun y => by rw [s5.2.2.2 _ (by omega)]; exact u2 y, fun y => by rw [s5.2.2.2 _ (by omega)]; exact u3 y, fun y => by rw [s5.2.2.2 _ (by omega)]; exact u4 y, fun y => by rw [s5.2.2.2 _ (by omega)]; exact u5 y⟩
          obtain ⟨J49, t1, t2, t3, t4⟩ := c_uncover hpl s3 h1 s2 hk2 hp2 hU
          rw [t1, Option.bind_some]
          have hF : Fs pl k J J49 := ⟨fun a a1 a2 => by rw [t4 a (by omega), s5.1 a a1 a2, f42 a (by omega) (by omega) (by omega)], fun i hi3 => by rw [t4 pl (by omega), s5.2.1 i hi3, f42 pl (by omega) (by omega) (by omega)], fun i hi3 => by rw [t4 (pl + 9) (by omega), s5.2.2.1 i (by omega), d6 (pl + 9) (by omega) (by omega), jW_of (by omega)], fun i hi3 => by rw [t4 (pl + 8) (by omega), s5.2.2.2 i (by omega), d4 i (by omega), jW_ne (by omega)]⟩
          have hB2 : Bc J49 pl (RC (gnD (dS S)) (covD (dS S)) (g0S S) ((gs.drop (k + 1)).map (enS S d)) (CT (dS S) czero (us ++ [enS S d g (h : Int)])) (GT (dS S) czero (us ++ [enS S d g (h : Int)])) (us ++ [enS S d g (h : Int)]) (pre ++ [(h : Int)]) b) := ⟨by rw [t4 pl (by omega)]; exact s4.1, fun i y hy => by rw [t4 (pl + 10) (by omega), t4 (pl + 4) (by omega)]; exact s4.2 i y hy⟩
          obtain ⟨J50, y1, y2, y3, y4, y5⟩ := go J49 _ (hS.fs hF t3 t2 hB2)
          exact ⟨J50, y1, y2, y3, y4, hF.tt y5 (Nat.le_refl k)⟩
theorem c_search (hpl : w + 32 < pl) (hi : Inv S) (hd : 0 ≤ d ∧ d ≤ 3) (h1 : E.2.1 pl 1 = some (w + 1)) (e9 : (E.1 (pl + 9)).2 = 3) (e10 : (E.1 (pl + 10)).2 = 3) (hn : gs.length ≤ 3) (hgs : ∀ g ∈ gs, 0 ≤ g ∧ g < 8) : ∀ (rest l0 : List Int), l0 ++ rest = gs → ∀ (nr : Nat) (J : Jm) (us pre : List Int) (b : Bs), rest.length < nr → SI J w pl S d gs us pre l0.length b → (0 ≤ GT (dS S) czero us ∧ GT (dS S) czero us ≤ 495 * (l0.length : Int)) → (∀ q ∈ us, 0 ≤ q ∧ q < 80) → ∃ J2, H_X5_search E nr pl (l0.length : Int) (GT (dS S) czero us) J = some J2 ∧ Cm J2 (pl + 7) (CT (dS S) czero us) ∧ Vs w J2 S ∧ Bc J2 pl (RC (gnD (dS S)) (covD (dS S)) (g0S S) (rest.map (enS S d)) (CT (dS S) czero us) (GT (dS S) czero us) us pre b) ∧ Fs pl l0.length J J2
  | [], l0, e, nr, J, us, pre, b, h2, hS, hG, hus => by
    obtain ⟨nr, rfl⟩ : ∃ f, nr = f + 1 := ⟨nr - 1, by omega⟩
    rw [List.append_nil] at e
    rw [H_X5_search, hS.1.1, e, if_neg (by omega)]
    simp only [nv]
    unfold H_X11_copyAll jCp
    rw [e9, e10, show mnZ ((3 : Nat) : Int) ((3 : Nat) : Int) = 3 by decide, if_pos (by decide), Option.bind_some, Option.bind_some]
    refine ⟨_, rfl, (hS.2.2.2.1.o (jW_ne (by omega))).o (jA_ne (by omega)), vE hS.2.2.1 (fun c c1 c2 => by rw [jA_ne (by omega), jW_ne (by omega)]), ⟨by rw [jA_ne (by omega), jW_at]; rfl, fun i y hy => ?_⟩, fun a a1 a2 => by rw [jA_ne (by omega), jW_ne a1], fun i hi3 => by rw [jA_ne (by omega), jW_of hi3], fun i hi3 => by rw [jA_ne (by omega), jW_ne (by omega)], fun i hi3 => by rw [jA_ne (by omega), jW_ne (by omega)]⟩
    have hy2 : pre[i]? = some y := hy
    obtain ⟨p1, p2, p3⟩ := hS.2.2.2.2.1
    have hil := lt_sm hy2
    obtain ⟨z, z1, z2, z3, z4⟩ := p3 i (by omega)
    refine ⟨z, z1, ?_, by rw [jA_ne (by omega), jW_ne (by omega)]; exact z4 y hy2⟩
    have hgl : l0.length = gs.length := by rw [e]
    rw [jA_at]
    unfold jcp
    rw [if_pos (by show (0 : Nat) ≤ i ∧ i < 0 + 3; omega), jW_ne (by omega), show (0 : Int).toNat + (i - (0 : Int).toNat) = i by show 0 + (i - 0) = i; omega]
    exact z2
  | g :: rest, l0, e, nr, J, us, pre, b, h2, hS, hG, hus => by
    rw [List.length_cons] at h2
    obtain ⟨nr, rfl⟩ : ∃ f, nr = f + 1 := ⟨nr - 1, by omega⟩
    have hln : l0.length + (rest.length + 1) = gs.length := by rw [← e, List.length_append, List.length_cons]
    have hk : gs[l0.length]? = some g := by rw [← e, List.getElem?_append_right (Nat.le_refl _), Nat.sub_self]; rfl
    have hgr : 0 ≤ g ∧ g < 8 := hgs g (by rw [← e]; exact List.mem_append.mpr (Or.inr List.mem_cons_self))
    have el : (l0 ++ [g]).length = l0.length + 1 := by rw [List.length_append, List.length_singleton]
    have edr : gs.drop (l0.length + 1) = rest := by
      rw [← e, show l0 ++ g :: rest = (l0 ++ [g]) ++ rest by rw [List.append_assoc]; rfl]
      exact List.drop_left' el
    rw [H_X5_search, hS.1.1, if_pos (by omega), show wr ((l0.length : Int) * 41) = ((41 * l0.length + 0 : Nat) : Int) by rw [wr_id (by omega)]; omega]
    have a := c_lv (rech := H_X5_search E nr) (X3 := ((41 * l0.length + 0 : Nat) : Int)) hpl hi hd h1 hn hgs hk (by omega) hG hus (pre := pre) (fun J9 h b9 hp hS9 => by
      have hpr := enS_r (h := (h : Int)) hi hgr hd
      have hok := CT_ok hi us czero czok hus
      have b1 := gnD_b hi hok (p := enS S d g (h : Int)) ⟨hp, by omega⟩
      have b10 := gnD_0 (dS S) (CT (dS S) czero us) (enS S d g (h : Int))
      have r := c_search hpl hi hd h1 e9 e10 hn hgs rest (l0 ++ [g]) (by rw [List.append_assoc]; exact e) nr J9 (us ++ [enS S d g (h : Int)]) (pre ++ [(h : Int)]) b9 (by omega) (by rw [el]; exact hS9) (by rw [el, GT_a]; omega) (fun q hq => by
        rcases List.mem_append.mp hq with hq | hq
        · exact hus q hq
        · rw [List.mem_singleton.mp hq]; exact ⟨hp, by omega⟩)
      rw [el] at r
      rw [edr]
      exact r) (ddl (enS S d g) 81) [] 1000000 J b rfl (by have := ddl_l S d g; omega) hS
    rw [edr, show ([] : List Nat).length = 0 from rfl] at a
    exact a
end CSEB
