/-! ONE WORLD BECOMES ANOTHER: THE WALK -/
abbrev T1 : List vRow := (0, 2, 1, 0) :: [(12, 0, 320, 1210), (11, 0, 320, 890), (9, 0, 320, 570), (8, 0, 320, 250), (6, 0, 320, 1850), (5, 0, 320, 1530), (4, 0, 80, 170), (3, 0, 80, 90), (2, 0, 80, 10)]
abbrev T2 : List vRow := (0, 7, 1, 4) :: (14, 0, 401, 3950) :: (0, 4, 1, 6) :: (0, 3, 1, 1) :: T1
abbrev T3 : List vRow := (20, 0, 60, 3890) :: (19, 0, 60, 3830) :: (18, 0, 60, 3770) :: (17, 0, 60, 3710) :: (16, 0, 1, 3) :: T2
abbrev T4 : List vRow := (31, 0, 60, 3650) :: (30, 0, 60, 3590) :: (29, 0, 60, 3530) :: (28, 0, 60, 3470) :: (21, 7, 1, 5) :: (27, 0, 200, 3270) :: (26, 0, 200, 3070) :: (25, 0, 200, 2870) :: (24, 0, 200, 2670) :: (23, 0, 200, 2470) :: (22, 0, 200, 2270) :: (21, 0, 1, 2) :: T3
section BECF
variable {E0 E E' : Em} {J0 J J2 J' : Jm} {t s g k a c N : Nat} {S : Int → Int} {T : List vRow} {M : Mm} {Q : Mm → Prop}
theorem c_x0 (hne : c ≠ a ∧ c ≠ a + 1 ∧ c + 1 ≠ a ∧ c + 1 ≠ a + 1) (w0 : W0 E a) (w0' : W0 E c) (h4 : J c 4 = 0 ∨ J c 4 = 1) (h10 : J c 10 = 0 ∨ J c 10 = 1) : ∃ J2, H_X0_become E a c J = some J2 ∧ (∀ k, k ≤ 10 → J2 a k = J c k) ∧ (∀ k, k < 400 → J2 (a + 1) k = J (c + 1) k) ∧ ∀ b, b ≠ a → b ≠ a + 1 → J2 b = J b := by
  obtain ⟨n1, n2, n3, n4⟩ := hne
  unfold H_X0_become
  simp (disch := omega) only [nv, jW_ne]
  rw [zZ h4, Option.bind_some, zZ h10, Option.bind_some, c_all w0'.2.2 w0.2.2, Option.bind_some]
  refine ⟨_, rfl, fun k hk => ?_, fun k hk => ?_, fun b h1 h2 => ?_⟩
  · rw [cpy_ne (by omega)]
    have hc : k = 0 ∨ k = 1 ∨ k = 2 ∨ k = 3 ∨ k = 4 ∨ k = 5 ∨ k = 6 ∨ k = 7 ∨ k = 8 ∨ k = 9 ∨ k = 10 := by omega
    rcases hc with e | e | e | e | e | e | e | e | e | e | e <;> subst e <;> simp (disch := decide) only [jW_of, jW_at]
  · rw [cpy_at hk]
    simp (disch := omega) only [jW_ne]
  · rw [cpy_ne h2]
    simp (disch := omega) only [jW_ne]
theorem gv_c {g : Int} (hG : Gv J c g S) (e1 : ∀ k, k ≤ 10 → J2 a k = J c k) (e2 : ∀ k, k < 400 → J2 (a + 1) k = J (c + 1) k) : Gv J2 a g S := by
  unfold Gv at hG ⊢
  rw [e1 0 (by omega), e1 1 (by omega), e1 2 (by omega), e1 3 (by omega), e1 4 (by omega), e1 5 (by omega), e1 6 (by omega), e1 7 (by omega), e1 8 (by omega), e1 9 (by omega), e1 10 (by omega)]
  obtain ⟨h1, h2, h3, h4, h5, h6, h7, h8, h9, h10, h11, h12, h13, h14⟩ := hG
  exact ⟨h1, h2, h3, h4, h5, h6, h7, h8, h9, h10, h11, h12, h13, fun t t0 t1 => by rw [e2 t.toNat (by omega)]; exact h14 t t0 t1⟩
theorem bg_i (x : Bx E0 J0 t s S) (h : BG E0 J0 t s S T g k E J) {f : Nat} {off : Int} (hT : (0, f, 1, off) ∈ T) : J t f = S off := by
  have e := (h.2.2.2.2.2.1 _ hT).2 0 (by decide) (show (0 : Int) < 1 by decide)
  dsimp only at e
  rw [show (0 : Int).toNat + f = f by show 0 + f = f; omega, Int.add_zero] at e
  exact e
theorem o_b21 (x : Bx E0 J0 t s S) (K : Mm → Option Mm) (hT : (0, 2, 1, 0) ∈ T) (hK : ∀ (E : Em) (J : Jm) (M : Mm), Mre E M J → BG E0 J0 t s S T (S 0).toNat 0 E J → Ok (K M) Q) : ∀ (tt fu g : Nat) (x2 : Int32) (E : Em) (J : Jm) (M : Mm), x2.toInt = (g : Int) → (S 0).toNat = g + tt → tt < fu → Mre E M J → BG E0 J0 t s S T g 0 E J → Ok (F_X10_become_L21 K t s fu x2 M) Q := by
  have hg8 := i_gli x.2.2.2.2.1
  intro tt
  induction tt with
  | zero =>
    intro fu g x2 E J M h1 h2 h3 hM h
    obtain ⟨fu, rfl⟩ := nx h3
    obtain ⟨v10, e10, t10⟩ := o_rdI (k := 2) hM (bg_wt x h).1
    rw [bg_i x h hT] at t10
    rw [F_X10_become_L21]
    refine ok_b e10 (ok_t ((c_le t10 h1).mpr (by omega)) (hK E J M hM ?_))
    rw [h2]; exact h
  | succ tt ih =>
    intro fu g x2 E J M h1 h2 h3 hM h
    obtain ⟨fu, rfl⟩ := nx h3
    have wt := bg_wt x h
    obtain ⟨v10, e10, t10⟩ := o_rdI (k := 2) hM wt.1
    rw [bg_i x h hT] at t10
    rw [F_X10_become_L21]
    refine ok_b e10 (ok_f (fun q => absurd ((c_le t10 h1).mp q) (by omega)) (ok_b (o_isO hM wt.1) ?_))
    obtain ⟨⟨v14, M12⟩, e12, a, E', J', q1, hM12, hG⟩ := o_roomFor (i := g) hM h.1.1 wt h1 (by omega)
    dsimp only at q1 hM12
    subst q1
    obtain ⟨hb, ha⟩ := bg_room x h hG
    refine ok_b e12 ?_
    dsimp only
    obtain ⟨ws, r13, r15⟩ := bg_ws x hb
    obtain ⟨c, hc, hC⟩ := x.2.2.2.1.2.1 (g : Int) (by omega) (by omega)
    rw [show ((g : Nat) : Int).toNat = g by omega] at hc
    have ej : jR E' (s + 13) 8 (g : Int) = some (some c) := by
      unfold jR
      rw [if_pos ⟨by omega, by omega⟩, show ((g : Nat) : Int).toNat = g by omega, r13, hc]
    obtain ⟨l1, l2⟩ := o_ldR hM12 ws.2.2.1.2.1 (n := 8) rfl h1 ej
    have wa := hG.2.2.2.2.1
    have wc := ws.2.2.1.2.2 g c (by rw [r13]; exact hc)
    have hks : Kw E0 s c := Or.inr (Or.inl ⟨g, c, hc, Or.inl rfl⟩)
    have hks1 : Kw E0 s (c + 1) := Or.inr (Or.inl ⟨g, c, hc, Or.inr rfl⟩)
    have hC' : Gv J' c (g : Int) S := gE hC (bg_src x hb hks) (bg_src x hb hks1)
    have hne : c ≠ a := fun e => by
      rcases (hb.2.2.1 g a ha).2 with q | q
      · exact x.2.2.2.2.2.1 c hks (Or.inr ⟨g, a, q, Or.inl e⟩)
      · have := kw_lt x.1 x.2.2.1 hks
        omega
    have hi := x.2.2.2.2.1
    have hlea := i_lea hi (z := (g : Int)) (by omega) (by omega)
    obtain ⟨J2, f1, f2, f3, f4⟩ := c_x0 (J := J') (E := E') (a := a) (c := c) ⟨hne, fun e => (by
      have := wc.1; rw [e, wa.2.2] at this; cases this), fun e => (by
      have := wa.1; rw [← e, wc.2.2] at this; cases this), by omega⟩ wa wc (by rw [g_lea hC']; omega) (g_m01 hC')
    obtain ⟨M20, e20, hM20⟩ := h_X0_become hM12 wa wc f1
    refine ok_b (o_rdS hM12 ws.1 ws.2.2.1.1) (ok_s (ok_b l1 (ok_s (ok_s (ok_b (o_isO hM12 wa.1) (ok_b e20 ?_))))))
    exact ih fu (g + 1) (x2 + 1) E' J2 M20 (by rw [t_add h1 (t_n 1 (by decide)), wr_id (by omega)]; omega) (by omega) (by omega) hM20 (bg_gl x hb ha f4 (gv_c hC' f2 f3))
theorem o_b86 (x : Bx E0 J0 t s S) : ∀ (tt fu k : Nat) (x2 : Int32) (E : Em) (J : Jm) (M : Mm), x2.toInt = (k : Int) → (S 4).toNat = k + tt → tt < fu → Mre E M J → BG E0 J0 t s S T2 (S 0).toNat k E J → Ok (F_X10_become_L86 t s fu x2 M) (fun M' => ∃ E J, Mre E M' J ∧ BG E0 J0 t s S T4 (S 0).toNat (S 4).toNat E J) := by
  have ho := i_orc x.2.2.2.2.1
  intro tt
  induction tt with
  | zero =>
    intro fu k x2 E J M h1 h2 h3 hM h
    obtain ⟨fu, rfl⟩ := nx h3
    have wt := bg_wt x h
    obtain ⟨ws, r13, r15⟩ := bg_ws x h
    obtain ⟨v35, e35, t35⟩ := o_rdI (k := 7) hM wt.1
    rw [bg_i x h (off := 4) (by decide)] at t35
    rw [F_X10_become_L86]
    have w1t := wt.2.2.2.2.2.1.2
    have w1s := ws.2.2.2.2.2.1.2
    have w6t := wt.2.2.2.2.2.2.1.2
    have w6s := ws.2.2.2.2.2.2.1.2
    have b1 := bg_fld x h (o := 16) (f := 0) (off := 3) (v := J (s + 16) 0) (by decide) (a := s + 16) (b := t + 16) rfl rfl rfl
    have b2 := bg_row x b1 (o := 17) (len := 60) (off := 3710) (N := 60) (by decide) (a := s + 16 + 1) (b := t + 16 + 1) rfl rfl rfl
    have b3 := bg_row x b2 (o := 18) (len := 60) (off := 3770) (N := 60) (by decide) (a := s + 16 + 2) (b := t + 16 + 2) rfl rfl rfl
    have b4 := bg_row x b3 (o := 19) (len := 60) (off := 3830) (N := 60) (by decide) (a := s + 16 + 3) (b := t + 16 + 3) rfl rfl rfl
    have b5 := bg_row x b4 (o := 20) (len := 60) (off := 3890) (N := 60) (by decide) (a := s + 16 + 4) (b := t + 16 + 4) rfl rfl rfl
    have c1 : H_X1_become E (t + 16) (s + 16) J = some (cpy (cpy (cpy (cpy (jW J (t + 16) 0 (J (s + 16) 0)) (s + 16 + 1) (t + 16 + 1) 60) (s + 16 + 2) (t + 16 + 2) 60) (s + 16 + 3) (t + 16 + 3) 60) (s + 16 + 4) (t + 16 + 4) 60) := by
      unfold H_X1_become
      simp only [nv]
      rw [c_all w1s.2.1.2 w1t.2.1.2, Option.bind_some, c_all w1s.2.2.1.2 w1t.2.2.1.2, Option.bind_some, c_all w1s.2.2.2.1.2 w1t.2.2.2.1.2, Option.bind_some, c_all w1s.2.2.2.2.2 w1t.2.2.2.2.2, Option.bind_some]
    obtain ⟨M41, e41, hM41⟩ := h_X1_become hM w1t w1s c1
    revert b5 e41 hM41
    generalize cpy (cpy (cpy (cpy (jW J (t + 16) 0 (J (s + 16) 0)) (s + 16 + 1) (t + 16 + 1) 60) (s + 16 + 2) (t + 16 + 2) 60) (s + 16 + 3) (t + 16 + 3) 60) (s + 16 + 4) (t + 16 + 4) 60 = K
    intro b5 e41 hM41
    have d0 := bg_fld x b5 (o := 21) (f := 0) (off := 2) (v := K (s + 21) 0) (by decide) (a := s + 21) (b := t + 21) rfl rfl rfl
    have d1 := bg_row x d0 (o := 22) (len := 200) (off := 2270) (N := 200) (by decide) (a := s + 21 + 1) (b := t + 21 + 1) rfl rfl rfl
    have d2 := bg_row x d1 (o := 23) (len := 200) (off := 2470) (N := 200) (by decide) (a := s + 21 + 2) (b := t + 21 + 2) rfl rfl rfl
    have d3 := bg_row x d2 (o := 24) (len := 200) (off := 2670) (N := 200) (by decide) (a := s + 21 + 3) (b := t + 21 + 3) rfl rfl rfl
    have d4 := bg_row x d3 (o := 25) (len := 200) (off := 2870) (N := 200) (by decide) (a := s + 21 + 4) (b := t + 21 + 4) rfl rfl rfl
    have d5 := bg_row x d4 (o := 26) (len := 200) (off := 3070) (N := 200) (by decide) (a := s + 21 + 5) (b := t + 21 + 5) rfl rfl rfl
    have d6 := bg_row x d5 (o := 27) (len := 200) (off := 3270) (N := 200) (by decide) (a := s + 21 + 6) (b := t + 21 + 6) rfl rfl rfl
    revert d6
    generalize hK6 : cpy (cpy (cpy (cpy (cpy (cpy (jW K (t + 21) 0 (K (s + 21) 0)) (s + 21 + 1) (t + 21 + 1) 200) (s + 21 + 2) (t + 21 + 2) 200) (s + 21 + 3) (t + 21 + 3) 200) (s + 21 + 4) (t + 21 + 4) 200) (s + 21 + 5) (t + 21 + 5) 200) (s + 21 + 6) (t + 21 + 6) 200 = K6
    intro d6
    have d7 := bg_fld x d6 (o := 21) (f := 7) (off := 5) (v := K6 (s + 21) 7) (by decide) (a := s + 21) (b := t + 21) rfl rfl rfl
    have d8 := bg_row x d7 (o := 28) (len := 60) (off := 3470) (N := 60) (by decide) (a := s + 21 + 7) (b := t + 21 + 7) rfl rfl rfl
    have d9 := bg_row x d8 (o := 29) (len := 60) (off := 3530) (N := 60) (by decide) (a := s + 21 + 8) (b := t + 21 + 8) rfl rfl rfl
    have d10 := bg_row x d9 (o := 30) (len := 60) (off := 3590) (N := 60) (by decide) (a := s + 21 + 9) (b := t + 21 + 9) rfl rfl rfl
    have d11 := bg_row x d10 (o := 31) (len := 60) (off := 3650) (N := 60) (by decide) (a := s + 21 + 10) (b := t + 21 + 10) rfl rfl rfl
    have c6 : H_X6_become E (t + 21) (s + 21) K = some (cpy (cpy (cpy (cpy (jW K6 (t + 21) 7 (K6 (s + 21) 7)) (s + 21 + 7) (t + 21 + 7) 60) (s + 21 + 8) (t + 21 + 8) 60) (s + 21 + 9) (t + 21 + 9) 60) (s + 21 + 10) (t + 21 + 10) 60) := by
      rw [← hK6]
      unfold H_X6_become
      simp only [nv]
      rw [c_all w6s.2.1.2 w6t.2.1.2, Option.bind_some, c_all w6s.2.2.1.2 w6t.2.2.1.2, Option.bind_some, c_all w6s.2.2.2.1.2 w6t.2.2.2.1.2, Option.bind_some, c_all w6s.2.2.2.2.1.2 w6t.2.2.2.2.1.2, Option.bind_some, c_all w6s.2.2.2.2.2.1.2 w6t.2.2.2.2.2.1.2, Option.bind_some, c_all w6s.2.2.2.2.2.2.1.2 w6t.2.2.2.2.2.2.1.2, Option.bind_some, c_all w6s.2.2.2.2.2.2.2.1.2 w6t.2.2.2.2.2.2.2.1.2, Option.bind_some, c_all w6s.2.2.2.2.2.2.2.2.1.2 w6t.2.2.2.2.2.2.2.2.1.2, Option.bind_some, c_all w6s.2.2.2.2.2.2.2.2.2.1.2 w6t.2.2.2.2.2.2.2.2.2.1.2, Option.bind_some, c_all w6s.2.2.2.2.2.2.2.2.2.2.2 w6t.2.2.2.2.2.2.2.2.2.2.2, Option.bind_some]
    obtain ⟨M47, e47, hM47⟩ := h_X6_become hM41 w6t w6s c6
    refine ok_b e35 (ok_t ((c_le t35 h1).mpr (by omega)) ?_)
    refine ok_b (o_rdS hM wt.1 wt.2.2.2.2.2.1.1) (ok_b (o_rdS hM ws.1 ws.2.2.2.2.2.1.1) (ok_s (ok_s (ok_b (o_isO hM w1t.1) (ok_b e41 ?_)))))
    refine ok_b (o_rdS hM41 wt.1 wt.2.2.2.2.2.2.1.1) (ok_b (o_rdS hM41 ws.1 ws.2.2.2.2.2.2.1.1) (ok_s (ok_s (ok_b (o_isO hM41 w6t.1) (ok_b e47 ⟨_, rfl, E, _, hM47, ?_⟩)))))
    rw [show (S 4).toNat = k by omega]
    exact d11
  | succ tt ih =>
    intro fu k x2 E J M h1 h2 h3 hM h
    obtain ⟨fu, rfl⟩ := nx h3
    have wt := bg_wt x h
    obtain ⟨ws, r13, r15⟩ := bg_ws x h
    obtain ⟨v35, e35, t35⟩ := o_rdI (k := 7) hM wt.1
    rw [bg_i x h (off := 4) (by decide)] at t35
    rw [F_X10_become_L86]
    obtain ⟨q, hq, hO⟩ := x.2.2.2.1.2.2 (k : Int) (by omega) (by omega)
    rw [show ((k : Nat) : Int).toNat = k by omega] at hq
    have ej : jR E (s + 15) 10 (k : Int) = some (some q) := by
      unfold jR
      rw [if_pos ⟨by omega, by omega⟩, show ((k : Nat) : Int).toNat = k by omega, r15, hq]
    obtain ⟨l1, l2⟩ := o_ldR hM ws.2.2.2.2.1.2.1 (n := 10) rfl h1 ej
    have wq := ws.2.2.2.2.1.2.2 k q (by rw [r15]; exact hq)
    obtain ⟨M53, e53, hM53⟩ := o_stR (e := 2) (c := q) hM wt.2.2.2.2.1.2.1 h1 (by omega) wq.1
    rw [show ((k : Nat) : Int).toNat = k by omega] at hM53
    refine ok_b e35 (ok_f (fun q => absurd ((c_le t35 h1).mp q) (by omega)) ?_)
    refine ok_b (o_rdS hM wt.1 wt.2.2.2.2.1.1) (ok_b (o_rdS hM ws.1 ws.2.2.2.2.1.1) (ok_s (ok_b l1 (ok_s (ok_s (ok_b e53 ?_))))))
    exact ih fu (k + 1) (x2 + 1) _ J M53 (by rw [t_add h1 (t_n 1 (by decide)), wr_id (by omega)]; omega) (by omega) (by omega) hM53 (bg_or x h hq)
theorem o_become (x : Bx E0 J0 t s S) (hM : Mre E0 M J0) : Ok (F_X10_become t s M) (fun M' => ∃ E J, Mre E M' J ∧ BG E0 J0 t s S T4 (S 0).toNat (S 4).toNat E J) := by
  have ho := i_orc x.2.2.2.2.1
  have hg8 := i_gli x.2.2.2.2.1
  have wt := x.2.1
  have ws := x.2.2.1
  have w7t := wt.2.1.2
  have w7s := ws.2.1.2
  have b0 := bg_0 x
  have b1 := bg_row x b0 (o := 2) (len := 80) (off := 10) (N := 80) (by decide) (a := s + 1 + 1) (b := t + 1 + 1) rfl rfl rfl
  have b2 := bg_row x b1 (o := 3) (len := 80) (off := 90) (N := 80) (by decide) (a := s + 1 + 2) (b := t + 1 + 2) rfl rfl rfl
  have b3 := bg_row x b2 (o := 4) (len := 80) (off := 170) (N := 80) (by decide) (a := s + 1 + 3) (b := t + 1 + 3) rfl rfl rfl
  have b4 := bg_row x b3 (o := 5) (len := 320) (off := 1530) (N := 320) (by decide) (a := s + 1 + 4) (b := t + 1 + 4) rfl rfl rfl
  have b5 := bg_row x b4 (o := 6) (len := 320) (off := 1850) (N := 320) (by decide) (a := s + 1 + 5) (b := t + 1 + 5) rfl rfl rfl
  have b6 := bg_row x b5 (o := 8) (len := 320) (off := 250) (N := 320) (by decide) (a := s + 1 + 6 + 1) (b := t + 1 + 6 + 1) rfl rfl rfl
  have b7 := bg_row x b6 (o := 9) (len := 320) (off := 570) (N := 320) (by decide) (a := s + 1 + 6 + 2) (b := t + 1 + 6 + 2) rfl rfl rfl
  have b8 := bg_row x b7 (o := 11) (len := 320) (off := 890) (N := 320) (by decide) (a := s + 1 + 9 + 1) (b := t + 1 + 9 + 1) rfl rfl rfl
  have b9 := bg_row x b8 (o := 12) (len := 320) (off := 1210) (N := 320) (by decide) (a := s + 1 + 9 + 2) (b := t + 1 + 9 + 2) rfl rfl rfl
  revert b9
  generalize hK : cpy (cpy (cpy (cpy (cpy (cpy (cpy (cpy (cpy J0 (s + 1 + 1) (t + 1 + 1) 80) (s + 1 + 2) (t + 1 + 2) 80) (s + 1 + 3) (t + 1 + 3) 80) (s + 1 + 4) (t + 1 + 4) 320) (s + 1 + 5) (t + 1 + 5) 320) (s + 1 + 6 + 1) (t + 1 + 6 + 1) 320) (s + 1 + 6 + 2) (t + 1 + 6 + 2) 320) (s + 1 + 9 + 1) (t + 1 + 9 + 1) 320) (s + 1 + 9 + 2) (t + 1 + 9 + 2) 320 = K
  intro b9
  have w9t := w7t.2.2.2.2.2.2.1.2
  have w9s := w7s.2.2.2.2.2.2.1.2
  have w9t2 := w7t.2.2.2.2.2.2.2.2
  have w9s2 := w7s.2.2.2.2.2.2.2.2
  have c7 : H_X7_become E0 (t + 1) (s + 1) J0 = some K := by
    rw [← hK]
    unfold H_X7_become H_X9_become
    rw [c_all w7s.2.1.2 w7t.2.1.2, Option.bind_some, c_all w7s.2.2.1.2 w7t.2.2.1.2, Option.bind_some, c_all w7s.2.2.2.1.2 w7t.2.2.2.1.2, Option.bind_some, c_all w7s.2.2.2.2.1.2 w7t.2.2.2.2.1.2, Option.bind_some, c_all w7s.2.2.2.2.2.1.2 w7t.2.2.2.2.2.1.2, Option.bind_some, c_all w9s.2.1.2 w9t.2.1.2, Option.bind_some, c_all w9s.2.2.2 w9t.2.2.2, Option.bind_some, Option.bind_some, c_all w9s2.2.1.2 w9t2.2.1.2, Option.bind_some, c_all w9s2.2.2.2 w9t2.2.2.2, Option.bind_some, Option.bind_some]
  obtain ⟨M5, e5, hM5⟩ := h_X7_become hM w7t w7s c7
  obtain ⟨v7, e7, t7⟩ := o_rdI (k := 2) hM5 ws.1
  obtain ⟨M8, e8, hM8⟩ := o_wrI (k := 2) hM5 wt.1 t7 rfl
  have b10 := bg_fld x b9 (o := 0) (f := 2) (off := 0) (v := K s 2) (by decide) (a := s) (b := t) rfl rfl rfl
  unfold F_X10_become
  refine ok_b (o_rdS hM wt.1 wt.2.1.1) (ok_b (o_rdS hM ws.1 ws.2.1.1) (ok_s (ok_s (ok_b (o_isO hM w7t.1) (ok_b e5 (ok_b e7 (ok_b e8 ?_)))))))
  refine o_b21 (T := T1) x _ (by decide) (fun E J M hM h => ?_) (S 0).toNat 9 0 0 E0 _ M8 rfl (by omega) (by omega) hM8 b10
  have wt := bg_wt x h
  obtain ⟨ws, r13, r15⟩ := bg_ws x h
  obtain ⟨v23, e23, t23⟩ := o_rdI (k := 3) hM ws.1
  obtain ⟨M24, e24, hM24⟩ := o_wrI (k := 3) hM wt.1 t23 rfl
  have f1 := bg_fld x h (o := 0) (f := 3) (off := 1) (v := J s 3) (by decide) (a := s) (b := t) rfl rfl rfl
  obtain ⟨v25, e25, t25⟩ := o_rdI (k := 4) hM24 ws.1
  obtain ⟨M26, e26, hM26⟩ := o_wrI (k := 4) hM24 wt.1 t25 rfl
  have f2 := bg_fld x f1 (o := 0) (f := 4) (off := 6) (by decide) (a := s) (b := t) rfl rfl rfl
  have f3 := bg_row x f2 (o := 14) (len := 401) (off := 3950) (N := 401) (by decide) (a := s + 14) (b := t + 14) rfl rfl rfl
  obtain ⟨M31, e31, hM31⟩ := h_X11_copyAll hM26 ⟨by rw [ws.2.2.2.1.2], by rw [ws.2.2.2.1.2]; decide⟩ ⟨by rw [wt.2.2.2.1.2], by rw [wt.2.2.2.1.2]; decide⟩ (c_all ws.2.2.2.1.2 wt.2.2.2.1.2)
  obtain ⟨v32, e32, t32⟩ := o_rdI (k := 7) hM31 ws.1
  obtain ⟨M33, e33, hM33⟩ := o_wrI (k := 7) hM31 wt.1 t32 rfl
  have f4 := bg_fld x f3 (o := 0) (f := 7) (off := 4) (by decide) (a := s) (b := t) rfl rfl rfl
  refine ok_b e23 (ok_b e24 (ok_b e25 (ok_b e26 (ok_b (o_rdS hM26 ws.1 ws.2.2.2.1.1) (ok_b (o_rdS hM26 wt.1 wt.2.2.2.1.1) (ok_s (ok_s (ok_b e31 (ok_b e32 (ok_b e33 ?_))))))))))
  exact o_b86 x (S 4).toNat 1000000 0 0 E _ M33 rfl (by omega) (by omega) hM33 f4
end BECF
