/-! THE CONSTRUCTORS -/
section CONS
variable {n : Nat} {L : List (Nat × Nat)} {R : List (Nat × Nat × Nat)} {D : List Nat} {V : List (Nat × Nat × Int)} {E0 E : Em} {J0 J : Jm} {M : Mm}
theorem bld_D (i : Nat) (h : Bld n L R D V E0 J0 M) : Bld n L R (i :: D) V E0 J0 M := by
  obtain ⟨E, J, hM, k0, h1, h2, h3, h4, h5, h6⟩ := h
  exact ⟨E, J, hM, k0, h1, h2, h3, fun a ha hd k => h4 a ha (fun q => hd (List.mem_cons_of_mem _ q)) k, h5, h6⟩
def LOrd : List (Nat × Nat) := [(9, 0), (1, 6), (1, 6), (1, 6), (1, 6), (1, 20), (1, 20), (1, 20), (2, 20)]
def ROrd : List (Nat × Nat × Nat) := [(0, 9, 8), (0, 8, 7), (0, 7, 6), (0, 6, 5), (0, 5, 4), (0, 4, 3), (0, 3, 2), (0, 2, 1)]
theorem b_ord (h : Bld n [(9, 0)] [] [] [] E0 J0 M) : Ok (F_X2_init (n + 0) M) (fun M' => Bld n LOrd ROrd [] [] E0 J0 M') := by
  unfold F_X2_init
  refine ok_wrI (i := 0) (v := 0) h rfl rfl (Or.inl rfl) rfl (fun M1 h => ?_)
  refine ok_wrI (i := 0) (v := 0) h rfl rfl (Or.inl rfl) rfl (fun M2 h => ?_)
  refine ok_nw (i := 1) h rfl rfl (fun M4 h => ?_)
  refine ok_wrR (i := 0) (j := 1) h rfl (fun M5 h => ?_)
  refine ok_nw (i := 2) h rfl rfl (fun M7 h => ?_)
  refine ok_wrR (i := 0) (j := 2) h rfl (fun M8 h => ?_)
  refine ok_nw (i := 3) h rfl rfl (fun M10 h => ?_)
  refine ok_wrR (i := 0) (j := 3) h rfl (fun M11 h => ?_)
  refine ok_nw (i := 4) h rfl rfl (fun M13 h => ?_)
  refine ok_wrR (i := 0) (j := 4) h rfl (fun M14 h => ?_)
  refine ok_nw (i := 5) h rfl rfl (fun M16 h => ?_)
  refine ok_wrR (i := 0) (j := 5) h rfl (fun M17 h => ?_)
  refine ok_nw (i := 6) h rfl rfl (fun M19 h => ?_)
  refine ok_wrR (i := 0) (j := 6) h rfl (fun M20 h => ?_)
  refine ok_nw (i := 7) h rfl rfl (fun M22 h => ?_)
  refine ok_wrR (i := 0) (j := 7) h rfl (fun M23 h => ?_)
  refine ok_nw (i := 8) h rfl rfl (fun M25 h => ?_)
  refine ok_wrR (i := 0) (j := 8) h rfl (fun M26 h => ?_)
  exact ⟨_, rfl, h⟩
def LWld : List (Nat × Nat) := [(17, 0), (14, 0), (1, 80), (1, 80), (1, 80), (1, 320), (1, 320), (16, 0), (1, 320), (1, 320), (16, 0), (1, 320), (1, 320), (3, 8), (1, 401), (4, 10), (8, 0), (1, 60), (1, 60), (1, 60), (1, 60), (13, 0), (1, 200), (1, 200), (1, 200), (1, 200), (1, 200), (1, 200), (1, 60), (1, 60), (1, 60), (1, 60), (11, 0)]
def RWld : List (Nat × Nat × Nat) := [(0, 10, 32), (0, 9, 21), (21, 11, 31), (21, 10, 30), (21, 9, 29), (21, 8, 28), (21, 6, 27), (21, 5, 26), (21, 4, 25), (21, 3, 24), (21, 2, 23), (21, 1, 22), (0, 8, 16), (16, 4, 20), (16, 3, 19), (16, 2, 18), (16, 1, 17), (0, 6, 15), (0, 5, 14), (0, 1, 13), (0, 0, 1), (1, 6, 10), (10, 1, 12), (10, 0, 11), (1, 5, 7), (7, 1, 9), (7, 0, 8), (1, 4, 6), (1, 3, 5), (1, 2, 4), (1, 1, 3), (1, 0, 2)]
def VWld : List (Nat × Nat × Int) := [(4, 80, 50), (2, 80, 4)]
theorem b_wld (h : Bld n [(17, 0)] [] [] [] E0 J0 M) : Ok (F_X10_init (n + 0) M) (fun M' => Bld n LWld RWld [4, 2] VWld E0 J0 M') := by
  unfold F_X10_init
  refine ok_nw (i := 1) h rfl rfl (fun M2 h => ?_)
  refine ok_call (fun M' => Bld n [(17, 0), (14, 0), (1, 80), (1, 80), (1, 80), (1, 320), (1, 320), (16, 0), (1, 320), (1, 320), (16, 0), (1, 320), (1, 320)] [(1, 6, 10), (10, 1, 12), (10, 0, 11), (1, 5, 7), (7, 1, 9), (7, 0, 8), (1, 4, 6), (1, 3, 5), (1, 2, 4), (1, 1, 3), (1, 0, 2)] [4, 2] [(4, 80, 50), (2, 80, 4)] E0 J0 M') ?_ (fun M3 h => ?_)
  · unfold F_X7_init
    refine ok_nw (i := 2) h rfl rfl (fun M2 h => ?_)
    refine ok_wrR (i := 1) (j := 2) h rfl (fun M3 h => ?_)
    refine ok_nw (i := 3) h rfl rfl (fun M5 h => ?_)
    refine ok_wrR (i := 1) (j := 3) h rfl (fun M6 h => ?_)
    refine ok_nw (i := 4) h rfl rfl (fun M8 h => ?_)
    refine ok_wrR (i := 1) (j := 4) h rfl (fun M9 h => ?_)
    refine ok_nw (i := 5) h rfl rfl (fun M11 h => ?_)
    refine ok_wrR (i := 1) (j := 5) h rfl (fun M12 h => ?_)
    refine ok_nw (i := 6) h rfl rfl (fun M14 h => ?_)
    refine ok_wrR (i := 1) (j := 6) h rfl (fun M15 h => ?_)
    refine ok_nw (i := 7) h rfl rfl (fun M17 h => ?_)
    refine ok_call (fun M' => Bld n [(17, 0), (14, 0), (1, 80), (1, 80), (1, 80), (1, 320), (1, 320), (16, 0), (1, 320), (1, 320)] [(7, 1, 9), (7, 0, 8), (1, 4, 6), (1, 3, 5), (1, 2, 4), (1, 1, 3), (1, 0, 2)] [] [] E0 J0 M') ?_ (fun M18 h => ?_)
    · unfold F_X9_init
      refine ok_nw (i := 8) h rfl rfl (fun M2 h => ?_)
      refine ok_wrR (i := 7) (j := 8) h rfl (fun M3 h => ?_)
      refine ok_nw (i := 9) h rfl rfl (fun M5 h => ?_)
      refine ok_wrR (i := 7) (j := 9) h rfl (fun M6 h => ?_)
      exact ⟨_, rfl, h⟩
    refine ok_wrR (i := 1) (j := 7) h rfl (fun M19 h => ?_)
    refine ok_nw (i := 10) h rfl rfl (fun M21 h => ?_)
    refine ok_call (fun M' => Bld n [(17, 0), (14, 0), (1, 80), (1, 80), (1, 80), (1, 320), (1, 320), (16, 0), (1, 320), (1, 320), (16, 0), (1, 320), (1, 320)] [(10, 1, 12), (10, 0, 11), (1, 5, 7), (7, 1, 9), (7, 0, 8), (1, 4, 6), (1, 3, 5), (1, 2, 4), (1, 1, 3), (1, 0, 2)] [] [] E0 J0 M') ?_ (fun M22 h => ?_)
    · unfold F_X9_init
      refine ok_nw (i := 11) h rfl rfl (fun M2 h => ?_)
      refine ok_wrR (i := 10) (j := 11) h rfl (fun M3 h => ?_)
      refine ok_nw (i := 12) h rfl rfl (fun M5 h => ?_)
      refine ok_wrR (i := 10) (j := 12) h rfl (fun M6 h => ?_)
      exact ⟨_, rfl, h⟩
    refine ok_wrR (i := 1) (j := 10) h rfl (fun M23 h => ?_)
    refine ok_rdR (i := 1) (j := 2) h rfl rfl ?_
    refine ok_s ?_
    refine ok_fill (i := 2) (v := 4) h rfl rfl (by decide) rfl (fun M26 h => ?_)
    refine ok_rdR (i := 1) (j := 4) h rfl rfl ?_
    refine ok_s ?_
    refine ok_fill (i := 4) (v := 50) h rfl rfl (by decide) rfl (fun M29 h => ?_)
    exact ⟨_, rfl, h⟩
  refine ok_wrR (i := 0) (j := 1) h rfl (fun M4 h => ?_)
  refine ok_nw (i := 13) h rfl rfl (fun M6 h => ?_)
  refine ok_wrR (i := 0) (j := 13) h rfl (fun M7 h => ?_)
  refine ok_wrI (i := 0) (v := 0) h rfl rfl (Or.inl rfl) rfl (fun M8 h => ?_)
  refine ok_wrI (i := 0) (v := 0) h rfl rfl (Or.inl rfl) rfl (fun M9 h => ?_)
  refine ok_wrI (i := 0) (v := 0) h rfl rfl (Or.inl rfl) rfl (fun M10 h => ?_)
  refine ok_nw (i := 14) h rfl rfl (fun M12 h => ?_)
  refine ok_wrR (i := 0) (j := 14) h rfl (fun M13 h => ?_)
  refine ok_nw (i := 15) h rfl rfl (fun M15 h => ?_)
  refine ok_wrR (i := 0) (j := 15) h rfl (fun M16 h => ?_)
  refine ok_wrI (i := 0) (v := 0) h rfl rfl (Or.inl rfl) rfl (fun M17 h => ?_)
  refine ok_nw (i := 16) h rfl rfl (fun M19 h => ?_)
  refine ok_call (fun M' => Bld n [(17, 0), (14, 0), (1, 80), (1, 80), (1, 80), (1, 320), (1, 320), (16, 0), (1, 320), (1, 320), (16, 0), (1, 320), (1, 320), (3, 8), (1, 401), (4, 10), (8, 0), (1, 60), (1, 60), (1, 60), (1, 60)] [(16, 4, 20), (16, 3, 19), (16, 2, 18), (16, 1, 17), (0, 6, 15), (0, 5, 14), (0, 1, 13), (0, 0, 1), (1, 6, 10), (10, 1, 12), (10, 0, 11), (1, 5, 7), (7, 1, 9), (7, 0, 8), (1, 4, 6), (1, 3, 5), (1, 2, 4), (1, 1, 3), (1, 0, 2)] [4, 2] [(4, 80, 50), (2, 80, 4)] E0 J0 M') ?_ (fun M20 h => ?_)
  · unfold F_X1_init
    refine ok_wrI (i := 16) (v := 0) h rfl rfl (Or.inl rfl) rfl (fun M1 h => ?_)
    refine ok_nw (i := 17) h rfl rfl (fun M3 h => ?_)
    refine ok_wrR (i := 16) (j := 17) h rfl (fun M4 h => ?_)
    refine ok_nw (i := 18) h rfl rfl (fun M6 h => ?_)
    refine ok_wrR (i := 16) (j := 18) h rfl (fun M7 h => ?_)
    refine ok_nw (i := 19) h rfl rfl (fun M9 h => ?_)
    refine ok_wrR (i := 16) (j := 19) h rfl (fun M10 h => ?_)
    refine ok_nw (i := 20) h rfl rfl (fun M12 h => ?_)
    refine ok_wrR (i := 16) (j := 20) h rfl (fun M13 h => ?_)
    exact ⟨_, rfl, h⟩
  refine ok_wrR (i := 0) (j := 16) h rfl (fun M21 h => ?_)
  refine ok_nw (i := 21) h rfl rfl (fun M23 h => ?_)
  refine ok_call (fun M' => Bld n [(17, 0), (14, 0), (1, 80), (1, 80), (1, 80), (1, 320), (1, 320), (16, 0), (1, 320), (1, 320), (16, 0), (1, 320), (1, 320), (3, 8), (1, 401), (4, 10), (8, 0), (1, 60), (1, 60), (1, 60), (1, 60), (13, 0), (1, 200), (1, 200), (1, 200), (1, 200), (1, 200), (1, 200), (1, 60), (1, 60), (1, 60), (1, 60)] [(21, 11, 31), (21, 10, 30), (21, 9, 29), (21, 8, 28), (21, 6, 27), (21, 5, 26), (21, 4, 25), (21, 3, 24), (21, 2, 23), (21, 1, 22), (0, 8, 16), (16, 4, 20), (16, 3, 19), (16, 2, 18), (16, 1, 17), (0, 6, 15), (0, 5, 14), (0, 1, 13), (0, 0, 1), (1, 6, 10), (10, 1, 12), (10, 0, 11), (1, 5, 7), (7, 1, 9), (7, 0, 8), (1, 4, 6), (1, 3, 5), (1, 2, 4), (1, 1, 3), (1, 0, 2)] [4, 2] [(4, 80, 50), (2, 80, 4)] E0 J0 M') ?_ (fun M24 h => ?_)
  · unfold F_X6_init
    refine ok_wrI (i := 21) (v := 0) h rfl rfl (Or.inl rfl) rfl (fun M1 h => ?_)
    refine ok_nw (i := 22) h rfl rfl (fun M3 h => ?_)
    refine ok_wrR (i := 21) (j := 22) h rfl (fun M4 h => ?_)
    refine ok_nw (i := 23) h rfl rfl (fun M6 h => ?_)
    refine ok_wrR (i := 21) (j := 23) h rfl (fun M7 h => ?_)
    refine ok_nw (i := 24) h rfl rfl (fun M9 h => ?_)
    refine ok_wrR (i := 21) (j := 24) h rfl (fun M10 h => ?_)
    refine ok_nw (i := 25) h rfl rfl (fun M12 h => ?_)
    refine ok_wrR (i := 21) (j := 25) h rfl (fun M13 h => ?_)
    refine ok_nw (i := 26) h rfl rfl (fun M15 h => ?_)
    refine ok_wrR (i := 21) (j := 26) h rfl (fun M16 h => ?_)
    refine ok_nw (i := 27) h rfl rfl (fun M18 h => ?_)
    refine ok_wrR (i := 21) (j := 27) h rfl (fun M19 h => ?_)
    refine ok_wrI (i := 21) (v := 0) h rfl rfl (Or.inl rfl) rfl (fun M20 h => ?_)
    refine ok_nw (i := 28) h rfl rfl (fun M22 h => ?_)
    refine ok_wrR (i := 21) (j := 28) h rfl (fun M23 h => ?_)
    refine ok_nw (i := 29) h rfl rfl (fun M25 h => ?_)
    refine ok_wrR (i := 21) (j := 29) h rfl (fun M26 h => ?_)
    refine ok_nw (i := 30) h rfl rfl (fun M28 h => ?_)
    refine ok_wrR (i := 21) (j := 30) h rfl (fun M29 h => ?_)
    refine ok_nw (i := 31) h rfl rfl (fun M31 h => ?_)
    refine ok_wrR (i := 21) (j := 31) h rfl (fun M32 h => ?_)
    exact ⟨_, rfl, h⟩
  refine ok_wrR (i := 0) (j := 21) h rfl (fun M25 h => ?_)
  refine ok_nw (i := 32) h rfl rfl (fun M27 h => ?_)
  refine ok_call (fun M' => Bld n [(17, 0), (14, 0), (1, 80), (1, 80), (1, 80), (1, 320), (1, 320), (16, 0), (1, 320), (1, 320), (16, 0), (1, 320), (1, 320), (3, 8), (1, 401), (4, 10), (8, 0), (1, 60), (1, 60), (1, 60), (1, 60), (13, 0), (1, 200), (1, 200), (1, 200), (1, 200), (1, 200), (1, 200), (1, 60), (1, 60), (1, 60), (1, 60), (11, 0)] [(0, 9, 21), (21, 11, 31), (21, 10, 30), (21, 9, 29), (21, 8, 28), (21, 6, 27), (21, 5, 26), (21, 4, 25), (21, 3, 24), (21, 2, 23), (21, 1, 22), (0, 8, 16), (16, 4, 20), (16, 3, 19), (16, 2, 18), (16, 1, 17), (0, 6, 15), (0, 5, 14), (0, 1, 13), (0, 0, 1), (1, 6, 10), (10, 1, 12), (10, 0, 11), (1, 5, 7), (7, 1, 9), (7, 0, 8), (1, 4, 6), (1, 3, 5), (1, 2, 4), (1, 1, 3), (1, 0, 2)] [4, 2] [(4, 80, 50), (2, 80, 4)] E0 J0 M') ?_ (fun M28 h => ?_)
  · unfold F_X4_init
    exact ⟨_, rfl, h⟩
  refine ok_wrR (i := 0) (j := 32) h rfl (fun M29 h => ?_)
  exact ⟨_, rfl, h⟩
end CONS
