/-! read: its second mirror by hand -/
def H_X11_read (x : Nat) (z1 z2 : Int) (J : Jm) : Option (Nat × Int) :=
  if 0 ≤ z1 ∧ z1 < J (x + 1 + 21) 0 then
    if z2 = 0 then (jL J (x + 1 + 21 + 6) 200 z1).bind fun y => some (0, y) else (H_X6_putRight (x + 1 + 21) z1 J).bind fun y => some (0, y)
  else some (1, 0)
theorem h_X11_read {E : Em} {M : Mm} {J : Jm} (hM : Mre E M J) {this : Nat} (wthis : W11 E this) {p1 p2 : Int32} {zp1 zp2 : Int} (tp1 : p1.toInt = zp1) (tp2 : p2.toInt = zp2) {k : Nat} {z : Int} (h : H_X11_read this zp1 zp2 J = some (k, z)) : Ok (F_X11_read this p1 p2 M) (fun q => q.1 = k ∧ q.2.1.toInt = z ∧ Mre E q.2.2 J) := by
  have wx := wthis.1
  have w0 := wthis.2.1.1
  have ww := wthis.2.1.2
  have w9 := ww.2.2.2.2.2.2.1.1
  have wp := ww.2.2.2.2.2.2.1.2
  have w6 := wp.2.2.2.2.2.2.1
  obtain ⟨v0, e0, t0⟩ := o_rdI (k := 0) hM wp.1
  unfold H_X11_read at h
  unfold F_X11_read
  by_cases c1 : zp1 < 0
  · rw [if_neg (show ¬ (0 ≤ zp1 ∧ zp1 < J (this + 1 + 21) 0) by omega)] at h
    cases h
    exact ok_t ((c_lt (b := 0) (B := 0) tp1 rfl).mpr c1) ⟨_, rfl, rfl, rfl, hM⟩
  · refine ok_f (fun q => c1 ((c_lt (b := 0) (B := 0) tp1 rfl).mp q)) ?_
    refine ok_b (o_rdS hM wx w0) (ok_s (ok_b (o_rdS hM ww.1 w9) (ok_s (ok_b e0 ?_))))
    by_cases c2 : zp1 < J (this + 1 + 21) 0
    · rw [if_pos (show 0 ≤ zp1 ∧ zp1 < J (this + 1 + 21) 0 by omega)] at h
      refine ok_t ((c_lt tp1 t0).mpr c2) ?_
      by_cases c3 : zp2 = 0
      · rw [if_pos c3] at h
        replace h := ob h; obtain ⟨y, hy, h⟩ := h
        cases h
        obtain ⟨v9, e9, t9⟩ := o_ldI hM w6.2 (n := 200) rfl tp1 hy
        refine ok_t ((c_eq (b := 0) (B := 0) tp2 rfl).mpr c3) ?_
        refine ok_b (o_rdS hM wx w0) (ok_s (ok_b (o_rdS hM ww.1 w9) (ok_s (ok_b (o_rdS hM wp.1 w6.1) (ok_s (ok_b e9 ?_))))))
        exact ⟨_, rfl, rfl, t_l64 t9, hM⟩
      · rw [if_neg c3] at h
        replace h := ob h; obtain ⟨y, hy, h⟩ := h
        cases h
        obtain ⟨⟨v9, M9⟩, e9, t9, hM9⟩ := h_X6_putRight hM wp tp1 hy
        dsimp only at t9 hM9
        refine ok_f (fun q => c3 ((c_eq (b := 0) (B := 0) tp2 rfl).mp q)) ?_
        refine ok_b (o_rdS hM wx w0) (ok_s (ok_b (o_rdS hM ww.1 w9) (ok_s (ok_b (o_isO hM wp.1) (ok_b e9 ?_)))))
        exact ⟨_, rfl, rfl, t_l64 t9, hM9⟩
    · rw [if_neg (show ¬ (0 ≤ zp1 ∧ zp1 < J (this + 1 + 21) 0) by omega)] at h
      cases h
      exact ok_f (fun q => c2 ((c_lt tp1 t0).mp q)) ⟨_, rfl, rfl, rfl, hM⟩
