/-! BUILDING: cells behind n, one after another -/
def rfd (R : List (Nat × Nat × Nat)) (i k : Nat) : Option Nat := (R.find? (fun r => r.1 == i && r.2.1 == k)).map (fun r => r.2.2)
/-- behind n stand the cells L, with references R, numbers 0 but in D, filled rows V; before n nothing has changed -/
def Bld (n : Nat) (L : List (Nat × Nat)) (R : List (Nat × Nat × Nat)) (D : List Nat) (V : List (Nat × Nat × Int)) (E0 : Em) (J0 : Jm) (M : Mm) : Prop := ∃ (E : Em) (J : Jm), Mre E M J ∧ K0 E ∧ E.2.2.2 = n + L.length ∧ (∀ i k, L[i]? = some k → E.1 (n + i) = k) ∧ (∀ i, i < L.length → ∀ k, E.2.1 (n + i) k = (rfd R i k).map (n + ·)) ∧ (∀ i, i < L.length → i ∉ D → ∀ k, J (n + i) k = 0) ∧ (∀ i c v, (i, c, v) ∈ V → i < L.length ∧ ∀ k, k < c → J (n + i) k = v) ∧ ∀ b, b < n → E.1 b = E0.1 b ∧ E.2.1 b = E0.2.1 b ∧ J b = J0 b
section BLD
variable {α : Type} {n i j k t c : Nat} {L : List (Nat × Nat)} {R : List (Nat × Nat × Nat)} {D : List Nat} {V : List (Nat × Nat × Int)} {E0 : Em} {J0 : Jm} {M : Mm} {P : α → Prop} {kd : Nat × Nat}
theorem lt_at {β : Type} {L : List β} {i : Nat} {a : β} (h : L[i]? = some a) : i < L.length := (List.getElem?_eq_some_iff.mp h).1
theorem bld0 {E : Em} {J : Jm} (hM : Mre E M J) (k0 : K0 E) : Bld E.2.2.2 [] [] [] [] E J M := ⟨E, J, hM, k0, rfl, fun i k h => (by cases h), fun i h => absurd h (Nat.not_lt_zero i), fun i h => absurd h (Nat.not_lt_zero i), fun i c v h => (by cases h), fun b _ => ⟨rfl, rfl, rfl⟩⟩
theorem ok_call {F : Option Mm} {f : Mm → Option α} (Q : Mm → Prop) (h : Ok F Q) (kk : ∀ M', Q M' → Ok (f M') P) : Ok (F.bind f) P := by
  obtain ⟨M', e, q⟩ := h
  exact ok_b e (kk M' q)
theorem rfd_no (h : R.all (fun r => r.1 != i) = true) (k : Nat) : rfd R i k = none := by
  unfold rfd
  have e : R.find? (fun r => r.1 == i && r.2.1 == k) = none := by
    rw [List.find?_eq_none]
    intro r hr
    have := List.all_eq_true.mp h r hr
    simp only [bne_iff_ne, ne_eq] at this
    simp [this]
  rw [e]; rfl
theorem rfd_s : rfd ((i, k, j) :: R) i k = some j := by
  unfold rfd
  rw [List.find?_cons_of_pos (by simp)]
  rfl
theorem rfd_n {a b : Nat} (h : ¬ (a = i ∧ b = k)) : rfd ((i, k, j) :: R) a b = rfd R a b := by
  unfold rfd
  rw [List.find?_cons_of_neg]
  simp only [Bool.and_eq_true, beq_iff_eq]
  rintro ⟨h1, h2⟩
  exact h ⟨h1.symm, h2.symm⟩
theorem ok_nw (h : Bld n L R D V E0 J0 M) (hi : L.length = i) (hR : R.all (fun r => r.1 != i) = true) {f : Nat → Mm → Option α} (kk : ∀ M', Bld n (L ++ [kd]) R D V E0 J0 M' → Ok (f (n + i) M') P) : Ok (nv (mN M) fun a => nv (nw M kd) fun M' => f a M') P := by
  obtain ⟨E, J, hM, k0, h1, h2, h3, h4, h5, h6⟩ := h
  show Ok (f (mN M) (nw M kd)) P
  have hN : E.2.2.2 = n + i := by rw [h1, hi]
  rw [hM.2.2.2.1, hN]
  refine kk _ ⟨eN E kd, jN E J, mre_nw hM, k0_N k0, ?_, fun a k ha => ?_, fun a ha k => ?_, fun a ha hd k => ?_, fun a c v hv => ?_, fun b hb => ?_⟩
  · show E.2.2.2 + 1 = _
    rw [hN, List.length_append, List.length_singleton]; omega
  · by_cases e : a < L.length
    · rw [List.getElem?_append_left e] at ha
      rw [eN_k (by omega)]; exact h2 a k ha
    · have e2 := lt_at ha
      rw [List.length_append, List.length_singleton] at e2
      have e3 : a = L.length := by omega
      subst e3
      rw [List.getElem?_append_right (Nat.le_refl _), Nat.sub_self] at ha
      cases ha
      rw [hi, ← hN]; exact eN_k2
  · rw [List.length_append, List.length_singleton] at ha
    by_cases e : a < L.length
    · rw [eN_r (by omega)]; exact h3 a e k
    · have e3 : a = i := by omega
      subst e3
      rw [← hN, eN_r2, rfd_no hR]; rfl
  · rw [List.length_append, List.length_singleton] at ha
    by_cases e : a < L.length
    · rw [jN_n (by omega)]; exact h4 a e hd k
    · have e3 : a = i := by omega
      subst e3
      rw [← hN, jN_2]
  · obtain ⟨b1, b2⟩ := h5 a c v hv
    rw [List.length_append, List.length_singleton]
    exact ⟨by omega, fun k hk => by rw [jN_n (by omega)]; exact b2 k hk⟩
  · rw [eN_k (by omega), eN_r (by omega), jN_n (by omega)]; exact h6 b hb
theorem ok_wrR (h : Bld n L R D V E0 J0 M) (hk : L[i]? = some (t + 7, 0)) {f : Mm → Option α} (kk : ∀ M', Bld n L ((i, k, j) :: R) D V E0 J0 M' → Ok (f M') P) : Ok ((wrR M (n + i) t k (some (n + j))).bind f) P := by
  obtain ⟨E, J, hM, k0, h1, h2, h3, h4, h5, h6⟩ := h
  have hl := lt_at hk
  obtain ⟨M2, e, hM2⟩ := o_wrR (k := k) (v := some (n + j)) hM (h2 i _ hk)
  refine ok_b e (kk _ ⟨_, J, hM2, k0_R k0, h1, h2, fun a ha b => ?_, h4, h5, fun b hb => ?_⟩)
  · by_cases e1 : a = i ∧ b = k
    · obtain ⟨rfl, rfl⟩ := e1
      rw [eR_s, rfd_s]; rfl
    · rw [rfd_n e1]
      by_cases e2 : a = i
      · subst e2
        rw [eR_o (fun e => e1 ⟨rfl, e⟩)]; exact h3 a ha b
      · rw [eR_n (by omega)]; exact h3 a ha b
  · rw [eR_n (by omega)]; exact h6 b hb
theorem ok_wrRn (h : Bld n L R D V E0 J0 M) (hk : L[i]? = some (t + 7, 0)) (hr : rfd R i k = none) {f : Mm → Option α} (kk : ∀ M', Bld n L R D V E0 J0 M' → Ok (f M') P) : Ok ((wrR M (n + i) t k none).bind f) P := by
  obtain ⟨E, J, hM, k0, h1, h2, h3, h4, h5, h6⟩ := h
  have hl := lt_at hk
  obtain ⟨M2, e, hM2⟩ := o_wrR (k := k) (v := none) hM (h2 i _ hk)
  refine ok_b e (kk _ ⟨_, J, hM2, k0_R k0, h1, h2, fun a ha b => ?_, h4, h5, fun b hb => ?_⟩)
  · by_cases e2 : a = i
    · subst e2
      by_cases e3 : b = k
      · subst e3
        rw [eR_s, hr]; rfl
      · rw [eR_o e3]; exact h3 a ha b
    · rw [eR_n (by omega)]; exact h3 a ha b
  · rw [eR_n (by omega)]; exact h6 b hb
theorem bld_J {E : Em} {J : Jm} {M2 : Mm} {v : Int} (hM2 : Mre E M2 (jW J (n + i) k v)) (k0 : K0 E) (h1 : E.2.2.2 = n + L.length) (h2 : ∀ i k, L[i]? = some k → E.1 (n + i) = k) (h3 : ∀ i, i < L.length → ∀ k, E.2.1 (n + i) k = (rfd R i k).map (n + ·)) (h4 : ∀ i, i < L.length → i ∉ D → ∀ k, J (n + i) k = 0) (h5 : ∀ i c v, (i, c, v) ∈ V → i < L.length ∧ ∀ k, k < c → J (n + i) k = v) (h6 : ∀ b, b < n → E.1 b = E0.1 b ∧ E.2.1 b = E0.2.1 b ∧ J b = J0 b) (hv : v = 0 ∨ i ∈ D) (hV : V.all (fun r => r.1 != i) = true) : Bld n L R D V E0 J0 M2 := by
  refine ⟨E, _, hM2, k0, h1, h2, h3, fun a ha hd b => ?_, fun a c w hw => ⟨(h5 a c w hw).1, fun b hb => ?_⟩, fun b hb => by rw [jW_ne (by omega)]; exact h6 b hb⟩
  · by_cases e : a = i
    · subst e
      rcases hv with hv | hv
      · by_cases e3 : b = k
        · rw [e3, jW_at]; exact hv
        · rw [jW_of e3]; exact h4 a ha hd b
      · exact absurd hv hd
    · rw [jW_ne (by omega)]; exact h4 a ha hd b
  · have := List.all_eq_true.mp hV _ hw
    simp only [bne_iff_ne, ne_eq] at this
    rw [jW_ne (by omega)]; exact (h5 a c w hw).2 b hb
theorem ok_wrI (h : Bld n L R D V E0 J0 M) (hk : L[i]? = some (t + 7, 0)) {x1 : Int32} {v : Int} (hx : x1.toInt = v) (hv : v = 0 ∨ i ∈ D) (hV : V.all (fun r => r.1 != i) = true) {f : Mm → Option α} (kk : ∀ M', Bld n L R D V E0 J0 M' → Ok (f M') P) : Ok ((wrI M (n + i) t k x1).bind f) P := by
  obtain ⟨E, J, hM, k0, h1, h2, h3, h4, h5, h6⟩ := h
  obtain ⟨M2, e, hM2⟩ := o_wrI (k := k) hM (h2 i _ hk) hx rfl
  exact ok_b e (kk _ (bld_J hM2 k0 h1 h2 h3 h4 h5 h6 hv hV))
theorem ok_wrZ (h : Bld n L R D V E0 J0 M) (hk : L[i]? = some (t + 7, 0)) (hV : V.all (fun r => r.1 != i) = true) {f : Mm → Option α} (kk : ∀ M', Bld n L R D V E0 J0 M' → Ok (f M') P) : Ok ((wrZ M (n + i) t k 0).bind f) P := by
  obtain ⟨E, J, hM, k0, h1, h2, h3, h4, h5, h6⟩ := h
  obtain ⟨M2, e, hM2⟩ := o_wrZ (k := k) hM (h2 i _ hk) (v := 0) (z := 0) rfl (Or.inl rfl) rfl
  exact ok_b e (kk _ (bld_J hM2 k0 h1 h2 h3 h4 h5 h6 (Or.inl rfl) hV))
theorem ok_rdR (h : Bld n L R D V E0 J0 M) (hk : L[i]? = some (t + 7, 0)) (hr : rfd R i k = some j) {f : Option Nat → Option α} (kk : Ok (f (some (n + j))) P) : Ok ((rdR M (n + i) t k).bind f) P := by
  obtain ⟨E, J, hM, k0, h1, h2, h3, h4, h5, h6⟩ := h
  exact ok_b (o_rdS hM (h2 i _ hk) (by rw [h3 i (lt_at hk) k, hr]; rfl)) kk
theorem ok_stR (h : Bld n L R D V E0 J0 M) {e : Nat} {x1 : Int32} {I : Nat} (hx : x1.toInt = (I : Int)) (hk : L[i]? = some (t, c)) (hI : I < c) (hv : L[j]? = some (e + 7, 0)) {f : Mm → Option α} (kk : ∀ M', Bld n L ((i, I, j) :: R) D V E0 J0 M' → Ok (f M') P) : Ok ((stR M (n + i) t e x1 (n + j)).bind f) P := by
  obtain ⟨E, J, hM, k0, h1, h2, h3, h4, h5, h6⟩ := h
  have hl := lt_at hk
  obtain ⟨M2, e2, hM2⟩ := o_stR (e := e) (c := n + j) hM (h2 i _ hk) hx (by omega) (h2 j _ hv)
  have hII : ((I : Nat) : Int).toNat = I := by omega
  rw [hII] at hM2
  refine ok_b e2 (kk _ ⟨_, J, hM2, k0_R k0, h1, h2, fun a ha b => ?_, h4, h5, fun b hb => ?_⟩)
  · by_cases e1 : a = i ∧ b = I
    · obtain ⟨rfl, rfl⟩ := e1
      rw [eR_s, rfd_s]; rfl
    · rw [rfd_n e1]
      by_cases e2 : a = i
      · subst e2
        rw [eR_o (fun e => e1 ⟨rfl, e⟩)]; exact h3 a ha b
      · rw [eR_n (by omega)]; exact h3 a ha b
  · rw [eR_n (by omega)]; exact h6 b hb
theorem ok_fill (h : Bld n L R D V E0 J0 M) {x1 : Int32} {v : Int} (hx : x1.toInt = v) (hk : L[i]? = some (1, c)) (hc : c ≤ 100000) (hV : V.all (fun r => r.1 != i) = true) {f : Mm → Option α} (kk : ∀ M', Bld n L R (i :: D) ((i, c, v) :: V) E0 J0 M' → Ok (f M') P) : Ok ((F_J7_fill_53178 (n + i) x1 M).bind f) P := by
  obtain ⟨E, J, hM, k0, h1, h2, h3, h4, h5, h6⟩ := h
  have hl := lt_at hk
  have hkk := h2 i _ hk
  have wa : Wa E (n + i) := ⟨by rw [hkk], by rw [hkk]; dsimp only; omega⟩
  obtain ⟨M2, e2, hM2⟩ := h_J7_fill_53178 hM wa hx (fill_q (N := c) (by rw [hkk]) hc)
  refine ok_b e2 (kk _ ⟨E, _, hM2, k0, h1, h2, h3, fun a ha hd b => ?_, fun a c' w hw => ?_, fun b hb => by rw [jF_ne (by omega)]; exact h6 b hb⟩)
  · have e3 : a ≠ i := fun e => hd (by rw [e]; exact List.mem_cons_self)
    rw [jF_ne (by omega)]
    exact h4 a ha (fun q => hd (List.mem_cons_of_mem _ q)) b
  · rcases List.mem_cons.mp hw with e | e
    · cases e
      exact ⟨hl, fun k hk2 => jF_at (by omega)⟩
    · have := List.all_eq_true.mp hV _ e
      simp only [bne_iff_ne, ne_eq] at this
      obtain ⟨b1, b2⟩ := h5 a c' w e
      exact ⟨b1, fun k hk2 => by rw [jF_ne (by omega)]; exact b2 k hk2⟩
end BLD
