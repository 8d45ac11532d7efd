/-! ONE WORLD BECOMES ANOTHER -/
def cpy (J : Jm) (a b N : Nat) : Jm := jA J b (jcp (J a) (J b) 0 0 N)
theorem cpy_ne {J : Jm} {a b N c : Nat} (h : c ≠ b) : cpy J a b N c = J c := jA_ne h
theorem cpy_at {J : Jm} {a b N k : Nat} (h : k < N) : cpy J a b N b k = J a k := by
  unfold cpy
  rw [jA_at]
  unfold jcp
  rw [if_pos (by omega), show 0 + (k - 0) = k by omega]
theorem c_all {E : Em} {J : Jm} {a b N : Nat} {ka kb : Nat} (h1 : E.1 a = (ka, N)) (h2 : E.1 b = (kb, N)) : H_X11_copyAll E a b J = some (cpy J a b N) := by
  unfold H_X11_copyAll jCp
  rw [h1, h2]
  dsimp only
  have e : mnZ (N : Int) (N : Int) = (N : Int) := by unfold mnZ; rw [if_neg (by omega)]
  rw [e, if_pos (by omega)]
  rfl
/-- a world's cells but its ORDERS' -/
def Kg (E : Em) (w b : Nat) : Prop := (w ≤ b ∧ b ≤ w + 31) ∨ ∃ j a, E.2.1 (w + 13) j = some a ∧ (b = a ∨ b = a + 1)
def VsP (T : List vRow) (w : Nat) (J : Jm) (S : Int → Int) : Prop := ∀ r ∈ T, r ∈ vT ∧ ∀ z : Int, 0 ≤ z → z < r.2.2.1 → J (w + r.1) (z.toNat + r.2.1) = S (r.2.2.2 + z)
theorem vp_all {T : List vRow} {w : Nat} {J : Jm} {S : Int → Int} (h : VsP T w J S) (hT : vT.all (fun r => T.contains r) = true) : Vs w J S := fun r hr => (h r (by
  have := List.all_eq_true.mp hT r hr
  exact List.contains_iff_mem.mp this)).2
theorem vp_step {T : List vRow} {t : Nat} {J J2 : Jm} {S : Int → Int} {r : vRow} (hr : r ∈ vT) (h : VsP T t J S) (e1 : ∀ z : Int, 0 ≤ z → z < r.2.2.1 → J2 (t + r.1) (z.toNat + r.2.1) = S (r.2.2.2 + z)) (e2 : ∀ b k, t ≤ b → b ≤ t + 31 → (b ≠ t + r.1 ∨ ¬ (r.2.1 ≤ k ∧ k < r.2.1 + r.2.2.1.toNat)) → J2 b k = J b k) : VsP (r :: T) t J2 S := by
  intro q hq
  rcases List.mem_cons.mp hq with e | hq
  · rw [e]; exact ⟨hr, e1⟩
  · obtain ⟨hv, h1⟩ := h q hq
    refine ⟨hv, fun z z0 z1 => ?_⟩
    have ho := (vOff_at hv).1
    rcases vDis_at hr hv with e | ⟨d1, -⟩
    · subst e; exact e1 z z0 z1
    · rw [e2 _ _ (by omega) (by omega) (by omega)]; exact h1 z z0 z1
def BG (E0 : Em) (J0 : Jm) (t s : Nat) (S : Int → Int) (T : List vRow) (g k : Nat) (E : Em) (J : Jm) : Prop :=
  Xk E0 E ∧ (∀ b, b < E0.2.2.2 → b ≠ t + 13 → b ≠ t + 15 → E.2.1 b = E0.2.1 b) ∧
  (∀ j c, E.2.1 (t + 13) j = some c → W0 E c ∧ (E0.2.1 (t + 13) j = some c ∨ E0.2.2.2 ≤ c)) ∧
  (∀ i j c, E.2.1 (t + 13) i = some c → E.2.1 (t + 13) j = some c → i = j) ∧
  (∀ j, E.2.1 (t + 15) j = if j < k then E0.2.1 (s + 15) j else E0.2.1 (t + 15) j) ∧
  VsP T t J S ∧ (∀ b, b < E0.2.2.2 → ¬ Kg E0 t b → J b = J0 b) ∧ ∀ i : Nat, i < g → ∃ a, E.2.1 (t + 13) i = some a ∧ Gv J a (i : Int) S
/-- where it happens: t becomes s -/
def Bx (E0 : Em) (J0 : Jm) (t s : Nat) (S : Int → Int) : Prop := K0 E0 ∧ W10 E0 t ∧ W10 E0 s ∧ Vw E0 s J0 S ∧ Inv S ∧ (∀ b, Kw E0 s b → ¬ Kg E0 t b) ∧ (s + 32 < t ∨ t + 32 < s) ∧ ∀ i j a, E0.2.1 (t + 13) i = some a → E0.2.1 (t + 13) j = some a → i = j
section BECO
variable {E0 E E' : Em} {J0 J J2 J' : Jm} {t s g k a N : Nat} {S : Int → Int} {T : List vRow}
theorem bg_0 (x : Bx E0 J0 t s S) : BG E0 J0 t s S [] 0 0 E0 J0 := by
  obtain ⟨k0, wt, ws, hV, hi, ap, hts, inj⟩ := x
  exact ⟨⟨k0, Nat.le_refl _, fun _ _ => rfl, fun _ _ _ _ _ _ => rfl⟩, fun _ _ _ _ => rfl, fun j c hc => ⟨wt.2.2.1.2.2 j c hc, Or.inl hc⟩, inj, fun j => by rw [if_neg (Nat.not_lt_zero j)], fun r hr => (by cases hr), fun _ _ _ => rfl, fun i hi => absurd hi (Nat.not_lt_zero i)⟩
theorem bg_nk (x : Bx E0 J0 t s S) (h : BG E0 J0 t s S T g k E J) {b : Nat} (h1 : t ≤ b) (h2 : b ≤ t + 32) : dkb (E.1 b) = false := by
  have hl : b < E0.2.2.2 := x.1 b (by have := kin_w x.2.1 (b - t) (by omega); rw [show t + (b - t) = b by omega] at this; exact this)
  rw [h.1.2.2.1 b hl]; exact st_w2 x.2.1 h1 h2
/-- the source's numbers stay -/
theorem bg_src (x : Bx E0 J0 t s S) (h : BG E0 J0 t s S T g k E J) {b : Nat} (hb : Kw E0 s b) : J b = J0 b := h.2.2.2.2.2.2.1 b (kw_lt x.1 x.2.2.1 hb) (x.2.2.2.2.2.1 b hb)
theorem bg_vs (x : Bx E0 J0 t s S) (h : BG E0 J0 t s S T g k E J) : Vs s J S := vE x.2.2.2.1.1 (fun b b1 b2 => bg_src x h (Or.inl ⟨b1, b2⟩))
/-- a change within the target's own rows -/
theorem bg_J {r : vRow} (x : Bx E0 J0 t s S) (h : BG E0 J0 t s S T g k E J) (hr : r ∈ vT) (e1 : ∀ z : Int, 0 ≤ z → z < r.2.2.1 → J2 (t + r.1) (z.toNat + r.2.1) = S (r.2.2.2 + z)) (e2 : ∀ b j, (b ≠ t + r.1 ∨ ¬ (r.2.1 ≤ j ∧ j < r.2.1 + r.2.2.1.toNat)) → J2 b j = J b j) : BG E0 J0 t s S (r :: T) g k E J2 := by
  have ho := (vOff_at hr).1
  have h0 := h
  obtain ⟨h1, h2, h3, h4, h5, h6, h7, h8⟩ := h
  have e3 : ∀ b, b ≠ t + r.1 → J2 b = J b := fun b hb => funext (fun j => e2 b j (Or.inl hb))
  refine ⟨h1, h2, h3, h4, h5, vp_step hr h6 e1 (fun b k _ _ hb => e2 b k hb), fun b hb hk => ?_, fun i hi => ?_⟩
  · rw [e3 b (fun e => hk (Or.inl (by omega)))]; exact h7 b hb hk
  · obtain ⟨a, ha, hG⟩ := h8 i hi
    have gk := dk_g (h3 i a ha).1
    have nd := bg_nk x h0 (b := t + r.1) (by omega) (by omega)
    exact ⟨a, ha, gE hG (e3 a (fun e => tf (gk_dk gk.1) (by rw [e]; exact nd))) (e3 _ (fun e => tf (gk_dk gk.2) (by rw [e]; exact nd)))⟩
theorem bg_row {o : Nat} {len off : Int} (x : Bx E0 J0 t s S) (h : BG E0 J0 t s S T g k E J) (hr : (o, 0, len, off) ∈ vT) {a b : Nat} (ha : a = s + o) (hb : b = t + o) (hN : len.toNat = N) : BG E0 J0 t s S ((o, 0, len, off) :: T) g k E (cpy J a b N) := by
  subst ha hb hN
  have hv := bg_vs x h
  refine bg_J x h hr (fun z z0 z1 => ?_) (fun b j hb => ?_)
  · dsimp only at z1 ⊢
    rw [cpy_at (by omega)]
    exact hv _ hr z z0 z1
  · dsimp only at hb
    by_cases e : b = t + o
    · subst e
      unfold cpy
      rw [jA_at]
      unfold jcp
      rw [if_neg (by omega)]
    · rw [cpy_ne e]
theorem bg_fld {o f : Nat} {off v : Int} (x : Bx E0 J0 t s S) (h : BG E0 J0 t s S T g k E J) (hr : (o, f, 1, off) ∈ vT) {a b : Nat} (ha : a = s + o) (hb : b = t + o) (hv : v = J a f) : BG E0 J0 t s S ((o, f, 1, off) :: T) g k E (jW J b f v) := by
  subst ha hb hv
  have hv := bg_vs x h
  refine bg_J x h hr (fun z z0 z1 => ?_) (fun b j hb => ?_)
  · dsimp only at z1 ⊢
    have ez : z = 0 := by omega
    subst ez
    have e := hv _ hr 0 (by decide) (show (0 : Int) < 1 by decide)
    dsimp only at e
    rw [show (0 : Int).toNat + f = f by show 0 + f = f; omega] at e ⊢
    rw [jW_at]; exact e
  · dsimp only at hb
    have e1 : (1 : Int).toNat = 1 := rfl
    by_cases e : b = t + o
    · subst e
      rw [jW_of (by omega)]
    · rw [jW_ne e]
/-- the target as it is under way -/
theorem bg_wt (x : Bx E0 J0 t s S) (h : BG E0 J0 t s S T g k E J) : W10 E t := by
  obtain ⟨k0, wt, ws, hV, hi, ap, hts, inj⟩ := x
  refine w10_x k0 h.1 wt (fun j c hc => (h.2.2.1 j c hc).1) (fun j c hc => ?_)
  rw [h.2.2.2.2.1 j] at hc
  by_cases e : j < k
  · rw [if_pos e] at hc; exact w2_x k0 h.1 (ws.2.2.2.2.1.2.2 j c hc)
  · rw [if_neg e] at hc; exact w2_x k0 h.1 (wt.2.2.2.2.1.2.2 j c hc)
theorem bg_ws (x : Bx E0 J0 t s S) (h : BG E0 J0 t s S T g k E J) : W10 E s ∧ E.2.1 (s + 13) = E0.2.1 (s + 13) ∧ E.2.1 (s + 15) = E0.2.1 (s + 15) := by
  obtain ⟨k0, wt, ws, hV, hi, ap, hts, inj⟩ := x
  have e1 : E.2.1 (s + 13) = E0.2.1 (s + 13) := h.2.1 _ (k0 _ (by rw [ws.2.2.1.2.1]; decide)) (by omega) (by omega)
  have e2 : E.2.1 (s + 15) = E0.2.1 (s + 15) := h.2.1 _ (k0 _ (by rw [ws.2.2.2.2.1.2.1]; decide)) (by omega) (by omega)
  exact ⟨w10_s k0 h.1 ws e1 e2, e1, e2⟩
/-- room for the next GLIDER -/
theorem bg_room (x : Bx E0 J0 t s S) (h : BG E0 J0 t s S T g k E J) (hG : GRoom E J t g a E' J') : BG E0 J0 t s S T g k E' J' ∧ E'.2.1 (t + 13) g = some a := by
  have h0 := h
  have nk := fun (b : Nat) => bg_nk (b := b) x h
  have wt' := bg_wt x h
  obtain ⟨h1, h2, h3, h4, h5, h6, h7, h8⟩ := h
  obtain ⟨X, g1, g2, g3, g4, g5⟩ := hG
  obtain ⟨k0, wt, ws, hV, hi, ap, hts, inj⟩ := x
  have kE : K0 E := h1.1
  have l15 : t + 15 < E.2.2.2 := kE _ (by rw [wt'.2.2.2.2.1.2.1]; decide)
  have gl : ∀ j c, E'.2.1 (t + 13) j = some c → (j = g ∧ c = a) ∨ (j ≠ g ∧ E.2.1 (t + 13) j = some c) := fun j c hc => by
    rw [g1] at hc
    by_cases e : j = g
    · subst e; rw [up1_s] at hc; cases hc; exact Or.inl ⟨rfl, rfl⟩
    · rw [up1_n _ _ e] at hc; exact Or.inr ⟨e, hc⟩
  have gw : ∀ j c, E.2.1 (t + 13) j = some c → c < E.2.2.2 ∧ c + 1 < E.2.2.2 := fun j c hc => by
    have w := (h3 j c hc).1
    exact ⟨kE _ (by rw [w.1]; decide), kE _ (by rw [w.2.2]; decide)⟩
  have XX : Xk E0 E' := ⟨X.1, Nat.le_trans h1.2.1 X.2.1, fun b hb => by rw [X.2.2.1 b (Nat.lt_of_lt_of_le hb h1.2.1), h1.2.2.1 b hb], fun b hb q3 q4 q10 q18 => by
    rw [g2 b (Nat.lt_of_lt_of_le hb h1.2.1) (fun e => q3 (by rw [e, wt.2.2.1.2.1]))]
    exact h1.2.2.2 b hb q3 q4 q10 q18⟩
  refine ⟨⟨XX, fun b hb n1 n2 => by rw [g2 b (Nat.lt_of_lt_of_le hb h1.2.1) n1]; exact h2 b hb n1 n2, fun j c hc => ?_, fun i j c hc1 hc2 => ?_, fun j => by rw [g2 _ l15 (by omega)]; exact h5 j, fun r hr => ?_, fun b hb hk => by rw [g3 b (Nat.lt_of_lt_of_le hb h1.2.1)]; exact h7 b hb hk, fun i hi => ?_⟩, by rw [g1, up1_s]⟩
  · rcases gl j c hc with ⟨p1, p2⟩ | ⟨p1, p2⟩
    · subst p1 p2
      refine ⟨g4, ?_⟩
      rcases g5 with g5 | ⟨-, g5⟩
      · exact (h3 _ _ g5).2
      · exact Or.inr (Nat.le_trans h1.2.1 g5)
    · exact ⟨w0_x kE X (h3 j c p2).1, (h3 j c p2).2⟩
  · rcases gl i c hc1 with ⟨p1, p2⟩ | ⟨p1, p2⟩ <;> rcases gl j c hc2 with ⟨p3, p4⟩ | ⟨p3, p4⟩
    · rw [p1, p3]
    · exfalso
      rcases g5 with g5 | ⟨-, g5⟩
      · rw [p2] at p4; exact p3 (h4 _ _ _ p4 g5)
      · have := (gw j c p4).1; omega
    · exfalso
      rcases g5 with g5 | ⟨-, g5⟩
      · rw [p4] at p2; exact p1 (h4 _ _ _ p2 g5)
      · have := (gw i c p2).1; omega
    · exact h4 _ _ _ p2 p4
  · obtain ⟨hv, e⟩ := h6 r hr
    have ho := (vOff_at hv).1
    refine ⟨hv, fun z z0 z1 => ?_⟩
    have hl : t + r.1 < E.2.2.2 := kE _ (kin_w wt' r.1 (by omega))
    rw [g3 _ hl]; exact e z z0 z1
  · obtain ⟨c, hc, hC⟩ := h8 i hi
    obtain ⟨l1, l2⟩ := gw i c hc
    exact ⟨c, by rw [g1, up1_n _ _ (by omega)]; exact hc, gE hC (g3 _ l1) (g3 _ l2)⟩
/-- a GLIDER that has become another -/
theorem bg_gl (x : Bx E0 J0 t s S) (h : BG E0 J0 t s S T g k E J) (ha : E.2.1 (t + 13) g = some a) (fr : ∀ b, b ≠ a → b ≠ a + 1 → J2 b = J b) (hG : Gv J2 a (g : Int) S) : BG E0 J0 t s S T (g + 1) k E J2 := by
  have h0 := h
  obtain ⟨h1, h2, h3, h4, h5, h6, h7, h8⟩ := h
  have wa := (h3 g a ha).1
  have gk := dk_g wa
  refine ⟨h1, h2, h3, h4, h5, fun r hr => ?_, fun b hb hk => ?_, fun i hi => ?_⟩
  · obtain ⟨hv, e⟩ := h6 r hr
    have ho := (vOff_at hv).1
    have nd := bg_nk x h0 (b := t + r.1) (by omega) (by omega)
    exact ⟨hv, fun z z0 z1 => by rw [fr _ (fun e => tf (gk_dk gk.1) (by rw [← e]; exact nd)) (fun e => tf (gk_dk gk.2) (by rw [← e]; exact nd))]; exact e z z0 z1⟩
  · rw [fr b, h7 b hb hk]
    · intro e
      rcases (h3 g a ha).2 with q | q
      · exact hk (Or.inr ⟨g, a, q, Or.inl e⟩)
      · omega
    · intro e
      rcases (h3 g a ha).2 with q | q
      · exact hk (Or.inr ⟨g, a, q, Or.inr e⟩)
      · omega
  · by_cases e : i = g
    · subst e; exact ⟨a, ha, hG⟩
    · obtain ⟨c, hc, hC⟩ := h8 i (by omega)
      have wc := (h3 i c hc).1
      have ne : c ≠ a := fun q => e (h4 _ _ _ hc (by rw [q]; exact ha))
      refine ⟨c, hc, gE hC (fr _ ne (fun q => ?_)) (fr _ (fun q => ?_) (by omega))⟩
      · have := wc.1; rw [q, wa.2.2] at this; cases this
      · have := wa.1; rw [← q, wc.2.2] at this; cases this
/-- an ORDER taken over -/
theorem bg_or (x : Bx E0 J0 t s S) (h : BG E0 J0 t s S T g k E J) {q : Nat} (hq : E0.2.1 (s + 15) k = some q) : BG E0 J0 t s S T g (k + 1) (eR E (t + 15) k (some q)) J := by
  have h0 := h
  obtain ⟨h1, h2, h3, h4, h5, h6, h7, h8⟩ := h
  obtain ⟨k0, wt, ws, hV, hi, ap, hts, inj⟩ := x
  have X : Xk E0 (eR E (t + 15) k (some q)) := ⟨k0_R h1.1, h1.2.1, h1.2.2.1, fun b hb q3 q4 q10 q18 => by rw [eR_n (fun e => q4 (by rw [e, wt.2.2.2.2.1.2.1]))]; exact h1.2.2.2 b hb q3 q4 q10 q18⟩
  have X2 : Xk E (eR E (t + 15) k (some q)) := ⟨k0_R h1.1, Nat.le_refl _, fun _ _ => rfl, fun b hb q3 q4 q10 q18 => eR_n (fun e => q4 (by rw [e, kx k0 h1 wt.2.2.2.2.1.2.1 (by decide)]))⟩
  refine ⟨X, fun b hb n1 n2 => by rw [eR_n n2]; exact h2 b hb n1 n2, fun j c hc => ?_, by rw [eR_n (by omega)]; exact h4, fun j => ?_, h6, h7, by rw [eR_n (by omega)]; exact h8⟩
  · rw [eR_n (by omega)] at hc
    exact ⟨w0_x h1.1 X2 (h3 j c hc).1, (h3 j c hc).2⟩
  · by_cases e : j = k
    · subst e; rw [eR_s, if_pos (Nat.lt_succ_self j)]; exact hq.symm
    · rw [eR_o e, h5 j]
      by_cases e2 : j < k
      · rw [if_pos e2, if_pos (by omega)]
      · rw [if_neg e2, if_neg (by omega)]
/-- all taken over -/
theorem bg_vw (x : Bx E0 J0 t s S) (h : BG E0 J0 t s S T (S 0).toNat (S 4).toNat E J) (hT : vT.all (fun r => T.contains r) = true) : Vw E t J S := by
  have h0 := h
  obtain ⟨h1, h2, h3, h4, h5, h6, h7, h8⟩ := h
  refine ⟨vp_all h6 hT, fun g g0 g1 => ?_, fun j j0 j1 => ?_⟩
  · obtain ⟨a, ha, hG⟩ := h8 g.toNat (by omega)
    rw [show ((g.toNat : Nat) : Int) = g by omega] at hG
    exact ⟨a, ha, hG⟩
  · obtain ⟨q, hq, hO⟩ := x.2.2.2.1.2.2 j j0 j1
    refine ⟨q, by rw [h5, if_pos (by omega)]; exact hq, OrdA_E (fun i hi => bg_src x h0 (Or.inr (Or.inr ⟨_, _, _, hq, hi, rfl⟩))) hO⟩
end BECO
