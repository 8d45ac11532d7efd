/-! NEW CELLS, NEW REFERENCES -/
def eN (E : Em) (kd : Nat × Nat) : Em := (up1 E.1 E.2.2.2 kd, up1 E.2.1 E.2.2.2 (fun _ => none), up1 E.2.2.1 E.2.2.2 (fun _ => 0), E.2.2.2 + 1)
def jN (E : Em) (J : Jm) : Jm := up1 J E.2.2.2 (fun _ => 0)
def eR (E : Em) (a k : Nat) (v : Option Nat) : Em := (E.1, up1 E.2.1 a (up1 (E.2.1 a) k v), E.2.2.1, E.2.2.2)
def K0 (E : Em) : Prop := ∀ a, (E.1 a).1 ≠ 0 → a < E.2.2.2
section NEWC
variable {E E' : Em} {M : Mm} {J J' : Jm} {a b k t n c w x m q0 : Nat} {v : Option Nat} {kd : Nat × Nat}
theorem mre_nw (hM : Mre E M J) : Mre (eN E kd) (nw M kd) (jN E J) := by
  obtain ⟨h1, h2, h3, h4, h5⟩ := hM
  refine ⟨?_, ?_, ?_, ?_, fun a k => ?_⟩
  · rw [mK_nw, h1, h4]; rfl
  · rw [mR_nw, h2, h4]; rfl
  · rw [mL_nw, h3, h4]; rfl
  · rw [mN_nw, h4]; rfl
  · rw [mI_nw, h4]
    show (up1 (mI M) E.2.2.2 (fun _ => 0) a k).toInt = up1 J E.2.2.2 (fun _ => 0) a k
    unfold up1
    by_cases e : a = E.2.2.2
    · rw [if_pos e, if_pos e]; rfl
    · rw [if_neg e, if_neg e]; exact h5 a k
theorem mre_sR (hM : Mre E M J) : Mre (eR E a k v) (sR M a k v) J := by
  obtain ⟨h1, h2, h3, h4, h5⟩ := hM
  refine ⟨h1, ?_, h3, h4, h5⟩
  rw [mR_sR, h2]; rfl
theorem o_wrR (hM : Mre E M J) (hk : E.1 a = (t + 7, 0)) : ∃ M2, wrR M a t k v = some M2 ∧ Mre (eR E a k v) M2 J := ⟨_, by unfold wrR; rw [hM.1, if_pos hk], mre_sR hM⟩
theorem o_stR (hM : Mre E M J) (hk : E.1 a = (t, n)) {i : Int32} {I : Int} (hi : i.toInt = I) (h0 : 0 ≤ I ∧ I < (n : Int)) {e : Nat} (hv : E.1 c = (e + 7, 0)) : ∃ M2, stR M a t e i c = some M2 ∧ Mre (eR E a I.toNat (some c)) M2 J := by
  have hn : i.toNatClampNeg = I.toNat := by rw [← hi]; rfl
  have hc : ¬ (i < 0 ∨ n ≤ I.toNat) := by
    rintro (h | h)
    · have := (c_lt hi (b := 0) (B := 0) rfl).mp h
      omega
    · omega
  refine ⟨sR M a I.toNat (some c), ?_, mre_sR hM⟩
  unfold stR
  rw [hM.1, hk, hv, hn, if_pos ⟨rfl, hc, rfl⟩]
theorem eN_k (h : b < E.2.2.2) : (eN E kd).1 b = E.1 b := up1_n _ _ (by omega)
theorem eN_r (h : b < E.2.2.2) : (eN E kd).2.1 b = E.2.1 b := up1_n _ _ (by omega)
theorem jN_n (h : b < E.2.2.2) : jN E J b = J b := up1_n _ _ (by omega)
theorem eN_k2 : (eN E kd).1 E.2.2.2 = kd := up1_s _ _ _
theorem eN_r2 : (eN E kd).2.1 E.2.2.2 = fun _ => none := up1_s _ _ _
theorem jN_2 : jN E J E.2.2.2 = fun _ => 0 := up1_s _ _ _
theorem eR_n (h : b ≠ a) : (eR E a k v).2.1 b = E.2.1 b := up1_n _ _ h
theorem eR_s : (eR E a k v).2.1 a k = v := by
  show up1 E.2.1 a (up1 (E.2.1 a) k v) a k = v
  rw [up1_s, up1_s]
theorem eR_o (h : c ≠ k) : (eR E a k v).2.1 a c = E.2.1 a c := by
  show up1 E.2.1 a (up1 (E.2.1 a) k v) a c = _
  rw [up1_s, up1_n _ _ h]
/-- a memory that has grown: old kinds stay, old references too but those of a few -/
def Xk (E E' : Em) : Prop := K0 E' ∧ E.2.2.2 ≤ E'.2.2.2 ∧ (∀ b, b < E.2.2.2 → E'.1 b = E.1 b) ∧ ∀ b, b < E.2.2.2 → (E.1 b).1 ≠ 3 → (E.1 b).1 ≠ 4 → (E.1 b).1 ≠ 10 → (E.1 b).1 ≠ 18 → E'.2.1 b = E.2.1 b
theorem k0_N (h : K0 E) : K0 (eN E kd) := fun a ha => by
  show a < E.2.2.2 + 1
  by_cases e : a = E.2.2.2
  · omega
  · have : (eN E kd).1 a = E.1 a := up1_n _ _ e
    rw [this] at ha
    have := h a ha
    omega
theorem k0_R (h : K0 E) : K0 (eR E a k v) := h
def okK (k : Nat × Nat) : Bool := k.1 != 0 && k.1 != 3 && k.1 != 4 && k.1 != 10 && k.1 != 18
theorem kx (k0 : K0 E) (X : Xk E E') (h : E.1 b = kd) (hk : kd.1 ≠ 0) : E'.1 b = kd := by rw [X.2.2.1 b (k0 b (by rw [h]; exact hk)), h]
theorem rx (k0 : K0 E) (X : Xk E E') (h : E.1 b = kd) (hk : okK kd = true) : E'.2.1 b = E.2.1 b := by
  unfold okK at hk
  simp only [Bool.and_eq_true, bne_iff_ne, ne_eq] at hk
  obtain ⟨⟨⟨⟨a1, a2⟩, a3⟩, a4⟩, a5⟩ := hk
  exact X.2.2.2 b (k0 b (by rw [h]; exact a1)) (by rw [h]; exact a2) (by rw [h]; exact a3) (by rw [h]; exact a4) (by rw [h]; exact a5)
theorem w0_x (k0 : K0 E) (X : Xk E E') (h : W0 E a) : W0 E' a := by
  unfold W0 at h ⊢
  rw [rx k0 X h.1 rfl, kx k0 X h.1 (by decide), kx k0 X h.2.2 (by decide)]; exact ⟨rfl, h.2.1, rfl⟩
theorem w1_x (k0 : K0 E) (X : Xk E E') (h : W1 E a) : W1 E' a := by
  obtain ⟨h1, ⟨r0, s0⟩, ⟨r1, s1⟩, ⟨r2, s2⟩, ⟨r3, s3⟩⟩ := h
  have e := rx k0 X h1 rfl
  exact ⟨kx k0 X h1 (by decide), ⟨(congrFun e _).trans r0, kx k0 X s0 (by decide)⟩, ⟨(congrFun e _).trans r1, kx k0 X s1 (by decide)⟩, ⟨(congrFun e _).trans r2, kx k0 X s2 (by decide)⟩, ⟨(congrFun e _).trans r3, kx k0 X s3 (by decide)⟩⟩
theorem w2_x (k0 : K0 E) (X : Xk E E') (h : W2 E a) : W2 E' a := by
  obtain ⟨h1, ⟨r0, s0⟩, ⟨r1, s1⟩, ⟨r2, s2⟩, ⟨r3, s3⟩, ⟨r4, s4⟩, ⟨r5, s5⟩, ⟨r6, s6⟩, ⟨r7, s7⟩⟩ := h
  have e := rx k0 X h1 rfl
  exact ⟨kx k0 X h1 (by decide), ⟨(congrFun e _).trans r0, kx k0 X s0 (by decide)⟩, ⟨(congrFun e _).trans r1, kx k0 X s1 (by decide)⟩, ⟨(congrFun e _).trans r2, kx k0 X s2 (by decide)⟩, ⟨(congrFun e _).trans r3, kx k0 X s3 (by decide)⟩, ⟨(congrFun e _).trans r4, kx k0 X s4 (by decide)⟩, ⟨(congrFun e _).trans r5, kx k0 X s5 (by decide)⟩, ⟨(congrFun e _).trans r6, kx k0 X s6 (by decide)⟩, ⟨(congrFun e _).trans r7, kx k0 X s7 (by decide)⟩⟩
theorem w6_x (k0 : K0 E) (X : Xk E E') (h : W6 E a) : W6 E' a := by
  obtain ⟨h1, ⟨r0, s0⟩, ⟨r1, s1⟩, ⟨r2, s2⟩, ⟨r3, s3⟩, ⟨r4, s4⟩, ⟨r5, s5⟩, ⟨r6, s6⟩, ⟨r7, s7⟩, ⟨r8, s8⟩, ⟨r9, s9⟩⟩ := h
  have e := rx k0 X h1 rfl
  exact ⟨kx k0 X h1 (by decide), ⟨(congrFun e _).trans r0, kx k0 X s0 (by decide)⟩, ⟨(congrFun e _).trans r1, kx k0 X s1 (by decide)⟩, ⟨(congrFun e _).trans r2, kx k0 X s2 (by decide)⟩, ⟨(congrFun e _).trans r3, kx k0 X s3 (by decide)⟩, ⟨(congrFun e _).trans r4, kx k0 X s4 (by decide)⟩, ⟨(congrFun e _).trans r5, kx k0 X s5 (by decide)⟩, ⟨(congrFun e _).trans r6, kx k0 X s6 (by decide)⟩, ⟨(congrFun e _).trans r7, kx k0 X s7 (by decide)⟩, ⟨(congrFun e _).trans r8, kx k0 X s8 (by decide)⟩, ⟨(congrFun e _).trans r9, kx k0 X s9 (by decide)⟩⟩
theorem w9_x (k0 : K0 E) (X : Xk E E') (h : W9 E a) : W9 E' a := by
  obtain ⟨h1, ⟨r0, s0⟩, ⟨r1, s1⟩⟩ := h
  have e := rx k0 X h1 rfl
  exact ⟨kx k0 X h1 (by decide), ⟨(congrFun e _).trans r0, kx k0 X s0 (by decide)⟩, ⟨(congrFun e _).trans r1, kx k0 X s1 (by decide)⟩⟩
theorem w8_x (k0 : K0 E) (X : Xk E E') (h : W8 E a) : W8 E' a := by
  obtain ⟨h1, ⟨r0, s0⟩⟩ := h
  have e := rx k0 X h1 rfl
  exact ⟨kx k0 X h1 (by decide), ⟨(congrFun e _).trans r0, kx k0 X s0 (by decide)⟩⟩
theorem w12_x (k0 : K0 E) (X : Xk E E') (h : W12 E a) : W12 E' a := by
  obtain ⟨h1, ⟨r0, s0⟩, ⟨r1, s1⟩, ⟨r2, s2⟩, ⟨r3, s3⟩, ⟨r4, s4⟩, ⟨r5, s5⟩, ⟨r6, s6⟩, ⟨r7, s7⟩, ⟨r8, s8⟩, ⟨r9, s9⟩, ⟨r10, s10⟩, ⟨r11, s11⟩, ⟨r12, s12⟩, ⟨r13, s13⟩, ⟨r14, s14⟩, ⟨r15, s15⟩, ⟨r16, s16⟩⟩ := h
  have e := rx k0 X h1 rfl
  exact ⟨kx k0 X h1 (by decide), ⟨(congrFun e _).trans r0, kx k0 X s0 (by decide)⟩, ⟨(congrFun e _).trans r1, kx k0 X s1 (by decide)⟩, ⟨(congrFun e _).trans r2, kx k0 X s2 (by decide)⟩, ⟨(congrFun e _).trans r3, kx k0 X s3 (by decide)⟩, ⟨(congrFun e _).trans r4, kx k0 X s4 (by decide)⟩, ⟨(congrFun e _).trans r5, kx k0 X s5 (by decide)⟩, ⟨(congrFun e _).trans r6, kx k0 X s6 (by decide)⟩, ⟨(congrFun e _).trans r7, kx k0 X s7 (by decide)⟩, ⟨(congrFun e _).trans r8, kx k0 X s8 (by decide)⟩, ⟨(congrFun e _).trans r9, kx k0 X s9 (by decide)⟩, ⟨(congrFun e _).trans r10, kx k0 X s10 (by decide)⟩, ⟨(congrFun e _).trans r11, kx k0 X s11 (by decide)⟩, ⟨(congrFun e _).trans r12, kx k0 X s12 (by decide)⟩, ⟨(congrFun e _).trans r13, kx k0 X s13 (by decide)⟩, ⟨(congrFun e _).trans r14, kx k0 X s14 (by decide)⟩, ⟨(congrFun e _).trans r15, kx k0 X s15 (by decide)⟩, ⟨(congrFun e _).trans r16, kx k0 X s16 (by decide)⟩⟩
theorem w4_x (k0 : K0 E) (X : Xk E E') (h : W4 E a) : W4 E' a := kx k0 X h (by decide)
theorem wa_x (k0 : K0 E) (X : Xk E E') (h : Wa E a) : Wa E' a := by
  have hk : E'.1 a = E.1 a := kx k0 X rfl (by rw [h.1]; decide)
  unfold Wa
  rw [hk]; exact h
theorem w7_x (k0 : K0 E) (X : Xk E E') (h : W7 E a) : W7 E' a := by
  obtain ⟨h1, ⟨r0, k1⟩, ⟨r1, k2⟩, ⟨r2, k3⟩, ⟨r3, k4⟩, ⟨r4, k5⟩, ⟨r5, k6⟩, ⟨r6, k7⟩⟩ := h
  have e := rx k0 X h1 rfl
  exact ⟨kx k0 X h1 (by decide), ⟨(congrFun e _).trans r0, kx k0 X k1 (by decide)⟩, ⟨(congrFun e _).trans r1, kx k0 X k2 (by decide)⟩, ⟨(congrFun e _).trans r2, kx k0 X k3 (by decide)⟩, ⟨(congrFun e _).trans r3, kx k0 X k4 (by decide)⟩, ⟨(congrFun e _).trans r4, kx k0 X k5 (by decide)⟩, ⟨(congrFun e _).trans r5, w9_x k0 X k6⟩, ⟨(congrFun e _).trans r6, w9_x k0 X k7⟩⟩
theorem w10_x (k0 : K0 E) (X : Xk E E') (h : W10 E a) (hg : ∀ j g, E'.2.1 (a + 13) j = some g → W0 E' g) (ho : ∀ j g, E'.2.1 (a + 15) j = some g → W2 E' g) : W10 E' a := by
  obtain ⟨h1, ⟨r0, k1⟩, ⟨r1, k2, _⟩, ⟨r2, k3⟩, ⟨r3, k4, _⟩, ⟨r4, k5⟩, ⟨r5, k6⟩, ⟨r6, k7⟩⟩ := h
  have e := rx k0 X h1 rfl
  exact ⟨kx k0 X h1 (by decide), ⟨(congrFun e _).trans r0, w7_x k0 X k1⟩, ⟨(congrFun e _).trans r1, kx k0 X k2 (by decide), hg⟩, ⟨(congrFun e _).trans r2, kx k0 X k3 (by decide)⟩, ⟨(congrFun e _).trans r3, kx k0 X k4 (by decide), ho⟩, ⟨(congrFun e _).trans r4, w1_x k0 X k5⟩, ⟨(congrFun e _).trans r5, w6_x k0 X k6⟩, ⟨(congrFun e _).trans r6, w4_x k0 X k7⟩⟩
/-- a world whose own references stay -/
theorem w10_s (k0 : K0 E) (X : Xk E E') (h : W10 E a) (eg : E'.2.1 (a + 13) = E.2.1 (a + 13)) (eo : E'.2.1 (a + 15) = E.2.1 (a + 15)) : W10 E' a := w10_x k0 X h (fun j g hg => w0_x k0 X (h.2.2.1.2.2 j g (by rw [← eg]; exact hg))) (fun j g hg => w2_x k0 X (h.2.2.2.2.1.2.2 j g (by rw [← eo]; exact hg)))
theorem w11_x (k0 : K0 E) (X : Xk E E') (h : W11 E x) (p : E.2.1 (x + 34) 0 = some (x + 1) ∧ E.2.1 (x + 34) 1 = some (x + 1 + 1)) (hw : W10 E' (x + 1)) (h0 : ∀ q, E'.2.1 (x + 45) 0 = some q → W2 E' q) (h1 : ∀ q, E'.2.1 (x + 45) 1 = some q → Wa E' q) (hr : ∀ i, i ≠ 4 → E'.2.1 x i = E.2.1 x i) (h4 : ∀ q, E'.2.1 x 4 = some q → W10 E' q) : W11 E' x := by
  obtain ⟨a1, ⟨a2, _⟩, ⟨a3, b1, b2, b3, ⟨r0, k1⟩, ⟨r1, k2⟩, ⟨r2, k3⟩, ⟨r3, k4⟩, ⟨r4, k5⟩, ⟨r5, k6⟩, ⟨r6, k7⟩, ⟨r7, k8⟩, ⟨r8, k9⟩, ⟨r9, k10⟩⟩, ⟨a4, d1, _, _⟩, ⟨a5, f1, f2⟩, _⟩ := h
  have e := rx k0 X b1 rfl
  have es : E'.2.1 (x + 56) = E.2.1 (x + 56) := rx k0 X f1 rfl
  refine ⟨kx k0 X a1 (by decide), ⟨(hr 0 (by decide)).trans a2, hw⟩, ⟨(hr 1 (by decide)).trans a3, kx k0 X b1 (by decide), fun q hq => ?_, fun q hq => ?_, ⟨(congrFun e _).trans r0, kx k0 X k1 (by decide)⟩, ⟨(congrFun e _).trans r1, kx k0 X k2 (by decide)⟩, ⟨(congrFun e _).trans r2, kx k0 X k3 (by decide)⟩, ⟨(congrFun e _).trans r3, kx k0 X k4 (by decide)⟩, ⟨(congrFun e _).trans r4, kx k0 X k5 (by decide)⟩, ⟨(congrFun e _).trans r5, kx k0 X k6 (by decide)⟩, ⟨(congrFun e _).trans r6, kx k0 X k7 (by decide)⟩, ⟨(congrFun e _).trans r7, kx k0 X k8 (by decide)⟩, ⟨(congrFun e _).trans r8, kx k0 X k9 (by decide)⟩, ⟨(congrFun e _).trans r9, kx k0 X k10 (by decide)⟩⟩, ⟨(hr 2 (by decide)).trans a4, kx k0 X d1 (by decide), h0, h1⟩, ⟨(hr 3 (by decide)).trans a5, kx k0 X f1 (by decide), fun j g hg => w8_x k0 X (f2 j g (by rw [← es]; exact hg))⟩, h4⟩
  · rw [e, p.1] at hq
    cases hq
    exact hw
  · rw [e, p.2] at hq
    cases hq
    exact hw.2.1.2
theorem vw_R {S : Int → Int} (h : Vw E w J S) (eg : E'.2.1 (w + 13) = E.2.1 (w + 13)) (eo : E'.2.1 (w + 15) = E.2.1 (w + 15)) : Vw E' w J S := by
  unfold Vw
  rw [eg, eo]; exact h
theorem sh_E (h : Shs x m E J) (e : E'.2.1 (x + 56) = E.2.1 (x + 56)) : Shs x m E' J := fun d hd => by
  have := h d hd
  unfold ShD at this ⊢
  rw [e]; exact this
theorem kin_w (h : W10 E w) : ∀ k : Nat, k < 33 → (E.1 (w + k)).1 ≠ 0
  | 0, _ => by rw [show E.1 (w + 0) = _ from h.1]; decide
  | 1, _ => by rw [show E.1 (w + 1) = _ from h.2.1.2.1]; decide
  | 2, _ => by rw [show E.1 (w + 2) = _ from h.2.1.2.2.1.2]; decide
  | 3, _ => by rw [show E.1 (w + 3) = _ from h.2.1.2.2.2.1.2]; decide
  | 4, _ => by rw [show E.1 (w + 4) = _ from h.2.1.2.2.2.2.1.2]; decide
  | 5, _ => by rw [show E.1 (w + 5) = _ from h.2.1.2.2.2.2.2.1.2]; decide
  | 6, _ => by rw [show E.1 (w + 6) = _ from h.2.1.2.2.2.2.2.2.1.2]; decide
  | 7, _ => by rw [show E.1 (w + 7) = _ from h.2.1.2.2.2.2.2.2.2.1.2.1]; decide
  | 8, _ => by rw [show E.1 (w + 8) = _ from h.2.1.2.2.2.2.2.2.2.1.2.2.1.2]; decide
  | 9, _ => by rw [show E.1 (w + 9) = _ from h.2.1.2.2.2.2.2.2.2.1.2.2.2.2]; decide
  | 10, _ => by rw [show E.1 (w + 10) = _ from h.2.1.2.2.2.2.2.2.2.2.2.1]; decide
  | 11, _ => by rw [show E.1 (w + 11) = _ from h.2.1.2.2.2.2.2.2.2.2.2.2.1.2]; decide
  | 12, _ => by rw [show E.1 (w + 12) = _ from h.2.1.2.2.2.2.2.2.2.2.2.2.2.2]; decide
  | 13, _ => by rw [show E.1 (w + 13) = _ from h.2.2.1.2.1]; decide
  | 14, _ => by rw [show E.1 (w + 14) = _ from h.2.2.2.1.2]; decide
  | 15, _ => by rw [show E.1 (w + 15) = _ from h.2.2.2.2.1.2.1]; decide
  | 16, _ => by rw [show E.1 (w + 16) = _ from h.2.2.2.2.2.1.2.1]; decide
  | 17, _ => by rw [show E.1 (w + 17) = _ from h.2.2.2.2.2.1.2.2.1.2]; decide
  | 18, _ => by rw [show E.1 (w + 18) = _ from h.2.2.2.2.2.1.2.2.2.1.2]; decide
  | 19, _ => by rw [show E.1 (w + 19) = _ from h.2.2.2.2.2.1.2.2.2.2.1.2]; decide
  | 20, _ => by rw [show E.1 (w + 20) = _ from h.2.2.2.2.2.1.2.2.2.2.2.2]; decide
  | 21, _ => by rw [show E.1 (w + 21) = _ from h.2.2.2.2.2.2.1.2.1]; decide
  | 22, _ => by rw [show E.1 (w + 22) = _ from h.2.2.2.2.2.2.1.2.2.1.2]; decide
  | 23, _ => by rw [show E.1 (w + 23) = _ from h.2.2.2.2.2.2.1.2.2.2.1.2]; decide
  | 24, _ => by rw [show E.1 (w + 24) = _ from h.2.2.2.2.2.2.1.2.2.2.2.1.2]; decide
  | 25, _ => by rw [show E.1 (w + 25) = _ from h.2.2.2.2.2.2.1.2.2.2.2.2.1.2]; decide
  | 26, _ => by rw [show E.1 (w + 26) = _ from h.2.2.2.2.2.2.1.2.2.2.2.2.2.1.2]; decide
  | 27, _ => by rw [show E.1 (w + 27) = _ from h.2.2.2.2.2.2.1.2.2.2.2.2.2.2.1.2]; decide
  | 28, _ => by rw [show E.1 (w + 28) = _ from h.2.2.2.2.2.2.1.2.2.2.2.2.2.2.2.1.2]; decide
  | 29, _ => by rw [show E.1 (w + 29) = _ from h.2.2.2.2.2.2.1.2.2.2.2.2.2.2.2.2.1.2]; decide
  | 30, _ => by rw [show E.1 (w + 30) = _ from h.2.2.2.2.2.2.1.2.2.2.2.2.2.2.2.2.2.1.2]; decide
  | 31, _ => by rw [show E.1 (w + 31) = _ from h.2.2.2.2.2.2.1.2.2.2.2.2.2.2.2.2.2.2.2]; decide
  | 32, _ => by rw [show E.1 (w + 32) = _ from h.2.2.2.2.2.2.2.2]; decide
  | k + 33, q => absurd q (by omega)
theorem kw_lt (k0 : K0 E) (h : W10 E w) (hb : Kw E w b) : b < E.2.2.2 := by
  refine k0 b (fun h0 => ?_)
  rcases hb with hb | ⟨j, a, ha, hb⟩ | ⟨j, q, i, hq, hi, hb⟩
  · have hl : (E.1 (w + 32)).1 ≠ 0 := by rw [h.2.2.2.2.2.2.2.2]; decide
    have hh : ∀ k : Nat, k < 33 → (E.1 (w + k)).1 ≠ 0 := kin_w h
    have := hh (b - w) (by omega)
    rw [show w + (b - w) = b by omega] at this
    exact this h0
  · have wa := h.2.2.1.2.2 j a ha
    rcases hb with hb | hb <;> subst hb
    · rw [wa.1] at h0; cases h0
    · rw [wa.2.2] at h0; cases h0
  · subst hb
    have s := dk_o (h.2.2.2.2.1.2.2 j q hq) i hi
    generalize E.1 (q + i) = kk at s h0
    unfold okb at s
    simp only [Bool.or_eq_true, beq_iff_eq] at s
    rcases s with ((s | s) | s) | s <;> rw [s] at h0 <;> cases h0
/-- the kept world, or none -/
def KP (x m q0 : Nat) (E : Em) (J : Jm) : Prop := J m 3 = 0 ∧ E.2.1 x 4 = none ∨ J m 3 = 1 ∧ ∃ w', E.2.1 x 4 = some w' ∧ m + 18 < w' ∧ Wp E w' m q0 ∧ (∀ i j a, E.2.1 (x + 1 + 13) i = some a → E.2.1 (w' + 13) j ≠ some a) ∧ Wd E w' J (m + 1)
/-- the kept world stays -/
theorem kp_x {q1 : Nat} (k0 : K0 E) (wx : W11 E x) (wm : W12 E m) (hS : Shs x m E J) (hm : m = x + 73) (hK : KP x m q0 E J) (h4 : E'.2.1 x 4 = E.2.1 x 4) (hr : ∀ w', E.2.1 x 4 = some w' → E'.2.1 (w' + 13) = E.2.1 (w' + 13) ∧ E'.2.1 (w' + 15) = E.2.1 (w' + 15)) (hn : ∀ i a, E'.2.1 (x + 1 + 13) i = some a → E.2.1 (x + 1 + 13) i = some a ∨ E.2.2.2 ≤ a) (hq : q1 = q0 ∨ E.2.2.2 ≤ q1) (h3 : J' m 3 = J m 3) (h2 : J' (m + 2) = J (m + 2)) (hJ : ∀ b, b < E.2.2.2 → ¬ (x ≤ b ∧ b ≤ x + 45) → ¬ (m ≤ b ∧ b ≤ m + 17) → ¬ ShA x m b → (∀ j a, E.2.1 (x + 1 + 13) j = some a → b ≠ a ∧ b ≠ a + 1) → J' b = J b) : KP x m q1 E' J' := by
  rcases hK with ⟨a1, a2⟩ | ⟨a1, w', a2, a3, a4, a5, a6⟩
  · exact Or.inl ⟨h3.trans a1, h4.trans a2⟩
  · obtain ⟨r1, r2⟩ := hr w' a2
    have w10 := wx.2.2.2.2.2 w' a2
    refine Or.inr ⟨h3.trans a1, w', h4.trans a2, a3, ⟨by rw [r1]; exact a4.1, by rw [r1]; exact a4.2.1, fun j hj => ?_⟩, fun i j a hi hj => ?_, ?_⟩
    · rw [r2] at hj
      rcases hq with hq | hq
      · subst hq; exact a4.2.2 j hj
      · have := k0 q1 (by rw [(w10.2.2.2.2.1.2.2 j q1 hj).1]; decide)
        omega
    · rw [r1] at hj
      rcases hn i a hi with hi | hi
      · exact a5 i j a hi hj
      · have := k0 a (by rw [(w10.2.2.1.2.2 j a hj).1]; decide)
        omega
    · obtain ⟨S, s1, s2, s3⟩ := a6
      refine ⟨S, vw_R (vwK s1 (fun b hb => ?_)) r1 r2, rE s2 h2, s3⟩
      obtain ⟨n1, n2, n3, n4⟩ := kw_k wx wm hS hm a2 a3 a5 hb
      exact hJ b (kw_lt k0 w10 hb) n1 n2 n3 n4
end NEWC
