/-! A DIVE -/
def zxy (S : Int → Int) (g c : Int) : Int → Int := zU (zU S (2178 + g) (c / 8)) (2186 + g) (c % 8)
theorem zxy_s {S : Int → Int} {g a b : Int} : zxy (zxy S g a) g b = zxy S g b := by
  unfold zxy
  rw [zU_c (z := 2186 + g) (y := 2178 + g) (by omega), zU_s, zU_s]
theorem rdg_c {S : Int → Int} {g p l sh z v : Int} (hg : 0 ≤ g ∧ g < 8) (h2 : 0 ≤ S 2) (hz : 2178 ≤ z ∧ z < 2194) : rdg (zU S z v) g p l sh = zU (rdg S g p l sh) z v := by
  unfold rdg
  rw [zU_ne (i := 2) (by omega), zU_ne (i := 1) (by omega), zU_ne (i := 2218 + g) (by omega)]
  split
  · rw [zU_c (z := z) (y := 2270 + S 2) (by omega), zU_c (z := z) (y := 2470 + S 2) (by omega), zU_c (z := z) (y := 2670 + S 2) (by omega), zU_c (z := z) (y := 2870 + S 2) (by omega), zU_c (z := z) (y := 3070 + S 2) (by omega), zU_c (z := z) (y := 3270 + S 2) (by omega), zU_c (z := z) (y := 2) (by omega)]
  · rfl
theorem msr_c {S : Int → Int} {g p l z v : Int} (hg : 0 ≤ g ∧ g < 8) (hp : 0 ≤ p ∧ p < 80) (hl : 0 ≤ l ∧ l ≤ 3) (h2 : 0 ≤ S 2) (hz : 2178 ≤ z ∧ z < 2194) : msr (zU S z v) g p l = zU (msr S g p l) z v := by
  unfold msr
  have e1 : shw (zU S z v) g p l = shw S g p l := by
    unfold shw
    rw [zU_ne (by omega), zU_ne (by omega)]
  rw [e1, rdg_c hg h2 hz, zU_ne (i := 2218 + g) (by omega), zU_c (z := z) (y := 2250 + g) (by omega), zU_c (z := z) (y := 2218 + g) (by omega), dbt_c hp (by omega)]
theorem rdg_ne {S : Int → Int} {g p l sh z : Int} (h : S 2 < 200 → z ≠ 2270 + S 2 ∧ z ≠ 2470 + S 2 ∧ z ≠ 2670 + S 2 ∧ z ≠ 2870 + S 2 ∧ z ≠ 3070 + S 2 ∧ z ≠ 3270 + S 2 ∧ z ≠ 2) : rdg S g p l sh z = S z := by
  unfold rdg
  split
  · rename_i q
    obtain ⟨a1, a2, a3, a4, a5, a6, a7⟩ := h q
    rw [zU_ne a7, zU_ne a6, zU_ne a5, zU_ne a4, zU_ne a3, zU_ne a2, zU_ne a1]
  · rfl
theorem msr_ne {S : Int → Int} {g p l z : Int} (hp : 0 ≤ p ∧ p < 80) (hz : z < 170 ∨ 250 ≤ z) (h1 : z ≠ 2250 + g) (h2 : z ≠ 2218 + g) (h : S 2 < 200 → z ≠ 2270 + S 2 ∧ z ≠ 2470 + S 2 ∧ z ≠ 2670 + S 2 ∧ z ≠ 2870 + S 2 ∧ z ≠ 3070 + S 2 ∧ z ≠ 3270 + S 2 ∧ z ≠ 2) : msr S g p l z = S z := by
  unfold msr
  rw [dbt_ne hp hz, zU_ne h2, zU_ne h1, rdg_ne h]
theorem stp_E {S T : Int → Int} {c e n : Int} (h : ∀ z : Int, 10 ≤ z → z < 90 → T z = S z) (hc : 0 ≤ c ∧ c < 80) : stp T c e n = stp S c e n := by
  unfold stp
  by_cases k : 0 ≤ c / 8 + e ∧ c / 8 + e < 10 ∧ 0 ≤ c % 8 + n ∧ c % 8 + n < 8
  · rw [h _ (by omega) (by omega)]
  · rw [if_neg (by omega), if_neg (by omega)]
theorem itE_E {S T : Int → Int} {s : Int} (h : ∀ z : Int, 10 ≤ z → z < 90 → T z = S z) : ∀ (k : Nat) {c : Int}, (0 ≤ c ∧ c < 80) → itE T s k c = itE S s k c
  | 0, _, _ => rfl
  | k + 1, c, hc => by
    unfold itE
    rw [stp_E h hc]; exact itE_E h k (stp_r hc)
theorem itN_E {S T : Int → Int} {s : Int} (h : ∀ z : Int, 10 ≤ z → z < 90 → T z = S z) : ∀ (k : Nat) {c : Int}, (0 ≤ c ∧ c < 80) → itN T s k c = itN S s k c
  | 0, _, _ => rfl
  | k + 1, c, hc => by
    unfold itN
    rw [stp_E h hc]; exact itN_E h k (stp_r hc)
theorem wlk_E {S T : Int → Int} {c e n : Int} (h : ∀ z : Int, 10 ≤ z → z < 90 → T z = S z) (hc : 0 ≤ c ∧ c < 80) : wlk T c e n = wlk S c e n := by
  unfold wlk
  rw [itE_E h _ hc]; exact itN_E h _ (itE_r _ hc)
section DIVE
variable {E : Em} {x w m a : Nat} {J Jr : Jm} {S : Int → Int} {c e n d l g p s v q f : Int}
theorem inv_xy (h : Inv S) (hg : 0 ≤ g ∧ g < S 0) (hc : 0 ≤ c ∧ c < 80) (hw : 0 < S (10 + c)) : Inv (zxy S g c) := by
  have hg8 := i_gli h
  have hl := i_let h
  have hoc := i_orc h
  have hr : IvR (zxy S g c) := by
    have r1 := ir_at h.1 (v := c / 8) (z := g) (r := (2178, 8, 0, 9)) (by decide) (by omega) (by dsimp only; omega) (by dsimp only; omega)
    exact ir_at r1 (v := c % 8) (z := g) (r := (2186, 8, 0, 7)) (by decide) (by omega) (by dsimp only; omega) (by dsimp only; omega)
  have ne : ∀ z : Int, z ≠ 2178 + g → z ≠ 2186 + g → zxy S g c z = S z := fun z h1 h2 => by unfold zxy; rw [zU_ne h2, zU_ne h1]
  refine ⟨hr, ?_, ?_, ?_, ?_, ?_, ?_, ?_, ?_⟩
  · intro g' g0 g1
    rw [ne 0 (by omega) (by omega)] at g1
    have hx := i_x h (z := g') g0 (by omega)
    have hy := i_y h (z := g') g0 (by omega)
    rw [ne (2202 + g') (by omega) (by omega)]
    intro u
    by_cases eg : g' = g
    · subst eg
      have e1 : zxy S g' c (2178 + g') = c / 8 := by unfold zxy; rw [zU_ne (by omega), zU_at]
      have e2 : zxy S g' c (2186 + g') = c % 8 := by unfold zxy; rw [zU_at]
      rw [e1, e2, show 8 * (c / 8) + c % 8 = c by omega, ne _ (by omega) (by omega)]
      exact hw
    · rw [ne (2178 + g') (by omega) (by omega), ne (2186 + g') (by omega) (by omega), ne _ (by omega) (by omega)]
      exact h.2.1 g' g0 g1 u
  · intro g' g0 g1
    rw [ne _ (by omega) (by omega), ne _ (by omega) (by omega)]
    exact h.2.2.1 g' g0 g1
  · intro g' g0 g1 g2
    rw [ne 0 (by omega) (by omega)] at g0
    obtain ⟨b1, b2, b3, b4, b5⟩ := h.2.2.2.1 g' g0 g1 g2
    rw [ne (2202 + g') (by omega) (by omega), ne (2210 + g') (by omega) (by omega), ne (2218 + g') (by omega) (by omega), ne (2242 + g') (by omega) (by omega)]
    exact ⟨b1, b2, b3, b4, fun t' t0 t1 => by rw [ne _ (by omega) (by omega)]; exact b5 t' t0 t1⟩
  · intro g' g0 g1
    rw [ne 0 (by omega) (by omega)] at g1
    rw [ne (2226 + g') (by omega) (by omega), ne 4 (by omega) (by omega)]
    exact h.2.2.2.2.1 g' g0 g1
  · intro g' g0 g1
    rw [ne 0 (by omega) (by omega)] at g1
    rw [ne (2234 + g') (by omega) (by omega), ne 1 (by omega) (by omega)]
    exact h.2.2.2.2.2.1 g' g0 g1
  · intro k k0 k1
    rw [ne 3 (by omega) (by omega)] at k1
    rw [ne (3770 + k) (by omega) (by omega), ne 4 (by omega) (by omega)]
    exact h.2.2.2.2.2.2.1 k k0 k1
  · intro g' g0 g1
    rw [ne _ (by omega) (by omega)]
    exact h.2.2.2.2.2.2.2.1 g' g0 g1
  · exact e8_E h (fun y hy => ne y (by omega) (by omega))
theorem inv_msr (h : Inv S) (hg : 0 ≤ g ∧ g < S 0) (hp : 0 ≤ p ∧ p < 80) (hr : IvR (msr S g p l)) (hf : S (2194 + g) + S (2218 + g) + 1 ≤ 999) : Inv (msr S g p l) := by
  have hg8 := i_gli h
  have hl := i_let h
  have hoc := i_orc h
  have hrr := i_rea h
  have hcc := i_cle h
  have hfo := i_fou h (z := g) hg.1 (by omega)
  have ne : ∀ z : Int, (z < 170 ∨ 250 ≤ z) → z ≠ 2250 + g → z ≠ 2218 + g → z ≠ 2 → (z < 2270 ∨ 3470 ≤ z) → msr S g p l z = S z := fun z a1 a2 a3 a4 a5 => msr_ne hp a1 a2 a3 (fun _ => by omega)
  have sf : msr S g p l (2218 + g) = S (2218 + g) + 1 := by
    unfold msr
    rw [dbt_ne hp (by omega), zU_at]
  refine ⟨hr, ?_, ?_, ?_, ?_, ?_, ?_, ?_, ?_⟩
  · intro g' g0 g1
    rw [ne 0 (by omega) (by omega) (by omega) (by omega) (by omega)] at g1
    have hx := i_x h (z := g') g0 (by omega)
    have hy := i_y h (z := g') g0 (by omega)
    rw [ne (2202 + g') (by omega) (by omega) (by omega) (by omega) (by omega), ne (2178 + g') (by omega) (by omega) (by omega) (by omega) (by omega), ne (2186 + g') (by omega) (by omega) (by omega) (by omega) (by omega), ne _ (by omega) (by omega) (by omega) (by omega) (by omega)]
    exact h.2.1 g' g0 g1
  · intro g' g0 g1
    rw [ne (2194 + g') (by omega) (by omega) (by omega) (by omega) (by omega)]
    by_cases eg : g' = g
    · subst eg; rw [sf]; omega
    · rw [ne (2218 + g') (by omega) (by omega) (by omega) (by omega) (by omega)]
      exact h.2.2.1 g' g0 g1
  · intro g' g0 g1 g2
    rw [ne 0 (by omega) (by omega) (by omega) (by omega) (by omega)] at g0
    obtain ⟨b1, b2, b3, b4, b5⟩ := h.2.2.2.1 g' g0 g1 g2
    rw [ne (2202 + g') (by omega) (by omega) (by omega) (by omega) (by omega), ne (2210 + g') (by omega) (by omega) (by omega) (by omega) (by omega), ne (2218 + g') (by omega) (by omega) (by omega) (by omega) (by omega), ne (2242 + g') (by omega) (by omega) (by omega) (by omega) (by omega)]
    exact ⟨b1, b2, b3, b4, fun t' t0 t1 => by rw [ne _ (by omega) (by omega) (by omega) (by omega) (by omega)]; exact b5 t' t0 t1⟩
  · intro g' g0 g1
    rw [ne 0 (by omega) (by omega) (by omega) (by omega) (by omega)] at g1
    rw [ne (2226 + g') (by omega) (by omega) (by omega) (by omega) (by omega), ne 4 (by omega) (by omega) (by omega) (by omega) (by omega)]
    exact h.2.2.2.2.1 g' g0 g1
  · intro g' g0 g1
    rw [ne 0 (by omega) (by omega) (by omega) (by omega) (by omega)] at g1
    rw [ne (2234 + g') (by omega) (by omega) (by omega) (by omega) (by omega), ne 1 (by omega) (by omega) (by omega) (by omega) (by omega)]
    exact h.2.2.2.2.2.1 g' g0 g1
  · intro k k0 k1
    rw [ne 3 (by omega) (by omega) (by omega) (by omega) (by omega)] at k1
    rw [ne (3770 + k) (by omega) (by omega) (by omega) (by omega) (by omega), ne 4 (by omega) (by omega) (by omega) (by omega) (by omega)]
    exact h.2.2.2.2.2.2.1 k k0 k1
  · intro g' g0 g1
    rw [ne _ (by omega) (by omega) (by omega) (by omega) (by omega)]
    exact h.2.2.2.2.2.2.2.1 g' g0 g1
  · have e2 : (S 2 < 200 ∧ msr S g p l 2 = S 2 + 1 ∧ msr S g p l (2270 + S 2) = g) ∨ (200 ≤ S 2 ∧ msr S g p l 2 = S 2) := by
      by_cases k : S 2 < 200
      · refine Or.inl ⟨k, ?_, ?_⟩
        · unfold msr
          rw [dbt_ne hp (by omega), zU_ne (by omega), zU_ne (by omega)]
          unfold rdg
          rw [if_pos k, zU_at]
        · unfold msr
          rw [dbt_ne hp (by omega), zU_ne (by omega), zU_ne (by omega)]
          unfold rdg
          rw [if_pos k, zU_ne (by omega), zU_ne (by omega), zU_ne (by omega), zU_ne (by omega), zU_ne (by omega), zU_ne (by omega), zU_at]
      · exact Or.inr ⟨by omega, msr_ne hp (by omega) (by omega) (by omega) (fun q => absurd q k)⟩
    have e3 : ∀ r : Int, 0 ≤ r → r < S 2 → msr S g p l (2270 + r) = S (2270 + r) := fun r r0 r1 => msr_ne hp (by omega) (by omega) (by omega) (fun _ => by omega)
    have e4 : ∀ k : Int, 0 ≤ k → k < 60 → msr S g p l (3470 + k) = S (3470 + k) ∧ msr S g p l (3590 + k) = S (3590 + k) ∧ msr S g p l (3650 + k) = S (3650 + k) := fun k k0 k1 => ⟨ne _ (by omega) (by omega) (by omega) (by omega) (by omega), ne _ (by omega) (by omega) (by omega) (by omega) (by omega), ne _ (by omega) (by omega) (by omega) (by omega) (by omega)⟩
    have e5 : msr S g p l 5 = S 5 := ne 5 (by omega) (by omega) (by omega) (by omega) (by omega)
    have e0 : msr S g p l 0 = S 0 := ne 0 (by omega) (by omega) (by omega) (by omega) (by omega)
    have old := h.2.2.2.2.2.2.2.2
    refine ⟨fun k k0 k1 => ?_, fun r r0 r1 => ?_⟩
    · rw [e5] at k1
      have := old.1 k k0 k1
      rw [(e4 k k0 (by omega)).2.2]
      omega
    · rw [e5, e0]
      by_cases hr2 : r < S 2
      · obtain ⟨⟨a1, a2⟩, a3⟩ := old.2 r r0 hr2
        rw [e3 r r0 hr2]
        refine ⟨⟨a1, a2⟩, fun k k0 k1 hk => ?_⟩
        obtain ⟨b1, b2⟩ := a3 k k0 k1 (fun j j0 j1 => by
          have := hk j j0 j1
          rw [(e4 j j0 (by omega)).1, (e4 j j0 (by omega)).2.2] at this
          exact this)
        refine ⟨fun k2 => ?_, fun k2 => ?_⟩
        · rw [(e4 k k0 (by omega)).1, (e4 k k0 (by omega)).2.1, (e4 k k0 (by omega)).2.2]
          exact b1 k2
        · have := b2 k2
          by_cases eg : S (2270 + r) = g
          · rw [eg, sf]; omega
          · rw [ne _ (by omega) (by omega) (by omega) (by omega) (by omega)]
            exact this
      · rcases e2 with ⟨q1, q2, q3⟩ | ⟨q1, q2⟩
        · have er : r = S 2 := by omega
          subst er
          rw [q3]
          refine ⟨hg, fun k k0 k1 hk => ⟨fun k2 _ k4 => ?_, fun _ => by rw [sf]; omega⟩⟩
          have := old.1 k k0 k2
          rw [(e4 k k0 (by omega)).2.2] at k4
          omega
        · omega
theorem lrn_ne {oE oN : Int} : ∀ (t : Nat) (z : Int) (S : Int → Int) (i : Int), 0 ≤ z → z + t ≤ 320 → (i < 890 ∨ 1530 ≤ i) → lrn oE oN t z S i = S i
  | 0, _, _, _, _, _, _ => rfl
  | t + 1, z, S, i, h0, h1, h2 => by
    unfold lrn
    rw [lrn_ne t (z + 1) _ i (by omega) (by omega) h2, zU_ne (by omega), zU_ne (by omega)]
/-- both sides answer alike and hold a new state; how many GLIDERS there are and TIME stay -/
def BiK (E : Em) (w m : Nat) (S : Int → Int) (J Jr : Jm) (C D : Option (Int × Jm)) : Prop := ∃ (r : Int) (S' : Int → Int) (J1 J2 : Jm), C = some (r, J1) ∧ D = some (r, J2) ∧ Vw E w J1 S' ∧ Rf m J2 S' ∧ Inv S' ∧ FrC E w J J1 ∧ FrM m Jr J2 ∧ J1 w = J w
/-- the end of a DIVE behind measuring, both sides -/
theorem b_tail (sp : Sp E w) (hg : 0 ≤ g ∧ g < S 0) (ha : E.2.1 (w + 13) g.toNat = some a) {J48 J47 : Jm} (hV : Vw E w J48 S) (hi : Inv S) (hR : Rf m J47 S) (hc : clS S g = c) (hcr : 0 ≤ c ∧ c < 80) (hf : 0 ≤ f ∧ f < 80) (hs : 0 ≤ s ∧ s ≤ 3) (hp : J48 (w + 32) 1 = s) (hW : Wy m J47 c) (h6 : J47 m 6 = s) (he : -4 ≤ e ∧ e ≤ 4) (hn : -4 ≤ n ∧ n ≤ 4) :
    BiK E w m S J48 J47 ((H_X7_walked (w + 1) f e n J48).bind fun zv53 => (H_X11_xOf (J48 a 1)).bind fun zv60 => (H_X11_xOf zv53).bind fun zv62 => (H_X11_yOf (J48 a 1)).bind fun zv65 => (H_X11_yOf zv53).bind fun zv67 => (H_X7_learn (w + 1) f (J48 (w + 32) 1) (wr (zv60 - zv62)) (wr (zv65 - zv67)) J48).bind fun J69 => some ((J69 a 1), J69))
      ((H_X12_learn m f e n J47).bind fun J48 => some ((wr ((wr (8 * (J48 m 4))) + (J48 m 5))), J48)) := by
  have h8 := i_gli hi
  have hwa := sp.1 _ _ ha
  have hG := gCur hV hg ha
  have ec : J48 a 1 = c := (g_cell hG).trans hc
  have hw := wlk_r (S := S) (e := e) (n := n) hf
  rw [c_wlk hV.1 hf he hn, Option.bind_some, ec, z_xOf (by omega), Option.bind_some, z_xOf (by omega), Option.bind_some, z_yOf (by omega), Option.bind_some, z_yOf (by omega), Option.bind_some, hp, wr_id (z := c / 8 - _) (by omega), wr_id (z := c % 8 - _) (by omega)]
  obtain ⟨J1, f1, f2, f3, f4⟩ := c_lrn sp hV hi hf hs (dE := c / 8 - wlk S f e n / 8) (dN := c % 8 - wlk S f e n % 8) (by omega) (by omega)
  obtain ⟨J2, g1, g2, g3, g4, g5⟩ := r_lrn hi hR hW hcr hf h6 hs he hn
  have hd := i_dep hi (z := f) hf.1 hf.2
  have hl : 0 ≤ lay S f s ∧ lay S f s ≤ 4 := by unfold lay; split <;> omega
  rw [f1, Option.bind_some, g1, Option.bind_some, g3.1, g3.2, wr_id (z := 8 * (c / 8)) (by omega), wr_id (by omega), f4 a (by omega) (by omega), ec]
  refine ⟨c, _, J1, J2, rfl, congrArg some (Prod.ext (by dsimp only; omega) rfl), f2, g2, f3, fun b hb _ => f4 b (by omega) (by omega), ⟨fun b hb => g4 b (by omega) (by omega), g5, fun h p hp => by rw [g4 (m + 8) (by omega) (by omega)]; exact h p hp⟩, f4 w (by omega) (by omega)⟩
set_option maxHeartbeats 2000000 in
theorem b_dive (sp : Sp E w) (hV : Vw E w J S) (hi : Inv S) (hR : Rf m Jr S) (hg : 0 ≤ g ∧ g < S 0) (ha : E.2.1 (w + 13) g.toNat = some a) (hu : S (2202 + g) = 0) (hd : 0 ≤ d ∧ d ≤ 3) (hpw : zck (S (2170 + g)) (S (2210 + g)) d ≤ S (2194 + g)) (he : -4 ≤ e ∧ e ≤ 4) (hn : -4 ≤ n ∧ n ≤ 4) : BiK E w m S J Jr (H_X10_descend E w a d e n J) (H_X12_dives m g d e n Jr) := by
  have h8 := i_gli hi
  have hwa := sp.1 _ _ ha
  have hG := gCur hV hg ha
  have hk := i_kind hi (z := g) hg.1 (by omega)
  have hl := i_lea hi (z := g) hg.1 (by omega)
  have hpo := i_pow hi (z := g) hg.1 (by omega)
  have hfo := i_fou hi (z := g) hg.1 (by omega)
  have hx := i_x hi (z := g) hg.1 (by omega)
  have hy := i_y hi (z := g) hg.1 (by omega)
  have hpf := hi.2.2.1 g hg.1 (by omega)
  have hck := zck_r (k := S (2170 + g)) (l := S (2210 + g)) hd
  have hc0 := clS_r hi (g := g) (by omega)
  have hwat := hi.2.1 g hg.1 hg.2 hu
  unfold H_X10_descend H_X12_dives
  rw [c_cost hk hl hd (g_kind hG) (g_lea hG), Option.bind_some]
  simp only [nv]
  generalize hco : zck (S (2170 + g)) (S (2210 + g)) d = co at hpw hck ⊢
  rw [g_pow hG, wr_id (z := S (2194 + g) - co) (by omega), jW_of (by decide), g_div hG, show J a 1 = clS S g from g_cell hG]
  -- power, dives
  have v1 := vwG hV sp hi.1 hg ha (J2 := jW J a 2 (S (2194 + g) - co)) (fun c h1 _ => jW_ne h1) (gpl (v := S (2194 + g) - co) 2194 (by omega)) (gW_pow (by omega) hG)
  have i1 : Inv (zU S (2194 + g) (S (2194 + g) - co)) := inv_pow hi (by omega) (by omega) (ir_at hi.1 (z := g) (r := (2194, 8, 0, 999)) (by decide) (by omega) (by dsimp only; omega) (by dsimp only; omega))
  have hg1 : 0 ≤ g ∧ g < zU S (2194 + g) (S (2194 + g) - co) 0 := by rw [zU_ne (by omega)]; exact hg
  have hG1 := gCur v1 hg1 ha
  have v2 := vwG v1 sp i1.1 hg1 ha (J2 := jW (jW J a 2 (S (2194 + g) - co)) a 8 (wr (S (2242 + g) + 1))) (fun c h1 _ => jW_ne h1) (gpl (v := wr (S (2242 + g) + 1)) 2242 (by omega)) (gW_div (by omega) hG1)
  have i2 : Inv (zU (zU S (2194 + g) (S (2194 + g) - co)) (2242 + g) (wr (S (2242 + g) + 1))) := inv_free i1 (by unfold zFree; rw [zU_ne (by omega)]; omega) (ir_no2 i1.1 (lo := 2242) (hi := 2250) (by omega) (by decide +kernel))
  have r1 := rW (v := S (2194 + g) - co) hR (z := 2194 + g) (by omega)
  have r2 := rW (v := wr (S (2242 + g) + 1)) r1 (z := 2242 + g) (by omega)
  generalize hS2 : zU (zU S (2194 + g) (S (2194 + g) - co)) (2242 + g) (wr (S (2242 + g) + 1)) = S2 at v2 i2 r2
  have n2 : ∀ z : Int, z ≠ 2194 + g → z ≠ 2242 + g → S2 z = S z := fun z q1 q2 => by rw [← hS2, zU_ne q2, zU_ne q1]
  have n2p : S2 (2194 + g) = S (2194 + g) - co := by rw [← hS2, zU_ne (by omega), zU_at]
  -- the reference up to its sinking
  rw [wr_id (z := 2178 + g) (by omega), wr_id (z := 2186 + g) (by omega), wr_id (z := 2194 + g) (by omega), wr_id (z := 2242 + g) (by omega), wr_id (z := 2202 + g) (by omega), rL hR (by omega) (by omega), Option.bind_some, rL hR (by omega) (by omega), Option.bind_some, rL hR (by omega) (by omega), Option.bind_some, r_cost hR (by omega) hd, Option.bind_some, hco, wr_id (z := S (2194 + g) - co) (by omega), zS (by omega) (by omega), Option.bind_some, rL r1 (by omega) (by omega), Option.bind_some, zU_ne (by omega), zS (by omega) (by omega), Option.bind_some, rL r2 (by omega) (by omega), Option.bind_some, rL (rN r2 (by omega)) (by omega) (by omega), Option.bind_some, n2 (2178 + g) (by omega) (by omega), n2 (2186 + g) (by omega) (by omega)]
  have e8 : wr (wr (8 * S (2178 + g)) + S (2186 + g)) = clS S g := by unfold clS; rw [wr_id (z := 8 * S (2178 + g)) (by omega), wr_id (by omega)]
  rw [e8]
  generalize hQ : jW (jW (jW (jW Jr (m + 1) (2194 + g).toNat (S (2194 + g) - co)) (m + 1) (2242 + g).toNat (wr (S (2242 + g) + 1))) m 4 (S (2178 + g))) m 5 (S (2186 + g)) = Q
  have hRQ : Rf m Q S2 := by rw [← hQ]; exact rN (rN r2 (by omega)) (by omega)
  have hWQ : Wy m Q (clS S g) := by rw [← hQ]; exact ⟨by rw [jW_of (by decide), jW_at]; unfold clS; omega, by rw [jW_at]; unfold clS; omega⟩
  have hFQ : FrM m Jr Q := by rw [← hQ]; exact FrM.mw (FrM.mw (FrM.mw (FrM.mw FrM.r (by omega)) (by omega)) (by omega)) (by omega)
  obtain ⟨Q1, q1, ⟨q2, q3, q4⟩, q5⟩ := r_snk i2 hRQ hWQ 0 (Or.inl rfl) hd hc0
  rw [q1, Option.bind_some]
  -- the class's sinking
  obtain ⟨J17, k1, ⟨k2, k3, k4⟩, k5⟩ := c_snk i2 v2.1 (c := clS S g) (d := d) 0 (w + 1 + 6) 1 (Or.inl ⟨rfl, rfl, rfl⟩) hd hc0
  rw [k1, Option.bind_some]
  have v3 : Vw E w J17 S2 := vwE v2 (fun b _ h => k5 b (by omega)) (fun j b h => by have := sp.1 _ _ h; exact ⟨k5 _ (by omega), k5 _ (by omega)⟩) (fun j b h i hi => by have := sp.2.2.1 _ _ h; exact k5 _ (by omega))
  obtain ⟨⟨t1, t2⟩, t3, t4⟩ := snk_r (S := S2) (mp := 0) (d := d) 5 (l := 0) (c := clS S g) (s := 0) hc0 (by omega)
  have t5 : 0 < S2 (10 + (snk S2 0 d 5 0 (clS S g) 0).1) := snk_w 5 (by rw [n2 _ (by omega) (by omega)]; exact hwat)
  generalize snk S2 0 d 5 0 (clS S g) 0 = K at q2 q3 q4 k2 k3 k4 t1 t2 t3 t4 t5
  obtain ⟨c1, s, lo⟩ := K
  dsimp only at q2 q3 q4 k2 k3 k4 t1 t2 t3 t4 t5
  rw [k2, jW_ne (b := w + 32) (by omega), k4]
  have hg2 : 0 ≤ g ∧ g < S2 0 := by rw [n2 _ (by omega) (by omega)]; exact hg
  have gxy : ∀ (T : Int → Int) (c : Int) (z : Int), ¬ gPl g z → zxy T g c z = T z := fun T c z hz => by
    unfold gPl at hz
    unfold zxy
    rw [zU_ne (by omega), zU_ne (by omega)]
  have v4 : Vw E w (jW J17 a 1 c1) (zxy S2 g c1) := vwG v3 sp i2.1 hg2 ha (fun c h1 _ => jW_ne h1) (gxy S2 c1) (gW_cell (by omega) (gCur v3 hg2 ha) (by omega))
  have i4 : Inv (zxy S2 g c1) := inv_xy i2 hg2 ⟨t1, t2⟩ t5
  have hFC : FrC E w J (jW J17 a 1 c1) := fun b hb hgb => by
    have := hgb _ _ ha
    rw [jW_ne (by omega), k5 b (by omega), jW_ne (by omega), jW_ne (by omega)]
  have hKC : jW J17 a 1 c1 w = J w := by rw [jW_ne (by omega), k5 w (by omega), jW_ne (by omega), jW_ne (by omega)]
  simp only [jp]
  rw [q4]
  have hg4 : 0 ≤ g ∧ g < zxy S2 g c1 0 := by rw [gxy S2 c1 0 (by unfold gPl; omega)]; exact hg2
  rcases t4 with hlo | hlo
  · -- not lost
    rw [hlo, if_pos rfl, if_pos rfl]
    have hpath : jW J17 a 1 c1 (w + 32) = J17 (w + 32) := jW_ne (by omega)
    rw [k2]
    have wE : ∀ T : Int → Int, (∀ z : Int, 10 ≤ z → z < 90 → T z = S2 z) → ∀ (c e n : Int), 0 ≤ c → c < 80 → wlk T c e n = wlk S2 c e n := fun T hT c e n h0 h1 => wlk_E hT ⟨h0, h1⟩
    rw [c_wlk v4.1 ⟨t1, t2⟩ he hn, Option.bind_some, wE _ (fun z h0 h1 => gxy S2 c1 z (by unfold gPl; omega)) c1 e n t1 t2]
    have hc2 := wlk_r (S := S2) (e := e) (n := n) ⟨t1, t2⟩
    have hw2 := wlk_w (S := S2) (e := e) (n := n) t5
    have hRQ1 : Rf m Q1 S2 := q5.R hRQ
    obtain ⟨Q2, s1, s2, s3⟩ := r_wlk hRQ1 q2 ⟨t1, t2⟩ he hn
    rw [s1, Option.bind_some]
    generalize wlk S2 c1 e n = c2 at hc2 hw2 s2 ⊢
    have v5 : Vw E w (jW (jW J17 a 1 c1) a 1 c2) (zxy S2 g c2) := by
      have := vwG v4 sp i4.1 hg4 ha (J2 := jW (jW J17 a 1 c1) a 1 c2) (fun c h1 _ => jW_ne h1) (gxy _ c2) (gW_cell (X := c2 / 8) (Y := c2 % 8) (by omega) (gCur v4 hg4 ha) (by omega))
      exact (show zU (zU (zxy S2 g c1) (2178 + g) (c2 / 8)) (2186 + g) (c2 % 8) = zxy S2 g c2 from zxy_s) ▸ this
    have i5 : Inv (zxy S2 g c2) := inv_xy i2 hg2 hc2 hw2
    have hg5 : 0 ≤ g ∧ g < zxy S2 g c2 0 := by rw [gxy S2 c2 0 (by unfold gPl; omega)]; exact hg2
    have x1 : ∀ z : Int, z ≠ 2178 + g → z ≠ 2186 + g → zxy S2 g c2 z = S2 z := fun z h1 h2 => by unfold zxy; rw [zU_ne h2, zU_ne h1]
    have ecl : clS (zxy S2 g c2) g = c2 := by
      have y1 : zxy S2 g c2 (2178 + g) = c2 / 8 := by unfold zxy; rw [zU_ne (by omega), zU_at]
      have y2 : zxy S2 g c2 (2186 + g) = c2 % 8 := by unfold zxy; rw [zU_at]
      unfold clS
      rw [y1, y2]; omega
    have hp5 : jW (jW J17 a 1 c1) a 1 c2 (w + 32) 1 = s := by rw [jW_ne (by omega), hpath]; exact k3
    rw [hp5]
    obtain ⟨l, hl'⟩ : ∃ l : Int, l = if s < S2 (10 + c2) then s else S2 (10 + c2) - 1 := ⟨_, rfl⟩
    have hd2 := i_dep i2 (z := c2) hc2.1 hc2.2
    have hl3 : 0 ≤ l ∧ l ≤ 3 := by rw [hl']; split <;> omega
    obtain ⟨J39, m1, m2, m3, m4, m5, m6⟩ := c_msr (s := s) (l := l) sp v5 i5.1 hg5 ha ecl (by rw [x1 _ (by omega) (by omega)]; exact hw2) t3 (by rw [x1 _ (by omega) (by omega)]; exact hl') (by rw [x1 _ (by omega) (by omega), n2 _ (by omega) (by omega)]; omega)
    rw [m1, Option.bind_some]
    have hQ2R : Rf m Q2 S2 := s3.R hRQ1
    obtain ⟨Q3, u1, u2, u3⟩ := r_msr (g := g) (s := s) (l := l) hQ2R i2.1 (by omega) hc2 s2 ((s3.2 6 (by omega)).trans q3) hw2 t3 hl' (by rw [n2 _ (by omega) (by omega)]; omega)
    rw [u1, Option.bind_some]
    have em : msr (zxy S2 g c2) g c2 l = zxy (msr S2 g c2 l) g c2 := by
      have h2 := i_rea i2
      unfold zxy
      rw [msr_c (by omega) hc2 hl3 (by rw [zU_ne (by omega)]; omega) (by omega), msr_c (by omega) hc2 hl3 (by omega) (by omega)]
    have w4 : Q3 m 4 = c2 / 8 := by rw [u3 m (by omega)]; exact s2.1
    have w5 : Q3 m 5 = c2 % 8 := by rw [u3 m (by omega)]; exact s2.2
    have w6 : Q3 m 6 = s := by rw [u3 m (by omega)]; exact (s3.2 6 (by omega)).trans q3
    have w7 : Q3 m 7 = 0 := by rw [u3 m (by omega)]; exact ((s3.2 7 (by omega)).trans q4).trans hlo
    rw [w4, zS (by omega) (by omega), Option.bind_some, jW_ne (b := m) (by omega), w5, zS (by omega) (by omega), Option.bind_some, jW_ne (b := m) (by omega), jW_ne (b := m) (by omega), w7, if_pos rfl, w4, w5]
    have i6 : Inv (msr (zxy S2 g c2) g c2 l) := inv_msr i5 hg5 hc2 m3 (by rw [x1 _ (by omega) (by omega), x1 _ (by omega) (by omega), n2p, n2 _ (by omega) (by omega)]; omega)
    have hR6 : Rf m (jW (jW Q3 (m + 1) (2178 + g).toNat (c2 / 8)) (m + 1) (2186 + g).toNat (c2 % 8)) (msr (zxy S2 g c2) g c2 l) := by
      rw [em]
      exact rW (rW u2 (by omega)) (by omega)
    have hF6 : FrM m Jr (jW (jW Q3 (m + 1) (2178 + g).toNat (c2 / 8)) (m + 1) (2186 + g).toNat (c2 % 8)) := by
      refine FrM.mw (FrM.mw ((hFQ.t (q5.mm (by omega))).t ((s3.mm (by omega)).t ⟨fun b hb => u3 b (by omega), by rw [u3 m (by omega)], fun h p hp => by rw [u3 (m + 8) (by omega)]; exact h p hp⟩)) (by omega)) (by omega)
    have hU0 : ∀ z : Int, (z < 170 ∨ 250 ≤ z) → z ≠ 2250 + g → z ≠ 2218 + g → z ≠ 2 → (z < 2270 ∨ 3470 ≤ z) → msr (zxy S2 g c2) g c2 l z = zxy S2 g c2 z := fun z a1 a2 a3 a4 a5 => msr_ne hc2 a1 a2 a3 (fun _ => by have := i_rea i5; omega)
    have hg6 : 0 ≤ g ∧ g < msr (zxy S2 g c2) g c2 l 0 := by rw [hU0 0 (by omega) (by omega) (by omega) (by omega) (by omega)]; exact hg5
    have ecl6 : clS (msr (zxy S2 g c2) g c2 l) g = c2 := by
      unfold clS at ecl ⊢
      rw [hU0 _ (by omega) (by omega) (by omega) (by omega) (by omega), hU0 _ (by omega) (by omega) (by omega) (by omega) (by omega)]
      exact ecl
    have hG6 := gCur m2 hg6 ha
    have elan : wr (wr (90 + wr (8 * (c2 / 8))) + c2 % 8) = 90 + c2 := by rw [wr_id (z := 8 * (c2 / 8)) (by omega), wr_id (z := 90 + _) (by omega), wr_id (by omega)]; omega
    have e39 : J39 a 1 = c2 := (g_cell hG6).trans ecl6
    have p39 : J39 (w + 32) 1 = s := by rw [m5]; exact hp5
    have f39 : FrC E w J J39 := (hFC.cg ha (Or.inl rfl)).t m4
    have k39 : J39 w = J w := by rw [m6, jW_ne (by omega)]; exact hKC
    generalize hU : msr (zxy S2 g c2) g c2 l = U at m2 m3 i6 hR6 hg6 ecl6 hG6
    rw [e39, vL_lan m2.1 hc2.1 hc2.2, Option.bind_some, elan, rL hR6 (by omega) (by omega), Option.bind_some]
    generalize hQ6 : jW (jW Q3 (m + 1) (2178 + g).toNat (c2 / 8)) (m + 1) (2186 + g).toNat (c2 % 8) = Q6 at hR6 hF6
    have z4 : Wy m Q6 c2 := by rw [← hQ6]; exact ⟨by rw [jW_ne (by omega), jW_ne (by omega)]; exact w4, by rw [jW_ne (by omega), jW_ne (by omega)]; exact w5⟩
    have z6 : Q6 m 6 = s := by rw [← hQ6, jW_ne (by omega), jW_ne (by omega)]; exact w6
    have fin : ∀ (V : Int → Int) (J48 J47 : Jm) (C D : Option (Int × Jm)), FrC E w J J48 → FrM m Jr J47 → J48 w = J w → BiK E w m V J48 J47 C D → BiK E w m S J Jr C D := by
      rintro V J48 J47 C D h1 h2 h3 ⟨r, S', K1, K2, b1, b2, b3, b4, b5, b6, b7, b8⟩
      exact ⟨r, S', K1, K2, b1, b2, b3, b4, b5, h1.t b6, h2.t b7, b8.trans h3⟩
    by_cases hlane : U (90 + c2) = 1
    · rw [if_pos hlane, if_pos hlane, g_pow hG6, rL hR6 (by omega) (by omega), Option.bind_some]
      have hp6 := i_pow i6 (z := g) hg6.1 (by omega)
      have hpf6 := i6.2.2.1 g hg6.1 (by omega)
      have ev : mxZ 0 (wr (U (2194 + g) - 5)) = if U (2194 + g) ≤ 5 then 0 else U (2194 + g) - 5 := by
        rw [wr_id (by omega)]; unfold mxZ; split <;> split <;> omega
      have hv : 0 ≤ (if U (2194 + g) ≤ 5 then 0 else U (2194 + g) - 5) ∧ (if U (2194 + g) ≤ 5 then 0 else U (2194 + g) - 5) ≤ U (2194 + g) := by split <;> omega
      rw [ev]
      have hv7 : ∀ v : Int, 0 ≤ v → v ≤ U (2194 + g) → BiK E w m S J Jr ((H_X7_walked (w + 1) (clS S g) e n (jW J39 a 2 v)).bind fun zv53 => (H_X11_xOf (jW J39 a 2 v a 1)).bind fun zv60 => (H_X11_xOf zv53).bind fun zv62 => (H_X11_yOf (jW J39 a 2 v a 1)).bind fun zv65 => (H_X11_yOf zv53).bind fun zv67 => (H_X7_learn (w + 1) (clS S g) (jW J39 a 2 v (w + 32) 1) (wr (zv60 - zv62)) (wr (zv65 - zv67)) (jW J39 a 2 v)).bind fun J69 => some ((J69 a 1), J69))
          ((H_X12_learn m (clS S g) e n (jW Q6 (m + 1) (2194 + g).toNat v)).bind fun J48 => some ((wr ((wr (8 * (J48 m 4))) + (J48 m 5))), J48)) := by
        intro v y0 y1
        have v7 := vwG m2 sp i6.1 hg6 ha (J2 := jW J39 a 2 v) (fun c h1 _ => jW_ne h1) (gpl (v := v) 2194 (by omega)) (gW_pow (by omega) hG6)
        have i7 : Inv (zU U (2194 + g) v) := inv_pow i6 (by omega) (by omega) (ir_at i6.1 (z := g) (r := (2194, 8, 0, 999)) (by decide) (by omega) (by dsimp only; omega) (by dsimp only; omega))
        refine fin (zU U (2194 + g) v) (jW J39 a 2 v) (jW Q6 (m + 1) (2194 + g).toNat v) _ _ (f39.cg ha (Or.inl rfl)) (hF6.mw (by omega)) (by rw [jW_ne (by omega)]; exact k39) (b_tail (c := c2) (s := s) sp (by rw [zU_ne (by omega)]; exact hg6) ha v7 i7 (rW hR6 (by omega)) ?_ hc2 hc0 t3 (by rw [jW_ne (by omega)]; exact p39) ⟨by rw [jW_ne (by omega)]; exact z4.1, by rw [jW_ne (by omega)]; exact z4.2⟩ (by rw [jW_ne (by omega)]; exact z6) he hn)
        unfold clS at ecl6 ⊢
        rw [zU_ne (by omega), zU_ne (by omega)]; exact ecl6
      by_cases h5 : U (2194 + g) ≤ 5
      · rw [if_pos h5, if_pos h5, zS (by omega) (by omega), Option.bind_some]
        exact hv7 0 (by omega) (by omega)
      · rw [if_neg h5, if_neg h5, Option.bind_some, wr_id (z := U (2194 + g) - 5) (by omega), zS (by omega) (by omega), Option.bind_some]
        exact hv7 (U (2194 + g) - 5) (by omega) (by omega)
    · rw [if_neg hlane, if_neg hlane]
      have this := fin U J39 Q6 _ _ f39 hF6 k39 (b_tail (c := c2) (s := s) sp hg6 ha m2 i6 hR6 ecl6 hc2 hc0 t3 p39 z4 z6 he hn)
      rw [e39] at this
      exact this
  · -- lost
    rw [hlo, if_neg (show ¬ (1 : Int) = 0 by decide), if_neg (show ¬ (1 : Int) = 0 by decide)]
    have v6 := vwG v4 sp i4.1 hg4 ha (J2 := jW (jW J17 a 1 c1) a 3 2) (fun c h1 _ => jW_ne h1) (gpl (v := 2) 2202 (by omega)) (gW_sta (by omega) (gCur v4 hg4 ha))
    have i6 : Inv (zU (zxy S2 g c1) (2202 + g) 2) := inv_sta i4 hg4 (by decide) (ir_at i4.1 (r := (2202, 8, 0, 2)) (by decide) (by omega) (by dsimp only; omega) (by dsimp only; omega))
    have hRQ1 : Rf m Q1 S2 := q5.R hRQ
    rw [q2.1, zS (by omega) (by omega), Option.bind_some, jW_ne (b := m) (by omega), q2.2, zS (by omega) (by omega), Option.bind_some, jW_ne (b := m) (by omega), jW_ne (b := m) (by omega), q4, hlo, if_neg (show ¬ (1 : Int) = 0 by decide), zS (by omega) (by omega), Option.bind_some]
    exact ⟨-5, _, _, _, rfl, rfl, v6, rW (rW (rW hRQ1 (by omega)) (by omega)) (by omega), i6, hFC.cg ha (Or.inl rfl), FrM.mw (FrM.mw (FrM.mw (hFQ.t (q5.mm (by omega))) (by omega)) (by omega)) (by omega), by rw [jW_ne (by omega)]; exact hKC⟩
end DIVE
