/-! WAYS: a STEP, STEPS, sinking -/
def stp (S : Int → Int) (c e n : Int) : Int := if 0 ≤ c / 8 + e ∧ c / 8 + e < 10 ∧ 0 ≤ c % 8 + n ∧ c % 8 + n < 8 ∧ 0 < S (10 + (8 * (c / 8 + e) + (c % 8 + n))) then 8 * (c / 8 + e) + (c % 8 + n) else c
def itE (S : Int → Int) (s : Int) : Nat → Int → Int
  | 0, c => c
  | k + 1, c => itE S s k (stp S c s 0)
def itN (S : Int → Int) (s : Int) : Nat → Int → Int
  | 0, c => c
  | k + 1, c => itN S s k (stp S c 0 s)
def sgz (e : Int) : Int := if 0 ≤ e then 1 else -1
def abz (e : Int) : Int := if 0 ≤ e then e else -e
def wlk (S : Int → Int) (c e n : Int) : Int := itN S (sgz n) (abz n).toNat (itE S (sgz e) (abz e).toNat c)
def nxc (S : Int → Int) (mp c l : Int) : Int := wlk S c (S ((if mp = 0 then 250 else 890) + (4 * c + l))) (S ((if mp = 0 then 570 else 1210) + (4 * c + l)))
def snk (S : Int → Int) (mp d : Int) : Nat → Int → Int → Int → Int × Int × Int
  | 0, _, c, s => (c, s, 0)
  | k + 1, l, c, s =>
    if d < l then (c, s, 0)
    else if S (10 + c) ≤ l then (c, s, 0)
    else if mp = 0 ∧ S (1850 + (4 * nxc S mp c l + l)) = 1 ∧ l < S (10 + nxc S mp c l) then (nxc S mp c l, l, 1)
    else snk S mp d k (l + 1) (nxc S mp c l) l
theorem sgz_r (e : Int) : -1 ≤ sgz e ∧ sgz e ≤ 1 := by unfold sgz; split <;> omega
theorem stp_r {S : Int → Int} {c e n : Int} (hc : 0 ≤ c ∧ c < 80) : 0 ≤ stp S c e n ∧ stp S c e n < 80 := by
  unfold stp
  split
  · omega
  · exact hc
theorem stp_w {S : Int → Int} {c e n : Int} (hw : 0 < S (10 + c)) : 0 < S (10 + stp S c e n) := by
  unfold stp
  split
  · rename_i h; exact h.2.2.2.2
  · exact hw
theorem itE_r {S : Int → Int} {s : Int} : ∀ (k : Nat) {c : Int}, (0 ≤ c ∧ c < 80) → 0 ≤ itE S s k c ∧ itE S s k c < 80
  | 0, _, hc => hc
  | k + 1, _, hc => itE_r k (stp_r hc)
theorem itN_r {S : Int → Int} {s : Int} : ∀ (k : Nat) {c : Int}, (0 ≤ c ∧ c < 80) → 0 ≤ itN S s k c ∧ itN S s k c < 80
  | 0, _, hc => hc
  | k + 1, _, hc => itN_r k (stp_r hc)
theorem itE_w {S : Int → Int} {s : Int} : ∀ (k : Nat) {c : Int}, 0 < S (10 + c) → 0 < S (10 + itE S s k c)
  | 0, _, hc => hc
  | k + 1, _, hc => itE_w k (stp_w hc)
theorem itN_w {S : Int → Int} {s : Int} : ∀ (k : Nat) {c : Int}, 0 < S (10 + c) → 0 < S (10 + itN S s k c)
  | 0, _, hc => hc
  | k + 1, _, hc => itN_w k (stp_w hc)
theorem wlk_r {S : Int → Int} {c e n : Int} (hc : 0 ≤ c ∧ c < 80) : 0 ≤ wlk S c e n ∧ wlk S c e n < 80 := itN_r _ (itE_r _ hc)
theorem wlk_w {S : Int → Int} {c e n : Int} (hc : 0 < S (10 + c)) : 0 < S (10 + wlk S c e n) := itN_w _ (itE_w _ hc)
theorem nxc_r {S : Int → Int} {mp c l : Int} (hc : 0 ≤ c ∧ c < 80) : 0 ≤ nxc S mp c l ∧ nxc S mp c l < 80 := wlk_r hc
theorem nxc_w {S : Int → Int} {mp c l : Int} (hc : 0 < S (10 + c)) : 0 < S (10 + nxc S mp c l) := wlk_w hc
theorem snk_r {S : Int → Int} {mp d : Int} : ∀ (k : Nat) {l c s : Int}, (0 ≤ c ∧ c < 80) → (0 ≤ l ∧ 0 ≤ s ∧ s ≤ 3 ∧ d ≤ 3) → (0 ≤ (snk S mp d k l c s).1 ∧ (snk S mp d k l c s).1 < 80) ∧ (0 ≤ (snk S mp d k l c s).2.1 ∧ (snk S mp d k l c s).2.1 ≤ 3) ∧ ((snk S mp d k l c s).2.2 = 0 ∨ (snk S mp d k l c s).2.2 = 1)
  | 0, l, c, s, hc, hs => by
    unfold snk
    exact ⟨hc, ⟨hs.2.1, hs.2.2.1⟩, Or.inl rfl⟩
  | k + 1, l, c, s, hc, hs => by
    unfold snk
    split
    · exact ⟨hc, ⟨hs.2.1, hs.2.2.1⟩, Or.inl rfl⟩
    · split
      · exact ⟨hc, ⟨hs.2.1, hs.2.2.1⟩, Or.inl rfl⟩
      · split
        · exact ⟨nxc_r hc, by dsimp only; omega, Or.inr rfl⟩
        · exact snk_r k (nxc_r hc) (by omega)
theorem snk_w {S : Int → Int} {mp d : Int} : ∀ (k : Nat) {l c s : Int}, 0 < S (10 + c) → 0 < S (10 + (snk S mp d k l c s).1)
  | 0, l, c, s, hc => by unfold snk; exact hc
  | k + 1, l, c, s, hc => by
    unfold snk
    split
    · exact hc
    · split
      · exact hc
      · split
        · exact nxc_w hc
        · exact snk_w k (nxc_w hc)
section WAYC
variable {E : Em} {x w m a : Nat} {J Jr : Jm} {S : Int → Int} {c e n d l : Int}
theorem c_stp (hs : Vs w J S) (hc : 0 ≤ c ∧ c < 80) (he : -9 ≤ e ∧ e ≤ 9) (hn : -9 ≤ n ∧ n ≤ 9) : H_X7_stepped (w + 1) c e n J = some (stp S c e n) := by
  unfold H_X7_stepped stp
  rw [z_xOf (by omega), z_yOf (by omega)]
  simp only [Option.bind_some]
  rw [wr_id (z := c / 8 + e) (by omega), wr_id (z := c % 8 + n) (by omega), z_isCell]
  simp only [Option.bind_some, z01]
  by_cases h : 0 ≤ c / 8 + e ∧ c / 8 + e < 10 ∧ 0 ≤ c % 8 + n ∧ c % 8 + n < 8
  · rw [if_pos h, z_cellOf (by omega)]
    simp only [Option.bind_some]
    rw [vL_dep hs (by omega) (by omega)]
    simp only [Option.bind_some]
    by_cases h2 : S (10 + (8 * (c / 8 + e) + (c % 8 + n))) ≤ 0
    · rw [if_pos h2, if_neg (by omega)]
    · rw [if_neg h2, if_pos (by omega)]
  · rw [if_neg h, if_neg (by omega)]
theorem c_w6 (hs : Vs w J S) (k : Int → Option Int) (he : -4 ≤ e ∧ e ≤ 4) : ∀ (t fu : Nat) (i c : Int), (abz e).toNat = i.toNat + t → 0 ≤ i → (0 ≤ c ∧ c < 80) → t < fu → H_X7_walked_L6 k (w + 1) e n J fu c i = k (itE S (sgz e) t c) := by
  have ha : abZ e = abz e := z_abs (by omega)
  have hab : 0 ≤ abz e ∧ abz e ≤ 4 := by unfold abz; split <;> omega
  intro t
  induction t with
  | zero =>
    intro fu i c h1 h2 hc h3
    obtain ⟨fu, rfl⟩ := nx h3
    rw [H_X7_walked_L6, ha, if_pos (by omega)]
    rfl
  | succ t ih =>
    intro fu i c h1 h2 hc h3
    obtain ⟨fu, rfl⟩ := nx h3
    rw [H_X7_walked_L6, ha, if_neg (by omega)]
    simp only [nv]
    have hz := sgz_r e
    rw [show (if 0 ≤ e then (1 : Int) else -1) = sgz e from rfl, c_stp hs hc (by omega) (by omega), Option.bind_some, wr_id (by omega), ih fu (i + 1) _ (by omega) (by omega) (stp_r hc) (by omega)]
    rfl
theorem c_w42 (hs : Vs w J S) (he : -4 ≤ n ∧ n ≤ 4) : ∀ (t fu : Nat) (i c : Int), (abz n).toNat = i.toNat + t → 0 ≤ i → (0 ≤ c ∧ c < 80) → t < fu → H_X7_walked_L42 (w + 1) n J fu c i = some (itN S (sgz n) t c) := by
  have ha : abZ n = abz n := z_abs (by omega)
  have hab : 0 ≤ abz n ∧ abz n ≤ 4 := by unfold abz; split <;> omega
  intro t
  induction t with
  | zero =>
    intro fu i c h1 h2 hc h3
    obtain ⟨fu, rfl⟩ := nx h3
    rw [H_X7_walked_L42, ha, if_pos (by omega)]
    rfl
  | succ t ih =>
    intro fu i c h1 h2 hc h3
    obtain ⟨fu, rfl⟩ := nx h3
    rw [H_X7_walked_L42, ha, if_neg (by omega)]
    simp only [nv]
    have hz := sgz_r n
    rw [show (if 0 ≤ n then (1 : Int) else -1) = sgz n from rfl, c_stp hs hc (by omega) (by omega), Option.bind_some, wr_id (by omega), ih fu (i + 1) _ (by omega) (by omega) (stp_r hc) (by omega)]
    rfl
theorem c_wlk (hs : Vs w J S) (hc : 0 ≤ c ∧ c < 80) (he : -4 ≤ e ∧ e ≤ 4) (hn : -4 ≤ n ∧ n ≤ 4) : H_X7_walked (w + 1) c e n J = some (wlk S c e n) := by
  have h1 : 0 ≤ abz e ∧ abz e ≤ 4 := by unfold abz; split <;> omega
  have h2 : 0 ≤ abz n ∧ abz n ≤ 4 := by unfold abz; split <;> omega
  unfold H_X7_walked
  rw [c_w6 hs _ he (abz e).toNat 1000000 0 c (by omega) (by omega) hc (by omega)]
  exact c_w42 hs hn (abz n).toNat 1000000 0 _ (by omega) (by omega) (itE_r _ hc) (by omega)
theorem c_has (hs : Vs w J S) (hc : 0 ≤ c ∧ c < 80) : H_X7_has (w + 1) c l J = some (if S (10 + c) ≤ l then 0 else 1) := by
  unfold H_X7_has
  rw [vL_dep hs hc.1 hc.2, Option.bind_some]
  split <;> rfl
/-- what sinking leaves in the class's path -/
def Pth (w : Nat) (J : Jm) (r : Int × Int × Int) : Prop := J (w + 32) 0 = r.1 ∧ J (w + 32) 1 = r.2.1 ∧ J (w + 32) 2 = r.2.2
theorem c_snkL (hi : Inv S) (mp : Int) (p2 : Nat) (z5 : Int) (hp : mp = 0 ∧ p2 = w + 1 + 6 ∧ z5 = 1 ∨ mp = 1 ∧ p2 = w + 1 + 9 ∧ z5 = 0) (hd : 0 ≤ d ∧ d ≤ 3) : ∀ (k fu : Nat) (l c s : Int) (J : Jm), Vs w J S → Pth w J (c, s, 0) → (0 ≤ l ∧ l ≤ 4) → (0 ≤ c ∧ c < 80) → 5 = l + k → k < fu → ∃ J2, H_X4_sink_L18 (w + 32) (w + 1) p2 d z5 fu l J = some J2 ∧ Pth w J2 (snk S mp d k l c s) ∧ ∀ b, b ≠ w + 32 → J2 b = J b := by
  intro k
  induction k with
  | zero => intro fu l c s J hs hP hl hc h1 h2; omega
  | succ k ih =>
    intro fu l c s J hs hP hl hc h1 h2
    obtain ⟨fu, rfl⟩ := nx h2
    obtain ⟨p0, p1, p2'⟩ := hP
    dsimp only at p0 p1 p2'
    rw [H_X4_sink_L18]
    by_cases q1 : d < l
    · rw [if_pos q1]
      refine ⟨J, rfl, ?_, fun _ _ => rfl⟩
      unfold snk
      rw [if_pos q1]
      exact ⟨p0, p1, p2'⟩
    · rw [if_neg q1, p2', if_pos rfl, p0, c_has hs hc, Option.bind_some, z10]
      by_cases q2 : S (10 + c) ≤ l
      · rw [if_pos q2]
        refine ⟨J, rfl, ?_, fun _ _ => rfl⟩
        unfold snk
        rw [if_neg q1, if_pos q2]
        exact ⟨p0, p1, p2'⟩
      · rw [if_neg q2]
        simp only [nv]
        have e0 : jW J (w + 32) 1 l (w + 32) 0 = c := by rw [jW_of (by decide)]; exact p0
        have hs1 : Vs w (jW J (w + 32) 1 l) S := vN hs (by omega)
        rw [e0, z_placeOf (by omega), Option.bind_some]
        have hE : jL (jW J (w + 32) 1 l) (p2 + 1) 320 (4 * c + l) = some (S ((if mp = 0 then 250 else 890) + (4 * c + l))) := by
          rcases hp with ⟨a1, a2, a3⟩ | ⟨a1, a2, a3⟩
          · subst a2; rw [if_pos a1]; exact vL_eas hs1 (by omega) (by omega)
          · subst a2; rw [if_neg (by omega)]; exact vL_mea hs1 (by omega) (by omega)
        have hN : jL (jW J (w + 32) 1 l) (p2 + 2) 320 (4 * c + l) = some (S ((if mp = 0 then 570 else 1210) + (4 * c + l))) := by
          rcases hp with ⟨a1, a2, a3⟩ | ⟨a1, a2, a3⟩
          · subst a2; rw [if_pos a1]; exact vL_nor hs1 (by omega) (by omega)
          · subst a2; rw [if_neg (by omega)]; exact vL_mno hs1 (by omega) (by omega)
        have bE : -2 ≤ S ((if mp = 0 then 250 else 890) + (4 * c + l)) ∧ S ((if mp = 0 then 250 else 890) + (4 * c + l)) ≤ 2 := by
          split
          · exact i_eas hi (by omega) (by omega)
          · exact i_mea hi (by omega) (by omega)
        have bN : -2 ≤ S ((if mp = 0 then 570 else 1210) + (4 * c + l)) ∧ S ((if mp = 0 then 570 else 1210) + (4 * c + l)) ≤ 2 := by
          split
          · exact i_nor hi (by omega) (by omega)
          · exact i_mno hi (by omega) (by omega)
        rw [hE, Option.bind_some, hN, Option.bind_some, c_wlk hs1 hc (by omega) (by omega), Option.bind_some]
        unfold snk
        rw [if_neg q1, if_neg q2]
        have hc' := nxc_r (S := S) (mp := mp) (l := l) hc
        rw [show wlk S c (S ((if mp = 0 then 250 else 890) + (4 * c + l))) (S ((if mp = 0 then 570 else 1210) + (4 * c + l))) = nxc S mp c l from rfl]
        generalize nxc S mp c l = c' at hc' ⊢
        have hs2 : Vs w (jW (jW J (w + 32) 1 l) (w + 32) 0 c') S := vN hs1 (by omega)
        have f0 : jW (jW J (w + 32) 1 l) (w + 32) 0 c' (w + 32) 0 = c' := jW_at
        have goon : ∀ v : Int, ∀ fu' : Nat, k < fu' → v = 0 → ∃ J2, H_X4_sink_L18 (w + 32) (w + 1) p2 d z5 fu' (wr (l + 1)) (jW (jW (jW J (w + 32) 1 l) (w + 32) 0 c') (w + 32) 2 v) = some J2 ∧ Pth w J2 (snk S mp d k (l + 1) c' l) ∧ ∀ b, b ≠ w + 32 → J2 b = J b := by
          intro v fu' hf hv
          rw [wr_id (by omega)]
          obtain ⟨J2, g1, g2, g3⟩ := ih fu' (l + 1) c' l (jW (jW (jW J (w + 32) 1 l) (w + 32) 0 c') (w + 32) 2 v) (vN hs2 (by omega)) ⟨by simp (disch := omega) only [jW_of, jW_at], by simp (disch := omega) only [jW_of, jW_at], by rw [jW_at]; exact hv⟩ (by omega) hc' (by omega) hf
          exact ⟨J2, g1, g2, fun b hb => by rw [g3 b hb, jW_ne hb, jW_ne hb, jW_ne hb]⟩
        by_cases q3 : z5 = 0
        · rw [if_pos q3, if_neg (show ¬ (mp = 0 ∧ S (1850 + (4 * c' + l)) = 1 ∧ l < S (10 + c')) by omega)]
          exact goon 0 fu (by omega) rfl
        · have m0 : mp = 0 := by omega
          rw [if_neg q3, f0, c_has hs2 hc', Option.bind_some, z10]
          by_cases q4 : S (10 + c') ≤ l
          · rw [if_pos q4, if_neg (show ¬ (mp = 0 ∧ S (1850 + (4 * c' + l)) = 1 ∧ l < S (10 + c')) by omega)]
            exact goon 0 fu (by omega) rfl
          · rw [if_neg q4, z_placeOf (by omega), Option.bind_some, vL_net hs2 (by omega) (by omega), Option.bind_some]
            by_cases q5 : S (1850 + (4 * c' + l)) = 1
            · rw [if_pos (show mp = 0 ∧ S (1850 + (4 * c' + l)) = 1 ∧ l < S (10 + c') by omega), if_pos q5, zZ (Or.inr rfl), Option.bind_some]
              obtain ⟨fu, rfl⟩ := nx (show k < fu by omega)
              rw [H_X4_sink_L18, jW_at, if_neg (show ¬ (1 : Int) = 0 by decide)]
              refine ⟨_, by split <;> rfl, ⟨by simp (disch := omega) only [jW_of, jW_at], by simp (disch := omega) only [jW_of, jW_at], jW_at⟩, fun b hb => by rw [jW_ne hb, jW_ne hb, jW_ne hb]⟩
            · rw [if_neg (show ¬ (mp = 0 ∧ S (1850 + (4 * c' + l)) = 1 ∧ l < S (10 + c')) by omega), if_neg q5, zZ (Or.inl rfl), Option.bind_some]
              exact goon 0 fu (by omega) rfl
theorem c_snk (hi : Inv S) (hs : Vs w J S) (mp : Int) (p2 : Nat) (z5 : Int) (hp : mp = 0 ∧ p2 = w + 1 + 6 ∧ z5 = 1 ∨ mp = 1 ∧ p2 = w + 1 + 9 ∧ z5 = 0) (hd : 0 ≤ d ∧ d ≤ 3) (hc : 0 ≤ c ∧ c < 80) : ∃ J2, H_X4_sink (w + 32) (w + 1) p2 c d z5 J = some J2 ∧ Pth w J2 (snk S mp d 5 0 c 0) ∧ ∀ b, b ≠ w + 32 → J2 b = J b := by
  unfold H_X4_sink
  simp only [nv]
  obtain ⟨J2, g1, g2, g3⟩ := c_snkL hi mp p2 z5 hp hd 5 1000000 0 c 0 (jW (jW (jW J (w + 32) 0 c) (w + 32) 1 0) (w + 32) 2 0) (vN (vN (vN hs (by omega)) (by omega)) (by omega)) ⟨by simp (disch := omega) only [jW_of, jW_at], by simp (disch := omega) only [jW_of, jW_at], jW_at⟩ (by omega) hc (by omega) (by omega)
  exact ⟨J2, g1, g2, fun b hb => by rw [g3 b hb, jW_ne hb, jW_ne hb, jW_ne hb]⟩
end WAYC
/-- where the reference's way stands -/
def Wy (m : Nat) (J : Jm) (c : Int) : Prop := J m 4 = c / 8 ∧ J m 5 = c % 8
/-- only the fields lo .. hi of the reference's object changed -/
def Fw (m lo hi : Nat) (J J2 : Jm) : Prop := (∀ b, b ≠ m → J2 b = J b) ∧ ∀ k, (k < lo ∨ hi < k) → J2 m k = J m k
section WAYR
variable {E : Em} {x w m a lo hi : Nat} {J Jr J1 J2 : Jm} {S : Int → Int} {c e n d l v : Int}
theorem Fw.r : Fw m lo hi J J := ⟨fun _ _ => rfl, fun _ _ => rfl⟩
theorem Fw.t (h1 : Fw m lo hi J J1) (h2 : Fw m lo hi J1 J2) : Fw m lo hi J J2 := ⟨fun b hb => (h2.1 b hb).trans (h1.1 b hb), fun k hk => (h2.2 k hk).trans (h1.2 k hk)⟩
theorem Fw.ww (h1 : Fw m lo hi J J1) {k : Nat} (hk : lo ≤ k ∧ k ≤ hi) : Fw m lo hi J (jW J1 m k v) := ⟨fun b hb => by rw [jW_ne hb]; exact h1.1 b hb, fun i hi => by rw [jW_of (by omega)]; exact h1.2 i hi⟩
theorem Fw.xx (h1 : Fw m lo hi J J1) {lo2 hi2 : Nat} (h : lo2 ≤ lo ∧ hi ≤ hi2) : Fw m lo2 hi2 J J1 := ⟨h1.1, fun k hk => h1.2 k (by omega)⟩
theorem Fw.mm (h1 : Fw m lo hi J J1) (h : 4 ≤ lo) : FrM m J J1 := ⟨fun b hb => h1.1 b (by omega), h1.2 3 (by omega), fun q p hp => by rw [h1.1 (m + 8) (by omega)]; exact q p hp⟩
theorem Fw.R (h1 : Fw m lo hi J J1) (hR : Rf m J S) : Rf m J1 S := rE hR (h1.1 _ (by omega))
theorem r_stp (hR : Rf m J S) (hW : Wy m J c) (hc : 0 ≤ c ∧ c < 80) (he : -9 ≤ e ∧ e ≤ 9) (hn : -9 ≤ n ∧ n ≤ 9) : ∃ J2, H_X12_step m e n J = some J2 ∧ Wy m J2 (stp S c e n) ∧ Fw m 4 5 J J2 := by
  obtain ⟨w4, w5⟩ := hW
  unfold H_X12_step H_X12_isWater stp
  rw [w4, w5, wr_id (z := c / 8 + e) (by omega), wr_id (z := c % 8 + n) (by omega), z_rIsCell]
  simp only [Option.bind_some, z01]
  by_cases h : 0 ≤ c / 8 + e ∧ c / 8 + e < 10 ∧ 0 ≤ c % 8 + n ∧ c % 8 + n < 8
  · have e1 : wr (wr (10 + wr (8 * (c / 8 + e))) + (c % 8 + n)) = 10 + (8 * (c / 8 + e) + (c % 8 + n)) := by rw [wr_id (z := 8 * (c / 8 + e)) (by omega), wr_id (z := 10 + _) (by omega), wr_id (by omega)]; omega
    rw [if_pos h, e1, rL hR (by omega) (by omega)]
    simp only [Option.bind_some]
    by_cases h2 : S (10 + (8 * (c / 8 + e) + (c % 8 + n))) ≤ 0
    · rw [if_pos h2, if_neg (by omega)]
      exact ⟨J, rfl, ⟨w4, w5⟩, Fw.r⟩
    · rw [if_neg h2, if_pos (by omega)]
      simp only [Option.bind_some, nv]
      rw [if_neg (by decide), jW_of (by decide), w5, wr_id (by omega)]
      exact ⟨_, rfl, ⟨by rw [jW_of (by decide), jW_at]; omega, by rw [jW_at]; omega⟩, Fw.ww (Fw.ww Fw.r (by omega)) (by omega)⟩
  · rw [if_neg h, if_neg (by omega)]
    exact ⟨J, rfl, ⟨w4, w5⟩, Fw.r⟩
theorem r_s2 (k : Jm → Option Jm) (he : -4 ≤ e ∧ e ≤ 4) : ∀ (t fu : Nat) (i c : Int) (J : Jm), Rf m J S → Wy m J c → (abz e).toNat = i.toNat + t → 0 ≤ i → (0 ≤ c ∧ c < 80) → t < fu → ∃ J2, H_X12_steps_L2 k m e n fu i J = k J2 ∧ Wy m J2 (itE S (sgz e) t c) ∧ Fw m 4 5 J J2 := by
  have ha : H_X12_abs m e = some (abz e) := r_abs (by omega)
  have hab : 0 ≤ abz e ∧ abz e ≤ 4 := by unfold abz; split <;> omega
  intro t
  induction t with
  | zero =>
    intro fu i c J hR hW h1 h2 hc h3
    obtain ⟨fu, rfl⟩ := nx h3
    rw [H_X12_steps_L2, ha, Option.bind_some, if_pos (by omega)]
    exact ⟨J, rfl, hW, Fw.r⟩
  | succ t ih =>
    intro fu i c J hR hW h1 h2 hc h3
    obtain ⟨fu, rfl⟩ := nx h3
    rw [H_X12_steps_L2, ha, Option.bind_some, if_neg (by omega)]
    simp only [nv]
    have hz := sgz_r e
    obtain ⟨J1, f1, f2, f3⟩ := r_stp (e := sgz e) (n := 0) hR hW hc (by omega) (by omega)
    rw [show (if 0 ≤ e then (1 : Int) else -1) = sgz e from rfl, f1, Option.bind_some, wr_id (by omega)]
    obtain ⟨J2, g1, g2, g3⟩ := ih fu (i + 1) _ J1 (f3.R hR) f2 (by omega) (by omega) (stp_r hc) (by omega)
    exact ⟨J2, g1, g2, f3.t g3⟩
theorem r_s33 (he : -4 ≤ n ∧ n ≤ 4) : ∀ (t fu : Nat) (i c : Int) (J : Jm), Rf m J S → Wy m J c → (abz n).toNat = i.toNat + t → 0 ≤ i → (0 ≤ c ∧ c < 80) → t < fu → ∃ J2, H_X12_steps_L33 m n fu i J = some J2 ∧ Wy m J2 (itN S (sgz n) t c) ∧ Fw m 4 5 J J2 := by
  have ha : H_X12_abs m n = some (abz n) := r_abs (by omega)
  have hab : 0 ≤ abz n ∧ abz n ≤ 4 := by unfold abz; split <;> omega
  intro t
  induction t with
  | zero =>
    intro fu i c J hR hW h1 h2 hc h3
    obtain ⟨fu, rfl⟩ := nx h3
    rw [H_X12_steps_L33, ha, Option.bind_some, if_pos (by omega)]
    exact ⟨J, rfl, hW, Fw.r⟩
  | succ t ih =>
    intro fu i c J hR hW h1 h2 hc h3
    obtain ⟨fu, rfl⟩ := nx h3
    rw [H_X12_steps_L33, ha, Option.bind_some, if_neg (by omega)]
    simp only [nv]
    have hz := sgz_r n
    obtain ⟨J1, f1, f2, f3⟩ := r_stp (e := 0) (n := sgz n) hR hW hc (by omega) (by omega)
    rw [show (if 0 ≤ n then (1 : Int) else -1) = sgz n from rfl, f1, Option.bind_some, wr_id (by omega)]
    obtain ⟨J2, g1, g2, g3⟩ := ih fu (i + 1) _ J1 (f3.R hR) f2 (by omega) (by omega) (stp_r hc) (by omega)
    exact ⟨J2, g1, g2, f3.t g3⟩
theorem r_wlk (hR : Rf m J S) (hW : Wy m J c) (hc : 0 ≤ c ∧ c < 80) (he : -4 ≤ e ∧ e ≤ 4) (hn : -4 ≤ n ∧ n ≤ 4) : ∃ J2, H_X12_steps m e n J = some J2 ∧ Wy m J2 (wlk S c e n) ∧ Fw m 4 5 J J2 := by
  have h1 : 0 ≤ abz e ∧ abz e ≤ 4 := by unfold abz; split <;> omega
  have h2 : 0 ≤ abz n ∧ abz n ≤ 4 := by unfold abz; split <;> omega
  unfold H_X12_steps
  obtain ⟨J1, f1, f2, f3⟩ := r_s2 (S := S) (n := n) (fun J11 => H_X12_steps_L33 m n 1000000 0 J11) he (abz e).toNat 1000000 0 c J hR hW (by omega) (by omega) hc (by omega)
  obtain ⟨J2, g1, g2, g3⟩ := r_s33 (S := S) hn (abz n).toNat 1000000 0 _ J1 (f3.R hR) f2 (by omega) (by omega) (itE_r _ hc) (by omega)
  exact ⟨J2, f1.trans g1, g2, f3.t g3⟩
/-- what sinking leaves in the reference -/
def Pr (m : Nat) (J : Jm) (r : Int × Int × Int) : Prop := Wy m J r.1 ∧ J m 6 = r.2.1 ∧ J m 7 = r.2.2
theorem r_snkL (hi : Inv S) (mp : Int) (hp : mp = 0 ∨ mp = 1) (hd : 0 ≤ d ∧ d ≤ 3) : ∀ (k fu : Nat) (l c s : Int) (J : Jm), Rf m J S → Pr m J (c, s, 0) → (0 ≤ l ∧ l ≤ 4) → (0 ≤ c ∧ c < 80) → 5 = l + k → k < fu → ∃ J2, H_X12_sink_L12 m d mp fu l J = some J2 ∧ Pr m J2 (snk S mp d k l c s) ∧ Fw m 4 7 J J2 := by
  intro k
  induction k with
  | zero => intro fu l c s J hR hP hl hc h1 h2; omega
  | succ k ih =>
    intro fu l c s J hR hP hl hc h1 h2
    obtain ⟨fu, rfl⟩ := nx h2
    obtain ⟨⟨p4, p5⟩, p6, p7⟩ := hP
    dsimp only at p4 p5 p6 p7
    rw [H_X12_sink_L12]
    by_cases q1 : d < l
    · rw [if_pos q1]
      refine ⟨J, rfl, ?_, Fw.r⟩
      unfold snk
      rw [if_pos q1]
      exact ⟨⟨p4, p5⟩, p6, p7⟩
    · have ec : wr (wr (8 * (c / 8)) + c % 8) = c := by rw [wr_id (z := 8 * (c / 8)) (by omega), wr_id (by omega)]; omega
      rw [if_neg q1, p7, if_pos rfl, p4, p5, ec, wr_id (z := 10 + c) (by omega), wr_id (z := 4 * c) (by omega), rL hR (by omega) (by omega), Option.bind_some]
      by_cases q2 : S (10 + c) ≤ l
      · rw [if_neg (by omega)]
        refine ⟨J, rfl, ?_, Fw.r⟩
        unfold snk
        rw [if_neg q1, if_pos q2]
        exact ⟨⟨p4, p5⟩, p6, p7⟩
      · rw [if_pos (by omega)]
        simp only [nv]
        have hR1 : Rf m (jW J m 6 l) S := rN hR (by omega)
        have hE : jL (jW J m 6 l) (m + 1) 8369 (wr (wr ((if mp = 0 then 250 else 890) + 4 * c) + l)) = some (S ((if mp = 0 then 250 else 890) + (4 * c + l))) := by
          rcases hp with a1 | a1
          · rw [if_pos a1, wr_id (z := 250 + 4 * c) (by omega), wr_id (by omega), rL hR1 (by omega) (by omega)]
            exact congrArg some (congrArg S (by omega))
          · rw [if_neg (by omega), wr_id (z := 890 + 4 * c) (by omega), wr_id (by omega), rL hR1 (by omega) (by omega)]
            exact congrArg some (congrArg S (by omega))
        have hN : jL (jW J m 6 l) (m + 1) 8369 (wr (wr ((if mp = 0 then 570 else 1210) + 4 * c) + l)) = some (S ((if mp = 0 then 570 else 1210) + (4 * c + l))) := by
          rcases hp with a1 | a1
          · rw [if_pos a1, wr_id (z := 570 + 4 * c) (by omega), wr_id (by omega), rL hR1 (by omega) (by omega)]
            exact congrArg some (congrArg S (by omega))
          · rw [if_neg (by omega), wr_id (z := 1210 + 4 * c) (by omega), wr_id (by omega), rL hR1 (by omega) (by omega)]
            exact congrArg some (congrArg S (by omega))
        have bE : -2 ≤ S ((if mp = 0 then 250 else 890) + (4 * c + l)) ∧ S ((if mp = 0 then 250 else 890) + (4 * c + l)) ≤ 2 := by
          split
          · exact i_eas hi (by omega) (by omega)
          · exact i_mea hi (by omega) (by omega)
        have bN : -2 ≤ S ((if mp = 0 then 570 else 1210) + (4 * c + l)) ∧ S ((if mp = 0 then 570 else 1210) + (4 * c + l)) ≤ 2 := by
          split
          · exact i_nor hi (by omega) (by omega)
          · exact i_mno hi (by omega) (by omega)
        rw [hE, Option.bind_some, hN, Option.bind_some]
        have hW1 : Wy m (jW J m 6 l) c := ⟨by rw [jW_of (by decide)]; exact p4, by rw [jW_of (by decide)]; exact p5⟩
        obtain ⟨J1, s1, s2, s3⟩ := r_wlk hR1 hW1 hc (e := S ((if mp = 0 then 250 else 890) + (4 * c + l))) (n := S ((if mp = 0 then 570 else 1210) + (4 * c + l))) (by omega) (by omega)
        rw [s1, Option.bind_some]
        unfold snk
        rw [if_neg q1, if_neg q2]
        have hc' := nxc_r (S := S) (mp := mp) (l := l) hc
        rw [show wlk S c (S ((if mp = 0 then 250 else 890) + (4 * c + l))) (S ((if mp = 0 then 570 else 1210) + (4 * c + l))) = nxc S mp c l from rfl] at s2
        generalize nxc S mp c l = c' at hc' s2 ⊢
        have t6 : J1 m 6 = l := by rw [s3.2 6 (by omega), jW_at]
        have fJ1 : Fw m 4 7 J J1 := (Fw.ww Fw.r (by omega)).t (s3.xx (by omega))
        have hRJ : Rf m J1 S := s3.R hR1
        have goon : ∀ fu' : Nat, k < fu' → ∃ J2, H_X12_sink_L12 m d mp fu' (wr (l + 1)) (jW J1 m 7 0) = some J2 ∧ Pr m J2 (snk S mp d k (l + 1) c' l) ∧ Fw m 4 7 J J2 := by
          intro fu' hf
          rw [wr_id (by omega)]
          obtain ⟨J2, g1, g2, g3⟩ := ih fu' (l + 1) c' l (jW J1 m 7 0) (rN hRJ (by omega)) ⟨⟨by rw [jW_of (by decide)]; exact s2.1, by rw [jW_of (by decide)]; exact s2.2⟩, by rw [jW_of (by decide)]; exact t6, jW_at⟩ (by omega) hc' (by omega) hf
          exact ⟨J2, g1, g2, (fJ1.ww (by omega)).t g3⟩
        by_cases q3 : mp = 0
        · rw [if_pos q3]
          unfold H_X12_isNet
          have en : wr (wr (1850 + wr (4 * wr (wr (8 * J1 m 4) + J1 m 5))) + l) = 1850 + (4 * c' + l) := by
            rw [s2.1, s2.2, wr_id (z := 8 * (c' / 8)) (by omega), wr_id (z := 8 * (c' / 8) + c' % 8) (by omega), wr_id (z := 4 * _) (by omega), wr_id (z := 1850 + _) (by omega), wr_id (by omega)]
            omega
          have ed : wr (wr (10 + wr (8 * J1 m 4)) + J1 m 5) = 10 + c' := by
            rw [s2.1, s2.2, wr_id (z := 8 * (c' / 8)) (by omega), wr_id (z := 10 + _) (by omega), wr_id (by omega)]
            omega
          rw [en, ed, rL hRJ (by omega) (by omega), rL hRJ (by omega) (by omega)]
          simp only [Option.bind_some]
          by_cases q5 : S (1850 + (4 * c' + l)) = 1
          · rw [if_pos q5]
            by_cases q4 : S (10 + c') ≤ l
            · rw [if_pos q4, if_neg (show ¬ (mp = 0 ∧ S (1850 + (4 * c' + l)) = 1 ∧ l < S (10 + c')) by omega)]
              simp only [Option.bind_some]
              rw [if_pos trivial, zZ (Or.inl rfl), Option.bind_some]
              exact goon fu (by omega)
            · rw [if_neg q4, if_pos (show mp = 0 ∧ S (1850 + (4 * c' + l)) = 1 ∧ l < S (10 + c') by omega)]
              simp only [Option.bind_some]
              rw [if_neg (by decide), zZ (Or.inr rfl), Option.bind_some]
              obtain ⟨fu, rfl⟩ := nx (show k < fu by omega)
              rw [H_X12_sink_L12, jW_at, if_neg (show ¬ (1 : Int) = 0 by decide)]
              refine ⟨_, by split <;> rfl, ⟨⟨by rw [jW_of (by decide)]; exact s2.1, by rw [jW_of (by decide)]; exact s2.2⟩, by rw [jW_of (by decide)]; exact t6, jW_at⟩, fJ1.ww (by omega)⟩
          · rw [if_neg q5, if_neg (show ¬ (mp = 0 ∧ S (1850 + (4 * c' + l)) = 1 ∧ l < S (10 + c')) by omega)]
            simp only [Option.bind_some]
            rw [if_pos trivial, zZ (Or.inl rfl), Option.bind_some]
            exact goon fu (by omega)
        · rw [if_neg q3, if_neg (show ¬ (mp = 0 ∧ S (1850 + (4 * c' + l)) = 1 ∧ l < S (10 + c')) by omega)]
          exact goon fu (by omega)
theorem r_snk (hi : Inv S) (hR : Rf m J S) (hW : Wy m J c) (mp : Int) (hp : mp = 0 ∨ mp = 1) (hd : 0 ≤ d ∧ d ≤ 3) (hc : 0 ≤ c ∧ c < 80) : ∃ J2, H_X12_sink m d mp J = some J2 ∧ Pr m J2 (snk S mp d 5 0 c 0) ∧ Fw m 4 7 J J2 := by
  unfold H_X12_sink
  simp only [nv]
  obtain ⟨J2, g1, g2, g3⟩ := r_snkL (S := S) hi mp hp hd 5 1000000 0 c 0 (jW (jW J m 6 0) m 7 0) (rN (rN hR (by omega)) (by omega)) ⟨⟨by simp (disch := omega) only [jW_of]; exact hW.1, by simp (disch := omega) only [jW_of]; exact hW.2⟩, by simp (disch := omega) only [jW_of, jW_at], jW_at⟩ (by omega) hc (by omega) (by omega)
  exact ⟨J2, g1, g2, (Fw.ww (Fw.ww Fw.r (by omega)) (by omega)).t g3⟩
end WAYR
/-! ENDS -/
section ENDS
variable {E : Em} {x m a : Nat} {J Jr : Jm} {S : Int → Int} {g d e n : Int}
/-- the cell of GLIDER g -/
def clS (S : Int → Int) (g : Int) : Int := 8 * S (2178 + g) + S (2186 + g)
theorem clS_r (hi : Inv S) (hg : 0 ≤ g ∧ g < 8) : 0 ≤ clS S g ∧ clS S g < 80 := by
  have hx := i_x hi (z := g) hg.1 hg.2
  have hy := i_y hi (z := g) hg.1 hg.2
  unfold clS; omega
theorem hdg_r {k : Int} (h : hdg k e n) : (-4 ≤ e ∧ e ≤ 4) ∧ (-4 ≤ n ∧ n ≤ 4) := by
  have := zgk_r k
  unfold hdg at h
  split at h <;> split at h <;> omega
theorem r_endBy (hi : Inv S) (hR : Rf m Jr S) (hg : 0 ≤ g ∧ g < 8) (hd : 0 ≤ d ∧ d ≤ 3) (he : -4 ≤ e ∧ e ≤ 4) (hn : -4 ≤ n ∧ n ≤ 4) : ∃ J2, H_X12_endBy m g d e n Jr = some J2 ∧ Wy m J2 (wlk S (snk S 1 d 5 0 (clS S g) 0).1 e n) ∧ Fw m 4 7 Jr J2 := by
  have hx := i_x hi (z := g) hg.1 hg.2
  have hy := i_y hi (z := g) hg.1 hg.2
  have hc := clS_r hi hg
  unfold H_X12_endBy
  simp only [nv]
  rw [wr_id (z := 2178 + g) (by omega), wr_id (z := 2186 + g) (by omega), rL hR (by omega) (by omega), Option.bind_some, rL (rN hR (by omega)) (by omega) (by omega), Option.bind_some]
  obtain ⟨J1, f1, f2, f3⟩ := r_snk (S := S) (c := clS S g) (d := d) hi (rN (rN hR (by omega)) (by omega)) (J := jW (jW Jr m 4 (S (2178 + g))) m 5 (S (2186 + g))) ⟨by rw [jW_of (by decide), jW_at]; unfold clS; omega, by rw [jW_at]; unfold clS; omega⟩ 1 (Or.inr rfl) hd hc
  have h5 := (snk_r (S := S) (mp := 1) (d := d) 5 (l := 0) (s := 0) hc (by omega)).1
  have f0 : Fw m 4 7 Jr J1 := (Fw.ww (Fw.ww Fw.r (by omega)) (by omega)).t f3
  obtain ⟨J2, g1, g2, g3⟩ := r_wlk (f0.R hR) f2.1 h5 he hn
  rw [f1, Option.bind_some, g1]
  exact ⟨J2, rfl, g2, f0.t (g3.xx (by omega))⟩
theorem b22 (sp : Sp E (x + 1)) (ag : ∀ j a, E.2.1 (x + 1 + 13) j = some a → a + 1 < x + 1 ∨ x + 1 + 43 < a) (ao : ∀ j q, E.2.1 (x + 1 + 15) j = some q → q + 8 < x + 1 ∨ x + 1 + 43 < q) (hV : Vw E (x + 1) J S) (hi : Inv S) (hR : Rf m Jr S) (z1 z2 z3 z4 : Int) (h3 : -2147483648 ≤ z3 ∧ z3 ≤ 2147483647) (h4 : -2147483648 ≤ z4 ∧ z4 ≤ 2147483647) : Bi E (x + 1) m S J Jr (H_X11_ends E x z1 z2 z3 z4 J) (H_X12_ends m z1 z2 z3 z4 Jr) := by
  unfold H_X11_ends H_X12_ends
  have h8 := i_gli hi
  rw [r_isG hR hi, Option.bind_some, z01]
  by_cases hg : 0 ≤ z1 ∧ z1 < S 0
  · obtain ⟨a, ea, ha, hG⟩ := gA_in hV hi hg
    have hk := i_kind hi (z := z1) hg.1 (by omega)
    have hs := zsk_r (S (2170 + z1))
    have hc := clS_r hi (g := z1) (by omega)
    rw [ea, Option.bind_some, if_pos hg, r_sinks hR (by omega), Option.bind_some, isq, Option.bind_some, z01, r_isHeading hR (by omega), Option.bind_some, z01, r_isUp hR (by omega), Option.bind_some, z01]
    simp only [oe]
    rw [c_mayDive hk (g_kind hG) h3 h4, Option.bind_some, z01, g_sta hG, g_cell hG]
    by_cases h2 : 0 ≤ z2 ∧ z2 ≤ zsk (S (2170 + z1))
    · rw [if_pos h2]
      by_cases hh : hdg (S (2170 + z1)) z3 z4
      · rw [if_pos ⟨h2, hh⟩, if_pos hh]
        by_cases hu : S (2202 + z1) = 0
        · rw [if_pos hu, if_pos hu]
          obtain ⟨q3, q4⟩ := hdg_r hh
          obtain ⟨J1, f1, f2, f3⟩ := c_snk hi hV.1 (c := clS S z1) (d := z2) 1 (x + 1 + 1 + 9) 0 (Or.inr ⟨rfl, rfl, rfl⟩) (by omega) hc
          have h5 := (snk_r (S := S) (mp := 1) (d := z2) 5 (l := 0) (s := 0) hc (by omega)).1
          have hV1 : Vw E (x + 1) J1 S := vwE hV (fun b _ h => f3 b (by omega)) (fun j a' h => by have := ag j a' h; exact ⟨f3 _ (by omega), f3 _ (by omega)⟩) (fun j q h i hi => by have := ao j q h; exact f3 _ (by omega))
          obtain ⟨J2, g1, g2, g3⟩ := r_endBy hi hR (g := z1) (d := z2) (by omega) (by omega) q3 q4
          have f1' : H_X4_sink (x + 1 + 32) (x + 1 + 1) (x + 1 + 1 + 9) (8 * S (2178 + z1) + S (2186 + z1)) z2 0 J = some J1 := f1
          have hw := wlk_r (S := S) (e := z3) (n := z4) h5
          rw [f1', Option.bind_some, f2.1, c_wlk hV1.1 h5 q3 q4, Option.bind_some, g1, Option.bind_some, g2.1, g2.2, wr_id (z := 8 * _) (by omega), wr_id (by omega)]
          exact ⟨_, S, J1, J2, rfl, congrArg some (Prod.ext (by dsimp only; omega) rfl), hV1, g3.R hR, hi, fun b hb _ => f3 b (by omega), g3.mm (by omega)⟩
        · rw [if_neg hu, if_neg hu]; exact bi_no hV hi hR rfl rfl
      · rw [if_neg (fun q => hh q.2), if_neg hh]; exact bi_no hV hi hR rfl rfl
    · rw [if_neg h2, if_neg (fun q => h2 q.1)]; exact bi_no hV hi hR rfl rfl
  · rw [gA_no hV hg, if_neg hg]
    exact bi_no hV hi hR rfl rfl
end ENDS
