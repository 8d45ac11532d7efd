/-! THE MEMORY: what the claim's cells hold, as one value: the kind of each address, whole numbers, references, longs, the next free address -/
/-- which field of which class is a reference -/
def fRl : Nat → List Bool
  | 0 => [false, false, false, false, false, false, false, false, false, false, false, true]
  | 1 => [false, true, true, true, true]
  | 2 => [false, false, true, true, true, true, true, true, true, true]
  | 3 => [true, true, false, false]
  | 4 => [false, false, false]
  | 5 => [true, true, true, false, true, true, true, true, true, true, true, true, true, false]
  | 6 => [false, true, true, true, true, true, true, false, true, true, true, true]
  | 7 => [true, true, true, true, true, true, true]
  | 8 => [false, false, false, true, false, false, false, false]
  | 9 => [true, true]
  | 10 => [true, true, false, false, false, true, true, false, true, true, true]
  | 11 => [true, true, true, true, true]
  | 12 => [false, true, true, false, false, false, false, false, true, false, false, false, false, false, false, false, false, false, false, false, false, true, true, true, true, true, false, false, true, true, true, true, true, true, true, true, true]
  | _ => []
def fR (t k : Nat) : Bool := (fRl t).getD k false
abbrev Mm : Type := (Nat → Nat × Nat) × (Nat → Nat → Int32) × (Nat → Nat → Option Nat) × (Nat → Nat → Int64) × Nat
def mK (M : Mm) : Nat → Nat × Nat := M.1
def mI (M : Mm) : Nat → Nat → Int32 := M.2.1
def mR (M : Mm) : Nat → Nat → Option Nat := M.2.2.1
def mL (M : Mm) : Nat → Nat → Int64 := M.2.2.2.1
def mN (M : Mm) : Nat := M.2.2.2.2
def up1 {α : Type} (f : Nat → α) (a : Nat) (v : α) : Nat → α := fun b => if b = a then v else f b
theorem up1_s {α : Type} (f : Nat → α) (a : Nat) (v : α) : up1 f a v a = v := if_pos rfl
theorem up1_n {α : Type} (f : Nat → α) {a b : Nat} (v : α) (h : b ≠ a) : up1 f a v b = f b := if_neg h
def sI (M : Mm) (a k : Nat) (v : Int32) : Mm := (M.1, up1 M.2.1 a (up1 (M.2.1 a) k v), M.2.2)
def sR (M : Mm) (a k : Nat) (v : Option Nat) : Mm := (M.1, M.2.1, up1 M.2.2.1 a (up1 (M.2.2.1 a) k v), M.2.2.2)
def sL (M : Mm) (a k : Nat) (v : Int64) : Mm := (M.1, M.2.1, M.2.2.1, up1 M.2.2.2.1 a (up1 (M.2.2.2.1 a) k v), M.2.2.2.2)
def sA (M : Mm) (a : Nat) (f : Nat → Int32) : Mm := (M.1, up1 M.2.1 a f, M.2.2)
/-- a new cell of a kind -/
def nw (M : Mm) (kd : Nat × Nat) : Mm := (up1 M.1 M.2.2.2.2 kd, up1 M.2.1 M.2.2.2.2 (fun _ => 0), up1 M.2.2.1 M.2.2.2.2 (fun _ => none), up1 M.2.2.2.1 M.2.2.2.2 (fun _ => 0), M.2.2.2.2 + 1)
/-- cells that nobody knows -/
def jk (M : Mm) (n : Nat) : Mm := (M.1, M.2.1, M.2.2.1, M.2.2.2.1, M.2.2.2.2 + n)
theorem mK_sI (M : Mm) (a k : Nat) (v : Int32) : mK (sI M a k v) = mK M := rfl
theorem mR_sI (M : Mm) (a k : Nat) (v : Int32) : mR (sI M a k v) = mR M := rfl
theorem mL_sI (M : Mm) (a k : Nat) (v : Int32) : mL (sI M a k v) = mL M := rfl
theorem mN_sI (M : Mm) (a k : Nat) (v : Int32) : mN (sI M a k v) = mN M := rfl
theorem mI_sI (M : Mm) (a k : Nat) (v : Int32) : mI (sI M a k v) = up1 (mI M) a (up1 (mI M a) k v) := rfl
theorem mK_sR (M : Mm) (a k : Nat) (v : Option Nat) : mK (sR M a k v) = mK M := rfl
theorem mI_sR (M : Mm) (a k : Nat) (v : Option Nat) : mI (sR M a k v) = mI M := rfl
theorem mL_sR (M : Mm) (a k : Nat) (v : Option Nat) : mL (sR M a k v) = mL M := rfl
theorem mN_sR (M : Mm) (a k : Nat) (v : Option Nat) : mN (sR M a k v) = mN M := rfl
theorem mR_sR (M : Mm) (a k : Nat) (v : Option Nat) : mR (sR M a k v) = up1 (mR M) a (up1 (mR M a) k v) := rfl
theorem mK_sA (M : Mm) (a : Nat) (f : Nat → Int32) : mK (sA M a f) = mK M := rfl
theorem mR_sA (M : Mm) (a : Nat) (f : Nat → Int32) : mR (sA M a f) = mR M := rfl
theorem mN_sA (M : Mm) (a : Nat) (f : Nat → Int32) : mN (sA M a f) = mN M := rfl
theorem mI_sA (M : Mm) (a : Nat) (f : Nat → Int32) : mI (sA M a f) = up1 (mI M) a f := rfl
theorem mK_sL (M : Mm) (a k : Nat) (v : Int64) : mK (sL M a k v) = mK M := rfl
theorem mI_sL (M : Mm) (a k : Nat) (v : Int64) : mI (sL M a k v) = mI M := rfl
theorem mR_sL (M : Mm) (a k : Nat) (v : Int64) : mR (sL M a k v) = mR M := rfl
theorem mN_sL (M : Mm) (a k : Nat) (v : Int64) : mN (sL M a k v) = mN M := rfl
theorem mL_sL (M : Mm) (a k : Nat) (v : Int64) : mL (sL M a k v) = up1 (mL M) a (up1 (mL M a) k v) := rfl
theorem mK_nw (M : Mm) (kd : Nat × Nat) : mK (nw M kd) = up1 (mK M) (mN M) kd := rfl
theorem mI_nw (M : Mm) (kd : Nat × Nat) : mI (nw M kd) = up1 (mI M) (mN M) (fun _ => 0) := rfl
theorem mR_nw (M : Mm) (kd : Nat × Nat) : mR (nw M kd) = up1 (mR M) (mN M) (fun _ => none) := rfl
theorem mL_nw (M : Mm) (kd : Nat × Nat) : mL (nw M kd) = up1 (mL M) (mN M) (fun _ => 0) := rfl
theorem mN_nw (M : Mm) (kd : Nat × Nat) : mN (nw M kd) = mN M + 1 := rfl
/-- what an object's fields hold -/
def oV (t : Nat) (f : Nat → Int32) (r : Nat → Option Nat) (k : Nat) : Value := if fR t k = true then va_rf (r k) else .int (f k)
/-- a cell of a kind, with what it holds -/
def cA1 (D : va_G) (ca : Nat → ClassId) (kd : Nat × Nat) (f : Nat → Int32) (r : Nat → Option Nat) (g : Nat → Int64) (H : Heap) (a : Nat) : Prop :=
  match kd with
  | (0, _) => True
  | (1, n) => H[a]? = some (arrV (ca 1) n (fun j => .int (f j)))
  | (2, n) => H[a]? = some (arrV (ca 2) n (fun j => .int (f j)))
  | (3, n) => H[a]? = some (arrV (ca 3) n (fun j => va_rf (r j)))
  | (4, n) => H[a]? = some (arrV (ca 4) n (fun j => va_rf (r j)))
  | (5, n) => H[a]? = some (arrV (ca 5) n (fun j => va_rf (r j)))
  | (6, n) => H[a]? = some (arrV (ca 6) n (fun j => .long (g j)))
  | (t + 7, _) => ∃ q : vw_C, vwCl[t]? = some q ∧ t_OB a (D.1 t) q.2.2 (D.2 t) H (oV t f r)
theorem cA1.kept {D : va_G} {ca : Nat → ClassId} {kd : Nat × Nat} {f : Nat → Int32} {r : Nat → Option Nat} {g : Nat → Int64} {H H1 : Heap} {a : Nat} (h : cA1 D ca kd f r g H a) (hq : H1[a]? = H[a]?) : cA1 D ca kd f r g H1 a := by
  obtain ⟨t, n⟩ := kd
  match t, h with
  | 0, _ => trivial
  | 1, h => exact hq.trans h
  | 2, h => exact hq.trans h
  | 3, h => exact hq.trans h
  | 4, h => exact hq.trans h
  | 5, h => exact hq.trans h
  | 6, h => exact hq.trans h
  | t + 7, h =>
    obtain ⟨q, h1, h2⟩ := h
    exact ⟨q, h1, h2.kept hq⟩
theorem cA1.lt {D : va_G} {ca : Nat → ClassId} {kd : Nat × Nat} {f : Nat → Int32} {r : Nat → Option Nat} {g : Nat → Int64} {H : Heap} {a : Nat} (h : cA1 D ca kd f r g H a) (hk : kd.1 ≠ 0) : a < H.size := by
  obtain ⟨t, n⟩ := kd
  match t, h, hk with
  | 0, _, hk => exact absurd rfl hk
  | 1, h, _ => exact (Array.getElem?_eq_some_iff.mp h).1
  | 2, h, _ => exact (Array.getElem?_eq_some_iff.mp h).1
  | 3, h, _ => exact (Array.getElem?_eq_some_iff.mp h).1
  | 4, h, _ => exact (Array.getElem?_eq_some_iff.mp h).1
  | 5, h, _ => exact (Array.getElem?_eq_some_iff.mp h).1
  | 6, h, _ => exact (Array.getElem?_eq_some_iff.mp h).1
  | t + 7, h, _ =>
    obtain ⟨q, -, cell, h2, -⟩ := h
    exact (Array.getElem?_eq_some_iff.mp h2).1
/-- what is fixed: classes and slots, the array classes, where the static rows lie, where the texts lie (and their bytes), the heap at the law's entry -/
abbrev Gm : Type := va_G × (Nat → ClassId) × (Nat → Nat) × ((Nat → Nat) × (Nat → Nat)) × Heap
def gb (Γ : Gm) : Nat := Γ.2.2.2.2.size
def fr (Γ : Gm) : Addr → Prop := fun q => gb Γ ≤ q
def cAt (Γ : Gm) (M : Mm) (H : Heap) (a : Nat) : Prop := cA1 Γ.1 Γ.2.1 (mK M a) (mI M a) (mR M a) (mL M a) H a
/-- the heap holds the memory -/
def Sim (Γ : Gm) (M : Mm) (H : Heap) : Prop := H.size = mN M ∧ gb Γ ≤ H.size ∧ (∀ q, q < gb Γ → H[q]? = Γ.2.2.2.2[q]?) ∧ ∀ a, (mK M a).1 ≠ 0 → gb Γ ≤ a ∧ cAt Γ M H a
theorem Sim.at {Γ : Gm} {M : Mm} {H : Heap} (h : Sim Γ M H) {a t n : Nat} (hk : mK M a = (t + 1, n)) : gb Γ ≤ a ∧ cA1 Γ.1 Γ.2.1 (t + 1, n) (mI M a) (mR M a) (mL M a) H a := by
  have h1 := h.2.2.2 a (by rw [hk]; exact Nat.succ_ne_zero t)
  unfold cAt at h1
  rw [hk] at h1
  exact h1
theorem Sim.put {Γ : Gm} {M M1 : Mm} {H H1 : Heap} {a : Nat} (h : Sim Γ M H) (hK : mK M1 = mK M) (hN : mN M1 = mN M) (hz : H1.size = H.size) (oq : ∀ q : Nat, q ≠ a → H1[q]? = H[q]?) (hb : gb Γ ≤ a)
    (ho : ∀ q : Nat, q ≠ a → mI M1 q = mI M q ∧ mR M1 q = mR M q ∧ mL M1 q = mL M q) (ha : cA1 Γ.1 Γ.2.1 (mK M a) (mI M1 a) (mR M1 a) (mL M1 a) H1 a) : Sim Γ M1 H1 := by
  obtain ⟨h1, h2, h3, h4⟩ := h
  refine ⟨by rw [hz, hN]; exact h1, by rw [hz]; exact h2, fun q hq => ?_, fun q hq => ?_⟩
  · rw [oq q (by omega)]; exact h3 q hq
  · rw [hK] at hq
    unfold cAt
    rw [hK]
    by_cases e : q = a
    · subst e; exact ⟨hb, ha⟩
    · obtain ⟨e1, e2, e3⟩ := ho q e
      rw [e1, e2, e3]
      exact ⟨(h4 q hq).1, (h4 q hq).2.kept (oq q e)⟩
theorem Sim.new {Γ : Gm} {M : Mm} {H H1 : Heap} {kd : Nat × Nat} (h : Sim Γ M H) (hz : H1.size = H.size + 1) (oq : ∀ q : Nat, q < H.size → H1[q]? = H[q]?)
    (ha : cA1 Γ.1 Γ.2.1 kd (fun _ => 0) (fun _ => none) (fun _ => 0) H1 H.size) : Sim Γ (nw M kd) H1 := by
  obtain ⟨h1, h2, h3, h4⟩ := h
  refine ⟨by rw [hz, mN_nw, h1], by omega, fun q hq => ?_, fun q hq => ?_⟩
  · rw [oq q (by omega)]; exact h3 q hq
  · unfold cAt
    rw [mK_nw] at hq ⊢
    rw [mI_nw, mR_nw, mL_nw, ← h1]
    rw [← h1] at hq
    by_cases e : q = H.size
    · subst e
      rw [up1_s, up1_s, up1_s, up1_s]
      exact ⟨h2, ha⟩
    · rw [up1_n _ _ e] at hq
      rw [up1_n _ _ e, up1_n _ _ e, up1_n _ _ e, up1_n _ _ e]
      have hl := (h4 q hq).2.lt hq
      exact ⟨(h4 q hq).1, (h4 q hq).2.kept (oq q hl)⟩
/-- cells that are made and forgotten -/
theorem Sim.junk {Γ : Gm} {M : Mm} {H H1 : Heap} {n : Nat} (h : Sim Γ M H) (hz : H1.size = H.size + n) (oq : ∀ q : Nat, q < H.size → H1[q]? = H[q]?) : Sim Γ (jk M n) H1 := by
  obtain ⟨h1, h2, h3, h4⟩ := h
  refine ⟨by rw [hz, h1]; rfl, by omega, fun q hq => ?_, fun q hq => ?_⟩
  · rw [oq q (by omega)]; exact h3 q hq
  · have hl := (h4 q hq).2.lt hq
    exact ⟨(h4 q hq).1, (h4 q hq).2.kept (oq q hl)⟩
/-! THE MEMORY's own steps; 'none': the machine couldn't go on as Java means it -/
def rdI (M : Mm) (a t k : Nat) : Option Int32 := if mK M a = (t + 7, 0) then some (mI M a k) else none
def rdR (M : Mm) (a t k : Nat) : Option (Option Nat) := if mK M a = (t + 7, 0) then some (mR M a k) else none
def wrI (M : Mm) (a t k : Nat) (v : Int32) : Option Mm := if mK M a = (t + 7, 0) then some (sI M a k v) else none
def wrZ (M : Mm) (a t k : Nat) (v : Int32) : Option Mm := if mK M a = (t + 7, 0) ∧ (v = 0 ∨ v = 1) then some (sI M a k v) else none
def wrR (M : Mm) (a t k : Nat) (v : Option Nat) : Option Mm := if mK M a = (t + 7, 0) then some (sR M a k v) else none
def ldI (M : Mm) (a : Nat) (i : Int32) : Option Int32 := if (mK M a).1 = 1 ∧ ¬ (i < 0 ∨ (mK M a).2 ≤ i.toNatClampNeg) then some (mI M a i.toNatClampNeg) else none
def stI (M : Mm) (a : Nat) (i v : Int32) : Option Mm := if (mK M a).1 = 1 ∧ ¬ (i < 0 ∨ (mK M a).2 ≤ i.toNatClampNeg) then some (sI M a i.toNatClampNeg v) else none
def ldZ (M : Mm) (a : Nat) (i : Int32) : Option Int32 := if (mK M a).1 = 2 ∧ ¬ (i < 0 ∨ (mK M a).2 ≤ i.toNatClampNeg) then some (mI M a i.toNatClampNeg) else none
def stZ (M : Mm) (a : Nat) (i v : Int32) : Option Mm := if (mK M a).1 = 2 ∧ ¬ (i < 0 ∨ (mK M a).2 ≤ i.toNatClampNeg) ∧ (v = 0 ∨ v = 1) then some (sI M a i.toNatClampNeg v) else none
def ldR (M : Mm) (a t : Nat) (i : Int32) : Option (Option Nat) := if (mK M a).1 = t ∧ ¬ (i < 0 ∨ (mK M a).2 ≤ i.toNatClampNeg) then some (mR M a i.toNatClampNeg) else none
/-- into a row of references (kind t, of objects of class e) goes an object -/
def stR (M : Mm) (a t e : Nat) (i : Int32) (v : Nat) : Option Mm := if (mK M a).1 = t ∧ ¬ (i < 0 ∨ (mK M a).2 ≤ i.toNatClampNeg) ∧ mK M v = (e + 7, 0) then some (sR M a i.toNatClampNeg (some v)) else none
def ldL (M : Mm) (a : Nat) (i : Int32) : Option Int64 := if (mK M a).1 = 6 ∧ ¬ (i < 0 ∨ (mK M a).2 ≤ i.toNatClampNeg) then some (mL M a i.toNatClampNeg) else none
def stL (M : Mm) (a : Nat) (i : Int32) (v : Int64) : Option Mm := if (mK M a).1 = 6 ∧ ¬ (i < 0 ∨ (mK M a).2 ≤ i.toNatClampNeg) then some (sL M a i.toNatClampNeg v) else none
/-- a whole number row's length -/
def lnI (M : Mm) (a : Nat) : Option Int32 := if (mK M a).1 = 1 then some (Int32.ofNat (mK M a).2) else none
def isO (M : Mm) (a t : Nat) : Option Unit := if mK M a = (t + 7, 0) then some () else none
def dvI (x y : Int32) : Option Int32 := if y = 0 then none else some (x / y)
def rmI (x y : Int32) : Option Int32 := if y = 0 then none else some (x - x / y * y)
def ckZ (v : Int32) : Option Unit := if v = 0 ∨ v = 1 then some () else none
def cpI (M : Mm) (a : Nat) (i : Int32) (b : Nat) (j n : Int32) : Option Mm :=
  if (mK M a).1 = 1 ∧ (mK M b).1 = 1 ∧ ¬ i < 0 ∧ ¬ j < 0 ∧ ¬ n < 0 ∧ i.toNatClampNeg + n.toNatClampNeg ≤ (mK M a).2 ∧ j.toNatClampNeg + n.toNatClampNeg ≤ (mK M b).2 then some (sA M b (va_cpy (mI M a) (mI M b) i.toNatClampNeg j.toNatClampNeg n.toNatClampNeg)) else none
/-- the static rows of numbers -/
def sNm : Nat → String
  | 0 => "SINKS"
  | 1 => "GOES"
  | 2 => "SIDE_EAST"
  | _ => "SIDE_NORTH"
def sVl : Nat → List Int32
  | 0 => [2, 1, 3, 1]
  | 1 => [2, 3, 1, 4]
  | 2 => [0, 1, -1, 0, 0]
  | _ => [0, 0, 0, 1, -1]
def ldS (j : Nat) (i : Int32) : Option Int32 := if ¬ (i < 0 ∨ (sVl j).length ≤ i.toNatClampNeg) then some ((sVl j).getD i.toNatClampNeg 0) else none
/-- the texts: the signs' bytes -/
def tBy : Nat → List Int32
  | 0 => [112, 120, 121, 108, 102, 104, 116, 115, 100]
  | _ => [60, 62, 61]
def tChr (j : Nat) (i : Int32) : Option Int32 := if ¬ (i < 0 ∨ (tBy j).length ≤ i.toNatClampNeg) then some ((tBy j).getD i.toNatClampNeg 0) else none
/-- one step of a chain -/
theorem ob {α β : Type} {x : Option α} {f : α → Option β} {r : β} (h : x.bind f = some r) : ∃ v, x = some v ∧ f v = some r := by
  cases x with
  | none => cases h
  | some v => exact ⟨v, rfl, h⟩
/-- what comes behind a meeting of ways -/
def jp {κ ρ : Type} (rest : κ) (f : κ → ρ) : ρ := f rest
theorem jp_e {κ ρ : Type} {rest : κ} {f : κ → ρ} {r : ρ} (h : jp rest f = r) : ∃ k, k = rest ∧ f k = r := ⟨rest, rfl, h⟩
theorem rdI_e {M : Mm} {a t k : Nat} {v : Int32} (h : rdI M a t k = some v) : mK M a = (t + 7, 0) ∧ v = mI M a k := by
  unfold rdI at h; split at h
  · rename_i c; exact ⟨c, (Option.some.inj h).symm⟩
  · cases h
theorem rdR_e {M : Mm} {a t k : Nat} {v : Option Nat} (h : rdR M a t k = some v) : mK M a = (t + 7, 0) ∧ v = mR M a k := by
  unfold rdR at h; split at h
  · rename_i c; exact ⟨c, (Option.some.inj h).symm⟩
  · cases h
theorem wrI_e {M M1 : Mm} {a t k : Nat} {v : Int32} (h : wrI M a t k v = some M1) : mK M a = (t + 7, 0) ∧ M1 = sI M a k v := by
  unfold wrI at h; split at h
  · rename_i c; exact ⟨c, (Option.some.inj h).symm⟩
  · cases h
theorem wrZ_e {M M1 : Mm} {a t k : Nat} {v : Int32} (h : wrZ M a t k v = some M1) : mK M a = (t + 7, 0) ∧ (v = 0 ∨ v = 1) ∧ M1 = sI M a k v := by
  unfold wrZ at h; split at h
  · rename_i c; exact ⟨c.1, c.2, (Option.some.inj h).symm⟩
  · cases h
theorem wrR_e {M M1 : Mm} {a t k : Nat} {v : Option Nat} (h : wrR M a t k v = some M1) : mK M a = (t + 7, 0) ∧ M1 = sR M a k v := by
  unfold wrR at h; split at h
  · rename_i c; exact ⟨c, (Option.some.inj h).symm⟩
  · cases h
theorem ldI_e {M : Mm} {a : Nat} {i v : Int32} (h : ldI M a i = some v) : ∃ n, mK M a = (1, n) ∧ vp_in i n ∧ v = mI M a i.toNatClampNeg := by
  unfold ldI at h; split at h
  · rename_i c; exact ⟨(mK M a).2, Prod.ext c.1 rfl, c.2, (Option.some.inj h).symm⟩
  · cases h
theorem stI_e {M M1 : Mm} {a : Nat} {i v : Int32} (h : stI M a i v = some M1) : ∃ n, mK M a = (1, n) ∧ vp_in i n ∧ M1 = sI M a i.toNatClampNeg v := by
  unfold stI at h; split at h
  · rename_i c; exact ⟨(mK M a).2, Prod.ext c.1 rfl, c.2, (Option.some.inj h).symm⟩
  · cases h
theorem ldZ_e {M : Mm} {a : Nat} {i v : Int32} (h : ldZ M a i = some v) : ∃ n, mK M a = (2, n) ∧ vp_in i n ∧ v = mI M a i.toNatClampNeg := by
  unfold ldZ at h; split at h
  · rename_i c; exact ⟨(mK M a).2, Prod.ext c.1 rfl, c.2, (Option.some.inj h).symm⟩
  · cases h
theorem stZ_e {M M1 : Mm} {a : Nat} {i v : Int32} (h : stZ M a i v = some M1) : ∃ n, mK M a = (2, n) ∧ vp_in i n ∧ (v = 0 ∨ v = 1) ∧ M1 = sI M a i.toNatClampNeg v := by
  unfold stZ at h; split at h
  · rename_i c; exact ⟨(mK M a).2, Prod.ext c.1 rfl, c.2.1, c.2.2, (Option.some.inj h).symm⟩
  · cases h
theorem ldR_e {M : Mm} {a t : Nat} {i : Int32} {v : Option Nat} (h : ldR M a t i = some v) : ∃ n, mK M a = (t, n) ∧ vp_in i n ∧ v = mR M a i.toNatClampNeg := by
  unfold ldR at h; split at h
  · rename_i c; exact ⟨(mK M a).2, Prod.ext c.1 rfl, c.2, (Option.some.inj h).symm⟩
  · cases h
theorem stR_e {M M1 : Mm} {a t e : Nat} {i : Int32} {v : Nat} (h : stR M a t e i v = some M1) : ∃ n, mK M a = (t, n) ∧ vp_in i n ∧ mK M v = (e + 7, 0) ∧ M1 = sR M a i.toNatClampNeg (some v) := by
  unfold stR at h; split at h
  · rename_i c; exact ⟨(mK M a).2, Prod.ext c.1 rfl, c.2.1, c.2.2, (Option.some.inj h).symm⟩
  · cases h
theorem ldL_e {M : Mm} {a : Nat} {i : Int32} {v : Int64} (h : ldL M a i = some v) : ∃ n, mK M a = (6, n) ∧ vp_in i n ∧ v = mL M a i.toNatClampNeg := by
  unfold ldL at h; split at h
  · rename_i c; exact ⟨(mK M a).2, Prod.ext c.1 rfl, c.2, (Option.some.inj h).symm⟩
  · cases h
theorem stL_e {M M1 : Mm} {a : Nat} {i : Int32} {v : Int64} (h : stL M a i v = some M1) : ∃ n, mK M a = (6, n) ∧ vp_in i n ∧ M1 = sL M a i.toNatClampNeg v := by
  unfold stL at h; split at h
  · rename_i c; exact ⟨(mK M a).2, Prod.ext c.1 rfl, c.2, (Option.some.inj h).symm⟩
  · cases h
theorem lnI_e {M : Mm} {a : Nat} {v : Int32} (h : lnI M a = some v) : ∃ n, mK M a = (1, n) ∧ v = Int32.ofNat n := by
  unfold lnI at h; split at h
  · rename_i c; exact ⟨(mK M a).2, Prod.ext c rfl, (Option.some.inj h).symm⟩
  · cases h
theorem isO_e {M : Mm} {a t : Nat} {u : Unit} (h : isO M a t = some u) : mK M a = (t + 7, 0) := by
  unfold isO at h; split at h
  · rename_i c; exact c
  · cases h
theorem dvI_e {x y v : Int32} (h : dvI x y = some v) : ¬ y = 0 ∧ v = x / y := by
  unfold dvI at h; split at h
  · cases h
  · rename_i c; exact ⟨c, (Option.some.inj h).symm⟩
theorem rmI_e {x y v : Int32} (h : rmI x y = some v) : ¬ y = 0 ∧ v = x - x / y * y := by
  unfold rmI at h; split at h
  · cases h
  · rename_i c; exact ⟨c, (Option.some.inj h).symm⟩
theorem ckZ_e {v : Int32} {u : Unit} (h : ckZ v = some u) : v = 0 ∨ v = 1 := by
  unfold ckZ at h; split at h
  · rename_i c; exact c
  · cases h
theorem ldS_e {j : Nat} {i v : Int32} (h : ldS j i = some v) : vp_in i (sVl j).length ∧ v = (sVl j).getD i.toNatClampNeg 0 := by
  unfold ldS at h; split at h
  · rename_i c; exact ⟨c, (Option.some.inj h).symm⟩
  · cases h
theorem cpI_e {M M1 : Mm} {a b : Nat} {i j n : Int32} (h : cpI M a i b j n = some M1) : ∃ n0 n1, mK M a = (1, n0) ∧ mK M b = (1, n1) ∧ ¬ i < 0 ∧ ¬ j < 0 ∧ ¬ n < 0 ∧ i.toNatClampNeg + n.toNatClampNeg ≤ n0 ∧ j.toNatClampNeg + n.toNatClampNeg ≤ n1 ∧ M1 = sA M b (va_cpy (mI M a) (mI M b) i.toNatClampNeg j.toNatClampNeg n.toNatClampNeg) := by
  unfold cpI at h; split at h
  · rename_i c; exact ⟨(mK M a).2, (mK M b).2, Prod.ext c.1 rfl, Prod.ext c.2.1 rfl, c.2.2.1, c.2.2.2.1, c.2.2.2.2.1, c.2.2.2.2.2.1, c.2.2.2.2.2.2, (Option.some.inj h).symm⟩
  · cases h
