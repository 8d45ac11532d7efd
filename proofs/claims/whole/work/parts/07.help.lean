/-! SMALL HELPS for rows that a program lays -/
/-- a named value -/
def nv {α β : Type} (x : α) (f : α → β) : β := f x
theorem nv_e {α β : Type} {x : α} {f : α → β} {r : β} (h : nv x f = r) : ∃ v, v = x ∧ f v = r := ⟨x, rfl, h⟩
def oe {β : Type} (x : Option Nat) (A : β) (B : Nat → β) : β := match x with
  | none => A
  | some y => B y
theorem oe_n {β : Type} {A : β} {B : Nat → β} {r : β} (h : oe none A B = r) : A = r := h
theorem oe_s {β : Type} {y : Nat} {A : β} {B : Nat → β} {r : β} (h : oe (some y) A B = r) : B y = r := h
theorem it_t {c : Prop} [Decidable c] {β : Type} {A B r : β} (hc : c) (h : (if c then A else B) = r) : A = r := by rw [if_pos hc] at h; exact h
theorem it_f {c : Prop} [Decidable c] {β : Type} {A B r : β} (hc : ¬ c) (h : (if c then A else B) = r) : B = r := by rw [if_neg hc] at h; exact h
theorem sw_out {x : Int32} {lo : Int} {n : Nat} (h : ∀ j : Nat, j < n → ¬ x = Int32.ofInt (lo + j)) : x.toInt < lo ∨ lo + n - 1 < x.toInt := by
  rcases Classical.em (x.toInt < lo) with q | q
  · exact Or.inl q
  · rcases Classical.em (lo + n - 1 < x.toInt) with q2 | q2
    · exact Or.inr q2
    · exfalso
      refine h (x.toInt - lo).toNat (by omega) ?_
      rw [show lo + ((x.toInt - lo).toNat : Int) = x.toInt by omega, Int32.ofInt_toInt]
section HELPROWS
variable {Γ : Gm} {X : Ct} {cc : ByteArray} {own : String} {ret : Option FieldType} {nL : Nat} {M : Mm} {cells slots : Nat} {Q : State → Prop} {pc : Nat} {lv : List (Nat × Value)} {st : List Value}
theorem g_tbl (hC : Cx Γ X cc own ret nL) {dflt lo hi : Int} {offs : Array Int} {len : Nat} {x v : Int32} {off : Int} (tgt : Nat) (hx : x = v) (hdg : decode cc pc = .ok (.tableswitch dflt lo hi offs, len)) (h : ¬ v.toInt < lo ∧ ¬ hi < v.toInt ∧ offs[(v.toInt - lo).toNat]? = some off ∧ (pc : Int) + off = (tgt : Int)) (k : G Γ X nL M cells slots Q tgt lv st) : G Γ X nL M cells slots Q pc lv (.int x :: st) := by
  subst hx
  exact g_tblIn hC tgt hdg h.1 h.2.1 h.2.2.1 h.2.2.2 k
theorem g_tbd (hC : Cx Γ X cc own ret nL) {dflt lo hi : Int} {offs : Array Int} {len n : Nat} {x : Int32} (tgt : Nat) (hx : ∀ j : Nat, j < n → ¬ x = Int32.ofInt (lo + j)) (hn : lo + n - 1 = hi) (hdg : decode cc pc = .ok (.tableswitch dflt lo hi offs, len)) (ht : (pc : Int) + dflt = (tgt : Int)) (k : G Γ X nL M cells slots Q tgt lv st) : G Γ X nL M cells slots Q pc lv (.int x :: st) :=
  g_tblOut hC tgt hdg (hn ▸ sw_out hx) ht k
theorem g_lkp (hC : Cx Γ X cc own ret nL) {dflt : Int} {ps : Array (Int × Int)} {len : Nat} {x v : Int32} {off : Int} (tgt : Nat) (hx : x = v) (hdg : decode cc pc = .ok (.lookupswitch dflt ps, len)) (h : (ps.toList.zip (ps.toList.drop 1)).all (fun (a, next) => a.1 < next.1) = true ∧ Op.lookupswitch.offset ps.toList dflt v.toInt = off ∧ (pc : Int) + off = (tgt : Int)) (k : G Γ X nL M cells slots Q tgt lv st) : G Γ X nL M cells slots Q pc lv (.int x :: st) := by
  subst hx
  exact g_lookup hC tgt hdg h.1 h.2.1 h.2.2 k
theorem lk_out {x : Int32} {dflt : Int} : ∀ (l : List (Int × Int)), (∀ p ∈ l, p.1 = (Int32.ofInt p.1).toInt ∧ ¬ x = Int32.ofInt p.1) → Op.lookupswitch.offset l dflt x.toInt = dflt
  | [], _ => by simp [Op.lookupswitch.offset]
  | p :: l, h => by
    have h1 := h p List.mem_cons_self
    have ih := lk_out (dflt := dflt) l (fun q hq => h q (List.mem_cons_of_mem _ hq))
    have ne : ¬ p.1 = x.toInt := fun e => h1.2 (by rw [e, Int32.ofInt_toInt])
    simp [Op.lookupswitch.offset, ne] at ih ⊢
    try exact ih
theorem g_newO2 (hC : Cx Γ X cc own ret nL) {idx t n a : Nat} {M1 : Mm} {q : vw_C} {ty0 : Nat → FieldType} (ea : a = mN M) (eM : M1 = nw M (t + 7, 0)) (hcl : ClOk t q ty0) (hn : q.2.2 = n) (hlink : Cond.classLink own idx q.1 ∈ lw_g) (hinst : Cond.instantiable q.1 q.2.2 ∈ lw_g) (hini : Cond.initialized q.1 ∈ lw_g)
    (hd : ∀ j : Nat, j < q.2.2 → defaultValue (ty0 j) = oV t (fun _ => 0) (fun _ => none) j) (hroom : cells + 1 ≤ X.2.2.2.1.cells ∧ slots + n ≤ X.2.2.2.1.slots) (hdg : decode cc pc = .ok (.new idx, 3)) (kk : G Γ X nL M1 (cells + 1) (slots + n) Q (pc + 3) lv (.ref a :: st)) : G Γ X nL M cells slots Q pc lv st := by
  subst ea eM
  exact g_newO hC hcl hn hlink hinst hini hd hroom hdg kk
theorem g_newI2 (hC : Cx Γ X cc own ret nL) {N a : Nat} {i : Int32} {M1 : Mm} (ea : a = mN M) (eM : M1 = nw M (1, N)) (harr : Cond.arrayClass .int ∈ lw_g) (hi : ¬ i < 0 ∧ i.toNatClampNeg = N ∧ N * 4 ≤ 536870912) (hroom : cells + 1 ≤ X.2.2.2.1.cells ∧ slots + N ≤ X.2.2.2.1.slots) (hdg : decode cc pc = .ok (.newarray .int, 2))
    (kk : G Γ X nL M1 (cells + 1) (slots + N) Q (pc + 2) lv (.ref a :: st)) : G Γ X nL M cells slots Q pc lv (.int i :: st) := by
  subst ea eM
  exact g_newI hC harr hi hroom hdg kk
theorem g_newZ2 (hC : Cx Γ X cc own ret nL) {N a : Nat} {i : Int32} {M1 : Mm} (ea : a = mN M) (eM : M1 = nw M (2, N)) (harr : Cond.arrayClass .boolean ∈ lw_g) (hi : ¬ i < 0 ∧ i.toNatClampNeg = N ∧ N * 1 ≤ 536870912) (hroom : cells + 1 ≤ X.2.2.2.1.cells ∧ slots + N ≤ X.2.2.2.1.slots) (hdg : decode cc pc = .ok (.newarray .boolean, 2))
    (kk : G Γ X nL M1 (cells + 1) (slots + N) Q (pc + 2) lv (.ref a :: st)) : G Γ X nL M cells slots Q pc lv (.int i :: st) := by
  subst ea eM
  exact g_newZ hC harr hi hroom hdg kk
theorem g_newL2 (hC : Cx Γ X cc own ret nL) {N a : Nat} {i : Int32} {M1 : Mm} (ea : a = mN M) (eM : M1 = nw M (6, N)) (harr : Cond.arrayClass .long ∈ lw_g) (hi : ¬ i < 0 ∧ i.toNatClampNeg = N ∧ N * 8 ≤ 536870912) (hroom : cells + 1 ≤ X.2.2.2.1.cells ∧ slots + N ≤ X.2.2.2.1.slots) (hdg : decode cc pc = .ok (.newarray .long, 2))
    (kk : G Γ X nL M1 (cells + 1) (slots + N) Q (pc + 2) lv (.ref a :: st)) : G Γ X nL M cells slots Q pc lv (.int i :: st) := by
  subst ea eM
  exact g_newL hC harr hi hroom hdg kk
theorem g_newR2 (hC : Cx Γ X cc own ret nL) {N t idx a : Nat} {i : Int32} {M1 : Mm} (ea : a = mN M) (eM : M1 = nw M (t, N)) (ht : t = 3 ∨ t = 4 ∨ t = 5) (hlink : Cond.classLink own idx (rCl t) ∈ lw_g) (hi : ¬ i < 0 ∧ i.toNatClampNeg = N ∧ N * 4 ≤ 536870912) (hroom : cells + 1 ≤ X.2.2.2.1.cells ∧ slots + N ≤ X.2.2.2.1.slots) (hdg : decode cc pc = .ok (.anewarray idx, 3))
    (kk : G Γ X nL M1 (cells + 1) (slots + N) Q (pc + 3) lv (.ref a :: st)) : G Γ X nL M cells slots Q pc lv (.int i :: st) := by
  subst ea eM
  exact g_newR hC ht hlink hi hroom hdg kk
theorem g_ldcT (hC : Cx Γ X cc "DeepWings$OrderReader" ret nL) {idx : Nat} (j : Nat) (hj : (idx = 55 ∧ j = 0) ∨ (idx = 61 ∧ j = 1)) (hdg : decode cc pc = .ok (.ldc idx, 2)) (kk : G Γ X nL M cells slots Q (pc + 2) lv (.ref (Γ.2.2.2.1.1 j) :: st)) : G Γ X nL M cells slots Q pc lv st := by
  rcases hj with ⟨rfl, rfl⟩ | ⟨rfl, rfl⟩
  · exact fun H locs ls hS hv hl => va_ldcS hC.1 hC.2.1 hC.2.2.2.1 hC.2.2.2.2.2.2.2.1.2.2.1.2.2.1 hdg (kk H locs ls hS hv hl)
  · exact fun H locs ls hS hv hl => va_ldcS hC.1 hC.2.1 hC.2.2.2.1 hC.2.2.2.2.2.2.2.1.2.2.1.2.2.2.1 hdg (kk H locs ls hS hv hl)
end HELPROWS
def txL (j : Nat) : Option Int32 := if j < 2 then some (Int32.ofNat (tBy j).length) else none
def txC (j : Nat) (i : Int32) : Option Int32 := if j < 2 then tChr j i else none
section HELPROWS2
variable {Γ : Gm} {X : Ct} {cc : ByteArray} {own : String} {ret : Option FieldType} {nL : Nat} {M : Mm} {cells slots : Nat} {Q : State → Prop} {pc : Nat} {lv : List (Nat × Value)} {st : List Value}
theorem g_getsN (hC : Cx Γ X cc own ret nL) {idx : Nat} (j : Nat) (hj : j < 4) (hlink : Cond.fieldLinkNest own idx "DeepWings" (sNm j) "[I" "DeepWings" ∈ lw_n) (hdg : decode cc pc = .ok (.getstatic idx, 3)) (kk : G Γ X nL M cells slots Q (pc + 3) lv (.ref (Γ.2.2.1 j) :: st)) : G Γ X nL M cells slots Q pc lv st :=
  fun H locs ls hS hv hl => va_getsN hC.1 hC.2.1 (hC.2.2.2.2.2.2.2.1.2.1 j hj).1 hv hC.2.2.2.1 (va_Nw.use rfl (hC.2.2.2.2.2.2.2.1.2.2.2.1 _ hlink)) (fun _ h => h) hdg (kk H locs ls hS hv hl)
end HELPROWS2
