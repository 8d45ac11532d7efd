/-! THE SHAPES: which cell hangs on which, at which distance (as the constructors lay them) -/
def Wa (E : Em) (a : Nat) : Prop := (E.1 a).1 = 1 ∧ (E.1 a).2 < 2147483648
theorem Wa.k {E : Em} {a : Nat} (h : Wa E a) : E.1 a = (1, (E.1 a).2) := Prod.ext h.1 rfl
/-- an object of DeepWings$Glider, and what hangs on it -/
def W0 (E : Em) (a : Nat) : Prop := E.1 a = (0 + 7, 0) ∧ (E.2.1 a 11 = some (a + 1) ∧ E.1 (a + 1) = (1, 400))
/-- an object of DeepWings$Mail, and what hangs on it -/
def W1 (E : Em) (a : Nat) : Prop := E.1 a = (1 + 7, 0) ∧ (E.2.1 a 1 = some (a + 1) ∧ E.1 (a + 1) = (1, 60)) ∧ (E.2.1 a 2 = some (a + 2) ∧ E.1 (a + 2) = (1, 60)) ∧ (E.2.1 a 3 = some (a + 3) ∧ E.1 (a + 3) = (1, 60)) ∧ (E.2.1 a 4 = some (a + 4) ∧ E.1 (a + 4) = (1, 60))
/-- an object of DeepWings$Order, and what hangs on it -/
def W2 (E : Em) (a : Nat) : Prop := E.1 a = (2 + 7, 0) ∧ (E.2.1 a 2 = some (a + 1) ∧ E.1 (a + 1) = (1, 6)) ∧ (E.2.1 a 3 = some (a + 2) ∧ E.1 (a + 2) = (1, 6)) ∧ (E.2.1 a 4 = some (a + 3) ∧ E.1 (a + 3) = (1, 6)) ∧ (E.2.1 a 5 = some (a + 4) ∧ E.1 (a + 4) = (1, 6)) ∧ (E.2.1 a 6 = some (a + 5) ∧ E.1 (a + 5) = (1, 20)) ∧ (E.2.1 a 7 = some (a + 6) ∧ E.1 (a + 6) = (1, 20)) ∧ (E.2.1 a 8 = some (a + 7) ∧ E.1 (a + 7) = (1, 20)) ∧ (E.2.1 a 9 = some (a + 8) ∧ E.1 (a + 8) = (2, 20))
/-- an object of DeepWings$Streams, and what hangs on it -/
def W9 (E : Em) (a : Nat) : Prop := E.1 a = (9 + 7, 0) ∧ (E.2.1 a 0 = some (a + 1) ∧ E.1 (a + 1) = (1, 320)) ∧ (E.2.1 a 1 = some (a + 2) ∧ E.1 (a + 2) = (1, 320))
/-- an object of DeepWings$Path, and what hangs on it -/
def W4 (E : Em) (a : Nat) : Prop := E.1 a = (4 + 7, 0)
/-- an object of DeepWings$Probes, and what hangs on it -/
def W6 (E : Em) (a : Nat) : Prop := E.1 a = (6 + 7, 0) ∧ (E.2.1 a 1 = some (a + 1) ∧ E.1 (a + 1) = (1, 200)) ∧ (E.2.1 a 2 = some (a + 2) ∧ E.1 (a + 2) = (1, 200)) ∧ (E.2.1 a 3 = some (a + 3) ∧ E.1 (a + 3) = (1, 200)) ∧ (E.2.1 a 4 = some (a + 4) ∧ E.1 (a + 4) = (1, 200)) ∧ (E.2.1 a 5 = some (a + 5) ∧ E.1 (a + 5) = (1, 200)) ∧ (E.2.1 a 6 = some (a + 6) ∧ E.1 (a + 6) = (1, 200)) ∧ (E.2.1 a 8 = some (a + 7) ∧ E.1 (a + 7) = (1, 60)) ∧ (E.2.1 a 9 = some (a + 8) ∧ E.1 (a + 8) = (1, 60)) ∧ (E.2.1 a 10 = some (a + 9) ∧ E.1 (a + 9) = (1, 60)) ∧ (E.2.1 a 11 = some (a + 10) ∧ E.1 (a + 10) = (1, 60))
/-- an object of DeepWings$Shelf, and what hangs on it -/
def W8 (E : Em) (a : Nat) : Prop := E.1 a = (8 + 7, 0) ∧ (E.2.1 a 3 = some (a + 1) ∧ E.1 (a + 1) = (1, 80))
/-- an object of DeepWings$Sea, and what hangs on it -/
def W7 (E : Em) (a : Nat) : Prop := E.1 a = (7 + 7, 0) ∧ (E.2.1 a 0 = some (a + 1) ∧ E.1 (a + 1) = (1, 80)) ∧ (E.2.1 a 1 = some (a + 2) ∧ E.1 (a + 2) = (1, 80)) ∧ (E.2.1 a 2 = some (a + 3) ∧ E.1 (a + 3) = (1, 80)) ∧ (E.2.1 a 3 = some (a + 4) ∧ E.1 (a + 4) = (1, 320)) ∧ (E.2.1 a 4 = some (a + 5) ∧ E.1 (a + 5) = (1, 320)) ∧ (E.2.1 a 5 = some (a + 6) ∧ W9 E (a + 6)) ∧ (E.2.1 a 6 = some (a + 9) ∧ W9 E (a + 9))
/-- an object of DeepWings$OrderReader, and what hangs on it -/
def W3 (E : Em) (a : Nat) : Prop := E.1 a = (3 + 7, 0) ∧ (∀ q, E.2.1 a 0 = some q → W2 E q) ∧ (∀ q, E.2.1 a 1 = some q → Wa E q)
/-- an object of DeepWings$World, and what hangs on it -/
def W10 (E : Em) (a : Nat) : Prop := E.1 a = (10 + 7, 0) ∧ (E.2.1 a 0 = some (a + 1) ∧ W7 E (a + 1)) ∧ (E.2.1 a 1 = some (a + 13) ∧ E.1 (a + 13) = (3, 8) ∧ ∀ j g, E.2.1 (a + 13) j = some g → W0 E g) ∧ (E.2.1 a 5 = some (a + 14) ∧ E.1 (a + 14) = (1, 401)) ∧ (E.2.1 a 6 = some (a + 15) ∧ E.1 (a + 15) = (4, 10) ∧ ∀ j g, E.2.1 (a + 15) j = some g → W2 E g) ∧ (E.2.1 a 8 = some (a + 16) ∧ W1 E (a + 16)) ∧ (E.2.1 a 9 = some (a + 21) ∧ W6 E (a + 21)) ∧ (E.2.1 a 10 = some (a + 32) ∧ W4 E (a + 32))
/-- an object of DeepWings$Planner, and what hangs on it -/
def W5 (E : Em) (a : Nat) : Prop := E.1 a = (5 + 7, 0) ∧ (∀ q, E.2.1 a 0 = some q → W10 E q) ∧ (∀ q, E.2.1 a 1 = some q → W7 E q) ∧ (E.2.1 a 2 = some (a + 1) ∧ E.1 (a + 1) = (1, 3)) ∧ (E.2.1 a 4 = some (a + 2) ∧ E.1 (a + 2) = (1, 3)) ∧ (E.2.1 a 5 = some (a + 3) ∧ E.1 (a + 3) = (1, 123)) ∧ (E.2.1 a 6 = some (a + 4) ∧ E.1 (a + 4) = (1, 123)) ∧ (E.2.1 a 7 = some (a + 5) ∧ E.1 (a + 5) = (1, 123)) ∧ (E.2.1 a 8 = some (a + 6) ∧ E.1 (a + 6) = (1, 4)) ∧ (E.2.1 a 9 = some (a + 7) ∧ E.1 (a + 7) = (1, 80)) ∧ (E.2.1 a 10 = some (a + 8) ∧ E.1 (a + 8) = (1, 15)) ∧ (E.2.1 a 11 = some (a + 9) ∧ E.1 (a + 9) = (1, 3)) ∧ (E.2.1 a 12 = some (a + 10) ∧ E.1 (a + 10) = (1, 3))
/-- an object of DeepWings, and what hangs on it -/
def W11 (E : Em) (a : Nat) : Prop := E.1 a = (11 + 7, 0) ∧ (E.2.1 a 0 = some (a + 1) ∧ W10 E (a + 1)) ∧ (E.2.1 a 1 = some (a + 34) ∧ W5 E (a + 34)) ∧ (E.2.1 a 2 = some (a + 45) ∧ W3 E (a + 45)) ∧ (E.2.1 a 3 = some (a + 56) ∧ E.1 (a + 56) = (5, 8) ∧ ∀ j g, E.2.1 (a + 56) j = some g → W8 E g) ∧ (∀ q, E.2.1 a 4 = some q → W10 E q)
/-- an object of DeepWingsModel, and what hangs on it -/
def W12 (E : Em) (a : Nat) : Prop := E.1 a = (12 + 7, 0) ∧ (E.2.1 a 1 = some (a + 1) ∧ E.1 (a + 1) = (1, 8369)) ∧ (E.2.1 a 2 = some (a + 2) ∧ E.1 (a + 2) = (1, 8369)) ∧ (E.2.1 a 8 = some (a + 3) ∧ E.1 (a + 3) = (1, 80)) ∧ (E.2.1 a 21 = some (a + 4) ∧ E.1 (a + 4) = (1, 3)) ∧ (E.2.1 a 22 = some (a + 5) ∧ E.1 (a + 5) = (1, 243)) ∧ (E.2.1 a 23 = some (a + 6) ∧ E.1 (a + 6) = (1, 3)) ∧ (E.2.1 a 24 = some (a + 7) ∧ E.1 (a + 7) = (1, 3)) ∧ (E.2.1 a 25 = some (a + 8) ∧ E.1 (a + 8) = (1, 80)) ∧ (E.2.1 a 28 = some (a + 9) ∧ E.1 (a + 9) = (1, 8)) ∧ (E.2.1 a 29 = some (a + 10) ∧ E.1 (a + 10) = (1, 8)) ∧ (E.2.1 a 30 = some (a + 11) ∧ E.1 (a + 11) = (1, 8)) ∧ (E.2.1 a 31 = some (a + 12) ∧ E.1 (a + 12) = (1, 8)) ∧ (E.2.1 a 32 = some (a + 13) ∧ E.1 (a + 13) = (1, 8)) ∧ (E.2.1 a 33 = some (a + 14) ∧ E.1 (a + 14) = (1, 8)) ∧ (E.2.1 a 34 = some (a + 15) ∧ E.1 (a + 15) = (1, 8)) ∧ (E.2.1 a 35 = some (a + 16) ∧ E.1 (a + 16) = (1, 640)) ∧ (E.2.1 a 36 = some (a + 17) ∧ E.1 (a + 17) = (1, 80))
theorem oq_c (x : Option Nat) : x = none ∨ ∃ y, x = some y := by
  cases x with
  | none => exact Or.inl rfl
  | some y => exact Or.inr ⟨y, rfl⟩
theorem t_l64 {a : Int32} {A : Int} (ha : a.toInt = A) : a.toInt64.toInt = A := by rw [← ha]; exact Int32.toInt_toInt64 a
theorem o_ril {E : Em} {M : Mm} {J J1 : Jm} {v : Int64} {Z z : Int} (tv : v.toInt = Z) (hM : Mre E M J) (h : some (Z, J) = some (z, J1)) : Ok (some (v, M)) (fun q => q.1.toInt = z ∧ Mre E q.2 J1) := by cases h; exact ⟨_, rfl, tv, hM⟩
theorem o_ril0 {E : Em} {M : Mm} {J : Jm} {v : Int64} {Z z : Int} (tv : v.toInt = Z) (hM : Mre E M J) (h : some Z = some z) : Ok (some (v, M)) (fun q => q.1.toInt = z ∧ Mre E q.2 J) := by cases h; exact ⟨_, rfl, tv, hM⟩
theorem o_rv {E : Em} {M : Mm} {J J1 : Jm} (hM : Mre E M J) (h : some J = some J1) : Ok (some M) (fun q => Mre E q J1) := by cases h; exact ⟨M, rfl, hM⟩
theorem o_rv0 {E : Em} {M : Mm} {J : Jm} (hM : Mre E M J) : Ok (some M) (fun q => Mre E q J) := ⟨M, rfl, hM⟩
theorem o_ri {E : Em} {M : Mm} {J J1 : Jm} {v : Int32} {Z z : Int} (tv : v.toInt = Z) (hM : Mre E M J) (h : some (Z, J) = some (z, J1)) : Ok (some (v, M)) (fun q => q.1.toInt = z ∧ Mre E q.2 J1) := by cases h; exact ⟨_, rfl, tv, hM⟩
theorem o_ri0 {E : Em} {M : Mm} {J : Jm} {v : Int32} {Z z : Int} (tv : v.toInt = Z) (hM : Mre E M J) (h : some Z = some z) : Ok (some (v, M)) (fun q => q.1.toInt = z ∧ Mre E q.2 J) := by cases h; exact ⟨_, rfl, tv, hM⟩
theorem o_rr {E : Em} {M : Mm} {J J1 : Jm} {v z : Option Nat} {W : Nat → Prop} (hM : Mre E M J) (h : some (v, J) = some (z, J1)) (w : ∀ y, v = some y → W y) : Ok (some (v, M)) (fun q => q.1 = z ∧ Mre E q.2 J1 ∧ ∀ y, q.1 = some y → W y) := by cases h; exact ⟨_, rfl, rfl, hM, w⟩
theorem o_rr0 {E : Em} {M : Mm} {J : Jm} {v z : Option Nat} {W : Nat → Prop} (hM : Mre E M J) (h : some v = some z) (w : ∀ y, v = some y → W y) : Ok (some (v, M)) (fun q => q.1 = z ∧ Mre E q.2 J ∧ ∀ y, q.1 = some y → W y) := by cases h; exact ⟨_, rfl, rfl, hM, w⟩
