/-! FROM THE MACHINE'S NUMBERS TO WHOLE NUMBERS: a second mirror, over Int, addresses resolved -/
abbrev Jm : Type := Nat → Nat → Int
abbrev Em : Type := (Nat → Nat × Nat) × (Nat → Nat → Option Nat) × (Nat → Nat → Int64) × Nat
/-- the memory's shape is E, its numbers are J -/
def Mre (E : Em) (M : Mm) (J : Jm) : Prop := mK M = E.1 ∧ mR M = E.2.1 ∧ mL M = E.2.2.1 ∧ mN M = E.2.2.2 ∧ ∀ a k, (mI M a k).toInt = J a k
def wr (z : Int) : Int := z.bmod 4294967296
theorem wr_id {z : Int} (h : -2147483648 ≤ z ∧ z ≤ 2147483647) : wr z = z := by unfold wr; rw [Int.bmod_def]; omega
def jW (J : Jm) (a k : Nat) (v : Int) : Jm := up1 J a (up1 (J a) k v)
def jA (J : Jm) (a : Nat) (f : Nat → Int) : Jm := up1 J a f
def jL (J : Jm) (a : Nat) (n i : Int) : Option Int := if 0 ≤ i ∧ i < n then some (J a i.toNat) else none
def jS (J : Jm) (a : Nat) (n i v : Int) : Option Jm := if 0 ≤ i ∧ i < n then some (jW J a i.toNat v) else none
def jR (E : Em) (a : Nat) (n i : Int) : Option (Option Nat) := if 0 ≤ i ∧ i < n then some (E.2.1 a i.toNat) else none
def jZ (z : Int) : Option Unit := if z = 0 ∨ z = 1 then some () else none
def jD (x y : Int) : Option Int := if y = 0 then none else some (wr (x.tdiv y))
def jM (x y : Int) : Option Int := if y = 0 then none else some (x.tmod y)
def jT (j : Nat) (i : Int) : Option Int := if 0 ≤ i ∧ i < ((sVl j).length : Int) then some ((sVl j).getD i.toNat 0).toInt else none
def jtL (j : Nat) : Option Int := if j < 2 then some ((tBy j).length : Int) else none
def jtC (j : Nat) (i : Int) : Option Int := if j < 2 ∧ 0 ≤ i ∧ i < ((tBy j).length : Int) then some ((tBy j).getD i.toNat 0).toInt else none
def jcp (f g : Nat → Int) (i j n : Nat) : Nat → Int := fun k => if j ≤ k ∧ k < j + n then f (i + (k - j)) else g k
def jCp (J : Jm) (a : Nat) (na i : Int) (b : Nat) (nb j n : Int) : Option Jm := if 0 ≤ i ∧ 0 ≤ j ∧ 0 ≤ n ∧ i + n ≤ na ∧ j + n ≤ nb then some (jA J b (jcp (J a) (J b) i.toNat j.toNat n.toNat)) else none
def mxZ (x y : Int) : Int := if x < y then y else x
def mnZ (x y : Int) : Int := if y < x then y else x
def abZ (x : Int) : Int := if 0 ≤ x then x else wr (0 - x)
def b8 (x : Int) : Int := x.bmod 256
def s16 (x : Int) : Int := x.bmod 65536
def Ok {α : Type} (x : Option α) (P : α → Prop) : Prop := ∃ v, x = some v ∧ P v
theorem t_n (n : Nat) (h : n < 2 ^ 31) : (OfNat.ofNat n : Int32).toInt = (n : Int) := by
  show (Int32.ofNat n).toInt = _
  exact nI_toInt h
theorem tm_le {x : Int} (h : 0 ≤ x) (y : Int) : x.tmod y ≤ x := by
  obtain ⟨m, rfl⟩ := Int.eq_ofNat_of_zero_le h
  cases y with
  | ofNat n => exact show ((m % n : Nat) : Int) ≤ m from Int.ofNat_le.mpr (Nat.mod_le m n)
  | negSucc n => exact show ((m % (n + 1) : Nat) : Int) ≤ m from Int.ofNat_le.mpr (Nat.mod_le m (n + 1))
theorem t_add {a b : Int32} {A B : Int} (ha : a.toInt = A) (hb : b.toInt = B) : (a + b).toInt = wr (A + B) := by rw [← ha, ← hb]; exact Int32.toInt_add a b
theorem t_sub {a b : Int32} {A B : Int} (ha : a.toInt = A) (hb : b.toInt = B) : (a - b).toInt = wr (A - B) := by rw [← ha, ← hb]; exact Int32.toInt_sub a b
theorem t_mul {a b : Int32} {A B : Int} (ha : a.toInt = A) (hb : b.toInt = B) : (a * b).toInt = wr (A * B) := by rw [← ha, ← hb]; exact Int32.toInt_mul a b
theorem t_neg {a : Int32} {A : Int} (ha : a.toInt = A) : (-a).toInt = wr (-A) := by rw [← ha]; exact Int32.toInt_neg a
theorem c_lt {a b : Int32} {A B : Int} (ha : a.toInt = A) (hb : b.toInt = B) : a < b ↔ A < B := by rw [← ha, ← hb]; exact Int32.lt_iff_toInt_lt
theorem c_le {a b : Int32} {A B : Int} (ha : a.toInt = A) (hb : b.toInt = B) : a ≤ b ↔ A ≤ B := by rw [← ha, ← hb]; exact Int32.le_iff_toInt_le
theorem c_eq {a b : Int32} {A B : Int} (ha : a.toInt = A) (hb : b.toInt = B) : a = b ↔ A = B := by rw [← ha, ← hb]; exact ⟨fun h => by rw [h], fun h => Int32.toInt_inj.mp h⟩
theorem c_or {p q P Q : Prop} (h1 : p ↔ P) (h2 : q ↔ Q) : p ∨ q ↔ P ∨ Q := by rw [h1, h2]
theorem t_ite {c C : Prop} [Decidable c] [Decidable C] {a b : Int32} {A B : Int} (hc : c ↔ C) (ha : a.toInt = A) (hb : b.toInt = B) : (if c then a else b).toInt = if C then A else B := by
  by_cases h : c
  · rw [if_pos h, if_pos (hc.mp h)]; exact ha
  · rw [if_neg h, if_neg (mt hc.mpr h)]; exact hb
theorem t_mx {a b : Int32} {A B : Int} (ha : a.toInt = A) (hb : b.toInt = B) : (mxI a b).toInt = mxZ A B := t_ite (c_lt ha hb) hb ha
theorem t_mn {a b : Int32} {A B : Int} (ha : a.toInt = A) (hb : b.toInt = B) : (mnI a b).toInt = mnZ A B := t_ite (c_lt hb ha) hb ha
theorem t_ab {a : Int32} {A : Int} (ha : a.toInt = A) : (abI a).toInt = abZ A := t_ite (c_le (a := 0) (A := 0) rfl ha) ha (t_sub (a := 0) (A := 0) rfl ha)
theorem t_b8 {a : Int32} {A : Int} (ha : a.toInt = A) : a.toInt8.toInt32.toInt = b8 A := by rw [← ha, Int8.toInt_toInt32, Int32.toInt_toInt8]; rfl
theorem t_s16 {a : Int32} {A : Int} (ha : a.toInt = A) : a.toInt16.toInt32.toInt = s16 A := by rw [← ha, Int16.toInt_toInt32, Int32.toInt_toInt16]; rfl
theorem t_tn {a : Int32} {A : Int} (ha : a.toInt = A) : a.toNatClampNeg = A.toNat := by rw [← ha]; rfl
theorem t_bd {a : Int32} {A n : Int} {m : Nat} (ha : a.toInt = A) (hn : n = (m : Int)) (h : 0 ≤ A ∧ A < n) : ¬ (a < 0 ∨ m ≤ a.toNatClampNeg) := by
  rw [t_tn ha, c_lt (b := 0) (B := 0) ha rfl]
  omega
theorem ok_b {α β : Type} {x : Option β} {f : β → Option α} {P : α → Prop} {v : β} (e : x = some v) (k : Ok (f v) P) : Ok (x.bind f) P := by rw [e]; exact k
theorem ok_s {α β : Type} {f : β → Option α} {P : α → Prop} {v : β} (k : Ok (f v) P) : Ok ((some v).bind f) P := k
theorem ok_nv {α β : Type} {x v : β} {f : β → Option α} {P : α → Prop} (e : v = x) (k : Ok (f v) P) : Ok (nv x f) P := by rw [← e]; exact k
theorem ok_jp {α κ : Type} {rest : κ} {f : κ → Option α} {P : α → Prop} (k : ∀ k, k = rest → Ok (f k) P) : Ok (jp rest f) P := k rest rfl
theorem ok_t {α : Type} {c : Prop} [Decidable c] {A B : Option α} {P : α → Prop} (hc : c) (k : Ok A P) : Ok (if c then A else B) P := by rw [if_pos hc]; exact k
theorem ok_f {α : Type} {c : Prop} [Decidable c] {A B : Option α} {P : α → Prop} (hc : ¬ c) (k : Ok B P) : Ok (if c then A else B) P := by rw [if_neg hc]; exact k
theorem ok_on {α : Type} {x : Option Nat} {A : Option α} {B : Nat → Option α} {P : α → Prop} (hx : x = none) (k : Ok A P) : Ok (oe x A B) P := by rw [hx]; exact k
theorem ok_os {α : Type} {x : Option Nat} {A : Option α} {B : Nat → Option α} {P : α → Prop} {y : Nat} (hx : x = some y) (k : Ok (B y) P) : Ok (oe x A B) P := by rw [hx]; exact k
theorem oe_nx {β : Type} {x : Option Nat} {A : β} {B : Nat → β} {r : β} (hx : x = none) (h : oe x A B = r) : A = r := by rw [hx] at h; exact h
theorem oe_sx {β : Type} {x : Option Nat} {A : β} {B : Nat → β} {r : β} {y : Nat} (hx : x = some y) (h : oe x A B = r) : B y = r := by rw [hx] at h; exact h
section OPS
variable {E : Em} {M : Mm} {J : Jm} {a t k : Nat}
theorem o_isO (hM : Mre E M J) (hk : E.1 a = (t + 7, 0)) : isO M a t = some () := by unfold isO; rw [hM.1, if_pos hk]
theorem o_rdI (hM : Mre E M J) (hk : E.1 a = (t + 7, 0)) : ∃ v, rdI M a t k = some v ∧ v.toInt = J a k := ⟨mI M a k, by unfold rdI; rw [hM.1, if_pos hk], hM.2.2.2.2 a k⟩
theorem o_rdR (hM : Mre E M J) (hk : E.1 a = (t + 7, 0)) : rdR M a t k = some (E.2.1 a k) := by unfold rdR; rw [hM.1, if_pos hk, hM.2.1]
theorem o_rdS {c : Nat} (hM : Mre E M J) (hk : E.1 a = (t + 7, 0)) (hc : E.2.1 a k = some c) : rdR M a t k = some (some c) := by rw [o_rdR hM hk, hc]
theorem Mre.sI (hM : Mre E M J) {v : Int32} {z : Int} (hv : v.toInt = z) : Mre E (sI M a k v) (jW J a k z) := by
  refine ⟨hM.1, hM.2.1, hM.2.2.1, hM.2.2.2.1, fun b j => ?_⟩
  rw [mI_sI]
  unfold jW up1
  by_cases e : b = a
  · rw [if_pos e, if_pos e]
    by_cases e2 : j = k
    · rw [if_pos e2, if_pos e2]; exact hv
    · rw [if_neg e2, if_neg e2]; exact hM.2.2.2.2 a j
  · rw [if_neg e, if_neg e]; exact hM.2.2.2.2 b j
theorem o_wrI (hM : Mre E M J) (hk : E.1 a = (t + 7, 0)) {v : Int32} {z : Int} (hv : v.toInt = z) {J2 : Jm} (hJ : J2 = jW J a k z) : ∃ M2, wrI M a t k v = some M2 ∧ Mre E M2 J2 := ⟨_, by unfold wrI; rw [hM.1, if_pos hk], by rw [hJ]; exact hM.sI hv⟩
theorem zi {v : Int32} {z : Int} (hv : v.toInt = z) (hz : z = 0 ∨ z = 1) : v = 0 ∨ v = 1 := hz.imp (fun h => (c_eq (b := 0) (B := 0) hv rfl).mpr h) (fun h => (c_eq (b := 1) (B := 1) hv rfl).mpr h)
theorem jZ_e {z : Int} {u : Unit} (h : jZ z = some u) : z = 0 ∨ z = 1 := by
  unfold jZ at h; split at h
  · rename_i c; exact c
  · cases h
theorem o_ckZ {v : Int32} {z : Int} (hv : v.toInt = z) (hz : z = 0 ∨ z = 1) : ckZ v = some () := by unfold ckZ; rw [if_pos (zi hv hz)]
theorem o_wrZ (hM : Mre E M J) (hk : E.1 a = (t + 7, 0)) {v : Int32} {z : Int} (hv : v.toInt = z) (hz : z = 0 ∨ z = 1) {J2 : Jm} (hJ : J2 = jW J a k z) : ∃ M2, wrZ M a t k v = some M2 ∧ Mre E M2 J2 := ⟨_, by unfold wrZ; rw [hM.1, if_pos ⟨hk, zi hv hz⟩], by rw [hJ]; exact hM.sI hv⟩
theorem o_ldI (hM : Mre E M J) {m : Nat} (hk : E.1 a = (1, m)) {n : Int} (hn : n = (m : Int)) {i : Int32} {I z : Int} (hi : i.toInt = I) (e : jL J a n I = some z) : ∃ v, ldI M a i = some v ∧ v.toInt = z := by
  unfold jL at e; split at e
  · rename_i c
    cases e
    exact ⟨mI M a i.toNatClampNeg, by unfold ldI; rw [hM.1, hk, if_pos ⟨rfl, t_bd hi hn c⟩], by rw [t_tn hi]; exact hM.2.2.2.2 a _⟩
  · cases e
theorem o_ldZ (hM : Mre E M J) {m : Nat} (hk : E.1 a = (2, m)) {n : Int} (hn : n = (m : Int)) {i : Int32} {I z : Int} (hi : i.toInt = I) (e : jL J a n I = some z) : ∃ v, ldZ M a i = some v ∧ v.toInt = z := by
  unfold jL at e; split at e
  · rename_i c
    cases e
    exact ⟨mI M a i.toNatClampNeg, by unfold ldZ; rw [hM.1, hk, if_pos ⟨rfl, t_bd hi hn c⟩], by rw [t_tn hi]; exact hM.2.2.2.2 a _⟩
  · cases e
theorem o_stI (hM : Mre E M J) {m : Nat} (hk : E.1 a = (1, m)) {n : Int} (hn : n = (m : Int)) {i v : Int32} {I z : Int} (hi : i.toInt = I) (hv : v.toInt = z) {J2 : Jm} (e : jS J a n I z = some J2) : ∃ M2, stI M a i v = some M2 ∧ Mre E M2 J2 := by
  unfold jS at e; split at e
  · rename_i c
    cases e
    exact ⟨_, by unfold stI; rw [hM.1, hk, if_pos ⟨rfl, t_bd hi hn c⟩], by rw [t_tn hi]; exact hM.sI hv⟩
  · cases e
theorem o_stZ (hM : Mre E M J) {m : Nat} (hk : E.1 a = (2, m)) {n : Int} (hn : n = (m : Int)) {i v : Int32} {I z : Int} (hi : i.toInt = I) (hv : v.toInt = z) (hz : z = 0 ∨ z = 1) {J2 : Jm} (e : jS J a n I z = some J2) : ∃ M2, stZ M a i v = some M2 ∧ Mre E M2 J2 := by
  unfold jS at e; split at e
  · rename_i c
    cases e
    exact ⟨_, by unfold stZ; rw [hM.1, hk, if_pos ⟨rfl, t_bd hi hn c, zi hv hz⟩], by rw [t_tn hi]; exact hM.sI hv⟩
  · cases e
theorem o_ldR (hM : Mre E M J) {m : Nat} (hk : E.1 a = (t, m)) {n : Int} (hn : n = (m : Int)) {i : Int32} {I : Int} {q : Option Nat} (hi : i.toInt = I) (e : jR E a n I = some q) : ldR M a t i = some q ∧ E.2.1 a I.toNat = q := by
  unfold jR at e; split at e
  · rename_i c
    cases e
    exact ⟨by unfold ldR; rw [hM.1, hk, if_pos ⟨rfl, t_bd hi hn c⟩, t_tn hi, hM.2.1], rfl⟩
  · cases e
theorem o_lnI (hM : Mre E M J) {m : Nat} (hk : E.1 a = (1, m)) (hm : m < 2 ^ 31) {n : Int} (hn : n = (m : Int)) : ∃ v, lnI M a = some v ∧ v.toInt = n := ⟨Int32.ofNat m, by unfold lnI; rw [hM.1, hk]; rfl, by rw [hn]; exact t_n m hm⟩
theorem o_dvI {x y : Int32} {A B z : Int} (hx : x.toInt = A) (hy : y.toInt = B) (e : jD A B = some z) : ∃ v, dvI x y = some v ∧ v.toInt = z := by
  unfold jD at e; split at e
  · cases e
  · rename_i c
    cases e
    refine ⟨x / y, by unfold dvI; rw [if_neg (mt (c_eq (b := 0) (B := 0) hy rfl).mp c)], ?_⟩
    rw [← hx, ← hy]; exact Int32.toInt_div x y
theorem tm_e (x y : Int) (hx : -2147483648 ≤ x ∧ x ≤ 2147483647) : wr (x - wr (wr (x.tdiv y) * y)) = x.tmod y := by
  have h1 : x = y * x.tdiv y + x.tmod y := (Int.mul_tdiv_add_tmod x y).symm
  have h2 : wr (x - wr (wr (x.tdiv y) * y)) = wr (x - x.tdiv y * y) := by unfold wr; simp
  rw [h2, show x - x.tdiv y * y = x.tmod y by rw [Int.mul_comm]; omega]
  refine wr_id ?_
  rcases Int.le_total 0 x with h | h
  · have a1 := Int.tmod_nonneg y h
    have a2 : x.tmod y ≤ x := tm_le h y
    omega
  · have a1 : x.tmod y ≤ 0 := by
      have := Int.tmod_nonneg y (show 0 ≤ -x by omega)
      rw [Int.neg_tmod] at this
      omega
    have a2 : (-x).tmod y ≤ -x := tm_le (by omega) y
    rw [Int.neg_tmod] at a2
    omega
theorem o_rmI {x y : Int32} {A B z : Int} (hx : x.toInt = A) (hy : y.toInt = B) (e : jM A B = some z) : ∃ v, rmI x y = some v ∧ v.toInt = z := by
  unfold jM at e; split at e
  · cases e
  · rename_i c
    cases e
    refine ⟨x - x / y * y, by unfold rmI; rw [if_neg (mt (c_eq (b := 0) (B := 0) hy rfl).mp c)], ?_⟩
    have hd : (x / y).toInt = wr (A.tdiv B) := by rw [← hx, ← hy]; exact Int32.toInt_div x y
    rw [t_sub hx (t_mul hd hy)]
    refine tm_e A B ?_
    rw [← hx]
    exact ⟨Int32.minValue_le_toInt x, Int32.toInt_le x⟩
theorem o_ldS {j : Nat} {i : Int32} {I z : Int} (hi : i.toInt = I) (e : jT j I = some z) : ∃ v, ldS j i = some v ∧ v.toInt = z := by
  unfold jT at e; split at e
  · rename_i c
    cases e
    exact ⟨_, by unfold ldS; rw [if_pos (t_bd hi rfl c)], by rw [t_tn hi]⟩
  · cases e
theorem o_txL {j : Nat} {z : Int} (e : jtL j = some z) : ∃ v, txL j = some v ∧ v.toInt = z := by
  unfold jtL at e; split at e
  · rename_i c
    cases e
    exact ⟨Int32.ofNat (tBy j).length, by unfold txL; rw [if_pos c], nI_toInt (tx_sz j c)⟩
  · cases e
theorem o_txC {j : Nat} {i : Int32} {I z : Int} (hi : i.toInt = I) (e : jtC j I = some z) : ∃ v, txC j i = some v ∧ v.toInt = z := by
  unfold jtC at e; split at e
  · rename_i c
    cases e
    exact ⟨_, by unfold txC tChr; rw [if_pos c.1, if_pos (t_bd hi rfl c.2)], by rw [t_tn hi]⟩
  · cases e
theorem o_cpI (hM : Mre E M J) {b m m2 : Nat} (hk : E.1 a = (1, m)) (hk2 : E.1 b = (1, m2)) {na nb : Int} (hna : na = (m : Int)) (hnb : nb = (m2 : Int)) {i j n : Int32} {I Jx N : Int} (hi : i.toInt = I) (hj : j.toInt = Jx) (hn : n.toInt = N) {J2 : Jm} (e : jCp J a na I b nb Jx N = some J2) : ∃ M2, cpI M a i b j n = some M2 ∧ Mre E M2 J2 := by
  unfold jCp at e; split at e
  · rename_i c
    cases e
    have n0 : ∀ {x : Int32} {X : Int}, x.toInt = X → 0 ≤ X → ¬ x < 0 := fun hx h => by rw [c_lt (b := 0) (B := 0) hx rfl]; omega
    refine ⟨_, by unfold cpI; rw [hM.1, hk, hk2, if_pos ⟨rfl, rfl, n0 hi c.1, n0 hj c.2.1, n0 hn c.2.2.1, by rw [t_tn hi, t_tn hn]; dsimp only; omega, by rw [t_tn hj, t_tn hn]; dsimp only; omega⟩], ?_⟩
    refine ⟨hM.1, hM.2.1, hM.2.2.1, hM.2.2.2.1, fun q k => ?_⟩
    rw [mI_sA, t_tn hi, t_tn hj, t_tn hn]
    unfold jA up1
    by_cases e : q = b
    · rw [if_pos e, if_pos e]
      unfold va_cpy jcp
      split
      · exact hM.2.2.2.2 a _
      · exact hM.2.2.2.2 b _
    · rw [if_neg e, if_neg e]; exact hM.2.2.2.2 q k
  · cases e
end OPS
