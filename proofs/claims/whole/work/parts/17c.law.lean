/-! THE LAW'S LOOP -/
def Ops (R : Mm → Prop) (ax am ao : Nat) : Prop := Op_0 R ax am ∧ Op_1 R ax am ∧ Op_2 R ax am ∧ Op_3 R ax am ∧ Op_4 R ax am ∧ Op_5 R ax am ∧ Op_6 R ax am ∧ Op_7 R ax am ∧ Op_8 R ax am ∧ Op_9 R ax am ∧ Op_10 R ax am ∧ Op_11 R ax am ∧ Op_12 R ax am ∧ Op_13 R ax am ∧ Op_14 R ax am ∧ Op_15 R ax am ∧ Op_16 R ax am ∧ Op_17 R ax am ∧ Op_18 R ax am ∧ Op_19 R ax am ao ∧ Op_20 R ax am ∧ Op_21 R ax am ∧ Op_22 R ax am ∧ Op_23 R ax am ∧ Op_24 R ax am ∧ Op_25 R ax am ∧ Op_26 R ax am ∧ Op_27 R ax am ∧ Op_28 R ax am ∧ Op_29 R ax am ∧ Op_30 R ax am ∧ Op_31 R ax am ∧ Op_32 R ax am ∧ Op_33 R ax am ∧ Op_34 R ax am ao ∧ Op_35 R ax am ∧ Op_36 R ax am ∧ Op_37 R ax am
theorem and63 (x : Int32) : ∃ j : Nat, j < 64 ∧ x &&& 63 = Int32.ofNat j := by
  refine ⟨(x &&& 63).toBitVec.toNat, ?_, ?_⟩
  · rw [Int32.toBitVec_and, BitVec.toNat_and]
    exact Nat.lt_succ_of_le (Nat.le_trans Nat.and_le_right (by decide))
  · apply Int32.toBitVec_inj.mp
    rw [Int32.toBitVec_ofNat', BitVec.ofNat_toNat, BitVec.setWidth_eq]
theorem cmp7 {L n : Nat} (hL : L ≤ 3584) (hn : n ≤ 4000) (h : ¬ Int32.ofNat L - 7 < Int32.ofNat n) : n + 7 ≤ L := by
  rw [Int32.lt_iff_toInt_lt, t_sub (i32_nn (n := L) (by omega)) (t_n 7 (by omega)), i32_nn hn, wr_id (by omega)] at h
  omega
theorem le_ad {a c k : Nat} (h : a + 51 * (k + 1) ≤ 601024) (hc : c ≤ 51) : a + c ≤ 601024 := by omega
theorem le_as {a c k : Nat} (h : a + 8009 * (k + 1) ≤ 7293034) (hc : c ≤ 8009) : a + c ≤ 7293034 := by omega
set_option maxHeartbeats 4000000 in
set_option maxRecDepth 100000 in
theorem law_loop {Γ : Gm} {X : Ct} {Q : State → Prop} {b L ax am ao : Nat} {xs : Nat → Int32} {R : Mm → Prop} (hC : Cx Γ X cL_law RL (some .boolean) 8) (hX : Scr Γ X b L xs) (hL : L ≤ 3584) (hSt : X.2.1.stackTraces = false) (hRm : X.2.2.2.1 = ({ frames := 2048, cells := 601024, slots := 7293034, locals := 84000 } : Room)) (ho : Ops R ax am ao)
    (hend : ∀ (M : Mm) (cells slots : Nat) (lv : List (Nat × Value)), cells ≤ 601024 → slots ≤ 7293034 → G Γ X 8 M cells slots Q 1794 lv []) :
    ∀ (k n : Nat) (M : Mm) (cells slots : Nat), n ≤ 3584 → L < n + 7 * k + 7 → cells + 51 * k ≤ 601024 → slots + 8009 * k ≤ 7293034 → R M → G Γ X 8 M cells slots Q 23 ([(4, .int (Int32.ofNat n)), (3, .ref ao), (2, .ref am), (1, .ref ax), (0, .ref b)]) [] := by
  have head : ∀ (n : Nat) (M : Mm) (cells slots : Nat), n ≤ 3584 → cells ≤ 601024 → slots ≤ 7293034 → (n + 7 ≤ L → G Γ X 8 M cells slots Q 33 ([(4, .int (Int32.ofNat n)), (3, .ref ao), (2, .ref am), (1, .ref ax), (0, .ref b)]) []) → G Γ X 8 M cells slots Q 23 ([(4, .int (Int32.ofNat n)), (3, .ref ao), (2, .ref am), (1, .ref ax), (0, .ref b)]) [] := by
    intro n M cells slots hn h1 h2 kk
    refine g_iload hC 0 dL_law_23 rfl ?_
    refine g_aload_n hC 4 dL_law_25 rfl ?_
    refine g_slen hC hX dL_law_26 ?_
    refine g_bipush hC 7 dL_law_27 (by decide) ?_
    refine g_isub hC dL_law_29 ?_
    exact g_icmp_gt hC 1794 dL_law_30 (by decide) (fun _ => hend M cells slots _ h1 h2) (fun hg => kk (cmp7 hL (by omega) hg))
  intro k
  induction k with
  | zero =>
    intro n M cells slots hn hk h1 h2 hR
    exact head n M cells slots hn (by omega) (by omega) (fun h => absurd h (by omega))
  | succ k ih =>
    intro n M cells slots hn hk h1 h2 hR
    refine head n M cells slots hn (by omega) (by omega) (fun hnL => ?_)
    have kk : ∀ (c s : Nat) (M2 : Mm), c ≤ 51 → s ≤ 8009 → R M2 → G Γ X 8 M2 (cells + c) (slots + s) Q 1788 ([(4, .int (Int32.ofNat n)), (3, .ref ao), (2, .ref am), (1, .ref ax), (0, .ref b)]) [] := by
      intro c s M2 hc hs hR2
      refine g_iinc hC 0 (Int32.ofNat (n + 7)) ([(4, .int (Int32.ofNat (n + 7))), (3, .ref ao), (2, .ref am), (1, .ref ax), (0, .ref b)]) dL_law_1788 rfl (Int32.ofNat_add n 7).symm (by decide) rfl ?_
      refine g_goto hC 23 dL_law_1791 (by decide) ?_
      by_cases h9 : n + 7 ≤ 3584
      · exact ih (n + 7) M2 (cells + c) (slots + s) h9 (by omega) (by omega) (by omega) hR2
      · exact absurd h9 (by omega)
    refine g_aload_n hC 4 dL_law_33 rfl ?_
    refine g_iload hC 0 dL_law_34 rfl ?_
    refine g_sld0 hC hX (by omega) hL dL_law_36 ?_
    refine g_bipush hC 63 dL_law_37 (by decide) ?_
    refine g_iand hC dL_law_39 ?_
    obtain ⟨j, hj, ej⟩ := and63 (xs n)
    rw [ej]
    by_cases hjj : j < 38
    · match j, hjj with
      | 0, _ => exact g_tblIn (off := 168) hC 208 dL_law_40 (by decide) (by decide) (by decide) (by decide) (law_0 hC hX hL hnL hSt hRm (ho.1) hR ⟨le_ad (k := k) h1 (Nat.le_of_ble_eq_true rfl), le_as (k := k) h2 (Nat.le_of_ble_eq_true rfl)⟩ (fun M2 h2 => kk 0 0 M2 (Nat.le_of_ble_eq_true rfl) (Nat.le_of_ble_eq_true rfl) h2))
      | 1, _ => exact g_tblIn (off := 229) hC 269 dL_law_40 (by decide) (by decide) (by decide) (by decide) (law_1 hC hX hL hnL hSt hRm (ho.2.1) hR ⟨le_ad (k := k) h1 (Nat.le_of_ble_eq_true rfl), le_as (k := k) h2 (Nat.le_of_ble_eq_true rfl)⟩ (fun M2 h2 => kk 0 0 M2 (Nat.le_of_ble_eq_true rfl) (Nat.le_of_ble_eq_true rfl) h2))
      | 2, _ => exact g_tblIn (off := 332) hC 372 dL_law_40 (by decide) (by decide) (by decide) (by decide) (law_2 hC hX hL hnL hSt hRm (ho.2.2.1) hR ⟨le_ad (k := k) h1 (Nat.le_of_ble_eq_true rfl), le_as (k := k) h2 (Nat.le_of_ble_eq_true rfl)⟩ (fun M2 h2 => kk 0 0 M2 (Nat.le_of_ble_eq_true rfl) (Nat.le_of_ble_eq_true rfl) h2))
      | 3, _ => exact g_tblIn (off := 393) hC 433 dL_law_40 (by decide) (by decide) (by decide) (by decide) (law_3 hC hX hL hnL hSt hRm (ho.2.2.2.1) hR ⟨le_ad (k := k) h1 (Nat.le_of_ble_eq_true rfl), le_as (k := k) h2 (Nat.le_of_ble_eq_true rfl)⟩ (fun M2 h2 => kk 0 0 M2 (Nat.le_of_ble_eq_true rfl) (Nat.le_of_ble_eq_true rfl) h2))
      | 4, _ => exact g_tblIn (off := 454) hC 494 dL_law_40 (by decide) (by decide) (by decide) (by decide) (law_4 hC hX hL hnL hSt hRm (ho.2.2.2.2.1) hR ⟨le_ad (k := k) h1 (Nat.le_of_ble_eq_true rfl), le_as (k := k) h2 (Nat.le_of_ble_eq_true rfl)⟩ (fun M2 h2 => kk 2 412 M2 (Nat.le_of_ble_eq_true rfl) (Nat.le_of_ble_eq_true rfl) h2))
      | 5, _ => exact g_tblIn (off := 515) hC 555 dL_law_40 (by decide) (by decide) (by decide) (by decide) (law_5 hC hX hL hnL hSt hRm (ho.2.2.2.2.2.1) hR ⟨le_ad (k := k) h1 (Nat.le_of_ble_eq_true rfl), le_as (k := k) h2 (Nat.le_of_ble_eq_true rfl)⟩ (fun M2 h2 => kk 0 0 M2 (Nat.le_of_ble_eq_true rfl) (Nat.le_of_ble_eq_true rfl) h2))
      | 6, _ => exact g_tblIn (off := 552) hC 592 dL_law_40 (by decide) (by decide) (by decide) (by decide) (law_6 hC hX hL hnL hSt hRm (ho.2.2.2.2.2.2.1) hR ⟨le_ad (k := k) h1 (Nat.le_of_ble_eq_true rfl), le_as (k := k) h2 (Nat.le_of_ble_eq_true rfl)⟩ (fun M2 h2 => kk 0 0 M2 (Nat.le_of_ble_eq_true rfl) (Nat.le_of_ble_eq_true rfl) h2))
      | 7, _ => exact g_tblIn (off := 589) hC 629 dL_law_40 (by decide) (by decide) (by decide) (by decide) (law_7 hC hX hL hnL hSt hRm (ho.2.2.2.2.2.2.2.1) hR ⟨le_ad (k := k) h1 (Nat.le_of_ble_eq_true rfl), le_as (k := k) h2 (Nat.le_of_ble_eq_true rfl)⟩ (fun M2 h2 => kk 0 0 M2 (Nat.le_of_ble_eq_true rfl) (Nat.le_of_ble_eq_true rfl) h2))
      | 8, _ => exact g_tblIn (off := 642) hC 682 dL_law_40 (by decide) (by decide) (by decide) (by decide) (law_8 hC hX hL hnL hSt hRm (ho.2.2.2.2.2.2.2.2.1) hR ⟨le_ad (k := k) h1 (Nat.le_of_ble_eq_true rfl), le_as (k := k) h2 (Nat.le_of_ble_eq_true rfl)⟩ (fun M2 h2 => kk 0 0 M2 (Nat.le_of_ble_eq_true rfl) (Nat.le_of_ble_eq_true rfl) h2))
      | 9, _ => exact g_tblIn (off := 703) hC 743 dL_law_40 (by decide) (by decide) (by decide) (by decide) (law_9 hC hX hL hnL hSt hRm (ho.2.2.2.2.2.2.2.2.2.1) hR ⟨le_ad (k := k) h1 (Nat.le_of_ble_eq_true rfl), le_as (k := k) h2 (Nat.le_of_ble_eq_true rfl)⟩ (fun M2 h2 => kk 0 0 M2 (Nat.le_of_ble_eq_true rfl) (Nat.le_of_ble_eq_true rfl) h2))
      | 10, _ => exact g_tblIn (off := 728) hC 768 dL_law_40 (by decide) (by decide) (by decide) (by decide) (law_10 hC hX hL hnL hSt hRm (ho.2.2.2.2.2.2.2.2.2.2.1) hR ⟨le_ad (k := k) h1 (Nat.le_of_ble_eq_true rfl), le_as (k := k) h2 (Nat.le_of_ble_eq_true rfl)⟩ (fun M2 h2 => kk 9 114 M2 (Nat.le_of_ble_eq_true rfl) (Nat.le_of_ble_eq_true rfl) h2))
      | 11, _ => exact g_tblIn (off := 753) hC 793 dL_law_40 (by decide) (by decide) (by decide) (by decide) (law_11 hC hX hL hnL hSt hRm (ho.2.2.2.2.2.2.2.2.2.2.2.1) hR ⟨le_ad (k := k) h1 (Nat.le_of_ble_eq_true rfl), le_as (k := k) h2 (Nat.le_of_ble_eq_true rfl)⟩ (fun M2 h2 => kk 0 0 M2 (Nat.le_of_ble_eq_true rfl) (Nat.le_of_ble_eq_true rfl) h2))
      | 12, _ => exact g_tblIn (off := 790) hC 830 dL_law_40 (by decide) (by decide) (by decide) (by decide) (law_12 hC hX hL hnL hSt hRm (ho.2.2.2.2.2.2.2.2.2.2.2.2.1) hR ⟨le_ad (k := k) h1 (Nat.le_of_ble_eq_true rfl), le_as (k := k) h2 (Nat.le_of_ble_eq_true rfl)⟩ (fun M2 h2 => kk 0 0 M2 (Nat.le_of_ble_eq_true rfl) (Nat.le_of_ble_eq_true rfl) h2))
      | 13, _ => exact g_tblIn (off := 815) hC 855 dL_law_40 (by decide) (by decide) (by decide) (by decide) (law_13 hC hX hL hnL hSt hRm (ho.2.2.2.2.2.2.2.2.2.2.2.2.2.1) hR ⟨le_ad (k := k) h1 (Nat.le_of_ble_eq_true rfl), le_as (k := k) h2 (Nat.le_of_ble_eq_true rfl)⟩ (fun M2 h2 => kk 0 0 M2 (Nat.le_of_ble_eq_true rfl) (Nat.le_of_ble_eq_true rfl) h2))
      | 14, _ => exact g_tblIn (off := 868) hC 908 dL_law_40 (by decide) (by decide) (by decide) (by decide) (law_14 hC hX hL hnL hSt hRm (ho.2.2.2.2.2.2.2.2.2.2.2.2.2.2.1) hR ⟨le_ad (k := k) h1 (Nat.le_of_ble_eq_true rfl), le_as (k := k) h2 (Nat.le_of_ble_eq_true rfl)⟩ (fun M2 h2 => kk 0 0 M2 (Nat.le_of_ble_eq_true rfl) (Nat.le_of_ble_eq_true rfl) h2))
      | 15, _ => exact g_tblIn (off := 893) hC 933 dL_law_40 (by decide) (by decide) (by decide) (by decide) (law_15 hC hX hL hnL hSt hRm (ho.2.2.2.2.2.2.2.2.2.2.2.2.2.2.2.1) hR ⟨le_ad (k := k) h1 (Nat.le_of_ble_eq_true rfl), le_as (k := k) h2 (Nat.le_of_ble_eq_true rfl)⟩ (fun M2 h2 => kk 0 0 M2 (Nat.le_of_ble_eq_true rfl) (Nat.le_of_ble_eq_true rfl) h2))
      | 16, _ => exact g_tblIn (off := 918) hC 958 dL_law_40 (by decide) (by decide) (by decide) (by decide) (law_16 hC hX hL hnL hSt hRm (ho.2.2.2.2.2.2.2.2.2.2.2.2.2.2.2.2.1) hR ⟨le_ad (k := k) h1 (Nat.le_of_ble_eq_true rfl), le_as (k := k) h2 (Nat.le_of_ble_eq_true rfl)⟩ (fun M2 h2 => kk 0 0 M2 (Nat.le_of_ble_eq_true rfl) (Nat.le_of_ble_eq_true rfl) h2))
      | 17, _ => exact g_tblIn (off := 955) hC 995 dL_law_40 (by decide) (by decide) (by decide) (by decide) (law_17 hC hX hL hnL hSt hRm (ho.2.2.2.2.2.2.2.2.2.2.2.2.2.2.2.2.2.1) hR ⟨le_ad (k := k) h1 (Nat.le_of_ble_eq_true rfl), le_as (k := k) h2 (Nat.le_of_ble_eq_true rfl)⟩ (fun M2 h2 => kk 0 0 M2 (Nat.le_of_ble_eq_true rfl) (Nat.le_of_ble_eq_true rfl) h2))
      | 18, _ => exact g_tblIn (off := 992) hC 1032 dL_law_40 (by decide) (by decide) (by decide) (by decide) (law_18 hC hX hL hnL hSt hRm (ho.2.2.2.2.2.2.2.2.2.2.2.2.2.2.2.2.2.2.1) hR ⟨le_ad (k := k) h1 (Nat.le_of_ble_eq_true rfl), le_as (k := k) h2 (Nat.le_of_ble_eq_true rfl)⟩ (fun M2 h2 => kk 0 0 M2 (Nat.le_of_ble_eq_true rfl) (Nat.le_of_ble_eq_true rfl) h2))
      | 19, _ => exact g_tblIn (off := 1029) hC 1069 dL_law_40 (by decide) (by decide) (by decide) (by decide) (law_19 hC hX hL hnL hSt hRm (ho.2.2.2.2.2.2.2.2.2.2.2.2.2.2.2.2.2.2.2.1) hR ⟨le_ad (k := k) h1 (Nat.le_of_ble_eq_true rfl), le_as (k := k) h2 (Nat.le_of_ble_eq_true rfl)⟩ (fun M2 h2 => kk 1 6 M2 (Nat.le_of_ble_eq_true rfl) (Nat.le_of_ble_eq_true rfl) h2))
      | 20, _ => exact g_tblIn (off := 1112) hC 1152 dL_law_40 (by decide) (by decide) (by decide) (by decide) (law_20 hC hX hL hnL hSt hRm (ho.2.2.2.2.2.2.2.2.2.2.2.2.2.2.2.2.2.2.2.2.1) hR ⟨le_ad (k := k) h1 (Nat.le_of_ble_eq_true rfl), le_as (k := k) h2 (Nat.le_of_ble_eq_true rfl)⟩ (fun M2 h2 => kk 0 0 M2 (Nat.le_of_ble_eq_true rfl) (Nat.le_of_ble_eq_true rfl) h2))
      | 21, _ => exact g_tblIn (off := 1137) hC 1177 dL_law_40 (by decide) (by decide) (by decide) (by decide) (law_21 hC hX hL hnL hSt hRm (ho.2.2.2.2.2.2.2.2.2.2.2.2.2.2.2.2.2.2.2.2.2.1) hR ⟨le_ad (k := k) h1 (Nat.le_of_ble_eq_true rfl), le_as (k := k) h2 (Nat.le_of_ble_eq_true rfl)⟩ (fun M2 h2 => kk 0 0 M2 (Nat.le_of_ble_eq_true rfl) (Nat.le_of_ble_eq_true rfl) h2))
      | 22, _ => exact g_tblIn (off := 1174) hC 1214 dL_law_40 (by decide) (by decide) (by decide) (by decide) (law_22 hC hX hL hnL hSt hRm (ho.2.2.2.2.2.2.2.2.2.2.2.2.2.2.2.2.2.2.2.2.2.2.1) hR ⟨le_ad (k := k) h1 (Nat.le_of_ble_eq_true rfl), le_as (k := k) h2 (Nat.le_of_ble_eq_true rfl)⟩ (fun M2 h2 => kk 0 0 M2 (Nat.le_of_ble_eq_true rfl) (Nat.le_of_ble_eq_true rfl) h2))
      | 23, _ => exact g_tblIn (off := 1235) hC 1275 dL_law_40 (by decide) (by decide) (by decide) (by decide) (law_23 hC hX hL hnL hSt hRm (ho.2.2.2.2.2.2.2.2.2.2.2.2.2.2.2.2.2.2.2.2.2.2.2.1) hR ⟨le_ad (k := k) h1 (Nat.le_of_ble_eq_true rfl), le_as (k := k) h2 (Nat.le_of_ble_eq_true rfl)⟩ (fun M2 h2 => kk 0 0 M2 (Nat.le_of_ble_eq_true rfl) (Nat.le_of_ble_eq_true rfl) h2))
      | 24, _ => exact g_tblIn (off := 1260) hC 1300 dL_law_40 (by decide) (by decide) (by decide) (by decide) (law_24 hC hX hL hnL hSt hRm (ho.2.2.2.2.2.2.2.2.2.2.2.2.2.2.2.2.2.2.2.2.2.2.2.2.1) hR ⟨le_ad (k := k) h1 (Nat.le_of_ble_eq_true rfl), le_as (k := k) h2 (Nat.le_of_ble_eq_true rfl)⟩ (fun M2 h2 => kk 0 0 M2 (Nat.le_of_ble_eq_true rfl) (Nat.le_of_ble_eq_true rfl) h2))
      | 25, _ => exact g_tblIn (off := 1297) hC 1337 dL_law_40 (by decide) (by decide) (by decide) (by decide) (law_25 hC hX hL hnL hSt hRm (ho.2.2.2.2.2.2.2.2.2.2.2.2.2.2.2.2.2.2.2.2.2.2.2.2.2.1) hR ⟨le_ad (k := k) h1 (Nat.le_of_ble_eq_true rfl), le_as (k := k) h2 (Nat.le_of_ble_eq_true rfl)⟩ (fun M2 h2 => kk 0 0 M2 (Nat.le_of_ble_eq_true rfl) (Nat.le_of_ble_eq_true rfl) h2))
      | 26, _ => exact g_tblIn (off := 1322) hC 1362 dL_law_40 (by decide) (by decide) (by decide) (by decide) (law_26 hC hX hL hnL hSt hRm (ho.2.2.2.2.2.2.2.2.2.2.2.2.2.2.2.2.2.2.2.2.2.2.2.2.2.2.1) hR ⟨le_ad (k := k) h1 (Nat.le_of_ble_eq_true rfl), le_as (k := k) h2 (Nat.le_of_ble_eq_true rfl)⟩ (fun M2 h2 => kk 0 0 M2 (Nat.le_of_ble_eq_true rfl) (Nat.le_of_ble_eq_true rfl) h2))
      | 27, _ => exact g_tblIn (off := 1335) hC 1375 dL_law_40 (by decide) (by decide) (by decide) (by decide) (law_27 hC hX hL hnL hSt hRm (ho.2.2.2.2.2.2.2.2.2.2.2.2.2.2.2.2.2.2.2.2.2.2.2.2.2.2.2.1) hR ⟨le_ad (k := k) h1 (Nat.le_of_ble_eq_true rfl), le_as (k := k) h2 (Nat.le_of_ble_eq_true rfl)⟩ (fun M2 h2 => kk 0 0 M2 (Nat.le_of_ble_eq_true rfl) (Nat.le_of_ble_eq_true rfl) h2))
      | 28, _ => exact g_tblIn (off := 1360) hC 1400 dL_law_40 (by decide) (by decide) (by decide) (by decide) (law_28 hC hX hL hnL hSt hRm (ho.2.2.2.2.2.2.2.2.2.2.2.2.2.2.2.2.2.2.2.2.2.2.2.2.2.2.2.2.1) hR ⟨le_ad (k := k) h1 (Nat.le_of_ble_eq_true rfl), le_as (k := k) h2 (Nat.le_of_ble_eq_true rfl)⟩ (fun M2 h2 => kk 51 8009 M2 (Nat.le_of_ble_eq_true rfl) (Nat.le_of_ble_eq_true rfl) h2))
      | 29, _ => exact g_tblIn (off := 1373) hC 1413 dL_law_40 (by decide) (by decide) (by decide) (by decide) (law_29 hC hX hL hnL hSt hRm (ho.2.2.2.2.2.2.2.2.2.2.2.2.2.2.2.2.2.2.2.2.2.2.2.2.2.2.2.2.2.1) hR ⟨le_ad (k := k) h1 (Nat.le_of_ble_eq_true rfl), le_as (k := k) h2 (Nat.le_of_ble_eq_true rfl)⟩ (fun M2 h2 => kk 18 3708 M2 (Nat.le_of_ble_eq_true rfl) (Nat.le_of_ble_eq_true rfl) h2))
      | 30, _ => exact g_tblIn (off := 1386) hC 1426 dL_law_40 (by decide) (by decide) (by decide) (by decide) (law_30 hC hX hL hnL hSt hRm (ho.2.2.2.2.2.2.2.2.2.2.2.2.2.2.2.2.2.2.2.2.2.2.2.2.2.2.2.2.2.2.1) hR ⟨le_ad (k := k) h1 (Nat.le_of_ble_eq_true rfl), le_as (k := k) h2 (Nat.le_of_ble_eq_true rfl)⟩ (fun M2 h2 => kk 0 0 M2 (Nat.le_of_ble_eq_true rfl) (Nat.le_of_ble_eq_true rfl) h2))
      | 31, _ => exact g_tblIn (off := 1411) hC 1451 dL_law_40 (by decide) (by decide) (by decide) (by decide) (law_31 hC hX hL hnL hSt hRm (ho.2.2.2.2.2.2.2.2.2.2.2.2.2.2.2.2.2.2.2.2.2.2.2.2.2.2.2.2.2.2.2.1) hR ⟨le_ad (k := k) h1 (Nat.le_of_ble_eq_true rfl), le_as (k := k) h2 (Nat.le_of_ble_eq_true rfl)⟩ (fun M2 h2 => kk 0 0 M2 (Nat.le_of_ble_eq_true rfl) (Nat.le_of_ble_eq_true rfl) h2))
      | 32, _ => exact g_tblIn (off := 1460) hC 1500 dL_law_40 (by decide) (by decide) (by decide) (by decide) (law_32 hC hX hL hnL hSt hRm (ho.2.2.2.2.2.2.2.2.2.2.2.2.2.2.2.2.2.2.2.2.2.2.2.2.2.2.2.2.2.2.2.2.1) hR ⟨le_ad (k := k) h1 (Nat.le_of_ble_eq_true rfl), le_as (k := k) h2 (Nat.le_of_ble_eq_true rfl)⟩ (fun M2 h2 => kk 0 0 M2 (Nat.le_of_ble_eq_true rfl) (Nat.le_of_ble_eq_true rfl) h2))
      | 33, _ => exact g_tblIn (off := 1509) hC 1549 dL_law_40 (by decide) (by decide) (by decide) (by decide) (law_33 hC hX hL hnL hSt hRm (ho.2.2.2.2.2.2.2.2.2.2.2.2.2.2.2.2.2.2.2.2.2.2.2.2.2.2.2.2.2.2.2.2.2.1) hR ⟨le_ad (k := k) h1 (Nat.le_of_ble_eq_true rfl), le_as (k := k) h2 (Nat.le_of_ble_eq_true rfl)⟩ (fun M2 h2 => kk 0 0 M2 (Nat.le_of_ble_eq_true rfl) (Nat.le_of_ble_eq_true rfl) h2))
      | 34, _ => exact g_tblIn (off := 1558) hC 1598 dL_law_40 (by decide) (by decide) (by decide) (by decide) (law_34 hC hX hL hnL hSt hRm (ho.2.2.2.2.2.2.2.2.2.2.2.2.2.2.2.2.2.2.2.2.2.2.2.2.2.2.2.2.2.2.2.2.2.2.1) hR ⟨le_ad (k := k) h1 (Nat.le_of_ble_eq_true rfl), le_as (k := k) h2 (Nat.le_of_ble_eq_true rfl)⟩ (fun M2 h2 => kk 1 6 M2 (Nat.le_of_ble_eq_true rfl) (Nat.le_of_ble_eq_true rfl) h2))
      | 35, _ => exact g_tblIn (off := 1625) hC 1665 dL_law_40 (by decide) (by decide) (by decide) (by decide) (law_35 hC hX hL hnL hSt hRm (ho.2.2.2.2.2.2.2.2.2.2.2.2.2.2.2.2.2.2.2.2.2.2.2.2.2.2.2.2.2.2.2.2.2.2.2.1) hR ⟨le_ad (k := k) h1 (Nat.le_of_ble_eq_true rfl), le_as (k := k) h2 (Nat.le_of_ble_eq_true rfl)⟩ (fun M2 h2 => kk 0 0 M2 (Nat.le_of_ble_eq_true rfl) (Nat.le_of_ble_eq_true rfl) h2))
      | 36, _ => exact g_tblIn (off := 1698) hC 1738 dL_law_40 (by decide) (by decide) (by decide) (by decide) (law_36 hC hX hL hnL hSt hRm (ho.2.2.2.2.2.2.2.2.2.2.2.2.2.2.2.2.2.2.2.2.2.2.2.2.2.2.2.2.2.2.2.2.2.2.2.2.1) hR ⟨le_ad (k := k) h1 (Nat.le_of_ble_eq_true rfl), le_as (k := k) h2 (Nat.le_of_ble_eq_true rfl)⟩ (fun M2 h2 => kk 0 0 M2 (Nat.le_of_ble_eq_true rfl) (Nat.le_of_ble_eq_true rfl) h2))
      | 37, _ => exact g_tblIn (off := 1723) hC 1763 dL_law_40 (by decide) (by decide) (by decide) (by decide) (law_37 hC hX hL hnL hSt hRm (ho.2.2.2.2.2.2.2.2.2.2.2.2.2.2.2.2.2.2.2.2.2.2.2.2.2.2.2.2.2.2.2.2.2.2.2.2.2) hR ⟨le_ad (k := k) h1 (Nat.le_of_ble_eq_true rfl), le_as (k := k) h2 (Nat.le_of_ble_eq_true rfl)⟩ (fun M2 h2 => kk 1 6 M2 (Nat.le_of_ble_eq_true rfl) (Nat.le_of_ble_eq_true rfl) h2))
      | j + 38, h => exact absurd h (by omega)
    · refine g_tblOut hC 1788 dL_law_40 (Or.inr ?_) (by decide) (kk 0 0 M (by omega) (by omega) hR)
      rw [i32_nn (by omega)]
      omega
