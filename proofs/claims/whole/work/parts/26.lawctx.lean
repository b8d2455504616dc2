/-! What holds at the law's entry -/
def kIx : List Nat := [84, 162, 164, 166, 168, 160, 155, 126, 144, 146, 148, 150, 142, 134, 101, 103, 105, 107, 121, 75]
def tmS (i : Nat) : Term := Term.string "LedgerHounds$Reader" (kIx.getD i 0)
def fl9 : List Cond := flatC (Jvm.Cond.and given_1 narrow_1)
theorem fl_all {P : Nat → Cond} {n : Nat} (h : (List.range n).all (fun i => decide (P i ∈ fl9)) = true) (i : Nat) (hi : i < n) : P i ∈ fl9 := of_decide_eq_true (List.all_eq_true.mp h i (List.mem_range.mpr hi))
theorem fs_ex : ∀ i, i < 20 → Cond.exactly (tmS i) "java/lang/String" ∈ fl9 := fl_all (by decide +kernel)
theorem fs_co : ∀ i, i < 20 → Cond.eq (.field (tmS i) "java/lang/String" "coder" "B") (.int 0) ∈ fl9 := fl_all (by decide +kernel)
theorem fs_ar : ∀ i, i < 20 → Cond.arrayOf (.field (tmS i) "java/lang/String" "value" "[B") .byte ∈ fl9 := fl_all (by decide +kernel)
theorem fs_le : ∀ i, i < 20 → Cond.eq (.length (.field (tmS i) "java/lang/String" "value" "[B")) (.int (Int32.ofNat (kLen.getD i 0))) ∈ fl9 := fl_all (by decide +kernel)
theorem fs_len : ∀ i, i < 20 → kLen.getD i 0 < 2 ^ 31 := fun i hi => of_decide_eq_true (List.all_eq_true.mp (show (List.range 20).all (fun i => decide (kLen.getD i 0 < 2 ^ 31)) = true by decide +kernel) i (List.mem_range.mpr hi))
theorem fl_at {P : Nat → Cond} {n b : Nat} (h : (List.range n).all (fun i => decide (fl9[b + i]? = some (P i))) = true) (i : Nat) (hi : i < n) : P i ∈ fl9 := List.mem_of_getElem? (of_decide_eq_true (List.all_eq_true.mp h i (List.mem_range.mpr hi)))
theorem fe_0 : ∀ j, j < 22 → Cond.eq (.elem (.field (tmS 0) "java/lang/String" "value" "[B") (.int (Int32.ofNat j))) (.int ((kByt.getD 0 []).getD j 0)) ∈ fl9 := fl_at (b := 39) (by decide +kernel)
theorem fe_1 : ∀ j, j < 1 → Cond.eq (.elem (.field (tmS 1) "java/lang/String" "value" "[B") (.int (Int32.ofNat j))) (.int ((kByt.getD 1 []).getD j 0)) ∈ fl9 := fl_at (b := 65) (by decide +kernel)
theorem fe_2 : ∀ j, j < 1 → Cond.eq (.elem (.field (tmS 2) "java/lang/String" "value" "[B") (.int (Int32.ofNat j))) (.int ((kByt.getD 2 []).getD j 0)) ∈ fl9 := fl_at (b := 71) (by decide +kernel)
theorem fe_3 : ∀ j, j < 52 → Cond.eq (.elem (.field (tmS 3) "java/lang/String" "value" "[B") (.int (Int32.ofNat j))) (.int ((kByt.getD 3 []).getD j 0)) ∈ fl9 := fl_at (b := 78) (by decide +kernel)
theorem fe_4 : ∀ j, j < 37 → Cond.eq (.elem (.field (tmS 4) "java/lang/String" "value" "[B") (.int (Int32.ofNat j))) (.int ((kByt.getD 4 []).getD j 0)) ∈ fl9 := fl_at (b := 137) (by decide +kernel)
theorem fe_5 : ∀ j, j < 5 → Cond.eq (.elem (.field (tmS 5) "java/lang/String" "value" "[B") (.int (Int32.ofNat j))) (.int ((kByt.getD 5 []).getD j 0)) ∈ fl9 := fl_at (b := 182) (by decide +kernel)
theorem fe_6 : ∀ j, j < 3 → Cond.eq (.elem (.field (tmS 6) "java/lang/String" "value" "[B") (.int (Int32.ofNat j))) (.int ((kByt.getD 6 []).getD j 0)) ∈ fl9 := fl_at (b := 196) (by decide +kernel)
theorem fe_7 : ∀ j, j < 2 → Cond.eq (.elem (.field (tmS 7) "java/lang/String" "value" "[B") (.int (Int32.ofNat j))) (.int ((kByt.getD 7 []).getD j 0)) ∈ fl9 := fl_at (b := 209) (by decide +kernel)
theorem fe_8 : ∀ j, j < 3 → Cond.eq (.elem (.field (tmS 8) "java/lang/String" "value" "[B") (.int (Int32.ofNat j))) (.int ((kByt.getD 8 []).getD j 0)) ∈ fl9 := fl_at (b := 222) (by decide +kernel)
theorem fe_9 : ∀ j, j < 1 → Cond.eq (.elem (.field (tmS 9) "java/lang/String" "value" "[B") (.int (Int32.ofNat j))) (.int ((kByt.getD 9 []).getD j 0)) ∈ fl9 := fl_at (b := 237) (by decide +kernel)
theorem fe_10 : ∀ j, j < 1 → Cond.eq (.elem (.field (tmS 10) "java/lang/String" "value" "[B") (.int (Int32.ofNat j))) (.int ((kByt.getD 10 []).getD j 0)) ∈ fl9 := fl_at (b := 251) (by decide +kernel)
theorem fe_11 : ∀ j, j < 5 → Cond.eq (.elem (.field (tmS 11) "java/lang/String" "value" "[B") (.int (Int32.ofNat j))) (.int ((kByt.getD 11 []).getD j 0)) ∈ fl9 := fl_at (b := 266) (by decide +kernel)
theorem fe_12 : ∀ j, j < 3 → Cond.eq (.elem (.field (tmS 12) "java/lang/String" "value" "[B") (.int (Int32.ofNat j))) (.int ((kByt.getD 12 []).getD j 0)) ∈ fl9 := fl_at (b := 286) (by decide +kernel)
theorem fe_13 : ∀ j, j < 2 → Cond.eq (.elem (.field (tmS 13) "java/lang/String" "value" "[B") (.int (Int32.ofNat j))) (.int ((kByt.getD 13 []).getD j 0)) ∈ fl9 := fl_at (b := 305) (by decide +kernel)
theorem fe_14 : ∀ j, j < 21 → Cond.eq (.elem (.field (tmS 14) "java/lang/String" "value" "[B") (.int (Int32.ofNat j))) (.int ((kByt.getD 14 []).getD j 0)) ∈ fl9 := fl_at (b := 324) (by decide +kernel)
theorem fe_15 : ∀ j, j < 2 → Cond.eq (.elem (.field (tmS 15) "java/lang/String" "value" "[B") (.int (Int32.ofNat j))) (.int ((kByt.getD 15 []).getD j 0)) ∈ fl9 := fl_at (b := 363) (by decide +kernel)
theorem fe_16 : ∀ j, j < 2 → Cond.eq (.elem (.field (tmS 16) "java/lang/String" "value" "[B") (.int (Int32.ofNat j))) (.int ((kByt.getD 16 []).getD j 0)) ∈ fl9 := fl_at (b := 384) (by decide +kernel)
theorem fe_17 : ∀ j, j < 2 → Cond.eq (.elem (.field (tmS 17) "java/lang/String" "value" "[B") (.int (Int32.ofNat j))) (.int ((kByt.getD 17 []).getD j 0)) ∈ fl9 := fl_at (b := 406) (by decide +kernel)
theorem fe_18 : ∀ j, j < 5 → Cond.eq (.elem (.field (tmS 18) "java/lang/String" "value" "[B") (.int (Int32.ofNat j))) (.int ((kByt.getD 18 []).getD j 0)) ∈ fl9 := fl_at (b := 429) (by decide +kernel)
theorem fe_19 : ∀ j, j < 1 → Cond.eq (.elem (.field (tmS 19) "java/lang/String" "value" "[B") (.int (Int32.ofNat j))) (.int ((kByt.getD 19 []).getD j 0)) ∈ fl9 := fl_at (b := 456) (by decide +kernel)
theorem fs_el : ∀ i, i < 20 → ∀ j, j < kLen.getD i 0 → Cond.eq (.elem (.field (tmS i) "java/lang/String" "value" "[B") (.int (Int32.ofNat j))) (.int ((kByt.getD i []).getD j 0)) ∈ fl9 := by
  intro i hi
  match i, hi with
  | 0, _ => exact fe_0
  | 1, _ => exact fe_1
  | 2, _ => exact fe_2
  | 3, _ => exact fe_3
  | 4, _ => exact fe_4
  | 5, _ => exact fe_5
  | 6, _ => exact fe_6
  | 7, _ => exact fe_7
  | 8, _ => exact fe_8
  | 9, _ => exact fe_9
  | 10, _ => exact fe_10
  | 11, _ => exact fe_11
  | 12, _ => exact fe_12
  | 13, _ => exact fe_13
  | 14, _ => exact fe_14
  | 15, _ => exact fe_15
  | 16, _ => exact fe_16
  | 17, _ => exact fe_17
  | 18, _ => exact fe_18
  | 19, _ => exact fe_19
  | q + 20, h => omega
theorem fn_1 : ∀ i, i < 1 → Cond.not (Cond.eq (tmS i) (tmS 1)) ∈ fl9 := fl_at (b := 66) (by decide +kernel)
theorem fn_2 : ∀ i, i < 2 → Cond.not (Cond.eq (tmS i) (tmS 2)) ∈ fl9 := fl_at (b := 72) (by decide +kernel)
theorem fn_3 : ∀ i, i < 3 → Cond.not (Cond.eq (tmS i) (tmS 3)) ∈ fl9 := fl_at (b := 130) (by decide +kernel)
theorem fn_4 : ∀ i, i < 4 → Cond.not (Cond.eq (tmS i) (tmS 4)) ∈ fl9 := fl_at (b := 174) (by decide +kernel)
theorem fn_5 : ∀ i, i < 5 → Cond.not (Cond.eq (tmS i) (tmS 5)) ∈ fl9 := fl_at (b := 187) (by decide +kernel)
theorem fn_6 : ∀ i, i < 6 → Cond.not (Cond.eq (tmS i) (tmS 6)) ∈ fl9 := fl_at (b := 199) (by decide +kernel)
theorem fn_7 : ∀ i, i < 7 → Cond.not (Cond.eq (tmS i) (tmS 7)) ∈ fl9 := fl_at (b := 211) (by decide +kernel)
theorem fn_8 : ∀ i, i < 8 → Cond.not (Cond.eq (tmS i) (tmS 8)) ∈ fl9 := fl_at (b := 225) (by decide +kernel)
theorem fn_9 : ∀ i, i < 9 → Cond.not (Cond.eq (tmS i) (tmS 9)) ∈ fl9 := fl_at (b := 238) (by decide +kernel)
theorem fn_10 : ∀ i, i < 10 → Cond.not (Cond.eq (tmS i) (tmS 10)) ∈ fl9 := fl_at (b := 252) (by decide +kernel)
theorem fn_11 : ∀ i, i < 11 → Cond.not (Cond.eq (tmS i) (tmS 11)) ∈ fl9 := fl_at (b := 271) (by decide +kernel)
theorem fn_12 : ∀ i, i < 12 → Cond.not (Cond.eq (tmS i) (tmS 12)) ∈ fl9 := fl_at (b := 289) (by decide +kernel)
theorem fn_13 : ∀ i, i < 13 → Cond.not (Cond.eq (tmS i) (tmS 13)) ∈ fl9 := fl_at (b := 307) (by decide +kernel)
theorem fn_14 : ∀ i, i < 14 → Cond.not (Cond.eq (tmS i) (tmS 14)) ∈ fl9 := fl_at (b := 345) (by decide +kernel)
theorem fn_15 : ∀ i, i < 15 → Cond.not (Cond.eq (tmS i) (tmS 15)) ∈ fl9 := fl_at (b := 365) (by decide +kernel)
theorem fn_16 : ∀ i, i < 16 → Cond.not (Cond.eq (tmS i) (tmS 16)) ∈ fl9 := fl_at (b := 386) (by decide +kernel)
theorem fn_17 : ∀ i, i < 17 → Cond.not (Cond.eq (tmS i) (tmS 17)) ∈ fl9 := fl_at (b := 408) (by decide +kernel)
theorem fn_18 : ∀ i, i < 18 → Cond.not (Cond.eq (tmS i) (tmS 18)) ∈ fl9 := fl_at (b := 434) (by decide +kernel)
theorem fn_19 : ∀ i, i < 19 → Cond.not (Cond.eq (tmS i) (tmS 19)) ∈ fl9 := fl_at (b := 457) (by decide +kernel)
theorem fs_lt : ∀ j, j < 20 → ∀ i, i < j → Cond.not (Cond.eq (tmS i) (tmS j)) ∈ fl9 := by
  intro j hj
  match j, hj with
  | 0, _ => exact fun i h => absurd h (Nat.not_lt_zero i)
  | 1, _ => exact fn_1
  | 2, _ => exact fn_2
  | 3, _ => exact fn_3
  | 4, _ => exact fn_4
  | 5, _ => exact fn_5
  | 6, _ => exact fn_6
  | 7, _ => exact fn_7
  | 8, _ => exact fn_8
  | 9, _ => exact fn_9
  | 10, _ => exact fn_10
  | 11, _ => exact fn_11
  | 12, _ => exact fn_12
  | 13, _ => exact fn_13
  | 14, _ => exact fn_14
  | 15, _ => exact fn_15
  | 16, _ => exact fn_16
  | 17, _ => exact fn_17
  | 18, _ => exact fn_18
  | 19, _ => exact fn_19
  | q + 20, h => omega
theorem fs_ne : ∀ i j, i < 20 → j < 20 → i ≠ j → Cond.not (Cond.eq (tmS i) (tmS j)) ∈ fl9 ∨ Cond.not (Cond.eq (tmS j) (tmS i)) ∈ fl9 := by
  intro i j hi hj hne
  rcases Nat.lt_or_ge i j with h | h
  · exact Or.inl (fs_lt j hj i h)
  · exact Or.inr (fs_lt i hi j (by omega))
theorem kt_ix : ∀ i x, kTx[i]? = some x → i < 20 ∧ x.1 = "LedgerHounds$Reader" ∧ x.2.1 = kIx.getD i 0 ∧ Cond.stringRef x.1 x.2.1 x.2.2 ∈ tables_1 := by
  intro i x hx
  have hi : i < 20 := (List.getElem?_eq_some_iff.mp hx).1
  have h : (List.range 20).all (fun i => match kTx[i]? with
    | some x => decide (x.1 = "LedgerHounds$Reader" ∧ x.2.1 = kIx.getD i 0) && decide (Cond.stringRef x.1 x.2.1 x.2.2 ∈ tables_1)
    | none => false) = true := by decide +kernel
  have h1 := List.all_eq_true.mp h i (List.mem_range.mpr hi)
  rw [hx] at h1
  simp only [Bool.and_eq_true, decide_eq_true_eq] at h1
  exact ⟨hi, h1.1.1, h1.1.2, h1.2⟩
theorem fm_ar : Cond.arrayOf (.static "LedgerHounds" "MOST_OF_TERM" "[I") .int ∈ fl9 := by decide +kernel
theorem fm_le : Cond.eq (.length (.static "LedgerHounds" "MOST_OF_TERM" "[I")) (.int (Int32.ofNat 3)) ∈ fl9 := by decide +kernel
theorem fm_el : ∀ j, j < 3 → Cond.eq (.elem (.static "LedgerHounds" "MOST_OF_TERM" "[I") (.int (Int32.ofNat j))) (.int (tMost.getD j 0)) ∈ fl9 := fl_all (by decide +kernel)
theorem fm_cs : Cond.eq (.static "java/lang/String" "COMPACT_STRINGS" "Z") (.int 1) ∈ fl9 := by decide +kernel
theorem fm_si : Cond.isRef (.static "jdk/internal/util/Preconditions" "SIOOBE_FORMATTER" "Ljava/util/function/BiFunction;") ∈ fl9 := by decide +kernel
