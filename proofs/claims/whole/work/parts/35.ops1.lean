/-! Calls that are done in a step or two -/
theorem line_c (N : Nat) (a b : Int32) : (∃ k i : Nat, k ≤ 1 ∧ i < 5 ∧ a = nI k ∧ b = nI i ∧ f_X8_isLine N a b = some (nI 1) ∧ f_X9_lies N a (nI 0) (nI 1) = some (nI 1) ∧ f_X9_isFive N b = some (nI 1)) ∨ (f_X8_isLine N a b = some (nI 0) ∧ (f_X9_lies N a (nI 0) (nI 1) = some (nI 0) ∨ (f_X9_lies N a (nI 0) (nI 1) = some (nI 1) ∧ f_X9_isFive N b = some (nI 0)))) := by
  have h8 : f_X8_isLine N a b = ob1 (f_X9_lies N a (nI 0) (nI 1)) (fun r => if r = 0 then some (nI 0) else f_X8_isAccount N b) := by
    unfold f_X8_isLine f_X9_lies f_X8_isAccount
    rw [lj 0, lj 1]
    by_cases h1 : a < nI 0
    · rw [if_pos h1, if_pos h1]; rfl
    · rw [if_neg h1, if_neg h1]
      by_cases h2 : nI 1 < a
      · rw [if_pos h2, if_pos h2]; rfl
      · rw [if_neg h2, if_neg h2]; rfl
  rcases lies_c N a 0 1 (by omega) (by omega) with ⟨k, -, hk, e, hl⟩ | ⟨-, hl⟩
  · rcases five_c N b with ⟨i, hi, e2, e8, e9⟩ | ⟨e8, e9⟩
    · exact Or.inl ⟨k, i, hk, hi, e, e2, by rw [h8, hl, pl_ob1, e8]; rfl, hl, e9⟩
    · exact Or.inr ⟨by rw [h8, hl, pl_ob1, e8]; rfl, Or.inr ⟨hl, e9⟩⟩
  · exact Or.inr ⟨by rw [h8, hl]; rfl, Or.inl hl⟩
theorem clerk_c (N : Nat) (S : St) (V M : Vt) (o n : Nat) (hn : n ≤ 5) (e1 : V.1 o 9 = nI n) (e2 : M.2.1 2 103 = nI n) (a : Int32) : (∃ p : Nat, p < n ∧ a = nI p ∧ f_X0_hasClerk N S V o a = some (nI 1) ∧ f_X9_isClerk N M a = some (nI 1)) ∨ (f_X0_hasClerk N S V o a = some (nI 0) ∧ f_X9_isClerk N M a = some (nI 0)) := by
  have h9 : f_X9_isClerk N M a = ob1 (f_X9_lies N a (nI 0) (nI n - nI 1)) (fun r => cb r (some r)) := by
    unfold f_X9_isClerk
    simp (disch := omega) only [e2, pl_bd, pl_ob, pl_ob1, pl_obv, pl_oa, pl_oav, pl_cg, pl_cb0, pl_cb1, pl_nl0, pl_nls, li, nI_cl, pl_ck, nI_E, nI_L, nI_T, nI_add, pk_mul, nI_s1, Nat.zero_add, Nat.add_zero, Nat.reduceAdd, Nat.reduceMul, Nat.reduceSub, Nat.reduceEqDiff, Nat.reduceLeDiff, Nat.reduceLT, ↓reduceIte]
  have h8 : f_X0_hasClerk N S V o a = if a < nI 0 then some (nI 0) else if nI n ≤ a then some (nI 0) else some (nI 1) := by
    unfold f_X0_hasClerk; rw [e1]; rfl
  rcases Nat.eq_zero_or_pos n with h0 | h0
  · subst h0
    right
    constructor
    · rw [h8]
      by_cases c : a < nI 0
      · rw [if_pos c]
      · rw [if_neg c, if_pos (Int32.not_lt.mp c)]
    · rw [h9]
      unfold f_X9_lies
      by_cases c : a < nI 0
      · rw [if_pos c]; rfl
      · rw [if_neg c, if_pos]
        · rfl
        · have := Int32.not_lt.mp c
          rw [Int32.le_iff_toInt_le] at this
          rw [Int32.lt_iff_toInt_lt]
          have e1 : (nI 0).toInt = 0 := rfl
          have e2 : (nI 0 - nI 1).toInt = -1 := rfl
          omega
  · rw [nI_s1 h0] at h9
    rcases lies_c N a 0 (n - 1) (by omega) (by omega) with ⟨p, -, hp, e, hl⟩ | ⟨hx, hl⟩
    · left
      refine ⟨p, by omega, e, ?_, by rw [h9, hl]; rfl⟩
      rw [h8, e, if_neg (by rw [nI_T (by omega) (by omega)]; omega), if_neg (by rw [nI_L (by omega) (by omega)]; omega)]
    · right
      refine ⟨?_, by rw [h9, hl]; rfl⟩
      rw [h8]
      by_cases c : a < nI 0
      · rw [if_pos c]
      · rw [if_neg c]
        by_cases d : nI n ≤ a
        · rw [if_pos d]
        · exfalso
          refine hx ⟨Int32.not_lt.mp c, ?_⟩
          have := Int32.not_le.mp d
          rw [Int32.lt_iff_toInt_lt, nI_tz (by omega)] at this
          rw [Int32.le_iff_toInt_le, nI_tz (by omega)]
          omega
section OPS
variable {N b0 : Nat} {X : TxP}
theorem op_smudges : Op_smudges N b0 (Rel X b0) := fun S V M hR _ => ⟨V.1 0 16, rfl, by rw [show V.1 0 16 = M.1 0 6 from hR.2.2.2.2.2.2.2.2.1.1]; rfl, hR⟩
theorem op_fault : Op_fault N b0 (Rel X b0) := fun S V M hR _ => ⟨V.1 37 8, rfl, by rw [show V.1 37 8 = M.1 0 14 from hR.2.2.2.2.2.2.2.2.1.2.2]; rfl, hR⟩
theorem op_stopped : Op_stopped N b0 (Rel X b0) := fun S V M hR _ => ⟨V.1 0 17, rfl, by rw [show V.1 0 17 = M.1 0 40 from hR.2.2.2.2.2.2.2.2.1.2.1]; rfl, hR⟩
theorem op_status : Op_status N b0 (Rel X b0) := fun S V M hR _ => ⟨V.1 0 18, rfl, by rw [show V.1 0 18 = M.1 0 0 from hR.2.2.2.2.2.2.1.1]; rfl, hR⟩
theorem op_enter : Op_enter N b0 (Rel X b0) := by
  intro S V M hR a1 a2
  have hB := hR.2.1
  have hbad : f_X8_enter_18 N S 0 V = some (-1, rfX V 1) ∧ f_X9_enter_18 N M = some (-1, rfM M 1) := ⟨rfl, rfl⟩
  rcases cell_c N a1 with ⟨c, hc, rfl, e8, e9⟩ | ⟨e8, e9⟩
  · rcases lies_c N a2 0 999 (by omega) (by omega) with ⟨x, -, hx, rfl, el⟩ | ⟨-, el⟩
    · have h8 : f_X8_enter N S V 0 (nI c) (nI x) = some (V.2.1 2 c, sF (sF (sA V 2 c (nI x)) 32 1 (nI 0)) 0 18 (nI 0)) := by
        simp (disch := omega) only [f_X8_enter, e8, within_lies, el, x_clear, x_granted, pl_bd, pl_ob, pl_ob1, pl_obv, pl_oa, pl_oav, pl_cg, pl_cb0, pl_cb1, pl_nl0, pl_nls, li, nI_cl, pl_ck, nI_E, nI_L, nI_T, nI_add, pk_mul, nI_s1, Nat.zero_add, Nat.add_zero, Nat.reduceAdd, Nat.reduceMul, Nat.reduceSub, Nat.reduceEqDiff, Nat.reduceLeDiff, Nat.reduceLT, ↓reduceIte]
      have h9 : f_X9_enter N M (nI c) (nI x) = some (M.2.1 2 c, sF (sF (sA M 2 c (nI x)) 0 31 (nI 0)) 0 0 (nI 0)) := by
        simp (disch := omega) only [f_X9_enter, e9, el, m_goodAnew, pl_bd, pl_ob, pl_ob1, pl_obv, pl_oa, pl_oav, pl_cg, pl_cb0, pl_cb1, pl_nl0, pl_nls, li, nI_cl, pl_ck, nI_E, nI_L, nI_T, nI_add, pk_mul, nI_s1, Nat.zero_add, Nat.add_zero, Nat.reduceAdd, Nat.reduceMul, Nat.reduceSub, Nat.reduceEqDiff, Nat.reduceLeDiff, Nat.reduceLT, ↓reduceIte]
      refine ⟨_, _, _, h8, by rw [(hB.1 c hc).1]; exact h9, ?_⟩
      refine Rel_of hR (G64_F (G64_F (G64_A (G64_r V) (by omega)) (by omega)) (by omega)) rfl rfl rfl rfl rfl rfl (fun j h1 h2 => ?_) rfl ?_ ?_ hR.2.2.2.2.2.1 ⟨rfl, hR.2.2.2.2.2.2.1.2⟩ hR.2.2.2.2.2.2.2.1 hR.2.2.2.2.2.2.2.2.1
      · show (sA M 2 c (nI x)).2.1 2 j = _
        rw [sA_e, upd_n _ _ _ _ (by omega)]
      · show BkA (V.1 1) ((sA V 2 c (nI x)).2.1 2) (V.2.1 3) (V.2.1 4) (V.2.1 5) (V.2.1 6) (V.2.1 7) (V.2.1 9) (V.2.1 10) ((sA M 2 c (nI x)).2.1 2)
        rw [sA_e, sA_e]
        obtain ⟨b1, b2, b3, b4, b5, b6, b7, b8, b9⟩ := hB
        refine ⟨fun i hi => ?_, bF_c (upd_n _ _ _ _ (by omega)) b2, bS_c (fun i hi => upd_n _ _ _ _ (by omega)) b3, bK_c (fun i hi => upd_n _ _ _ _ (by omega)) b4, bH_c (fun i hi => upd_n _ _ _ _ (by omega)) b5, bT_c (upd_n _ _ _ _ (by omega)) (upd_n _ _ _ _ (by omega)) (upd_n _ _ _ _ (by omega)) b6, bZ_c (fun i hi => upd_n _ _ _ _ (by omega)) (upd_n _ _ _ _ (by omega)) b7, bP_c (fun i hi => upd_n _ _ _ _ (by omega)) (upd_n _ _ _ _ (by omega)) b8, bC_c (upd_n _ _ _ _ (by omega)) b9⟩
        by_cases hic : i = c
        · subst hic; rw [upd_e, upd_e]; exact ⟨rfl, x, hx, rfl⟩
        · rw [upd_n _ _ _ _ hic, upd_n _ _ _ _ hic]; exact b1 i hi
      · exact Dd_0 _ _ _
    · refine ⟨-1, rfX V 1, rfM M 1, ?_, ?_, Rel_ref hR 1 (by omega)⟩
      · simp (disch := omega) only [f_X8_enter, e8, within_lies, el, pl_bd, pl_ob, pl_ob1, pl_obv, pl_oa, pl_oav, pl_cg, pl_cb0, pl_cb1, pl_nl0, pl_nls, li, nI_cl, pl_ck, nI_E, nI_L, nI_T, nI_add, pk_mul, nI_s1, Nat.zero_add, Nat.add_zero, Nat.reduceAdd, Nat.reduceMul, Nat.reduceSub, Nat.reduceEqDiff, Nat.reduceLeDiff, Nat.reduceLT, ↓reduceIte]; exact hbad.1
      · simp (disch := omega) only [f_X9_enter, e9, el, pl_bd, pl_ob, pl_ob1, pl_obv, pl_oa, pl_oav, pl_cg, pl_cb0, pl_cb1, pl_nl0, pl_nls, li, nI_cl, pl_ck, nI_E, nI_L, nI_T, nI_add, pk_mul, nI_s1, Nat.zero_add, Nat.add_zero, Nat.reduceAdd, Nat.reduceMul, Nat.reduceSub, Nat.reduceEqDiff, Nat.reduceLeDiff, Nat.reduceLT, ↓reduceIte]; exact hbad.2
  · refine ⟨-1, rfX V 1, rfM M 1, ?_, ?_, Rel_ref hR 1 (by omega)⟩
    · simp (disch := omega) only [f_X8_enter, e8, pl_bd, pl_ob, pl_ob1, pl_obv, pl_oa, pl_oav, pl_cg, pl_cb0, pl_cb1, pl_nl0, pl_nls, li, nI_cl, pl_ck, nI_E, nI_L, nI_T, nI_add, pk_mul, nI_s1, Nat.zero_add, Nat.add_zero, Nat.reduceAdd, Nat.reduceMul, Nat.reduceSub, Nat.reduceEqDiff, Nat.reduceLeDiff, Nat.reduceLT, ↓reduceIte]; exact hbad.1
    · simp (disch := omega) only [f_X9_enter, e9, pl_bd, pl_ob, pl_ob1, pl_obv, pl_oa, pl_oav, pl_cg, pl_cb0, pl_cb1, pl_nl0, pl_nls, li, nI_cl, pl_ck, nI_E, nI_L, nI_T, nI_add, pk_mul, nI_s1, Nat.zero_add, Nat.add_zero, Nat.reduceAdd, Nat.reduceMul, Nat.reduceSub, Nat.reduceEqDiff, Nat.reduceLeDiff, Nat.reduceLT, ↓reduceIte]; exact hbad.2
theorem op_told : Op_told N b0 (Rel X b0) := by
  intro S V M hR a1 a2 a3
  have hB := hR.2.1
  have hbad : f_X8_told_19 N S 0 V = some (-1, rfX V 1) ∧ f_X9_told_27 N M = some (-1, rfM M 1) := ⟨rfl, rfl⟩
  rcases line_c N a1 a2 with ⟨k, i, hk, hi, rfl, rfl, e8, e9, e9'⟩ | ⟨e8, e9⟩
  · rcases lies_c N a3 0 9999 (by omega) (by omega) with ⟨x, -, hx, rfl, el⟩ | ⟨-, el⟩
    · have h8 : f_X8_told N S V 0 (nI k) (nI i) (nI x) = some (V.2.1 4 (k * 5 + i), sF (sA V 4 (k * 5 + i) (nI x)) 0 18 (nI 0)) := by
        simp (disch := omega) only [f_X8_told, e8, within_lies, el, x_granted, pl_bd, pl_ob, pl_ob1, pl_obv, pl_oa, pl_oav, pl_cg, pl_cb0, pl_cb1, pl_nl0, pl_nls, li, nI_cl, pl_ck, nI_E, nI_L, nI_T, nI_add, pk_mul, nI_s1, Nat.zero_add, Nat.add_zero, Nat.reduceAdd, Nat.reduceMul, Nat.reduceSub, Nat.reduceEqDiff, Nat.reduceLeDiff, Nat.reduceLT, ↓reduceIte]
      have h9 : f_X9_told N M (nI k) (nI i) (nI x) = some (M.2.1 2 (32 + 5 * k + i), sF (sA M 2 (32 + 5 * k + i) (nI x)) 0 0 (nI 0)) := by
        simp (disch := omega) only [f_X9_told, e9, e9', el, m_good, pl_bd, pl_ob, pl_ob1, pl_obv, pl_oa, pl_oav, pl_cg, pl_cb0, pl_cb1, pl_nl0, pl_nls, li, nI_cl, pl_ck, nI_E, nI_L, nI_T, nI_add, pk_mul, nI_s1, Nat.zero_add, Nat.add_zero, Nat.reduceAdd, Nat.reduceMul, Nat.reduceSub, Nat.reduceEqDiff, Nat.reduceLeDiff, Nat.reduceLT, ↓reduceIte]
      have eq1 : 32 + 5 * k + i = 32 + (k * 5 + i) := by omega
      refine ⟨_, _, _, h8, by rw [(hB.2.2.1 (k * 5 + i) (by omega)).1, ← eq1]; exact h9, ?_⟩
      refine Rel_of hR (G64_F (G64_A (G64_r V) (by omega)) (by omega)) rfl rfl rfl rfl rfl rfl (fun j h1 h2 => ?_) rfl ?_ ?_ hR.2.2.2.2.2.1 ⟨rfl, hR.2.2.2.2.2.2.1.2⟩ hR.2.2.2.2.2.2.2.1 hR.2.2.2.2.2.2.2.2.1
      · show (sA M 2 (32 + 5 * k + i) (nI x)).2.1 2 j = _
        rw [sA_e, upd_n _ _ _ _ (by omega)]
      · show BkA (V.1 1) (V.2.1 2) (V.2.1 3) ((sA V 4 (k * 5 + i) (nI x)).2.1 4) (V.2.1 5) (V.2.1 6) (V.2.1 7) (V.2.1 9) (V.2.1 10) ((sA M 2 (32 + 5 * k + i) (nI x)).2.1 2)
        rw [sA_e, sA_e]
        obtain ⟨b1, b2, b3, b4, b5, b6, b7, b8, b9⟩ := hB
        refine ⟨bE_c (fun i hi => upd_n _ _ _ _ (by omega)) b1, bF_c (upd_n _ _ _ _ (by omega)) b2, fun i2 hi2 => ?_, bK_c (fun i hi => upd_n _ _ _ _ (by omega)) b4, bH_c (fun i hi => upd_n _ _ _ _ (by omega)) b5, bT_c (upd_n _ _ _ _ (by omega)) (upd_n _ _ _ _ (by omega)) (upd_n _ _ _ _ (by omega)) b6, bZ_c (fun i hi => upd_n _ _ _ _ (by omega)) (upd_n _ _ _ _ (by omega)) b7, bP_c (fun i hi => upd_n _ _ _ _ (by omega)) (upd_n _ _ _ _ (by omega)) b8, bC_c (upd_n _ _ _ _ (by omega)) b9⟩
        rw [eq1]
        by_cases hic : i2 = k * 5 + i
        · subst hic; rw [upd_e, upd_e]; exact ⟨rfl, x, hx, rfl⟩
        · rw [upd_n _ _ _ _ hic, upd_n _ _ _ _ (by omega)]; exact b3 i2 hi2
      · show Dd (V.1 32 1) (M.1 0 31) (V.2.1 33) (M.2.1 13) ((sA M 2 (32 + 5 * k + i) (nI x)).2.1 2)
        rw [sA_e]
        exact Dd_c (fun j hj => upd_n _ _ _ _ (by omega)) hR.2.2.2.2.1
    · refine ⟨-1, rfX V 1, rfM M 1, ?_, ?_, Rel_ref hR 1 (by omega)⟩
      · simp (disch := omega) only [f_X8_told, e8, within_lies, el, pl_bd, pl_ob, pl_ob1, pl_obv, pl_oa, pl_oav, pl_cg, pl_cb0, pl_cb1, pl_nl0, pl_nls, li, nI_cl, pl_ck, nI_E, nI_L, nI_T, nI_add, pk_mul, nI_s1, Nat.zero_add, Nat.add_zero, Nat.reduceAdd, Nat.reduceMul, Nat.reduceSub, Nat.reduceEqDiff, Nat.reduceLeDiff, Nat.reduceLT, ↓reduceIte]; exact hbad.1
      · simp (disch := omega) only [f_X9_told, e9, e9', el, pl_bd, pl_ob, pl_ob1, pl_obv, pl_oa, pl_oav, pl_cg, pl_cb0, pl_cb1, pl_nl0, pl_nls, li, nI_cl, pl_ck, nI_E, nI_L, nI_T, nI_add, pk_mul, nI_s1, Nat.zero_add, Nat.add_zero, Nat.reduceAdd, Nat.reduceMul, Nat.reduceSub, Nat.reduceEqDiff, Nat.reduceLeDiff, Nat.reduceLT, ↓reduceIte]; exact hbad.2
  · refine ⟨-1, rfX V 1, rfM M 1, ?_, ?_, Rel_ref hR 1 (by omega)⟩
    · simp (disch := omega) only [f_X8_told, e8, pl_bd, pl_ob, pl_ob1, pl_obv, pl_oa, pl_oav, pl_cg, pl_cb0, pl_cb1, pl_nl0, pl_nls, li, nI_cl, pl_ck, nI_E, nI_L, nI_T, nI_add, pk_mul, nI_s1, Nat.zero_add, Nat.add_zero, Nat.reduceAdd, Nat.reduceMul, Nat.reduceSub, Nat.reduceEqDiff, Nat.reduceLeDiff, Nat.reduceLT, ↓reduceIte]; exact hbad.1
    · rcases e9 with e9 | ⟨e9, e9'⟩
      · simp (disch := omega) only [f_X9_told, e9, pl_bd, pl_ob, pl_ob1, pl_obv, pl_oa, pl_oav, pl_cg, pl_cb0, pl_cb1, pl_nl0, pl_nls, li, nI_cl, pl_ck, nI_E, nI_L, nI_T, nI_add, pk_mul, nI_s1, Nat.zero_add, Nat.add_zero, Nat.reduceAdd, Nat.reduceMul, Nat.reduceSub, Nat.reduceEqDiff, Nat.reduceLeDiff, Nat.reduceLT, ↓reduceIte]; exact hbad.2
      · simp (disch := omega) only [f_X9_told, e9, e9', pl_bd, pl_ob, pl_ob1, pl_obv, pl_oa, pl_oav, pl_cg, pl_cb0, pl_cb1, pl_nl0, pl_nls, li, nI_cl, pl_ck, nI_E, nI_L, nI_T, nI_add, pk_mul, nI_s1, Nat.zero_add, Nat.add_zero, Nat.reduceAdd, Nat.reduceMul, Nat.reduceSub, Nat.reduceEqDiff, Nat.reduceLeDiff, Nat.reduceLT, ↓reduceIte]; exact hbad.2
theorem op_clerk : Op_clerk N b0 (Rel X b0) := by
  intro S V M hR a1
  have hB := hR.2.1
  obtain ⟨n, hn, en⟩ := hB.2.2.2.2.2.2.2.2.2
  have en8 : V.1 1 9 = nI n := hB.2.2.2.2.2.2.2.2.1.trans en
  rcases lies_c N a1 0 9 (by omega) (by omega) with ⟨x, -, hx, rfl, el⟩ | ⟨-, el⟩
  · by_cases h5 : n < 5
    · have h8 : f_X8_clerk N S V 0 (nI x) = some (nI n, sF (sF (sF (sA (sA V 5 n (nI x)) 6 n (nI 0)) 1 9 (nI (n + 1))) 32 1 (nI 0)) 0 18 (nI 0)) := by
        simp (disch := omega) only [f_X8_clerk, within_lies, el, en8, x_clear, x_granted, h5, pl_bd, pl_ob, pl_ob1, pl_obv, pl_oa, pl_oav, pl_cg, pl_cb0, pl_cb1, pl_nl0, pl_nls, li, nI_cl, pl_ck, nI_E, nI_L, nI_T, nI_add, pk_mul, nI_s1, Nat.zero_add, Nat.add_zero, Nat.reduceAdd, Nat.reduceMul, Nat.reduceSub, Nat.reduceEqDiff, Nat.reduceLeDiff, Nat.reduceLT, ↓reduceIte]
      have h9 : f_X9_clerk N M (nI x) = some (nI n, sF (sF (sA (sA (sA M 2 (42 + n) (nI x)) 2 (25 + n) (nI 0)) 2 103 (nI (n + 1))) 0 31 (nI 0)) 0 0 (nI 0)) := by
        have k : (sA (sA M 2 (42 + n) (nI x)) 2 (25 + n) (nI 0)).2.1 2 103 = nI n := by
          rw [sA_e, upd_n _ _ _ _ (by omega), sA_e, upd_n _ _ _ _ (by omega)]; exact en
        have h5' : ¬ n = 5 := by omega
        simp (disch := omega) only [f_X9_clerk, el, en, h5', m_goodAnew, k, pl_bd, pl_ob, pl_ob1, pl_obv, pl_oa, pl_oav, pl_cg, pl_cb0, pl_cb1, pl_nl0, pl_nls, li, nI_cl, pl_ck, nI_E, nI_L, nI_T, nI_add, pk_mul, nI_s1, Nat.zero_add, Nat.add_zero, Nat.reduceAdd, Nat.reduceMul, Nat.reduceSub, Nat.reduceEqDiff, Nat.reduceLeDiff, Nat.reduceLT, ↓reduceIte]
      refine ⟨_, _, _, h8, h9, ?_⟩
      refine Rel_of hR (G64_F (G64_F (G64_F (G64_A (G64_A (G64_r V) (by omega)) (by omega)) (by omega)) (by omega)) (by omega)) rfl rfl rfl rfl rfl rfl (fun j h1 h2 => ?_) rfl ?_ ?_ hR.2.2.2.2.2.1 ⟨rfl, hR.2.2.2.2.2.2.1.2⟩ hR.2.2.2.2.2.2.2.1 hR.2.2.2.2.2.2.2.2.1
      · show (sA (sA (sA M 2 (42 + n) (nI x)) 2 (25 + n) (nI 0)) 2 103 (nI (n + 1))).2.1 2 j = _
        rw [sA_e, upd_n _ _ _ _ (by omega), sA_e, upd_n _ _ _ _ (by omega), sA_e, upd_n _ _ _ _ (by omega)]
      · show BkA ((sF V 1 9 (nI (n + 1))).1 1) (V.2.1 2) (V.2.1 3) (V.2.1 4) ((sA V 5 n (nI x)).2.1 5) ((sA V 6 n (nI 0)).2.1 6) (V.2.1 7) (V.2.1 9) (V.2.1 10) ((sA (sA (sA M 2 (42 + n) (nI x)) 2 (25 + n) (nI 0)) 2 103 (nI (n + 1))).2.1 2)
        rw [sF_e, sA_e, sA_e, sA_e, sA_e, sA_e]
        obtain ⟨b1, b2, b3, b4, b5, b6, b7, b8, b9⟩ := hB
        refine ⟨bE_c (fun i hi => ?_) b1, bF_c ?_ b2, bS_c (fun i hi => ?_) b3, fun i hi => ?_, fun i hi => ?_, bT_c ?_ ?_ ?_ b6, bZ_c (fun i hi => ?_) ?_ b7, bP_c (fun i hi => ?_) ?_ b8, ?_⟩
        all_goals first | (simp (disch := omega) only [upd_n]; done) | skip
        · by_cases hic : i = n
          · subst hic
            simp (disch := omega) only [upd_n, upd_e]; exact ⟨trivial, x, hx, rfl⟩
          · simp (disch := omega) only [upd_n]; exact b4 i hi
        · by_cases hic : i = n
          · subst hic
            simp (disch := omega) only [upd_n, upd_e]; exact ⟨trivial, 0, by omega, rfl⟩
          · simp (disch := omega) only [upd_n]; exact b5 i hi
        · exact ⟨by rw [upd_e, upd_e], n + 1, by omega, by rw [upd_e]⟩
      · exact Dd_0 _ _ _
    · have h8 : f_X8_clerk N S V 0 (nI x) = some (-5, rfX V 5) := by
        simp (disch := omega) only [f_X8_clerk, within_lies, el, en8, h5, pl_bd, pl_ob, pl_ob1, pl_obv, pl_oa, pl_oav, pl_cg, pl_cb0, pl_cb1, pl_nl0, pl_nls, li, nI_cl, pl_ck, nI_E, nI_L, nI_T, nI_add, pk_mul, nI_s1, Nat.zero_add, Nat.add_zero, Nat.reduceAdd, Nat.reduceMul, Nat.reduceSub, Nat.reduceEqDiff, Nat.reduceLeDiff, Nat.reduceLT, ↓reduceIte]
        rfl
      have h9 : f_X9_clerk N M (nI x) = some (-5, rfM M 5) := by
        have h5' : n = 5 := by omega
        simp (disch := omega) only [f_X9_clerk, el, en, h5', pl_bd, pl_ob, pl_ob1, pl_obv, pl_oa, pl_oav, pl_cg, pl_cb0, pl_cb1, pl_nl0, pl_nls, li, nI_cl, pl_ck, nI_E, nI_L, nI_T, nI_add, pk_mul, nI_s1, Nat.zero_add, Nat.add_zero, Nat.reduceAdd, Nat.reduceMul, Nat.reduceSub, Nat.reduceEqDiff, Nat.reduceLeDiff, Nat.reduceLT, ↓reduceIte]
        rfl
      exact ⟨_, _, _, h8, h9, Rel_ref hR 5 (by omega)⟩
  · refine ⟨-1, rfX V 1, rfM M 1, ?_, ?_, Rel_ref hR 1 (by omega)⟩
    · simp (disch := omega) only [f_X8_clerk, within_lies, el, pl_bd, pl_ob, pl_ob1, pl_obv, pl_oa, pl_oav, pl_cg, pl_cb0, pl_cb1, pl_nl0, pl_nls, li, nI_cl, pl_ck, nI_E, nI_L, nI_T, nI_add, pk_mul, nI_s1, Nat.zero_add, Nat.add_zero, Nat.reduceAdd, Nat.reduceMul, Nat.reduceSub, Nat.reduceEqDiff, Nat.reduceLeDiff, Nat.reduceLT, ↓reduceIte]; rfl
    · simp (disch := omega) only [f_X9_clerk, el, pl_bd, pl_ob, pl_ob1, pl_obv, pl_oa, pl_oav, pl_cg, pl_cb0, pl_cb1, pl_nl0, pl_nls, li, nI_cl, pl_ck, nI_E, nI_L, nI_T, nI_add, pk_mul, nI_s1, Nat.zero_add, Nat.add_zero, Nat.reduceAdd, Nat.reduceMul, Nat.reduceSub, Nat.reduceEqDiff, Nat.reduceLeDiff, Nat.reduceLT, ↓reduceIte]; rfl
theorem op_of : Op_of N b0 (Rel X b0) := by
  intro S V M hR a1 a2
  have hB := hR.2.1
  obtain ⟨n, hn, en⟩ := hB.2.2.2.2.2.2.2.2.2
  have en8 : V.1 1 9 = nI n := hB.2.2.2.2.2.2.2.2.1.trans en
  rcases clerk_c N S V M 1 n hn en8 en a1 with ⟨p, hp, rfl, e8, e9⟩ | ⟨e8, e9⟩
  · by_cases c0 : a2 = nI 0
    · subst c0
      refine ⟨V.2.1 5 p, ?_, ?_, hR⟩
      · simp (disch := omega) only [f_X8_of, e8, pl_bd, pl_ob, pl_ob1, pl_obv, pl_oa, pl_oav, pl_cg, pl_cb0, pl_cb1, pl_nl0, pl_nls, li, nI_cl, pl_ck, nI_E, nI_L, nI_T, nI_add, pk_mul, nI_s1, Nat.zero_add, Nat.add_zero, Nat.reduceAdd, Nat.reduceMul, Nat.reduceSub, Nat.reduceEqDiff, Nat.reduceLeDiff, Nat.reduceLT, ↓reduceIte]
      · rw [(hB.2.2.2.1 p (by omega)).1]
        simp (disch := omega) only [f_X9_of, e9, pl_bd, pl_ob, pl_ob1, pl_obv, pl_oa, pl_oav, pl_cg, pl_cb0, pl_cb1, pl_nl0, pl_nls, li, nI_cl, pl_ck, nI_E, nI_L, nI_T, nI_add, pk_mul, nI_s1, Nat.zero_add, Nat.add_zero, Nat.reduceAdd, Nat.reduceMul, Nat.reduceSub, Nat.reduceEqDiff, Nat.reduceLeDiff, Nat.reduceLT, ↓reduceIte]
    · by_cases c1 : a2 = nI 1
      · subst c1
        refine ⟨V.2.1 6 p, ?_, ?_, hR⟩
        · simp (disch := omega) only [f_X8_of, e8, f_X0_handOf, pl_bd, pl_ob, pl_ob1, pl_obv, pl_oa, pl_oav, pl_cg, pl_cb0, pl_cb1, pl_nl0, pl_nls, li, nI_cl, pl_ck, nI_E, nI_L, nI_T, nI_add, pk_mul, nI_s1, Nat.zero_add, Nat.add_zero, Nat.reduceAdd, Nat.reduceMul, Nat.reduceSub, Nat.reduceEqDiff, Nat.reduceLeDiff, Nat.reduceLT, ↓reduceIte]
        · rw [(hB.2.2.2.2.1 p (by omega)).1]
          simp (disch := omega) only [f_X9_of, e9, pl_bd, pl_ob, pl_ob1, pl_obv, pl_oa, pl_oav, pl_cg, pl_cb0, pl_cb1, pl_nl0, pl_nls, li, nI_cl, pl_ck, nI_E, nI_L, nI_T, nI_add, pk_mul, nI_s1, Nat.zero_add, Nat.add_zero, Nat.reduceAdd, Nat.reduceMul, Nat.reduceSub, Nat.reduceEqDiff, Nat.reduceLeDiff, Nat.reduceLT, ↓reduceIte]
      · refine ⟨-1, ?_, ?_, hR⟩
        · simp (disch := omega) only [f_X8_of, e8, c0, c1, pl_bd, pl_ob, pl_ob1, pl_obv, pl_oa, pl_oav, pl_cg, pl_cb0, pl_cb1, pl_nl0, pl_nls, li, nI_cl, pl_ck, nI_E, nI_L, nI_T, nI_add, pk_mul, nI_s1, Nat.zero_add, Nat.add_zero, Nat.reduceAdd, Nat.reduceMul, Nat.reduceSub, Nat.reduceEqDiff, Nat.reduceLeDiff, Nat.reduceLT, ↓reduceIte]
        · simp (disch := omega) only [f_X9_of, e9, c0, c1, pl_bd, pl_ob, pl_ob1, pl_obv, pl_oa, pl_oav, pl_cg, pl_cb0, pl_cb1, pl_nl0, pl_nls, li, nI_cl, pl_ck, nI_E, nI_L, nI_T, nI_add, pk_mul, nI_s1, Nat.zero_add, Nat.add_zero, Nat.reduceAdd, Nat.reduceMul, Nat.reduceSub, Nat.reduceEqDiff, Nat.reduceLeDiff, Nat.reduceLT, ↓reduceIte]
  · refine ⟨-1, ?_, ?_, hR⟩
    · simp (disch := omega) only [f_X8_of, e8, pl_bd, pl_ob, pl_ob1, pl_obv, pl_oa, pl_oav, pl_cg, pl_cb0, pl_cb1, pl_nl0, pl_nls, li, nI_cl, pl_ck, nI_E, nI_L, nI_T, nI_add, pk_mul, nI_s1, Nat.zero_add, Nat.add_zero, Nat.reduceAdd, Nat.reduceMul, Nat.reduceSub, Nat.reduceEqDiff, Nat.reduceLeDiff, Nat.reduceLT, ↓reduceIte]
    · simp (disch := omega) only [f_X9_of, e9, pl_bd, pl_ob, pl_ob1, pl_obv, pl_oa, pl_oav, pl_cg, pl_cb0, pl_cb1, pl_nl0, pl_nls, li, nI_cl, pl_ck, nI_E, nI_L, nI_T, nI_add, pk_mul, nI_s1, Nat.zero_add, Nat.add_zero, Nat.reduceAdd, Nat.reduceMul, Nat.reduceSub, Nat.reduceEqDiff, Nat.reduceLeDiff, Nat.reduceLT, ↓reduceIte]
end OPS
