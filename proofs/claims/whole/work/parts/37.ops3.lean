/-! force, sights, payments, what was drawn, counts -/
theorem x_put3 {N : Nat} (S : St) (V : Vt) (h L n : Nat) (a b c : Int32) (hL : S.2.2.1 h = L) (hL2 : L < 2147483648) (hn : 3 * n + 2 < L) : f_X8_putThree N S V h (nI n) a b c = some (sA (sA (sA V h (3 * n) a) h (3 * n + 1) b) h (3 * n + 2) c) := by
  simp (disch := omega) only [f_X8_putThree, hL, pl_bd, pl_ob, pl_ob1, pl_obv, pl_oa, pl_oav, pl_cg, pl_cb0, pl_cb1, pl_nl0, pl_nls, li, nI_cl, pl_ck, nI_E, nI_L, nI_T, nI_add, pk_mul, nI_s1, Nat.zero_add, Nat.add_zero, Nat.reduceAdd, Nat.reduceMul, Nat.reduceSub, Nat.reduceEqDiff, Nat.reduceLeDiff, Nat.reduceLT, ↓reduceIte]
theorem shL {b0 : Nat} {X : TxP} {S : St} {V M : Vt} (hR : Rel X b0 S V M) {i : Nat} {x : Nat × Nat × List Nat} (h : t8[i]? = some x) : S.2.2.1 i = x.2.1 := by
  have := (hR.1.1 i x h).2.2.1
  rw [Nat.zero_add] at this
  exact this
section OPS
variable {N b0 : Nat} {X : TxP}
theorem op_seen : Op_seen N b0 (Rel X b0) := by
  intro S V M hR a1 a2 a3
  have hB := hR.2.1
  have hbad : f_X8_seen_27 N S 0 V = some (-1, rfX V 1) ∧ f_X9_seen_27 N M = some (-1, rfM M 1) := ⟨rfl, rfl⟩
  obtain ⟨q1, q2, n, hn, en, q3⟩ := hB.2.2.2.2.2.2.1
  have en8 : V.1 1 12 = nI n := q2.trans en
  rcases cell_c N a1 with ⟨c, hc, rfl, e8, e9⟩ | ⟨e8, e9⟩
  · rcases lies_c N a2 0 99 (by omega) (by omega) with ⟨x, -, hx, rfl, el⟩ | ⟨-, el⟩
    · rcases lies_c N a3 0 25 (by omega) (by omega) with ⟨y, -, hy, rfl, el2⟩ | ⟨-, el2⟩
      · by_cases h8n : n < 8
        · have eL : S.2.2.1 9 = 24 := shL hR (i := 9) rfl
          have h8 : f_X8_seen N S V 0 (nI c) (nI x) (nI y) = some (nI (n + 1), sF (sF (sA (sA (sA V 9 (3 * n) (nI c)) 9 (3 * n + 1) (nI x)) 9 (3 * n + 2) (nI y)) 1 12 (nI (n + 1))) 0 18 (nI 0)) := by
            have k1 : (sA (sA (sA V 9 (3 * n) (nI c)) 9 (3 * n + 1) (nI x)) 9 (3 * n + 2) (nI y)).1 1 12 = nI n := en8
            have k2 : (sF (sA (sA (sA V 9 (3 * n) (nI c)) 9 (3 * n + 1) (nI x)) 9 (3 * n + 2) (nI y)) 1 12 (nI (n + 1))).1 1 12 = nI (n + 1) := by rw [sF_e, upd_e]
            simp (disch := omega) only [f_X8_seen, e8, within_lies, el, el2, en8, h8n, x_put3 S V 9 24 n _ _ _ eL, k1, k2, x_granted, pl_bd, pl_ob, pl_ob1, pl_obv, pl_oa, pl_oav, pl_cg, pl_cb0, pl_cb1, pl_nl0, pl_nls, li, nI_cl, pl_ck, nI_E, nI_L, nI_T, nI_add, pk_mul, nI_s1, Nat.zero_add, Nat.add_zero, Nat.reduceAdd, Nat.reduceMul, Nat.reduceSub, Nat.reduceEqDiff, Nat.reduceLeDiff, Nat.reduceLT, ↓reduceIte]
          have h9 : f_X9_seen N M (nI c) (nI x) (nI y) = some (nI (n + 1), sF (sA (sA (sA (sA M 2 (47 + 3 * n) (nI c)) 2 (47 + 3 * n + 1) (nI x)) 2 (47 + 3 * n + 2) (nI y)) 2 104 (nI (n + 1))) 0 0 (nI 0)) := by
            have k1 : (sA (sA (sA M 2 (47 + 3 * n) (nI c)) 2 (47 + 3 * n + 1) (nI x)) 2 (47 + 3 * n + 2) (nI y)).2.1 2 104 = nI n := by
              rw [sA_e, sA_e, sA_e]; simp (disch := omega) only [upd_n]; exact en
            have k2 : (sA (sA (sA (sA M 2 (47 + 3 * n) (nI c)) 2 (47 + 3 * n + 1) (nI x)) 2 (47 + 3 * n + 2) (nI y)) 2 104 (nI (n + 1))).2.1 2 104 = nI (n + 1) := by rw [sA_e, upd_e]
            have h8' : ¬ n = 8 := by omega
            simp (disch := omega) only [f_X9_seen, e9, el, el2, en, h8', k1, k2, m_good, pl_bd, pl_ob, pl_ob1, pl_obv, pl_oa, pl_oav, pl_cg, pl_cb0, pl_cb1, pl_nl0, pl_nls, li, nI_cl, pl_ck, nI_E, nI_L, nI_T, nI_add, pk_mul, nI_s1, Nat.zero_add, Nat.add_zero, Nat.reduceAdd, Nat.reduceMul, Nat.reduceSub, Nat.reduceEqDiff, Nat.reduceLeDiff, Nat.reduceLT, ↓reduceIte]
          refine ⟨_, _, _, h8, h9, ?_⟩
          refine Rel_of hR (G64_F (G64_F (G64_A (G64_A (G64_A (G64_r V) (by omega)) (by omega)) (by omega)) (by omega)) (by omega)) rfl rfl rfl rfl rfl rfl (fun j h1 h2 => ?_) rfl ?_ ?_ hR.2.2.2.2.2.1 ⟨rfl, hR.2.2.2.2.2.2.1.2⟩ hR.2.2.2.2.2.2.2.1 hR.2.2.2.2.2.2.2.2.1
          · show (sA (sA (sA (sA M 2 (47 + 3 * n) (nI c)) 2 (47 + 3 * n + 1) (nI x)) 2 (47 + 3 * n + 2) (nI y)) 2 104 (nI (n + 1))).2.1 2 j = _
            rw [sA_e, sA_e, sA_e, sA_e]
            simp (disch := omega) only [upd_n]
          · show BkA ((sF V 1 12 (nI (n + 1))).1 1) (V.2.1 2) (V.2.1 3) (V.2.1 4) (V.2.1 5) (V.2.1 6) (V.2.1 7) ((sA (sA (sA V 9 (3 * n) (nI c)) 9 (3 * n + 1) (nI x)) 9 (3 * n + 2) (nI y)).2.1 9) (V.2.1 10) ((sA (sA (sA (sA M 2 (47 + 3 * n) (nI c)) 2 (47 + 3 * n + 1) (nI x)) 2 (47 + 3 * n + 2) (nI y)) 2 104 (nI (n + 1))).2.1 2)
            rw [sF_e, sA_e, sA_e, sA_e, sA_e, sA_e, sA_e, sA_e]
            obtain ⟨b1, b2, b3, b4, b5, b6, b7, b8, b9⟩ := hB
            refine ⟨bE_c (fun i hi => ?_) b1, bF_c ?_ b2, bS_c (fun i hi => ?_) b3, bK_c (fun i hi => ?_) b4, bH_c (fun i hi => ?_) b5, bT_c ?_ ?_ ?_ b6, ?_, bP_c (K := M.2.1 2) (fun i hi => ?_) ?_ ?_, bC_c (K := M.2.1 2) ?_ ?_⟩
            all_goals first | (simp (disch := omega) only [upd_n]; done) | skip
            · refine ⟨fun i hi => ?_, ?_, n + 1, by omega, ?_, fun i hi => ?_⟩
              · by_cases i0 : i = 3 * n
                · subst i0; simp (disch := omega) only [upd_n, upd_e]
                · by_cases i1 : i = 3 * n + 1
                  · subst i1; rw [show 47 + (3 * n + 1) = 47 + 3 * n + 1 by omega]; simp (disch := omega) only [upd_n, upd_e]
                  · by_cases i2 : i = 3 * n + 2
                    · subst i2; rw [show 47 + (3 * n + 2) = 47 + 3 * n + 2 by omega]; simp (disch := omega) only [upd_n, upd_e]
                    · simp (disch := omega) only [upd_n]; exact q1 i hi
              · simp (disch := omega) only [upd_n, upd_e]
              · simp (disch := omega) only [upd_n, upd_e]
              · by_cases i0 : i = n
                · subst i0
                  rw [show 48 + 3 * i = 47 + 3 * i + 1 by omega, show 49 + 3 * i = 47 + 3 * i + 2 by omega]
                  simp (disch := omega) only [upd_n, upd_e]
                  exact ⟨⟨c, by omega, rfl⟩, ⟨x, hx, rfl⟩, y, hy, rfl⟩
                · simp (disch := omega) only [upd_n]; exact q3 i (by omega)
            · simp (disch := omega) only [upd_n]; exact b8
            · simp (disch := omega) only [upd_n]; exact b9
          · show Dd (V.1 32 1) (M.1 0 31) (V.2.1 33) (M.2.1 13) ((sA (sA (sA (sA M 2 (47 + 3 * n) (nI c)) 2 (47 + 3 * n + 1) (nI x)) 2 (47 + 3 * n + 2) (nI y)) 2 104 (nI (n + 1))).2.1 2)
            rw [sA_e, sA_e, sA_e, sA_e]
            refine Dd_c (fun j hj => ?_) hR.2.2.2.2.1
            simp (disch := omega) only [upd_n]
        · refine ⟨-5, rfX V 5, rfM M 5, ?_, ?_, Rel_ref hR 5 (by omega)⟩
          · simp (disch := omega) only [f_X8_seen, e8, within_lies, el, el2, en8, h8n, pl_bd, pl_ob, pl_ob1, pl_obv, pl_oa, pl_oav, pl_cg, pl_cb0, pl_cb1, pl_nl0, pl_nls, li, nI_cl, pl_ck, nI_E, nI_L, nI_T, nI_add, pk_mul, nI_s1, Nat.zero_add, Nat.add_zero, Nat.reduceAdd, Nat.reduceMul, Nat.reduceSub, Nat.reduceEqDiff, Nat.reduceLeDiff, Nat.reduceLT, ↓reduceIte]; rfl
          · have h8' : n = 8 := by omega
            simp (disch := omega) only [f_X9_seen, e9, el, el2, en, h8', pl_bd, pl_ob, pl_ob1, pl_obv, pl_oa, pl_oav, pl_cg, pl_cb0, pl_cb1, pl_nl0, pl_nls, li, nI_cl, pl_ck, nI_E, nI_L, nI_T, nI_add, pk_mul, nI_s1, Nat.zero_add, Nat.add_zero, Nat.reduceAdd, Nat.reduceMul, Nat.reduceSub, Nat.reduceEqDiff, Nat.reduceLeDiff, Nat.reduceLT, ↓reduceIte]; rfl
      · refine ⟨-1, rfX V 1, rfM M 1, ?_, ?_, Rel_ref hR 1 (by omega)⟩
        · simp (disch := omega) only [f_X8_seen, e8, within_lies, el, el2, pl_bd, pl_ob, pl_ob1, pl_obv, pl_oa, pl_oav, pl_cg, pl_cb0, pl_cb1, pl_nl0, pl_nls, li, nI_cl, pl_ck, nI_E, nI_L, nI_T, nI_add, pk_mul, nI_s1, Nat.zero_add, Nat.add_zero, Nat.reduceAdd, Nat.reduceMul, Nat.reduceSub, Nat.reduceEqDiff, Nat.reduceLeDiff, Nat.reduceLT, ↓reduceIte]; exact hbad.1
        · simp (disch := omega) only [f_X9_seen, e9, el, el2, pl_bd, pl_ob, pl_ob1, pl_obv, pl_oa, pl_oav, pl_cg, pl_cb0, pl_cb1, pl_nl0, pl_nls, li, nI_cl, pl_ck, nI_E, nI_L, nI_T, nI_add, pk_mul, nI_s1, Nat.zero_add, Nat.add_zero, Nat.reduceAdd, Nat.reduceMul, Nat.reduceSub, Nat.reduceEqDiff, Nat.reduceLeDiff, Nat.reduceLT, ↓reduceIte]; exact hbad.2
    · refine ⟨-1, rfX V 1, rfM M 1, ?_, ?_, Rel_ref hR 1 (by omega)⟩
      · simp (disch := omega) only [f_X8_seen, e8, within_lies, el, pl_bd, pl_ob, pl_ob1, pl_obv, pl_oa, pl_oav, pl_cg, pl_cb0, pl_cb1, pl_nl0, pl_nls, li, nI_cl, pl_ck, nI_E, nI_L, nI_T, nI_add, pk_mul, nI_s1, Nat.zero_add, Nat.add_zero, Nat.reduceAdd, Nat.reduceMul, Nat.reduceSub, Nat.reduceEqDiff, Nat.reduceLeDiff, Nat.reduceLT, ↓reduceIte]; exact hbad.1
      · simp (disch := omega) only [f_X9_seen, e9, el, pl_bd, pl_ob, pl_ob1, pl_obv, pl_oa, pl_oav, pl_cg, pl_cb0, pl_cb1, pl_nl0, pl_nls, li, nI_cl, pl_ck, nI_E, nI_L, nI_T, nI_add, pk_mul, nI_s1, Nat.zero_add, Nat.add_zero, Nat.reduceAdd, Nat.reduceMul, Nat.reduceSub, Nat.reduceEqDiff, Nat.reduceLeDiff, Nat.reduceLT, ↓reduceIte]; exact hbad.2
  · refine ⟨-1, rfX V 1, rfM M 1, ?_, ?_, Rel_ref hR 1 (by omega)⟩
    · simp (disch := omega) only [f_X8_seen, e8, pl_bd, pl_ob, pl_ob1, pl_obv, pl_oa, pl_oav, pl_cg, pl_cb0, pl_cb1, pl_nl0, pl_nls, li, nI_cl, pl_ck, nI_E, nI_L, nI_T, nI_add, pk_mul, nI_s1, Nat.zero_add, Nat.add_zero, Nat.reduceAdd, Nat.reduceMul, Nat.reduceSub, Nat.reduceEqDiff, Nat.reduceLeDiff, Nat.reduceLT, ↓reduceIte]; exact hbad.1
    · simp (disch := omega) only [f_X9_seen, e9, pl_bd, pl_ob, pl_ob1, pl_obv, pl_oa, pl_oav, pl_cg, pl_cb0, pl_cb1, pl_nl0, pl_nls, li, nI_cl, pl_ck, nI_E, nI_L, nI_T, nI_add, pk_mul, nI_s1, Nat.zero_add, Nat.add_zero, Nat.reduceAdd, Nat.reduceMul, Nat.reduceSub, Nat.reduceEqDiff, Nat.reduceLeDiff, Nat.reduceLT, ↓reduceIte]; exact hbad.2
theorem op_booked : Op_booked N b0 (Rel X b0) := by
  intro S V M hR a1 a2 a3
  have hB := hR.2.1
  have hbad : f_X8_booked_30 N S 0 V = some (-1, rfX V 1) ∧ f_X9_booked_30 N M = some (-1, rfM M 1) := ⟨rfl, rfl⟩
  obtain ⟨q1, q2, n, hn, en, q3⟩ := hB.2.2.2.2.2.2.2.1
  have en8 : V.1 1 13 = nI n := q2.trans en
  rcases five_c N a1 with ⟨c, hc, rfl, e8, e9⟩ | ⟨e8, e9⟩
  · rcases five_c N a2 with ⟨x, hx, rfl, el8, el9⟩ | ⟨el8, el9⟩
    · by_cases hcx : c = x
      · refine ⟨-1, rfX V 1, rfM M 1, ?_, ?_, Rel_ref hR 1 (by omega)⟩
        · simp (disch := omega) only [f_X8_booked, e8, el8, hcx, pl_bd, pl_ob, pl_ob1, pl_obv, pl_oa, pl_oav, pl_cg, pl_cb0, pl_cb1, pl_nl0, pl_nls, li, nI_cl, pl_ck, nI_E, nI_L, nI_T, nI_add, pk_mul, nI_s1, Nat.zero_add, Nat.add_zero, Nat.reduceAdd, Nat.reduceMul, Nat.reduceSub, Nat.reduceEqDiff, Nat.reduceLeDiff, Nat.reduceLT, ↓reduceIte]; exact hbad.1
        · simp (disch := omega) only [f_X9_booked, e9, el9, hcx, pl_bd, pl_ob, pl_ob1, pl_obv, pl_oa, pl_oav, pl_cg, pl_cb0, pl_cb1, pl_nl0, pl_nls, li, nI_cl, pl_ck, nI_E, nI_L, nI_T, nI_add, pk_mul, nI_s1, Nat.zero_add, Nat.add_zero, Nat.reduceAdd, Nat.reduceMul, Nat.reduceSub, Nat.reduceEqDiff, Nat.reduceLeDiff, Nat.reduceLT, ↓reduceIte]; exact hbad.2
      · rcases lies_c N a3 1 999 (by omega) (by omega) with ⟨y, hy0, hy, rfl, el2⟩ | ⟨-, el2⟩
        · by_cases h8n : n < 10
          · have eL : S.2.2.1 10 = 30 := shL hR (i := 10) rfl
            have h8 : f_X8_booked N S V 0 (nI c) (nI x) (nI y) = some (nI (n + 1), sF (sF (sA (sA (sA V 10 (3 * n) (nI c)) 10 (3 * n + 1) (nI x)) 10 (3 * n + 2) (nI y)) 1 13 (nI (n + 1))) 0 18 (nI 0)) := by
              have k1 : (sA (sA (sA V 10 (3 * n) (nI c)) 10 (3 * n + 1) (nI x)) 10 (3 * n + 2) (nI y)).1 1 13 = nI n := en8
              have k2 : (sF (sA (sA (sA V 10 (3 * n) (nI c)) 10 (3 * n + 1) (nI x)) 10 (3 * n + 2) (nI y)) 1 13 (nI (n + 1))).1 1 13 = nI (n + 1) := by rw [sF_e, upd_e]
              simp (disch := omega) only [f_X8_booked, e8, el8, hcx, within_lies, el2, en8, h8n, x_put3 S V 10 30 n _ _ _ eL, k1, k2, x_granted, pl_bd, pl_ob, pl_ob1, pl_obv, pl_oa, pl_oav, pl_cg, pl_cb0, pl_cb1, pl_nl0, pl_nls, li, nI_cl, pl_ck, nI_E, nI_L, nI_T, nI_add, pk_mul, nI_s1, Nat.zero_add, Nat.add_zero, Nat.reduceAdd, Nat.reduceMul, Nat.reduceSub, Nat.reduceEqDiff, Nat.reduceLeDiff, Nat.reduceLT, ↓reduceIte]
            have h9 : f_X9_booked N M (nI c) (nI x) (nI y) = some (nI (n + 1), sF (sA (sA (sA (sA M 2 (71 + 3 * n) (nI c)) 2 (71 + 3 * n + 1) (nI x)) 2 (71 + 3 * n + 2) (nI y)) 2 105 (nI (n + 1))) 0 0 (nI 0)) := by
              have k1 : (sA (sA (sA M 2 (71 + 3 * n) (nI c)) 2 (71 + 3 * n + 1) (nI x)) 2 (71 + 3 * n + 2) (nI y)).2.1 2 105 = nI n := by
                rw [sA_e, sA_e, sA_e]; simp (disch := omega) only [upd_n]; exact en
              have k2 : (sA (sA (sA (sA M 2 (71 + 3 * n) (nI c)) 2 (71 + 3 * n + 1) (nI x)) 2 (71 + 3 * n + 2) (nI y)) 2 105 (nI (n + 1))).2.1 2 105 = nI (n + 1) := by rw [sA_e, upd_e]
              have h8' : ¬ n = 10 := by omega
              simp (disch := omega) only [f_X9_booked, e9, el9, hcx, el2, en, h8', k1, k2, m_good, pl_bd, pl_ob, pl_ob1, pl_obv, pl_oa, pl_oav, pl_cg, pl_cb0, pl_cb1, pl_nl0, pl_nls, li, nI_cl, pl_ck, nI_E, nI_L, nI_T, nI_add, pk_mul, nI_s1, Nat.zero_add, Nat.add_zero, Nat.reduceAdd, Nat.reduceMul, Nat.reduceSub, Nat.reduceEqDiff, Nat.reduceLeDiff, Nat.reduceLT, ↓reduceIte]
            refine ⟨_, _, _, h8, h9, ?_⟩
            refine Rel_of hR (G64_F (G64_F (G64_A (G64_A (G64_A (G64_r V) (by omega)) (by omega)) (by omega)) (by omega)) (by omega)) rfl rfl rfl rfl rfl rfl (fun j h1 h2 => ?_) rfl ?_ ?_ hR.2.2.2.2.2.1 ⟨rfl, hR.2.2.2.2.2.2.1.2⟩ hR.2.2.2.2.2.2.2.1 hR.2.2.2.2.2.2.2.2.1
            · show (sA (sA (sA (sA M 2 (71 + 3 * n) (nI c)) 2 (71 + 3 * n + 1) (nI x)) 2 (71 + 3 * n + 2) (nI y)) 2 105 (nI (n + 1))).2.1 2 j = _
              rw [sA_e, sA_e, sA_e, sA_e]
              simp (disch := omega) only [upd_n]
            · show BkA ((sF V 1 13 (nI (n + 1))).1 1) (V.2.1 2) (V.2.1 3) (V.2.1 4) (V.2.1 5) (V.2.1 6) (V.2.1 7) (V.2.1 9) ((sA (sA (sA V 10 (3 * n) (nI c)) 10 (3 * n + 1) (nI x)) 10 (3 * n + 2) (nI y)).2.1 10) ((sA (sA (sA (sA M 2 (71 + 3 * n) (nI c)) 2 (71 + 3 * n + 1) (nI x)) 2 (71 + 3 * n + 2) (nI y)) 2 105 (nI (n + 1))).2.1 2)
              rw [sF_e, sA_e, sA_e, sA_e, sA_e, sA_e, sA_e, sA_e]
              obtain ⟨b1, b2, b3, b4, b5, b6, b7, b8, b9⟩ := hB
              refine ⟨bE_c (fun i hi => ?_) b1, bF_c ?_ b2, bS_c (fun i hi => ?_) b3, bK_c (fun i hi => ?_) b4, bH_c (fun i hi => ?_) b5, bT_c ?_ ?_ ?_ b6, bZ_c (K := M.2.1 2) (fun i hi => ?_) ?_ ?_, ?_, bC_c (K := M.2.1 2) ?_ ?_⟩
              all_goals first | (simp (disch := omega) only [upd_n]; done) | skip
              · simp (disch := omega) only [upd_n]; exact b7
              · refine ⟨fun i hi => ?_, ?_, n + 1, by omega, ?_, fun i hi => ?_⟩
                · by_cases i0 : i = 3 * n
                  · subst i0; simp (disch := omega) only [upd_n, upd_e]
                  · by_cases i1 : i = 3 * n + 1
                    · subst i1; rw [show 71 + (3 * n + 1) = 71 + 3 * n + 1 by omega]; simp (disch := omega) only [upd_n, upd_e]
                    · by_cases i2 : i = 3 * n + 2
                      · subst i2; rw [show 71 + (3 * n + 2) = 71 + 3 * n + 2 by omega]; simp (disch := omega) only [upd_n, upd_e]
                      · simp (disch := omega) only [upd_n]; exact q1 i hi
                · simp (disch := omega) only [upd_n, upd_e]
                · simp (disch := omega) only [upd_n, upd_e]
                · by_cases i0 : i = n
                  · subst i0
                    rw [show 72 + 3 * i = 71 + 3 * i + 1 by omega, show 73 + 3 * i = 71 + 3 * i + 2 by omega]
                    simp (disch := omega) only [upd_n, upd_e]
                    exact ⟨c, x, y, ⟨hc, hx, hcx, hy0, hy⟩, rfl, rfl, rfl⟩
                  · simp (disch := omega) only [upd_n]; exact q3 i (by omega)
              · simp (disch := omega) only [upd_n]; exact b9
            · show Dd (V.1 32 1) (M.1 0 31) (V.2.1 33) (M.2.1 13) ((sA (sA (sA (sA M 2 (71 + 3 * n) (nI c)) 2 (71 + 3 * n + 1) (nI x)) 2 (71 + 3 * n + 2) (nI y)) 2 105 (nI (n + 1))).2.1 2)
              rw [sA_e, sA_e, sA_e, sA_e]
              refine Dd_c (fun j hj => ?_) hR.2.2.2.2.1
              simp (disch := omega) only [upd_n]
          · refine ⟨-5, rfX V 5, rfM M 5, ?_, ?_, Rel_ref hR 5 (by omega)⟩
            · simp (disch := omega) only [f_X8_booked, e8, el8, hcx, within_lies, el2, en8, h8n, pl_bd, pl_ob, pl_ob1, pl_obv, pl_oa, pl_oav, pl_cg, pl_cb0, pl_cb1, pl_nl0, pl_nls, li, nI_cl, pl_ck, nI_E, nI_L, nI_T, nI_add, pk_mul, nI_s1, Nat.zero_add, Nat.add_zero, Nat.reduceAdd, Nat.reduceMul, Nat.reduceSub, Nat.reduceEqDiff, Nat.reduceLeDiff, Nat.reduceLT, ↓reduceIte]; rfl
            · have h8' : n = 10 := by omega
              simp (disch := omega) only [f_X9_booked, e9, el9, hcx, el2, en, h8', pl_bd, pl_ob, pl_ob1, pl_obv, pl_oa, pl_oav, pl_cg, pl_cb0, pl_cb1, pl_nl0, pl_nls, li, nI_cl, pl_ck, nI_E, nI_L, nI_T, nI_add, pk_mul, nI_s1, Nat.zero_add, Nat.add_zero, Nat.reduceAdd, Nat.reduceMul, Nat.reduceSub, Nat.reduceEqDiff, Nat.reduceLeDiff, Nat.reduceLT, ↓reduceIte]; rfl
        · refine ⟨-1, rfX V 1, rfM M 1, ?_, ?_, Rel_ref hR 1 (by omega)⟩
          · simp (disch := omega) only [f_X8_booked, e8, el8, hcx, within_lies, el2, pl_bd, pl_ob, pl_ob1, pl_obv, pl_oa, pl_oav, pl_cg, pl_cb0, pl_cb1, pl_nl0, pl_nls, li, nI_cl, pl_ck, nI_E, nI_L, nI_T, nI_add, pk_mul, nI_s1, Nat.zero_add, Nat.add_zero, Nat.reduceAdd, Nat.reduceMul, Nat.reduceSub, Nat.reduceEqDiff, Nat.reduceLeDiff, Nat.reduceLT, ↓reduceIte]; exact hbad.1
          · simp (disch := omega) only [f_X9_booked, e9, el9, hcx, el2, pl_bd, pl_ob, pl_ob1, pl_obv, pl_oa, pl_oav, pl_cg, pl_cb0, pl_cb1, pl_nl0, pl_nls, li, nI_cl, pl_ck, nI_E, nI_L, nI_T, nI_add, pk_mul, nI_s1, Nat.zero_add, Nat.add_zero, Nat.reduceAdd, Nat.reduceMul, Nat.reduceSub, Nat.reduceEqDiff, Nat.reduceLeDiff, Nat.reduceLT, ↓reduceIte]; exact hbad.2
    · refine ⟨-1, rfX V 1, rfM M 1, ?_, ?_, Rel_ref hR 1 (by omega)⟩
      · simp (disch := omega) only [f_X8_booked, e8, el8, pl_bd, pl_ob, pl_ob1, pl_obv, pl_oa, pl_oav, pl_cg, pl_cb0, pl_cb1, pl_nl0, pl_nls, li, nI_cl, pl_ck, nI_E, nI_L, nI_T, nI_add, pk_mul, nI_s1, Nat.zero_add, Nat.add_zero, Nat.reduceAdd, Nat.reduceMul, Nat.reduceSub, Nat.reduceEqDiff, Nat.reduceLeDiff, Nat.reduceLT, ↓reduceIte]; exact hbad.1
      · simp (disch := omega) only [f_X9_booked, e9, el9, pl_bd, pl_ob, pl_ob1, pl_obv, pl_oa, pl_oav, pl_cg, pl_cb0, pl_cb1, pl_nl0, pl_nls, li, nI_cl, pl_ck, nI_E, nI_L, nI_T, nI_add, pk_mul, nI_s1, Nat.zero_add, Nat.add_zero, Nat.reduceAdd, Nat.reduceMul, Nat.reduceSub, Nat.reduceEqDiff, Nat.reduceLeDiff, Nat.reduceLT, ↓reduceIte]; exact hbad.2
  · refine ⟨-1, rfX V 1, rfM M 1, ?_, ?_, Rel_ref hR 1 (by omega)⟩
    · simp (disch := omega) only [f_X8_booked, e8, pl_bd, pl_ob, pl_ob1, pl_obv, pl_oa, pl_oav, pl_cg, pl_cb0, pl_cb1, pl_nl0, pl_nls, li, nI_cl, pl_ck, nI_E, nI_L, nI_T, nI_add, pk_mul, nI_s1, Nat.zero_add, Nat.add_zero, Nat.reduceAdd, Nat.reduceMul, Nat.reduceSub, Nat.reduceEqDiff, Nat.reduceLeDiff, Nat.reduceLT, ↓reduceIte]; exact hbad.1
    · simp (disch := omega) only [f_X9_booked, e9, pl_bd, pl_ob, pl_ob1, pl_obv, pl_oa, pl_oav, pl_cg, pl_cb0, pl_cb1, pl_nl0, pl_nls, li, nI_cl, pl_ck, nI_E, nI_L, nI_T, nI_add, pk_mul, nI_s1, Nat.zero_add, Nat.add_zero, Nat.reduceAdd, Nat.reduceMul, Nat.reduceSub, Nat.reduceEqDiff, Nat.reduceLeDiff, Nat.reduceLT, ↓reduceIte]; exact hbad.2
theorem op_drawn : Op_drawn N b0 (Rel X b0) := by
  intro S V M hR a1 a2
  rcases hR.2.2.2.2.2.2.2.1 with ⟨e1, e2⟩ | ⟨n, h1, hn, e1, e2, he, hh⟩
  · refine ⟨-1, ?_, ?_, hR⟩
    · simp (disch := omega) only [f_X8_drawn, e1, pl_bd, pl_ob, pl_ob1, pl_obv, pl_oa, pl_oav, pl_cg, pl_cb0, pl_cb1, pl_nl0, pl_nls, li, nI_cl, pl_ck, nI_E, nI_L, nI_T, nI_add, pk_mul, nI_s1, Nat.zero_add, Nat.add_zero, Nat.reduceAdd, Nat.reduceMul, Nat.reduceSub, Nat.reduceEqDiff, Nat.reduceLeDiff, Nat.reduceLT, ↓reduceIte]
    · simp (disch := omega) only [f_X9_drawn, e2, pl_bd, pl_ob, pl_ob1, pl_obv, pl_oa, pl_oav, pl_cg, pl_cb0, pl_cb1, pl_nl0, pl_nls, li, nI_cl, pl_ck, nI_E, nI_L, nI_T, nI_add, pk_mul, nI_s1, Nat.zero_add, Nat.add_zero, Nat.reduceAdd, Nat.reduceMul, Nat.reduceSub, Nat.reduceEqDiff, Nat.reduceLeDiff, Nat.reduceLT, ↓reduceIte]
  · have e1' : ¬ n = 0 := by omega
    have e2' : ¬ nI n = -nI 1 := by
      intro h
      have h2 := congrArg Int32.toInt h
      rw [nI_tz (by omega), show (-nI 1).toInt = -1 from rfl] at h2
      omega
    have hand : ∀ a : Int32, ∃ r : Int32, f_X0_handOf N S V 22 a = some r ∧ (ob1 (f_X9_lies N a (nI 0) (nI (n - 1))) fun r14 => if r14 = nI 0 then some (-nI 1) else ck (nI 25 + a) 32 (some (M.2.1 24 (nI 25 + a).toNatClampNeg))) = some r := by
      intro a
      have hcl : ∀ b, f_X0_hasClerk N S V 22 b = if b < nI 0 then some (nI 0) else if nI n ≤ b then some (nI 0) else some (nI 1) := by
        intro b; unfold f_X0_hasClerk; rw [e1]; rfl
      rcases lies_c N a 0 (n - 1) (by omega) (by omega) with ⟨p, -, hp, rfl, el⟩ | ⟨hx, el⟩
      · have q1 : ¬ nI p < nI 0 := by rw [nI_T (by omega) (by omega)]; omega
        have q2 : ¬ nI n ≤ nI p := by rw [nI_L (by omega) (by omega)]; omega
        refine ⟨V.2.1 27 p, ?_, ?_⟩
        · simp (disch := omega) only [f_X0_handOf, hcl, q1, q2, pl_bd, pl_ob, pl_ob1, pl_obv, pl_oa, pl_oav, pl_cg, pl_cb0, pl_cb1, pl_nl0, pl_nls, li, nI_cl, pl_ck, nI_E, nI_L, nI_T, nI_add, pk_mul, nI_s1, Nat.zero_add, Nat.add_zero, Nat.reduceAdd, Nat.reduceMul, Nat.reduceSub, Nat.reduceEqDiff, Nat.reduceLeDiff, Nat.reduceLT, ↓reduceIte]
        · rw [hh p (by omega)]
          simp (disch := omega) only [el, pl_bd, pl_ob, pl_ob1, pl_obv, pl_oa, pl_oav, pl_cg, pl_cb0, pl_cb1, pl_nl0, pl_nls, li, nI_cl, pl_ck, nI_E, nI_L, nI_T, nI_add, pk_mul, nI_s1, Nat.zero_add, Nat.add_zero, Nat.reduceAdd, Nat.reduceMul, Nat.reduceSub, Nat.reduceEqDiff, Nat.reduceLeDiff, Nat.reduceLT, ↓reduceIte]
      · refine ⟨-1, ?_, ?_⟩
        · have : f_X0_hasClerk N S V 22 a = some (nI 0) := by
            rw [hcl]
            by_cases c : a < nI 0
            · rw [if_pos c]
            · rw [if_neg c]
              by_cases d : nI n ≤ a
              · rw [if_pos d]
              · exfalso
                refine hx ⟨Int32.not_lt.mp c, ?_⟩
                have := Int32.not_le.mp d
                rw [Int32.lt_iff_toInt_lt, nI_tz (by omega)] at this
                rw [Int32.le_iff_toInt_le, nI_tz (by omega)]
                omega
          simp (disch := omega) only [f_X0_handOf, this, pl_bd, pl_ob, pl_ob1, pl_obv, pl_oa, pl_oav, pl_cg, pl_cb0, pl_cb1, pl_nl0, pl_nls, li, nI_cl, pl_ck, nI_E, nI_L, nI_T, nI_add, pk_mul, nI_s1, Nat.zero_add, Nat.add_zero, Nat.reduceAdd, Nat.reduceMul, Nat.reduceSub, Nat.reduceEqDiff, Nat.reduceLeDiff, Nat.reduceLT, ↓reduceIte]
        · simp (disch := omega) only [el, pl_bd, pl_ob, pl_ob1, pl_obv, pl_oa, pl_oav, pl_cg, pl_cb0, pl_cb1, pl_nl0, pl_nls, li, nI_cl, pl_ck, nI_E, nI_L, nI_T, nI_add, pk_mul, nI_s1, Nat.zero_add, Nat.add_zero, Nat.reduceAdd, Nat.reduceMul, Nat.reduceSub, Nat.reduceEqDiff, Nat.reduceLeDiff, Nat.reduceLT, ↓reduceIte]
    rcases lies_c N a2 0 1 (by omega) (by omega) with ⟨w, -, hw, rfl, el⟩ | ⟨hx, el⟩
    · rcases (by omega : w = 0 ∨ w = 1) with rfl | rfl
      · rcases cell_c N a1 with ⟨c, hc, rfl, e8, e9⟩ | ⟨e8, e9⟩
        · refine ⟨V.2.1 23 c, ?_, ?_, hR⟩
          · simp (disch := omega) only [f_X8_drawn, e1, e1', e8, pl_bd, pl_ob, pl_ob1, pl_obv, pl_oa, pl_oav, pl_cg, pl_cb0, pl_cb1, pl_nl0, pl_nls, li, nI_cl, pl_ck, nI_E, nI_L, nI_T, nI_add, pk_mul, nI_s1, Nat.zero_add, Nat.add_zero, Nat.reduceAdd, Nat.reduceMul, Nat.reduceSub, Nat.reduceEqDiff, Nat.reduceLeDiff, Nat.reduceLT, ↓reduceIte]
          · rw [he c hc]
            simp (disch := omega) only [f_X9_drawn, e2, e2', el, e9, pl_bd, pl_ob, pl_ob1, pl_obv, pl_oa, pl_oav, pl_cg, pl_cb0, pl_cb1, pl_nl0, pl_nls, li, nI_cl, pl_ck, nI_E, nI_L, nI_T, nI_add, pk_mul, nI_s1, Nat.zero_add, Nat.add_zero, Nat.reduceAdd, Nat.reduceMul, Nat.reduceSub, Nat.reduceEqDiff, Nat.reduceLeDiff, Nat.reduceLT, ↓reduceIte]
        · refine ⟨-1, ?_, ?_, hR⟩
          · simp (disch := omega) only [f_X8_drawn, e1, e1', e8, f_X8_drawn_33, pl_bd, pl_ob, pl_ob1, pl_obv, pl_oa, pl_oav, pl_cg, pl_cb0, pl_cb1, pl_nl0, pl_nls, li, nI_cl, pl_ck, nI_E, nI_L, nI_T, nI_add, pk_mul, nI_s1, Nat.zero_add, Nat.add_zero, Nat.reduceAdd, Nat.reduceMul, Nat.reduceSub, Nat.reduceEqDiff, Nat.reduceLeDiff, Nat.reduceLT, ↓reduceIte]
          · simp (disch := omega) only [f_X9_drawn, e2, e2', el, e9, pl_bd, pl_ob, pl_ob1, pl_obv, pl_oa, pl_oav, pl_cg, pl_cb0, pl_cb1, pl_nl0, pl_nls, li, nI_cl, pl_ck, nI_E, nI_L, nI_T, nI_add, pk_mul, nI_s1, Nat.zero_add, Nat.add_zero, Nat.reduceAdd, Nat.reduceMul, Nat.reduceSub, Nat.reduceEqDiff, Nat.reduceLeDiff, Nat.reduceLT, ↓reduceIte]
      · obtain ⟨r, r1, r2⟩ := hand a1
        refine ⟨r, ?_, ?_, hR⟩
        · simp (disch := omega) only [f_X8_drawn, e1, e1', f_X8_drawn_33, r1, pl_bd, pl_ob, pl_ob1, pl_obv, pl_oa, pl_oav, pl_cg, pl_cb0, pl_cb1, pl_nl0, pl_nls, li, nI_cl, pl_ck, nI_E, nI_L, nI_T, nI_add, pk_mul, nI_s1, Nat.zero_add, Nat.add_zero, Nat.reduceAdd, Nat.reduceMul, Nat.reduceSub, Nat.reduceEqDiff, Nat.reduceLeDiff, Nat.reduceLT, ↓reduceIte]
        · simp (disch := omega) only [f_X9_drawn, e2, e2', el, pl_bd, pl_ob, pl_ob1, pl_obv, pl_oa, pl_oav, pl_cg, pl_cb0, pl_cb1, pl_nl0, pl_nls, li, nI_cl, pl_ck, nI_E, nI_L, nI_T, nI_add, pk_mul, nI_s1, Nat.zero_add, Nat.add_zero, Nat.reduceAdd, Nat.reduceMul, Nat.reduceSub, Nat.reduceEqDiff, Nat.reduceLeDiff, Nat.reduceLT, ↓reduceIte]
          exact r2
    · have n0 : ¬ a2 = nI 0 := fun e => hx (by rw [e]; decide)
      have n1 : ¬ a2 = nI 1 := fun e => hx (by rw [e]; decide)
      refine ⟨-1, ?_, ?_, hR⟩
      · simp (disch := omega) only [f_X8_drawn, e1, e1', n0, n1, f_X8_drawn_33, pl_bd, pl_ob, pl_ob1, pl_obv, pl_oa, pl_oav, pl_cg, pl_cb0, pl_cb1, pl_nl0, pl_nls, li, nI_cl, pl_ck, nI_E, nI_L, nI_T, nI_add, pk_mul, nI_s1, Nat.zero_add, Nat.add_zero, Nat.reduceAdd, Nat.reduceMul, Nat.reduceSub, Nat.reduceEqDiff, Nat.reduceLeDiff, Nat.reduceLT, ↓reduceIte]
      · simp (disch := omega) only [f_X9_drawn, e2, e2', el, pl_bd, pl_ob, pl_ob1, pl_obv, pl_oa, pl_oav, pl_cg, pl_cb0, pl_cb1, pl_nl0, pl_nls, li, nI_cl, pl_ck, nI_E, nI_L, nI_T, nI_add, pk_mul, nI_s1, Nat.zero_add, Nat.add_zero, Nat.reduceAdd, Nat.reduceMul, Nat.reduceSub, Nat.reduceEqDiff, Nat.reduceLeDiff, Nat.reduceLT, ↓reduceIte]
theorem op_force : Op_force N b0 (Rel X b0) := by
  intro S V M hR a1
  obtain ⟨h1, h2, h3, h4, h5, h6, h7, h8, h9, h10⟩ := id hR
  obtain ⟨f10, f11, n, hn, en, hf, hl, hx⟩ := h3
  have en8 : V.1 1 10 = nI n := f10.trans en
  have key : f_X9_lies N a1 (-nI 1) (nI n - nI 1) = some (nI 0) ∨ (f_X9_lies N a1 (-nI 1) (nI n - nI 1) = some (nI 1) ∧ (a1 = -1 ∨ ∃ j : Nat, j < n ∧ a1 = nI j)) := by
    unfold f_X9_lies
    by_cases c1 : a1 < -nI 1
    · left; rw [if_pos c1]; rfl
    · rw [if_neg c1]
      by_cases c2 : nI n - nI 1 < a1
      · left; rw [if_pos c2]; rfl
      · right
        rw [if_neg c2]
        refine ⟨rfl, ?_⟩
        have d1 := Int32.not_lt.mp c1
        have d2 := Int32.not_lt.mp c2
        rw [Int32.le_iff_toInt_le] at d1 d2
        have e1 : (-nI 1).toInt = -1 := rfl
        have e2 : (nI n - nI 1).toInt = (n : Int) - (1 : Nat) := pk_sub_toInt (by omega) (by omega)
        by_cases hz : a1.toInt = -1
        · left; exact Int32.toInt_inj.mp hz
        · right
          exact ⟨a1.toInt.toNat, by omega, Int32.toInt_inj.mp (by rw [nI_tz (by omega)]; omega)⟩
  rcases key with el | ⟨el, ha⟩
  · refine ⟨-2, rfX V 2, rfM M 2, ?_, ?_, Rel_ref hR 2 (by omega)⟩
    · simp (disch := omega) only [f_X8_force, within_lies, en8, el, pl_bd, pl_ob, pl_ob1, pl_obv, pl_oa, pl_oav, pl_cg, pl_cb0, pl_cb1, pl_nl0, pl_nls, li, nI_cl, pl_ck, nI_E, nI_L, nI_T, nI_add, pk_mul, nI_s1, Nat.zero_add, Nat.add_zero, Nat.reduceAdd, Nat.reduceMul, Nat.reduceSub, Nat.reduceEqDiff, Nat.reduceLeDiff, Nat.reduceLT, ↓reduceIte]; rfl
    · simp (disch := omega) only [f_X9_force, en, el, pl_bd, pl_ob, pl_ob1, pl_obv, pl_oa, pl_oav, pl_cg, pl_cb0, pl_cb1, pl_nl0, pl_nls, li, nI_cl, pl_ck, nI_E, nI_L, nI_T, nI_add, pk_mul, nI_s1, Nat.zero_add, Nat.add_zero, Nat.reduceAdd, Nat.reduceMul, Nat.reduceSub, Nat.reduceEqDiff, Nat.reduceLeDiff, Nat.reduceLT, ↓reduceIte]; rfl
  · refine ⟨V.1 1 11, sF (sF V 1 11 a1) 0 18 (nI 0), sF (sA M 2 107 a1) 0 0 (nI 0), ?_, ?_, ?_⟩
    · simp (disch := omega) only [f_X8_force, within_lies, en8, el, x_granted, pl_bd, pl_ob, pl_ob1, pl_obv, pl_oa, pl_oav, pl_cg, pl_cb0, pl_cb1, pl_nl0, pl_nls, li, nI_cl, pl_ck, nI_E, nI_L, nI_T, nI_add, pk_mul, nI_s1, Nat.zero_add, Nat.add_zero, Nat.reduceAdd, Nat.reduceMul, Nat.reduceSub, Nat.reduceEqDiff, Nat.reduceLeDiff, Nat.reduceLT, ↓reduceIte]
    · rw [f11]
      simp (disch := omega) only [f_X9_force, en, el, m_good, pl_bd, pl_ob, pl_ob1, pl_obv, pl_oa, pl_oav, pl_cg, pl_cb0, pl_cb1, pl_nl0, pl_nls, li, nI_cl, pl_ck, nI_E, nI_L, nI_T, nI_add, pk_mul, nI_s1, Nat.zero_add, Nat.add_zero, Nat.reduceAdd, Nat.reduceMul, Nat.reduceSub, Nat.reduceEqDiff, Nat.reduceLeDiff, Nat.reduceLT, ↓reduceIte]
    · have g : G6o V (sF (sF V 1 11 a1) 0 18 (nI 0)) := G64_o (G64_F (G64_F (G64_r V) (by omega)) (by omega))
      have kk : (sA M 2 107 a1).2.1 2 = upd (M.2.1 2) 107 a1 := sA_e _ _ _ _
      refine ⟨h1, ?_, ?_, Ims_g g h4, ?_, h6, ⟨rfl, h7.2⟩, h8, h9, h10⟩
      · show BkA ((sF V 1 11 a1).1 1) (V.2.1 2) (V.2.1 3) (V.2.1 4) (V.2.1 5) (V.2.1 6) (V.2.1 7) (V.2.1 9) (V.2.1 10) ((sA M 2 107 a1).2.1 2)
        rw [sF_e, kk]
        obtain ⟨b1, b2, b3, b4, b5, b6, b7, b8, b9⟩ := h2
        refine ⟨bE_c (fun i hi => ?_) b1, bF_c ?_ b2, bS_c (fun i hi => ?_) b3, bK_c (fun i hi => ?_) b4, bH_c (fun i hi => ?_) b5, bT_c ?_ ?_ ?_ b6, bZ_c (K := M.2.1 2) (fun i hi => ?_) ?_ ?_, bP_c (K := M.2.1 2) (fun i hi => ?_) ?_ ?_, bC_c (K := M.2.1 2) ?_ ?_⟩
        all_goals first | (simp (disch := omega) only [upd_n]; done) | skip
        · simp (disch := omega) only [upd_n]; exact b7
        · simp (disch := omega) only [upd_n]; exact b8
        · simp (disch := omega) only [upd_n]; exact b9
      · show BkL X S _ (V.2.2.2 11) ((sF V 1 11 a1).1 1) (V.2.2.2 8) ((sA M 2 107 a1).2.1 2)
        rw [sF_e, kk]
        refine ⟨?_, ?_, n, hn, ?_, ?_, hl, fun i hi => ?_⟩
        · simp (disch := omega) only [upd_n]; exact f10
        · simp (disch := omega) only [upd_e]
        · simp (disch := omega) only [upd_n]; exact en
        · simp (disch := omega) only [upd_e]; exact ha
        · obtain ⟨q, hq, ht⟩ := hx i hi
          have hq2 : 64 ≤ q := by
            rcases hl i (by omega) with h | ⟨q', h, ht⟩
            · rw [h] at hq; cases hq
            · rw [h] at hq; cases hq; exact ht.1
          refine ⟨q, hq, TX_c (g q hq2).1 (g _ (by omega)).2.1 (g _ (by omega)).2.1 ?_ (fun k hk => ?_) (fun k hk => ?_) ht⟩
          all_goals simp (disch := omega) only [upd_n]
      · show Dd (V.1 32 1) (M.1 0 31) (V.2.1 33) (M.2.1 13) ((sA M 2 107 a1).2.1 2)
        rw [kk]
        refine Dd_c (fun j hj => ?_) h5
        simp (disch := omega) only [upd_n]
end OPS
