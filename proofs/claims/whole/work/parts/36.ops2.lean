/-! By how much a row, a column is off; terms, tape, force, counts, sights, payments -/
def ofS (e t : Nat → Int32) (s : Nat) : Int32 := if s < 5 then t s - (e (s * 5) + e (s * 5 + 1) + e (s * 5 + 2) + e (s * 5 + 3) + e (s * 5 + 4)) else t s - (e (s - 5) + e (s - 5 + 5) + e (s - 5 + 10) + e (s - 5 + 15) + e (s - 5 + 20))
theorem x_gap {N : Nat} (hN : 20000 ≤ N) (S : St) (V : Vt) (o k i : Nat) (hk : k ≤ 1) (hi : i < 5) : f_X0_gap N S V o (nI k) (nI i) = some (ofS (V.2.1 (o + 1)) (V.2.1 (o + 3)) (5 * k + i)) := by
  obtain ⟨n, rfl⟩ : ∃ n, N = n + 6 := ⟨N - 6, by omega⟩
  rcases (by omega : k = 0 ∨ k = 1) with rfl | rfl
  · simp (disch := omega) only [f_X0_gap, f_X0_gap_11, f_X0_gap_21, f_X0_gap_29, ofS, hi, Nat.mul_zero, Nat.zero_mul, Nat.mul_one, Nat.one_mul, if_true, pl_bd, pl_ob, pl_ob1, pl_obv, pl_oa, pl_oav, pl_cg, pl_cb0, pl_cb1, pl_nl0, pl_nls, li, nI_cl, pl_ck, nI_E, nI_L, nI_T, nI_add, pk_mul, nI_s1, Nat.zero_add, Nat.add_zero, Nat.reduceAdd, Nat.reduceMul, Nat.reduceSub, Nat.reduceEqDiff, Nat.reduceLeDiff, Nat.reduceLT, ↓reduceIte]
    rw [show nI 0 = (0 : Int32) from rfl, Int32.zero_add]
  · have h1 : ¬ 5 + i < 5 := by omega
    have h2 : 5 + i - 5 = i := by omega
    simp (disch := omega) only [f_X0_gap, f_X0_gap_11, f_X0_gap_21, f_X0_gap_29, ofS, h1, h2, Nat.mul_zero, Nat.zero_mul, Nat.mul_one, Nat.one_mul, pl_bd, pl_ob, pl_ob1, pl_obv, pl_oa, pl_oav, pl_cg, pl_cb0, pl_cb1, pl_nl0, pl_nls, li, nI_cl, pl_ck, nI_E, nI_L, nI_T, nI_add, pk_mul, nI_s1, Nat.zero_add, Nat.add_zero, Nat.reduceAdd, Nat.reduceMul, Nat.reduceSub, Nat.reduceEqDiff, Nat.reduceLeDiff, Nat.reduceLT, ↓reduceIte]
    rw [show nI 0 = (0 : Int32) from rfl, Int32.zero_add]
theorem m_offBy {N : Nat} (hN : 20000 ≤ N) (M : Vt) (s : Nat) (hs : s < 10) : f_X9_offBy N M (nI s) = some (ofS (M.2.1 2) (fun i => M.2.1 2 (32 + i)) s) := by
  obtain ⟨n, rfl⟩ : ∃ n, N = n + 6 := ⟨N - 6, by omega⟩
  by_cases h5 : s < 5
  · have h6 : ¬ 5 ≤ s := by omega
    have h7 : s % 5 = s := by omega
    simp (disch := omega) only [f_X9_offBy, pk_rem, h7, f_X9_offBy_17, f_X9_offBy_49, ofS, h5, h6, Nat.mul_zero, Nat.zero_mul, Nat.mul_one, Nat.one_mul, Int32.sub_sub, Nat.mul_comm, pl_bd, pl_ob, pl_ob1, pl_obv, pl_oa, pl_oav, pl_cg, pl_cb0, pl_cb1, pl_nl0, pl_nls, li, nI_cl, pl_ck, nI_E, nI_L, nI_T, nI_add, pk_mul, nI_s1, Nat.zero_add, Nat.add_zero, Nat.reduceAdd, Nat.reduceMul, Nat.reduceSub, Nat.reduceEqDiff, Nat.reduceLeDiff, Nat.reduceLT, ↓reduceIte]
    simp only [Int32.add_assoc]
  · have h6 : 5 ≤ s := by omega
    have h7 : s % 5 = s - 5 := by omega
    simp (disch := omega) only [f_X9_offBy, pk_rem, h7, f_X9_offBy_17, f_X9_offBy_49, ofS, h5, h6, Nat.mul_zero, Nat.zero_mul, Nat.mul_one, Nat.one_mul, Int32.sub_sub, pl_bd, pl_ob, pl_ob1, pl_obv, pl_oa, pl_oav, pl_cg, pl_cb0, pl_cb1, pl_nl0, pl_nls, li, nI_cl, pl_ck, nI_E, nI_L, nI_T, nI_add, pk_mul, nI_s1, Nat.zero_add, Nat.add_zero, Nat.reduceAdd, Nat.reduceMul, Nat.reduceSub, Nat.reduceEqDiff, Nat.reduceLeDiff, Nat.reduceLT, ↓reduceIte]
    simp only [Nat.add_comm, Int32.add_assoc]
theorem ofS_c {e t e' t' : Nat → Int32} {s : Nat} (hs : s < 10) (he : ∀ i, i < 25 → e' i = e i) (ht : t' s = t s) : ofS e' t' s = ofS e t s := by
  unfold ofS
  by_cases h5 : s < 5
  · simp (disch := omega) only [h5, if_true, ht, he]
  · simp (disch := omega) only [h5, if_false, ht, he]
theorem gap_eq {b0 : Nat} {X : TxP} {S : St} {V M : Vt} (hR : Rel X b0 S V M) {s : Nat} (hs : s < 10) : ofS (V.2.1 2) (V.2.1 4) s = ofS (M.2.1 2) (fun i => M.2.1 2 (32 + i)) s :=
  ofS_c hs (fun i hi => (hR.2.1.1 i hi).1) (hR.2.1.2.2.1 s hs).1
section OPS
variable {N b0 : Nat} {X : TxP}
theorem op_off (hN : 20000 ≤ N) : Op_off N b0 (Rel X b0) := by
  intro S V M hR a1 a2
  rcases line_c N a1 a2 with ⟨k, i, hk, hi, rfl, rfl, e8, e9, e9'⟩ | ⟨e8, e9⟩
  · refine ⟨ofS (V.2.1 2) (V.2.1 4) (5 * k + i), ?_, ?_, hR⟩
    · simp (disch := omega) only [f_X8_off, e8, x_gap hN, pl_bd, pl_ob, pl_ob1, pl_obv, pl_oa, pl_oav, pl_cg, pl_cb0, pl_cb1, pl_nl0, pl_nls, li, nI_cl, pl_ck, nI_E, nI_L, nI_T, nI_add, pk_mul, nI_s1, Nat.zero_add, Nat.add_zero, Nat.reduceAdd, Nat.reduceMul, Nat.reduceSub, Nat.reduceEqDiff, Nat.reduceLeDiff, Nat.reduceLT, ↓reduceIte]
    · rw [gap_eq hR (by omega)]
      simp (disch := omega) only [f_X9_off, e9, e9', m_offBy hN, pl_bd, pl_ob, pl_ob1, pl_obv, pl_oa, pl_oav, pl_cg, pl_cb0, pl_cb1, pl_nl0, pl_nls, li, nI_cl, pl_ck, nI_E, nI_L, nI_T, nI_add, pk_mul, nI_s1, Nat.zero_add, Nat.add_zero, Nat.reduceAdd, Nat.reduceMul, Nat.reduceSub, Nat.reduceEqDiff, Nat.reduceLeDiff, Nat.reduceLT, ↓reduceIte]
  · refine ⟨-100000, ?_, ?_, hR⟩
    · simp (disch := omega) only [f_X8_off, e8, pl_bd, pl_ob, pl_ob1, pl_obv, pl_oa, pl_oav, pl_cg, pl_cb0, pl_cb1, pl_nl0, pl_nls, li, nI_cl, pl_ck, nI_E, nI_L, nI_T, nI_add, pk_mul, nI_s1, Nat.zero_add, Nat.add_zero, Nat.reduceAdd, Nat.reduceMul, Nat.reduceSub, Nat.reduceEqDiff, Nat.reduceLeDiff, Nat.reduceLT, ↓reduceIte]
    · rcases e9 with e9 | ⟨e9, e9'⟩
      · simp (disch := omega) only [f_X9_off, e9, pl_bd, pl_ob, pl_ob1, pl_obv, pl_oa, pl_oav, pl_cg, pl_cb0, pl_cb1, pl_nl0, pl_nls, li, nI_cl, pl_ck, nI_E, nI_L, nI_T, nI_add, pk_mul, nI_s1, Nat.zero_add, Nat.add_zero, Nat.reduceAdd, Nat.reduceMul, Nat.reduceSub, Nat.reduceEqDiff, Nat.reduceLeDiff, Nat.reduceLT, ↓reduceIte]
      · simp (disch := omega) only [f_X9_off, e9, e9', pl_bd, pl_ob, pl_ob1, pl_obv, pl_oa, pl_oav, pl_cg, pl_cb0, pl_cb1, pl_nl0, pl_nls, li, nI_cl, pl_ck, nI_E, nI_L, nI_T, nI_add, pk_mul, nI_s1, Nat.zero_add, Nat.add_zero, Nat.reduceAdd, Nat.reduceMul, Nat.reduceSub, Nat.reduceEqDiff, Nat.reduceLeDiff, Nat.reduceLT, ↓reduceIte]
theorem op_terms : Op_terms N b0 (Rel X b0) := by
  intro S V M hR a1 a2
  have hB := hR.2.1
  have hbad : f_X8_terms_22 N S 0 V = some (-1, rfX V 1) := rfl
  have main : ∀ (k at' : Nat) (mx : Nat), k < 3 → (at' = 31 ∨ at' = 101 ∨ at' = 102) → mx < 2147483648 → tMost.getD k (nI 0) = nI mx → f_X9_termAt N (nI k) = some (nI at') → f_X9_isTerm N (nI k) a2 = ob1 (f_X9_lies N a2 (nI 0) (nI mx)) (fun r => cb r (some r)) → V.2.1 7 k = M.2.1 2 at' → (∀ x : Nat, x ≤ mx → bT (upd (V.2.1 7) k (nI x)) (upd (M.2.1 2) at' (nI x))) → ∃ (r : Int32) (V2 : Vt) (M2 : Vt), f_X8_terms N S V 0 (nI k) a2 = some (r, V2) ∧ f_X9_terms N M (nI k) a2 = some (r, M2) ∧ Rel X b0 S V2 M2 := by
    intro k at' mx hk hat hmx et eat eis ev hT
    have w1 : f_X9_lies N (nI k) (nI 0) (nI 2) = some (nI 1) := lies_n N (by omega) (by omega) (by omega)
    rcases lies_c N a2 0 mx (by omega) hmx with ⟨x, -, hx, rfl, el⟩ | ⟨-, el⟩
    · rw [el] at eis
      have h8 : f_X8_terms N S V 0 (nI k) (nI x) = some (V.2.1 7 k, sF (sF (sA V 7 k (nI x)) 32 1 (nI 0)) 0 18 (nI 0)) := by
        simp (disch := omega) only [f_X8_terms, within_lies, w1, et, el, x_clear, x_granted, pl_bd, pl_ob, pl_ob1, pl_obv, pl_oa, pl_oav, pl_cg, pl_cb0, pl_cb1, pl_nl0, pl_nls, li, nI_cl, pl_ck, nI_E, nI_L, nI_T, nI_add, pk_mul, nI_s1, Nat.zero_add, Nat.add_zero, Nat.reduceAdd, Nat.reduceMul, Nat.reduceSub, Nat.reduceEqDiff, Nat.reduceLeDiff, Nat.reduceLT, ↓reduceIte]
      have h9 : f_X9_terms N M (nI k) (nI x) = some (M.2.1 2 at', sF (sF (sA M 2 at' (nI x)) 0 31 (nI 0)) 0 0 (nI 0)) := by
        simp (disch := omega) only [f_X9_terms, eis, eat, m_goodAnew, pl_bd, pl_ob, pl_ob1, pl_obv, pl_oa, pl_oav, pl_cg, pl_cb0, pl_cb1, pl_nl0, pl_nls, li, nI_cl, pl_ck, nI_E, nI_L, nI_T, nI_add, pk_mul, nI_s1, Nat.zero_add, Nat.add_zero, Nat.reduceAdd, Nat.reduceMul, Nat.reduceSub, Nat.reduceEqDiff, Nat.reduceLeDiff, Nat.reduceLT, ↓reduceIte]
      refine ⟨_, _, _, h8, by rw [ev]; exact h9, ?_⟩
      refine Rel_of hR (G64_F (G64_F (G64_A (G64_r V) (by omega)) (by omega)) (by omega)) rfl rfl rfl rfl rfl rfl (fun j h1 h2 => ?_) rfl ?_ ?_ hR.2.2.2.2.2.1 ⟨rfl, hR.2.2.2.2.2.2.1.2⟩ hR.2.2.2.2.2.2.2.1 hR.2.2.2.2.2.2.2.2.1
      · show (sA M 2 at' (nI x)).2.1 2 j = _
        rw [sA_e, upd_n _ _ _ _ (by omega)]
      · show BkA (V.1 1) (V.2.1 2) (V.2.1 3) (V.2.1 4) (V.2.1 5) (V.2.1 6) ((sA V 7 k (nI x)).2.1 7) (V.2.1 9) (V.2.1 10) ((sA M 2 at' (nI x)).2.1 2)
        rw [sA_e, sA_e]
        obtain ⟨b1, b2, b3, b4, b5, b6, b7, b8, b9⟩ := hB
        refine ⟨bE_c (fun i hi => upd_n _ _ _ _ (by omega)) b1, bF_c (upd_n _ _ _ _ (by omega)) b2, bS_c (fun i hi => upd_n _ _ _ _ (by omega)) b3, bK_c (fun i hi => upd_n _ _ _ _ (by omega)) b4, bH_c (fun i hi => upd_n _ _ _ _ (by omega)) b5, hT x hx, bZ_c (fun i hi => upd_n _ _ _ _ (by omega)) (upd_n _ _ _ _ (by omega)) b7, bP_c (fun i hi => upd_n _ _ _ _ (by omega)) (upd_n _ _ _ _ (by omega)) b8, bC_c (upd_n _ _ _ _ (by omega)) b9⟩
      · exact Dd_0 _ _ _
    · rw [el] at eis
      refine ⟨-1, rfX V 1, rfM M 1, ?_, ?_, Rel_ref hR 1 (by omega)⟩
      · simp (disch := omega) only [f_X8_terms, within_lies, w1, et, el, pl_bd, pl_ob, pl_ob1, pl_obv, pl_oa, pl_oav, pl_cg, pl_cb0, pl_cb1, pl_nl0, pl_nls, li, nI_cl, pl_ck, nI_E, nI_L, nI_T, nI_add, pk_mul, nI_s1, Nat.zero_add, Nat.add_zero, Nat.reduceAdd, Nat.reduceMul, Nat.reduceSub, Nat.reduceEqDiff, Nat.reduceLeDiff, Nat.reduceLT, ↓reduceIte]; exact hbad
      · simp (disch := omega) only [f_X9_terms, eis, pl_bd, pl_ob, pl_ob1, pl_obv, pl_oa, pl_oav, pl_cg, pl_cb0, pl_cb1, pl_nl0, pl_nls, li, nI_cl, pl_ck, nI_E, nI_L, nI_T, nI_add, pk_mul, nI_s1, Nat.zero_add, Nat.add_zero, Nat.reduceAdd, Nat.reduceMul, Nat.reduceSub, Nat.reduceEqDiff, Nat.reduceLeDiff, Nat.reduceLT, ↓reduceIte]; rfl
  obtain ⟨⟨t0, r0⟩, ⟨t1, r1⟩, t2, r2⟩ := hB.2.2.2.2.2.1
  rcases lies_c N a1 0 2 (by omega) (by omega) with ⟨k, -, hk, rfl, el⟩ | ⟨hn, el⟩
  · rcases (by omega : k = 0 ∨ k = 1 ∨ k = 2) with rfl | rfl | rfl
    · refine main 0 31 999 (by omega) (by omega) (by omega) rfl rfl rfl t0 (fun x hx => ?_)
      refine ⟨⟨by rw [upd_e, upd_e], x, hx, by rw [upd_e]⟩, ?_, ?_⟩
      · rw [upd_n _ _ _ _ (by omega), upd_n _ _ _ _ (by omega)]; exact ⟨t1, r1⟩
      · rw [upd_n _ _ _ _ (by omega), upd_n _ _ _ _ (by omega)]; exact ⟨t2, r2⟩
    · refine main 1 101 10 (by omega) (by omega) (by omega) rfl rfl rfl t1 (fun x hx => ?_)
      refine ⟨?_, ⟨by rw [upd_e, upd_e], x, hx, by rw [upd_e]⟩, ?_⟩
      · rw [upd_n _ _ _ _ (by omega), upd_n _ _ _ _ (by omega)]; exact ⟨t0, r0⟩
      · rw [upd_n _ _ _ _ (by omega), upd_n _ _ _ _ (by omega)]; exact ⟨t2, r2⟩
    · refine main 2 102 9 (by omega) (by omega) (by omega) rfl rfl rfl t2 (fun x hx => ?_)
      refine ⟨?_, ?_, ⟨by rw [upd_e, upd_e], x, hx, by rw [upd_e]⟩⟩
      · rw [upd_n _ _ _ _ (by omega), upd_n _ _ _ _ (by omega)]; exact ⟨t0, r0⟩
      · rw [upd_n _ _ _ _ (by omega), upd_n _ _ _ _ (by omega)]; exact ⟨t1, r1⟩
  · refine ⟨-1, rfX V 1, rfM M 1, ?_, ?_, Rel_ref hR 1 (by omega)⟩
    · simp (disch := omega) only [f_X8_terms, within_lies, el, pl_bd, pl_ob, pl_ob1, pl_obv, pl_oa, pl_oav, pl_cg, pl_cb0, pl_cb1, pl_nl0, pl_nls, li, nI_cl, pl_ck, nI_E, nI_L, nI_T, nI_add, pk_mul, nI_s1, Nat.zero_add, Nat.add_zero, Nat.reduceAdd, Nat.reduceMul, Nat.reduceSub, Nat.reduceEqDiff, Nat.reduceLeDiff, Nat.reduceLT, ↓reduceIte]; exact hbad
    · have n0 : ¬ a1 = nI 0 := fun e => hn (by rw [e]; decide)
      have n1 : ¬ a1 = nI 1 := fun e => hn (by rw [e]; decide)
      have n2 : ¬ a1 = nI 2 := fun e => hn (by rw [e]; decide)
      simp (disch := omega) only [f_X9_terms, f_X9_isTerm, n0, n1, n2, pl_bd, pl_ob, pl_ob1, pl_obv, pl_oa, pl_oav, pl_cg, pl_cb0, pl_cb1, pl_nl0, pl_nls, li, nI_cl, pl_ck, nI_E, nI_L, nI_T, nI_add, pk_mul, nI_s1, Nat.zero_add, Nat.add_zero, Nat.reduceAdd, Nat.reduceMul, Nat.reduceSub, Nat.reduceEqDiff, Nat.reduceLeDiff, Nat.reduceLT, ↓reduceIte]; rfl
theorem op_end : Op_end N b0 (Rel X b0) := by
  intro S V M hR a1
  obtain ⟨n, hn, e1, e2, h3⟩ := hR.2.2.2.2.2.1
  rcases lies_c N a1 0 n (by omega) (by omega) with ⟨x, -, hx, rfl, el⟩ | ⟨-, el⟩
  · refine ⟨nI x, sF V 0 15 (nI x), sF M 0 13 (nI x), ?_, ?_, ?_⟩
    · simp (disch := omega) only [f_X8_end, within_lies, e1, el, pl_bd, pl_ob, pl_ob1, pl_obv, pl_oa, pl_oav, pl_cg, pl_cb0, pl_cb1, pl_nl0, pl_nls, li, nI_cl, pl_ck, nI_E, nI_L, nI_T, nI_add, pk_mul, nI_s1, Nat.zero_add, Nat.add_zero, Nat.reduceAdd, Nat.reduceMul, Nat.reduceSub, Nat.reduceEqDiff, Nat.reduceLeDiff, Nat.reduceLT, ↓reduceIte]
    · simp (disch := omega) only [f_X9_end, e2, el, pl_bd, pl_ob, pl_ob1, pl_obv, pl_oa, pl_oav, pl_cg, pl_cb0, pl_cb1, pl_nl0, pl_nls, li, nI_cl, pl_ck, nI_E, nI_L, nI_T, nI_add, pk_mul, nI_s1, Nat.zero_add, Nat.add_zero, Nat.reduceAdd, Nat.reduceMul, Nat.reduceSub, Nat.reduceEqDiff, Nat.reduceLeDiff, Nat.reduceLT, ↓reduceIte]
    · exact Rel_of hR (G64_F (G64_r V) (by omega)) rfl rfl rfl rfl rfl rfl (fun _ _ _ => rfl) rfl hR.2.1 hR.2.2.2.2.1 ⟨x, by omega, rfl, rfl, fun i hi => h3 i (by omega)⟩ hR.2.2.2.2.2.2.1 hR.2.2.2.2.2.2.2.1 hR.2.2.2.2.2.2.2.2.1
  · refine ⟨-1, V, M, ?_, ?_, hR⟩
    · simp (disch := omega) only [f_X8_end, within_lies, e1, el, pl_bd, pl_ob, pl_ob1, pl_obv, pl_oa, pl_oav, pl_cg, pl_cb0, pl_cb1, pl_nl0, pl_nls, li, nI_cl, pl_ck, nI_E, nI_L, nI_T, nI_add, pk_mul, nI_s1, Nat.zero_add, Nat.add_zero, Nat.reduceAdd, Nat.reduceMul, Nat.reduceSub, Nat.reduceEqDiff, Nat.reduceLeDiff, Nat.reduceLT, ↓reduceIte]
    · simp (disch := omega) only [f_X9_end, e2, el, pl_bd, pl_ob, pl_ob1, pl_obv, pl_oa, pl_oav, pl_cg, pl_cb0, pl_cb1, pl_nl0, pl_nls, li, nI_cl, pl_ck, nI_E, nI_L, nI_T, nI_add, pk_mul, nI_s1, Nat.zero_add, Nat.add_zero, Nat.reduceAdd, Nat.reduceMul, Nat.reduceSub, Nat.reduceEqDiff, Nat.reduceLeDiff, Nat.reduceLT, ↓reduceIte]
theorem op_forget : Op_forget N b0 (Rel X b0) := by
  intro S V M hR _
  have hB := hR.2.1
  refine ⟨V.1 1 12 + V.1 1 13, sF (sF V 1 12 (nI 0)) 1 13 (nI 0), sA (sA M 2 104 (nI 0)) 2 105 (nI 0), rfl, ?_, ?_⟩
  · rw [hB.2.2.2.2.2.2.1.2.1, hB.2.2.2.2.2.2.2.1.2.1]
    rfl
  · refine Rel_of hR (G64_F (G64_F (G64_r V) (by omega)) (by omega)) rfl rfl rfl rfl rfl rfl (fun j h1 h2 => ?_) rfl ?_ ?_ hR.2.2.2.2.2.1 hR.2.2.2.2.2.2.1 hR.2.2.2.2.2.2.2.1 hR.2.2.2.2.2.2.2.2.1
    · rw [sA_e, sA_e]
      simp (disch := omega) only [upd_n]
    · show BkA ((sF (sF V 1 12 (nI 0)) 1 13 (nI 0)).1 1) (V.2.1 2) (V.2.1 3) (V.2.1 4) (V.2.1 5) (V.2.1 6) (V.2.1 7) (V.2.1 9) (V.2.1 10) ((sA (sA M 2 104 (nI 0)) 2 105 (nI 0)).2.1 2)
      rw [sF_e, sF_e, sA_e, sA_e]
      obtain ⟨b1, b2, b3, b4, b5, b6, b7, b8, b9⟩ := hB
      refine ⟨bE_c (fun i hi => ?_) b1, bF_c ?_ b2, bS_c (fun i hi => ?_) b3, bK_c (fun i hi => ?_) b4, bH_c (fun i hi => ?_) b5, bT_c ?_ ?_ ?_ b6, ?_, ?_, ?_⟩
      all_goals first | (simp (disch := omega) only [upd_n]; done) | skip
      · refine ⟨fun i hi => ?_, ?_, 0, by omega, ?_, fun i hi => absurd hi (Nat.not_lt_zero i)⟩
        · simp (disch := omega) only [upd_n]; exact b7.1 i hi
        · simp (disch := omega) only [upd_n, upd_e]
        · simp (disch := omega) only [upd_n, upd_e]
      · refine ⟨fun i hi => ?_, ?_, 0, by omega, ?_, fun i hi => absurd hi (Nat.not_lt_zero i)⟩
        · simp (disch := omega) only [upd_n]; exact b8.1 i hi
        · simp (disch := omega) only [upd_n, upd_e]
        · simp (disch := omega) only [upd_n, upd_e]
      · exact bC_c (K := M.2.1 2) (by simp (disch := omega) only [upd_n]) (by simp (disch := omega) only [upd_n]; exact b9)
    · show Dd (V.1 32 1) (M.1 0 31) (V.2.1 33) (M.2.1 13) ((sA (sA M 2 104 (nI 0)) 2 105 (nI 0)).2.1 2)
      rw [sA_e, sA_e]
      refine Dd_c (fun j hj => ?_) hR.2.2.2.2.1
      simp (disch := omega) only [upd_n]
end OPS
