/-! fence, pass, undo -/
theorem one_shl {a : Nat} (ha : a < 25) : (nI 1) <<< (nI a &&& nI 31) = nI (2 ^ a) := by
  have := pk_shlN (n := 1) (nI a &&& 31) a (s_l a (by omega)) (by
    rw [Nat.one_mul]; exact Nat.pow_lt_pow_right (by omega) (by omega))
  rw [Nat.one_mul] at this
  exact this
theorem bit_div (F i : Nat) : F / 2 ^ i % 2 = bN (F.testBit i) := by
  rw [Nat.testBit_eq_decide_div_mod_eq]
  unfold bN
  rcases Nat.mod_two_eq_zero_or_one (F / 2 ^ i) with h | h
  · rw [h]; rfl
  · rw [h]; rfl
theorem flip_lt {F a : Nat} (hF : F < 33554432) (ha : a < 25) : F ^^^ 2 ^ a < 33554432 := Nat.xor_lt_two_pow (n := 25) hF (Nat.pow_lt_pow_right (by omega) ha)
theorem flip_bit (F a i : Nat) : (F ^^^ 2 ^ a) / 2 ^ i % 2 = if i = a then 1 - F / 2 ^ i % 2 else F / 2 ^ i % 2 := by
  rw [bit_div, bit_div, fb_bit_flip]
  by_cases h : i = a
  · rw [if_pos h, decide_eq_true h]
    cases F.testBit i <;> rfl
  · rw [if_neg h, decide_eq_false h]
    cases F.testBit i <;> rfl
theorem xor_back (F a : Nat) : F ^^^ 2 ^ a ^^^ 2 ^ a = F := by rw [Nat.xor_assoc, Nat.xor_self, Nat.xor_zero]
section OPS
variable {N b0 : Nat} {X : TxP}
theorem c_fence (hN : 20000 ≤ N) {S : St} {V M : Vt} (hR : Rel X b0 S V M) (a1 a3 a4 : Int32) : ∃ r V' M', f_X8_carryOut N S V 0 (nI 2) a1 a3 a4 = some (r, V') ∧ f_X9_fencesKept N M a1 = some (r, M') ∧ Rel X b0 S V' M' ∧ RN r ∧ Dfx V V' ∧ Dfm M M' := by
  have hB := hR.2.1
  have n1 : (-nI 1 < nI 0) = True := eq_true (by decide)
  rcases cell_c N a1 with ⟨a, ha, rfl, e8, e9⟩ | ⟨e8, e9⟩
  · obtain ⟨F, hF, eF, hf⟩ := hB.2.1
    have vf : V.2.1 3 a = nI (F / 2 ^ a % 2) := hf a ha
    have hle : F / 2 ^ a % 2 ≤ 1 := by omega
    obtain ⟨V1, eV1⟩ : ∃ W, W = pA V 3 (upd (V.2.1 3) a (nI (1 - F / 2 ^ a % 2))) := ⟨_, rfl⟩
    obtain ⟨K1, eK1⟩ : ∃ W, W = upd (M.2.1 2) 30 (nI (F ^^^ 2 ^ a)) := ⟨_, rfl⟩
    have hk : ∀ j, 32 ≤ j → K1 j = M.2.1 2 j := fun j hj => by rw [eK1]; simp (disch := omega) only [upd_n]
    have hk2 : ∀ j, j ≠ 30 → K1 j = M.2.1 2 j := fun j h1 => by rw [eK1, upd_n _ _ _ _ h1]
    have k30 : K1 30 = nI (F ^^^ 2 ^ a) := by rw [eK1, upd_e]
    have w2 : V1.2.1 3 = upd (V.2.1 3) a (nI (1 - F / 2 ^ a % 2)) := by rw [eV1, pA_e]
    have wn : ∀ g, g ≠ 3 → V1.2.1 g = V.2.1 g := fun g hg => by rw [eV1]; exact pA_n _ _ _ _ hg
    have w1 : V1.1 = V.1 := by rw [eV1]; rfl
    have wr : V1.2.2 = V.2.2 := by rw [eV1]; rfl
    obtain ⟨V', M', kx, km, m2, rel, fr⟩ := Rel_deed hN hR (V1 := V1) (K1 := K1) (nI 2) (nI a) a3 a4 (-1) ⟨fun g hg => ⟨by rw [w1], wn g (by omega), by rw [wr]⟩, by rw [wr], fun g hg => by rw [w1], by rw [w1], by rw [w1], fun g hg => wn g (by omega)⟩ hk (by
      rw [w1, w2, wn 2 (by omega), wn 4 (by omega), wn 5 (by omega), wn 6 (by omega), wn 7 (by omega), wn 9 (by omega), wn 10 (by omega)]
      obtain ⟨b1, b2, b3, b4, b5, b6, b7, b8, b9⟩ := hB
      refine ⟨bE_c (fun i hi => hk2 _ (by omega)) b1, ⟨F ^^^ 2 ^ a, flip_lt hF ha, k30, fun i hi => ?_⟩, bS_c (fun i hi => hk2 _ (by omega)) b3, bK_c (fun i hi => hk2 _ (by omega)) b4, bH_c (fun i hi => hk2 _ (by omega)) b5, bT_c (hk2 _ (by omega)) (hk2 _ (by omega)) (hk2 _ (by omega)) b6, bZ_c (fun i hi => hk2 _ (by omega)) (hk2 _ (by omega)) b7, bP_c (fun i hi => hk2 _ (by omega)) (hk2 _ (by omega)) b8, bC_c (hk2 _ (by omega)) b9⟩
      rw [flip_bit]
      by_cases hia : i = a
      · subst hia; rw [upd_e, if_pos rfl]
      · rw [upd_n _ _ _ _ hia, if_neg hia]; exact hf i hi) (by
      refine ⟨dRg_of hB, rfl, Or.inr (Or.inr (Or.inl ⟨rfl, a, ha, rfl, ?_, fun k hk h1 => (hk2 k h1).symm⟩))⟩
      show M.2.1 2 30 = K1 30 ^^^ ((nI 1) <<< (nI a &&& nI 31))
      rw [k30, one_shl ha, fb_xorI, xor_back, eF])
    refine ⟨nI (1 - F / 2 ^ a % 2), V', pA M' 2 K1, ?_, ?_, rel, Or.inl (by rw [nI_L (by omega) (by omega)]; omega), Dfx_d wr (fun g h1 h2 h3 h4 => wn g h2) w1 fr.1, Dfm_d hk fr.2⟩
    · have z3 : ¬ 1 - F / 2 ^ a % 2 < 0 := by omega
      simp (disch := omega) only [f_X8_carryOut, f_X8_carryOut_16, f_X0_turnFence, e8, vf, pk_sub, sA_pA V 3, pA_e, upd_e, f_X8_carryOut_97, z3, f_X8_carryOut_120, pl_bd, pl_ob, pl_ob1, pl_obv, pl_oa, pl_oav, pl_cg, pl_cb0, pl_cb1, pl_nl0, pl_nls, li, nI_cl, pl_ck, nI_E, nI_L, nI_T, nI_add, pk_mul, nI_s1, Nat.zero_add, Nat.add_zero, Nat.reduceAdd, Nat.reduceMul, Nat.reduceSub, Nat.reduceEqDiff, Nat.reduceLeDiff, Nat.reduceLT, ↓reduceIte]
      rw [← eV1]
      show (obv (f_X1_keep N S V1 32 (nI 2) (nI a) a3 a4 (-1)) fun V27 => some (nI (1 - F / 2 ^ a % 2), V27)) = _
      rw [kx]; rfl
    · have k1 : M'.2.1 2 30 = nI F := by rw [m2]; exact eF
      have q := m_isIn N (F := F ^^^ 2 ^ a) (i := a) (Nat.lt_trans (flip_lt hF ha) (by omega)) (by omega)
      rw [flip_bit, if_pos rfl] at q
      simp (disch := omega) only [f_X9_fencesKept, e9, km, k1, one_shl ha, fb_xorI, sA_pA M' 2, pA_e, upd_e, q, pl_bd, pl_ob, pl_ob1, pl_obv, pl_oa, pl_oav, pl_cg, pl_cb0, pl_cb1, pl_nl0, pl_nls, li, nI_cl, pl_ck, nI_E, nI_L, nI_T, nI_add, pk_mul, nI_s1, Nat.zero_add, Nat.add_zero, Nat.reduceAdd, Nat.reduceMul, Nat.reduceSub, Nat.reduceEqDiff, Nat.reduceLeDiff, Nat.reduceLT, ↓reduceIte]
      rw [m2, ← eK1]
      rcases (by omega : F / 2 ^ a % 2 = 0 ∨ F / 2 ^ a % 2 = 1) with h | h
      · rw [h]; rfl
      · rw [h]; rfl
  · refine ⟨-1, V, M, ?_, ?_, hR, Or.inr (Or.inl rfl), Dfx_r V, Dfm_r M⟩
    · simp (disch := omega) only [f_X8_carryOut, f_X8_carryOut_16, f_X0_turnFence, e8, f_X8_carryOut_97, n1, pl_bd, pl_ob, pl_ob1, pl_obv, pl_oa, pl_oav, pl_cg, pl_cb0, pl_cb1, pl_nl0, pl_nls, li, nI_cl, pl_ck, nI_E, nI_L, nI_T, nI_add, pk_mul, nI_s1, Nat.zero_add, Nat.add_zero, Nat.reduceAdd, Nat.reduceMul, Nat.reduceSub, Nat.reduceEqDiff, Nat.reduceLeDiff, Nat.reduceLT, ↓reduceIte]
    · simp (disch := omega) only [f_X9_fencesKept, e9, pl_bd, pl_ob, pl_ob1, pl_obv, pl_oa, pl_oav, pl_cg, pl_cb0, pl_cb1, pl_nl0, pl_nls, li, nI_cl, pl_ck, nI_E, nI_L, nI_T, nI_add, pk_mul, nI_s1, Nat.zero_add, Nat.add_zero, Nat.reduceAdd, Nat.reduceMul, Nat.reduceSub, Nat.reduceEqDiff, Nat.reduceLeDiff, Nat.reduceLT, ↓reduceIte]
theorem op_fence (hN : 20000 ≤ N) : Op_fence N b0 (Rel X b0) := by
  intro S V M hR a1
  obtain ⟨r, V1, M1, h8, h9, hR1, hr, -⟩ := c_fence hN hR a1 (nI 0) (nI 0)
  obtain ⟨V2, M2, j8, j9, hR2⟩ := judge (N := N) hR1 hr
  refine ⟨r, V2, M2, ?_, ?_, hR2⟩
  · simp (disch := omega) only [f_X8_fence, h8, j8, pl_bd, pl_ob, pl_ob1, pl_obv, pl_oa, pl_oav, pl_cg, pl_cb0, pl_cb1, pl_nl0, pl_nls, li, nI_cl, pl_ck, nI_E, nI_L, nI_T, nI_add, pk_mul, nI_s1, Nat.zero_add, Nat.add_zero, Nat.reduceAdd, Nat.reduceMul, Nat.reduceSub, Nat.reduceEqDiff, Nat.reduceLeDiff, Nat.reduceLT, ↓reduceIte]
  · simp (disch := omega) only [f_X9_fence, h9, j9, pl_bd, pl_ob, pl_ob1, pl_obv, pl_oa, pl_oav, pl_cg, pl_cb0, pl_cb1, pl_nl0, pl_nls, li, nI_cl, pl_ck, nI_E, nI_L, nI_T, nI_add, pk_mul, nI_s1, Nat.zero_add, Nat.add_zero, Nat.reduceAdd, Nat.reduceMul, Nat.reduceSub, Nat.reduceEqDiff, Nat.reduceLeDiff, Nat.reduceLT, ↓reduceIte]
theorem c_pass (hN : 20000 ≤ N) {S : St} {V M : Vt} (hR : Rel X b0 S V M) (a1 a3 a4 : Int32) : ∃ r V' M', f_X8_carryOut N S V 0 (nI 3) a1 a3 a4 = some (r, V') ∧ f_X9_passesKept N M = some (r, M') ∧ Rel X b0 S V' M' ∧ RN r ∧ Dfx V V' ∧ Dfm M M' := by
  have hB := hR.2.1
  have n3 : (-nI 3 < nI 0) = True := eq_true (by decide)
  obtain ⟨t0, d, hd, ed⟩ := hB.2.2.2.2.2.1.1
  have vd : V.2.1 7 0 = nI d := t0.trans ed
  by_cases h999 : d < 999
  · obtain ⟨V1, eV1⟩ : ∃ W, W = pA V 7 (upd (V.2.1 7) 0 (nI (d + 1))) := ⟨_, rfl⟩
    obtain ⟨K1, eK1⟩ : ∃ W, W = upd (M.2.1 2) 31 (nI (d + 1)) := ⟨_, rfl⟩
    have hk : ∀ j, 32 ≤ j → K1 j = M.2.1 2 j := fun j hj => by rw [eK1]; simp (disch := omega) only [upd_n]
    have hk2 : ∀ j, j ≠ 31 → K1 j = M.2.1 2 j := fun j h1 => by rw [eK1, upd_n _ _ _ _ h1]
    have k31 : K1 31 = nI (d + 1) := by rw [eK1, upd_e]
    have w2 : V1.2.1 7 = upd (V.2.1 7) 0 (nI (d + 1)) := by rw [eV1, pA_e]
    have wn : ∀ g, g ≠ 7 → V1.2.1 g = V.2.1 g := fun g hg => by rw [eV1]; exact pA_n _ _ _ _ hg
    have w1 : V1.1 = V.1 := by rw [eV1]; rfl
    have wr : V1.2.2 = V.2.2 := by rw [eV1]; rfl
    obtain ⟨V', M', kx, km, m2, rel, fr⟩ := Rel_deed hN hR (V1 := V1) (K1 := K1) (nI 3) a1 a3 a4 (-1) ⟨fun g hg => ⟨by rw [w1], wn g (by omega), by rw [wr]⟩, by rw [wr], fun g hg => by rw [w1], by rw [w1], by rw [w1], fun g hg => wn g (by omega)⟩ hk (by
      rw [w1, w2, wn 2 (by omega), wn 3 (by omega), wn 4 (by omega), wn 5 (by omega), wn 6 (by omega), wn 9 (by omega), wn 10 (by omega)]
      obtain ⟨b1, b2, b3, b4, b5, b6, b7, b8, b9⟩ := hB
      refine ⟨bE_c (fun i hi => hk2 _ (by omega)) b1, bF_c (hk2 _ (by omega)) b2, bS_c (fun i hi => hk2 _ (by omega)) b3, bK_c (fun i hi => hk2 _ (by omega)) b4, bH_c (fun i hi => hk2 _ (by omega)) b5, ?_, bZ_c (fun i hi => hk2 _ (by omega)) (hk2 _ (by omega)) b7, bP_c (fun i hi => hk2 _ (by omega)) (hk2 _ (by omega)) b8, bC_c (hk2 _ (by omega)) b9⟩
      refine ⟨⟨by rw [upd_e, k31], d + 1, by omega, k31⟩, ?_, ?_⟩
      · rw [upd_n _ _ _ _ (by omega), hk2 _ (by omega)]; exact b6.2.1
      · rw [upd_n _ _ _ _ (by omega), hk2 _ (by omega)]; exact b6.2.2) (by
      refine ⟨dRg_of hB, rfl, Or.inr (Or.inr (Or.inr ⟨rfl, ?_, fun k hk => (hk2 k (by omega)).symm⟩))⟩
      show M.2.1 2 31 = K1 31 - nI 1
      rw [k31, ed, nI_s1 (by omega)]; rfl)
    refine ⟨nI (d + 1), V', pA M' 2 K1, ?_, ?_, rel, Or.inl (by rw [nI_L (by omega) (by omega)]; omega), Dfx_d wr (fun g h1 h2 h3 h4 => wn g h4) w1 fr.1, Dfm_d hk fr.2⟩
    · have z3 : ¬ d + 1 < 0 := by omega
      simp (disch := omega) only [f_X8_carryOut, f_X8_carryOut_16, f_X0_nextDay, vd, h999, sA_pA V 7, pA_e, upd_e, f_X8_carryOut_97, z3, f_X8_carryOut_120, pl_bd, pl_ob, pl_ob1, pl_obv, pl_oa, pl_oav, pl_cg, pl_cb0, pl_cb1, pl_nl0, pl_nls, li, nI_cl, pl_ck, nI_E, nI_L, nI_T, nI_add, pk_mul, nI_s1, Nat.zero_add, Nat.add_zero, Nat.reduceAdd, Nat.reduceMul, Nat.reduceSub, Nat.reduceEqDiff, Nat.reduceLeDiff, Nat.reduceLT, ↓reduceIte]
      rw [← eV1]
      show (obv (f_X1_keep N S V1 32 (nI 3) a1 a3 a4 (-1)) fun V27 => some (nI (d + 1), V27)) = _
      rw [kx]; rfl
    · have k1 : M'.2.1 2 31 = nI d := by rw [m2]; exact ed
      have h9 : ¬ d = 999 := by omega
      simp (disch := omega) only [f_X9_passesKept, ed, h9, km, k1, sA_pA M' 2, pA_e, upd_e, pl_bd, pl_ob, pl_ob1, pl_obv, pl_oa, pl_oav, pl_cg, pl_cb0, pl_cb1, pl_nl0, pl_nls, li, nI_cl, pl_ck, nI_E, nI_L, nI_T, nI_add, pk_mul, nI_s1, Nat.zero_add, Nat.add_zero, Nat.reduceAdd, Nat.reduceMul, Nat.reduceSub, Nat.reduceEqDiff, Nat.reduceLeDiff, Nat.reduceLT, ↓reduceIte]
      rw [m2, ← eK1]
  · refine ⟨-3, V, M, ?_, ?_, hR, Or.inr (Or.inr (Or.inr rfl)), Dfx_r V, Dfm_r M⟩
    · simp (disch := omega) only [f_X8_carryOut, f_X8_carryOut_16, f_X0_nextDay, vd, h999, f_X8_carryOut_97, n3, pl_bd, pl_ob, pl_ob1, pl_obv, pl_oa, pl_oav, pl_cg, pl_cb0, pl_cb1, pl_nl0, pl_nls, li, nI_cl, pl_ck, nI_E, nI_L, nI_T, nI_add, pk_mul, nI_s1, Nat.zero_add, Nat.add_zero, Nat.reduceAdd, Nat.reduceMul, Nat.reduceSub, Nat.reduceEqDiff, Nat.reduceLeDiff, Nat.reduceLT, ↓reduceIte]
    · have h9 : d = 999 := by omega
      simp (disch := omega) only [f_X9_passesKept, ed, h9, pl_bd, pl_ob, pl_ob1, pl_obv, pl_oa, pl_oav, pl_cg, pl_cb0, pl_cb1, pl_nl0, pl_nls, li, nI_cl, pl_ck, nI_E, nI_L, nI_T, nI_add, pk_mul, nI_s1, Nat.zero_add, Nat.add_zero, Nat.reduceAdd, Nat.reduceMul, Nat.reduceSub, Nat.reduceEqDiff, Nat.reduceLeDiff, Nat.reduceLT, ↓reduceIte]
theorem op_pass (hN : 20000 ≤ N) : Op_pass N b0 (Rel X b0) := by
  intro S V M hR _
  obtain ⟨r, V1, M1, h8, h9, hR1, hr, -⟩ := c_pass hN hR (nI 0) (nI 0) (nI 0)
  obtain ⟨V2, M2, j8, j9, hR2⟩ := judge (N := N) hR1 hr
  refine ⟨r, V2, M2, ?_, ?_, hR2⟩
  · simp (disch := omega) only [f_X8_pass, h8, j8, pl_bd, pl_ob, pl_ob1, pl_obv, pl_oa, pl_oav, pl_cg, pl_cb0, pl_cb1, pl_nl0, pl_nls, li, nI_cl, pl_ck, nI_E, nI_L, nI_T, nI_add, pk_mul, nI_s1, Nat.zero_add, Nat.add_zero, Nat.reduceAdd, Nat.reduceMul, Nat.reduceSub, Nat.reduceEqDiff, Nat.reduceLeDiff, Nat.reduceLT, ↓reduceIte]
  · simp (disch := omega) only [f_X9_pass, h9, j9, pl_bd, pl_ob, pl_ob1, pl_obv, pl_oa, pl_oav, pl_cg, pl_cb0, pl_cb1, pl_nl0, pl_nls, li, nI_cl, pl_ck, nI_E, nI_L, nI_T, nI_add, pk_mul, nI_s1, Nat.zero_add, Nat.add_zero, Nat.reduceAdd, Nat.reduceMul, Nat.reduceSub, Nat.reduceEqDiff, Nat.reduceLeDiff, Nat.reduceLT, ↓reduceIte]
theorem m_undo34 (hN : 20000 ≤ N) (M : Vt) (p : Nat) (hp : p ≤ 15) : ∃ f : Nat → Int32, f_X9_undo_34 N N M (nI (33 * p)) (nI 0) = some (M.2.1 13 (33 * p + 32), sF (pA M 2 f) 0 0 (nI 0)) ∧ (∀ k, k < 32 → f k = M.2.1 13 (33 * p + k)) ∧ ∀ k, 32 ≤ k → f k = M.2.1 2 k := by
  obtain ⟨g, ⟨g1, g2⟩, n, en⟩ := lpN N (fun n (f : Nat → Int32) i => f_X9_undo_34 N n (pA M 2 f) (nI (33 * p)) i) 32 (fun i f => (∀ k, k < i → f k = M.2.1 13 (33 * p + k)) ∧ ∀ k, 32 ≤ k → f k = M.2.1 2 k) (by
    intro i f hi ⟨h1, h2⟩
    refine ⟨upd f i (M.2.1 13 (33 * p + i)), ⟨fun k hk => ?_, fun k hk => by rw [upd_n _ _ _ _ (by omega)]; exact h2 k hk⟩, fun n => ?_⟩
    · by_cases hki : k = i
      · subst hki; rw [upd_e]
      · rw [upd_n _ _ _ _ (by omega)]; exact h1 k (by omega)
    · have h32 : ¬ 32 ≤ i := by omega
      have k2 : (pA M 2 f).2.1 13 (33 * p + i) = M.2.1 13 (33 * p + i) := rfl
      rw [f_X9_undo_34]
      simp (disch := omega) only [h32, k2, sA_pAe, pl_bd, pl_ob, pl_ob1, pl_obv, pl_oa, pl_oav, pl_cg, pl_cb0, pl_cb1, pl_nl0, pl_nls, li, nI_cl, pl_ck, nI_E, nI_L, nI_T, nI_add, pk_mul, nI_s1, Nat.zero_add, Nat.add_zero, Nat.reduceAdd, Nat.reduceMul, Nat.reduceSub, Nat.reduceEqDiff, Nat.reduceLeDiff, Nat.reduceLT, ↓reduceIte]) (M.2.1 2) (by omega) ⟨fun k hk => absurd hk (Nat.not_lt_zero k), fun _ _ => rfl⟩
  refine ⟨g, ?_, g1, g2⟩
  have e0 : f_X9_undo_34 N N M (nI (33 * p)) (nI 0) = f_X9_undo_34 N N (pA M 2 (M.2.1 2)) (nI (33 * p)) (nI 0) := by rw [pA_self]
  have k2 : (pA M 2 g).2.1 13 (33 * p + 32) = M.2.1 13 (33 * p + 32) := rfl
  rw [e0, en, f_X9_undo_34]
  simp (disch := omega) only [k2, m_good, pl_bd, pl_ob, pl_ob1, pl_obv, pl_oa, pl_oav, pl_cg, pl_cb0, pl_cb1, pl_nl0, pl_nls, li, nI_cl, pl_ck, nI_E, nI_L, nI_T, nI_add, pk_mul, nI_s1, Nat.zero_add, Nat.add_zero, Nat.reduceAdd, Nat.reduceMul, Nat.reduceSub, Nat.reduceEqDiff, Nat.reduceLeDiff, Nat.reduceLT, ↓reduceIte]
theorem op_undo (hN : 20000 ≤ N) : Op_undo N b0 (Rel X b0) := by
  intro S V M hR _
  obtain ⟨n, hn, e1, e2, hD⟩ := hR.2.2.2.2.1
  by_cases h0 : n = 0
  · subst h0
    refine ⟨-3, rfX V 3, rfM M 3, ?_, ?_, Rel_ref hR 3 (by omega)⟩
    · simp (disch := omega) only [f_X8_undo, f_X1_takeBack, e1, pl_bd, pl_ob, pl_ob1, pl_obv, pl_oa, pl_oav, pl_cg, pl_cb0, pl_cb1, pl_nl0, pl_nls, li, nI_cl, pl_ck, nI_E, nI_L, nI_T, nI_add, pk_mul, nI_s1, Nat.zero_add, Nat.add_zero, Nat.reduceAdd, Nat.reduceMul, Nat.reduceSub, Nat.reduceEqDiff, Nat.reduceLeDiff, Nat.reduceLT, ↓reduceIte]; rfl
    · simp (disch := omega) only [f_X9_undo, e2, pl_bd, pl_ob, pl_ob1, pl_obv, pl_oa, pl_oav, pl_cg, pl_cb0, pl_cb1, pl_nl0, pl_nls, li, nI_cl, pl_ck, nI_E, nI_L, nI_T, nI_add, pk_mul, nI_s1, Nat.zero_add, Nat.add_zero, Nat.reduceAdd, Nat.reduceMul, Nat.reduceSub, Nat.reduceEqDiff, Nat.reduceLeDiff, Nat.reduceLT, ↓reduceIte]; rfl
  · obtain ⟨p, rfl⟩ : ∃ p, n = p + 1 := ⟨n - 1, by omega⟩
    have hB := hR.2.1
    obtain ⟨hrg, hr0, hcase⟩ := hD p (by omega)
    simp only [if_pos (show p + 1 = p + 1 from rfl)] at hcase
    obtain ⟨f, ef, f1, f2⟩ := m_undo34 hN (sF M 0 31 (nI p)) p (by omega)
    have f1' : ∀ k, k < 32 → f k = M.2.1 13 (33 * p + k) := f1
    have f2' : ∀ k, 32 ≤ k → f k = M.2.1 2 k := f2
    have s1 : nI (p + 1) - nI 1 = nI p := by rw [nI_s1 (by omega)]; rfl
    have hm : f_X9_undo N M = some (M.2.1 13 (33 * p + 32), sF (pA (sF M 0 31 (nI p)) 2 f) 0 0 (nI 0)) := by
      have hp1 : ¬ p + 1 = 0 := by omega
      have k31 : (sF M 0 31 (nI p)).1 0 31 = nI p := by rw [sF_e, upd_e]
      simp (disch := omega) only [f_X9_undo, e2, hp1, s1, k31, pl_bd, pl_ob, pl_ob1, pl_obv, pl_oa, pl_oav, pl_cg, pl_cb0, pl_cb1, pl_nl0, pl_nls, li, nI_cl, pl_ck, nI_E, nI_L, nI_T, nI_add, pk_mul, nI_s1, Nat.zero_add, Nat.add_zero, Nat.reduceAdd, Nat.reduceMul, Nat.reduceSub, Nat.reduceEqDiff, Nat.reduceLeDiff, Nat.reduceLT, ↓reduceIte]
      exact ef
    -- the class
    have key : ∃ V1 : Vt, f_X1_takeBack N S V 32 1 = some (M.2.1 13 (33 * p + 32), sF V1 32 1 (nI p)) ∧ V1.1 = V.1 ∧ V1.2.2 = V.2.2 ∧ (∀ g, g ≠ 2 → g ≠ 3 → g ≠ 6 → g ≠ 7 → V1.2.1 g = V.2.1 g) ∧ bE (V1.2.1 2) f ∧ bF (V1.2.1 3) f ∧ bH (V1.2.1 6) f ∧ bT (V1.2.1 7) f ∧ nI 0 ≤ M.2.1 13 (33 * p + 32) := by
      obtain ⟨rg1, rg2, ⟨F, hF, eF⟩, rg4⟩ := hrg
      have fF : f 30 = nI F := (f1' 30 (by omega)).trans eF
      have W1 : (sF V 32 1 (nI p)).1 32 1 = nI p := by rw [sF_e, upd_e]
      have W33 : ∀ i, (sF V 32 1 (nI p)).2.1 33 i = V.2.1 33 i := fun _ => rfl
      have hp1 : ¬ p + 1 = 0 := by omega
      obtain ⟨b1, ⟨F0, hF0, eF0, hf0⟩, b3, b4, b5, ⟨⟨tt0, tt1⟩, ⟨tt2, tt3⟩, tt4, tt5⟩, b7, b8, b9⟩ := hB
      have r0 : V.2.1 33 (5 * p) = M.2.1 13 (33 * p + 32) := hr0
      rcases hcase with ⟨e, a, b, ha, hb, q1, q2, q3, q4, q5⟩ | ⟨e, a, b, ha, hb, hab, q1, q2, q3, q4, q5⟩ | ⟨e, a, ha, q1, q2, q3⟩ | ⟨e, q1, q2⟩
      · have fk : ∀ k, k < 32 → k ≠ a → k ≠ 25 + b → f k = M.2.1 2 k := fun k hk h1 h2 => (f1' k hk).trans (q5 k hk h1 h2)
        have va : V.2.1 2 a + V.2.1 33 (5 * p + 3) = f a := by rw [(b1 a ha).1, f1' a (by omega)]; exact q3.symm
        have vb : V.2.1 33 (5 * p + 4) = f (25 + b) := by rw [f1' _ (by omega)]; exact q4
        refine ⟨pA (pA V 2 (upd (V.2.1 2) a (f a))) 6 (upd (V.2.1 6) b (f (25 + b))), ?_, rfl, rfl, fun g h1 h2 h3 h4 => ?_, ?_, ?_, ?_, ?_, ?_⟩
        · have q1' : V.2.1 33 (5 * p + 1) = nI a := q1
          have q2' : V.2.1 33 (5 * p + 2) = nI b := q2
          have r0' : V.2.1 33 (5 * p) = nI 0 := r0.trans e
          have c2 : ∀ j, (sF V 32 1 (nI p)).2.1 2 j = V.2.1 2 j := fun _ => rfl
          rw [e]
          simp (disch := omega) only [f_X1_takeBack, e1, hp1, s1, W1, W33, q1', q2', r0', f_X1_takeBack_170, c2, pl_bd, pl_ob, pl_ob1, pl_obv, pl_oa, pl_oav, pl_cg, pl_cb0, pl_cb1, pl_nl0, pl_nls, li, nI_cl, pl_ck, nI_E, nI_L, nI_T, nI_add, pk_mul, nI_s1, Nat.zero_add, Nat.add_zero, Nat.reduceAdd, Nat.reduceMul, Nat.reduceSub, Nat.reduceEqDiff, Nat.reduceLeDiff, Nat.reduceLT, ↓reduceIte]
          rw [va]
          have c3 : (sA (sF V 32 1 (nI p)) 2 a (f a)).2.1 33 (5 * p + 4) = f (25 + b) := vb
          rw [c3]
          have c4 : (sA (sA (sF V 32 1 (nI p)) 2 a (f a)) 6 b (f (25 + b))).2.1 33 (5 * p) = nI 0 := r0'
          rw [c4]
          have c5 : sA (sA (sF V 32 1 (nI p)) 2 a (f a)) 6 b (f (25 + b)) = sF (pA (pA V 2 (upd (V.2.1 2) a (f a))) 6 (upd (V.2.1 6) b (f (25 + b)))) 32 1 (nI p) := by
            rw [sA_pA (sF V 32 1 (nI p)), sA_pA]; rfl
          rw [c5]
        · rw [pA_n _ _ _ _ h3, pA_n _ _ _ _ h1]
        · rw [pA_n _ _ _ _ (by omega), pA_e]
          intro i hi
          by_cases hia : i = a
          · subst hia; rw [upd_e]; exact ⟨rfl, by rw [f1' i (by omega)]; exact rg1 i hi⟩
          · rw [upd_n _ _ _ _ hia, fk i (by omega) hia (by omega)]; exact b1 i hi
        · rw [pA_n _ _ _ _ (by omega), pA_n _ _ _ _ (by omega)]
          exact ⟨F0, hF0, (fk 30 (by omega) (by omega) (by omega)).trans eF0, hf0⟩
        · rw [pA_e]
          intro i hi
          by_cases hia : i = b
          · subst hia; rw [upd_e]; exact ⟨rfl, by rw [f1' _ (by omega)]; exact rg2 i hi⟩
          · rw [upd_n _ _ _ _ hia, fk (25 + i) (by omega) (by omega) (by omega)]; exact b5 i hi
        · rw [pA_n _ _ _ _ (by omega), pA_n _ _ _ _ (by omega)]
          exact bT_c (fk 31 (by omega) (by omega) (by omega)) (f2' _ (by omega)) (f2' _ (by omega)) ⟨⟨tt0, tt1⟩, ⟨tt2, tt3⟩, tt4, tt5⟩
        · rw [e]; decide
      · have fk : ∀ k, k < 32 → k ≠ a → k ≠ b → f k = M.2.1 2 k := fun k hk h1 h2 => (f1' k hk).trans (q5 k hk h1 h2)
        have va : V.2.1 2 a + V.2.1 33 (5 * p + 3) = f a := by rw [(b1 a ha).1, f1' a (by omega)]; exact q3.symm
        have vb : V.2.1 2 b - V.2.1 33 (5 * p + 3) = f b := by rw [(b1 b hb).1, f1' b (by omega)]; exact q4.symm
        refine ⟨pA V 2 (upd (upd (V.2.1 2) a (f a)) b (f b)), ?_, rfl, rfl, fun g h1 h2 h3 h4 => pA_n _ _ _ _ h1, ?_, ?_, ?_, ?_, ?_⟩
        · have q1' : V.2.1 33 (5 * p + 1) = nI a := q1
          have q2' : V.2.1 33 (5 * p + 2) = nI b := q2
          have r0' : V.2.1 33 (5 * p) = nI 1 := r0.trans e
          have c2 : ∀ j, (sF V 32 1 (nI p)).2.1 2 j = V.2.1 2 j := fun _ => rfl
          rw [e]
          simp (disch := omega) only [f_X1_takeBack, e1, hp1, s1, W1, W33, q1', q2', r0', f_X1_takeBack_170, c2, pl_bd, pl_ob, pl_ob1, pl_obv, pl_oa, pl_oav, pl_cg, pl_cb0, pl_cb1, pl_nl0, pl_nls, li, nI_cl, pl_ck, nI_E, nI_L, nI_T, nI_add, pk_mul, nI_s1, Nat.zero_add, Nat.add_zero, Nat.reduceAdd, Nat.reduceMul, Nat.reduceSub, Nat.reduceEqDiff, Nat.reduceLeDiff, Nat.reduceLT, ↓reduceIte]
          rw [va]
          have c3 : (sA (sF V 32 1 (nI p)) 2 a (f a)).2.1 2 b = V.2.1 2 b := by rw [sA_e, upd_n _ _ _ _ (fun h => hab h.symm)]; rfl
          rw [c3, vb]
          have c4 : (sA (sA (sF V 32 1 (nI p)) 2 a (f a)) 2 b (f b)).2.1 33 (5 * p) = nI 1 := r0'
          rw [c4]
          have c5 : sA (sA (sF V 32 1 (nI p)) 2 a (f a)) 2 b (f b) = sF (pA V 2 (upd (upd (V.2.1 2) a (f a)) b (f b))) 32 1 (nI p) := by
            rw [sA_pA (sF V 32 1 (nI p)), sA_pAe]; rfl
          rw [c5]
        · rw [pA_e]
          intro i hi
          by_cases hib : i = b
          · subst hib; rw [upd_e]; exact ⟨rfl, by rw [f1' i (by omega)]; exact rg1 i hi⟩
          · rw [upd_n _ _ _ _ hib]
            by_cases hia : i = a
            · subst hia; rw [upd_e]; exact ⟨rfl, by rw [f1' i (by omega)]; exact rg1 i hi⟩
            · rw [upd_n _ _ _ _ hia, fk i (by omega) hia hib]; exact b1 i hi
        · rw [pA_n _ _ _ _ (by omega)]
          exact ⟨F0, hF0, (fk 30 (by omega) (by omega) (by omega)).trans eF0, hf0⟩
        · rw [pA_n _ _ _ _ (by omega)]
          exact bH_c (fun i hi => fk _ (by omega) (by omega) (by omega)) b5
        · rw [pA_n _ _ _ _ (by omega)]
          exact bT_c (fk 31 (by omega) (by omega) (by omega)) (f2' _ (by omega)) (f2' _ (by omega)) ⟨⟨tt0, tt1⟩, ⟨tt2, tt3⟩, tt4, tt5⟩
        · rw [e]; decide
      · have fk : ∀ k, k < 32 → k ≠ 30 → f k = M.2.1 2 k := fun k hk h1 => (f1' k hk).trans (q3 k hk h1)
        have ff : f 30 = nI (F0 ^^^ 2 ^ a) := by
          rw [f1' 30 (by omega), q2]
          show M.2.1 2 30 ^^^ ((nI 1) <<< (nI a &&& nI 31)) = _
          rw [one_shl ha, eF0, fb_xorI]
        have hle : F0 / 2 ^ a % 2 ≤ 1 := by omega
        refine ⟨pA V 3 (upd (V.2.1 3) a (nI (1 - F0 / 2 ^ a % 2))), ?_, rfl, rfl, fun g h1 h2 h3 h4 => pA_n _ _ _ _ h2, ?_, ?_, ?_, ?_, ?_⟩
        · have q1' : V.2.1 33 (5 * p + 1) = nI a := q1
          have r0' : V.2.1 33 (5 * p) = nI 2 := r0.trans e
          have c2 : (sF V 32 1 (nI p)).2.1 3 a = nI (F0 / 2 ^ a % 2) := hf0 a ha
          rw [e]
          simp (disch := omega) only [f_X1_takeBack, e1, hp1, s1, W1, W33, q1', r0', f_X1_takeBack_170, c2, pk_sub, pl_bd, pl_ob, pl_ob1, pl_obv, pl_oa, pl_oav, pl_cg, pl_cb0, pl_cb1, pl_nl0, pl_nls, li, nI_cl, pl_ck, nI_E, nI_L, nI_T, nI_add, pk_mul, nI_s1, Nat.zero_add, Nat.add_zero, Nat.reduceAdd, Nat.reduceMul, Nat.reduceSub, Nat.reduceEqDiff, Nat.reduceLeDiff, Nat.reduceLT, ↓reduceIte]
          have c4 : (sA (sF V 32 1 (nI p)) 3 a (nI (1 - F0 / 2 ^ a % 2))).2.1 33 (5 * p) = nI 2 := r0'
          rw [c4]
          have c5 : sA (sF V 32 1 (nI p)) 3 a (nI (1 - F0 / 2 ^ a % 2)) = sF (pA V 3 (upd (V.2.1 3) a (nI (1 - F0 / 2 ^ a % 2)))) 32 1 (nI p) := by
            rw [sA_pA (sF V 32 1 (nI p))]; rfl
          rw [c5]
        · rw [pA_n _ _ _ _ (by omega)]
          exact bE_c (fun i hi => fk _ (by omega) (by omega)) b1
        · rw [pA_e]
          refine ⟨F0 ^^^ 2 ^ a, flip_lt hF0 ha, ff, fun i hi => ?_⟩
          rw [flip_bit]
          by_cases hia : i = a
          · subst hia; rw [upd_e, if_pos rfl]
          · rw [upd_n _ _ _ _ hia, if_neg hia]; exact hf0 i hi
        · rw [pA_n _ _ _ _ (by omega)]
          exact bH_c (fun i hi => fk _ (by omega) (by omega)) b5
        · rw [pA_n _ _ _ _ (by omega)]
          exact bT_c (fk 31 (by omega) (by omega)) (f2' _ (by omega)) (f2' _ (by omega)) ⟨⟨tt0, tt1⟩, ⟨tt2, tt3⟩, tt4, tt5⟩
        · rw [e]; decide
      · have fk : ∀ k, k < 31 → f k = M.2.1 2 k := fun k hk => (f1' k (by omega)).trans (q2 k hk)
        have f31 : f 31 = V.2.1 7 0 - nI 1 := by rw [tt0, f1' 31 (by omega)]; exact q1
        refine ⟨pA V 7 (upd (V.2.1 7) 0 (f 31)), ?_, rfl, rfl, fun g h1 h2 h3 h4 => pA_n _ _ _ _ h4, ?_, ?_, ?_, ?_, ?_⟩
        · have r0' : V.2.1 33 (5 * p) = nI 3 := r0.trans e
          have c2 : (sF V 32 1 (nI p)).2.1 7 0 = V.2.1 7 0 := rfl
          rw [e]
          simp (disch := omega) only [f_X1_takeBack, e1, hp1, s1, W1, W33, r0', f_X1_takeBack_170, c2, pl_bd, pl_ob, pl_ob1, pl_obv, pl_oa, pl_oav, pl_cg, pl_cb0, pl_cb1, pl_nl0, pl_nls, li, nI_cl, pl_ck, nI_E, nI_L, nI_T, nI_add, pk_mul, nI_s1, Nat.zero_add, Nat.add_zero, Nat.reduceAdd, Nat.reduceMul, Nat.reduceSub, Nat.reduceEqDiff, Nat.reduceLeDiff, Nat.reduceLT, ↓reduceIte]
          rw [← f31]
          have c4 : (sA (sF V 32 1 (nI p)) 7 0 (f 31)).2.1 33 (5 * p) = nI 3 := r0'
          rw [c4]
          have c5 : sA (sF V 32 1 (nI p)) 7 0 (f 31) = sF (pA V 7 (upd (V.2.1 7) 0 (f 31))) 32 1 (nI p) := by
            rw [sA_pA (sF V 32 1 (nI p))]; rfl
          rw [c5]
        · rw [pA_n _ _ _ _ (by omega)]
          exact bE_c (fun i hi => fk _ (by omega)) b1
        · rw [pA_n _ _ _ _ (by omega)]
          exact ⟨F0, hF0, (fk 30 (by omega)).trans eF0, hf0⟩
        · rw [pA_n _ _ _ _ (by omega)]
          exact bH_c (fun i hi => fk _ (by omega)) b5
        · rw [pA_e]
          refine ⟨⟨by rw [upd_e], by rw [f1' 31 (by omega)]; exact rg4⟩, ?_, ?_⟩
          · rw [upd_n _ _ _ _ (by omega), f2' _ (by omega)]; exact ⟨tt2, tt3⟩
          · rw [upd_n _ _ _ _ (by omega), f2' _ (by omega)]; exact ⟨tt4, tt5⟩
        · rw [e]; decide
    obtain ⟨V1, kx, w1, wr, wn, nE, nF, nH, nT, npos⟩ := key
    refine ⟨M.2.1 13 (33 * p + 32), sF (sF V1 32 1 (nI p)) 0 18 (nI 0), sF (pA (sF M 0 31 (nI p)) 2 f) 0 0 (nI 0), ?_, hm, ?_⟩
    · simp (disch := omega) only [f_X8_undo, kx, f_X8_judged, npos, x_granted, pl_bd, pl_ob, pl_ob1, pl_obv, pl_oa, pl_oav, pl_cg, pl_cb0, pl_cb1, pl_nl0, pl_nls, li, nI_cl, pl_ck, nI_E, nI_L, nI_T, nI_add, pk_mul, nI_s1, Nat.zero_add, Nat.add_zero, Nat.reduceAdd, Nat.reduceMul, Nat.reduceSub, Nat.reduceEqDiff, Nat.reduceLeDiff, Nat.reduceLT, ↓reduceIte]
    · obtain ⟨b1, b2, b3, b4, b5, b6, b7, b8, b9⟩ := hB
      obtain ⟨V2, eV2⟩ : ∃ W, W = sF (sF V1 32 1 (nI p)) 0 18 (nI 0) := ⟨_, rfl⟩
      rw [← eV2]
      have vf : ∀ g j, ¬ (g = 32 ∧ j = 1) → ¬ (g = 0 ∧ j = 18) → V2.1 g j = V.1 g j := fun g j h1 h2 => by rw [eV2, sF_o _ _ _ _ _ _ h2, sF_o _ _ _ _ _ _ h1, w1]
      have vg : ∀ g, g ≠ 32 → g ≠ 0 → V2.1 g = V.1 g := fun g h1 h2 => funext fun j => vf g j (by omega) (by omega)
      have va : ∀ g, V2.2.1 g = V1.2.1 g := fun g => by rw [eV2]; rfl
      have vr : V2.2.2.2 = V.2.2.2 := by rw [eV2]; exact congrArg Prod.snd wr
      have mf : ∀ j, j ≠ 0 → j ≠ 31 → (sF (pA (sF M 0 31 (nI p)) 2 f) 0 0 (nI 0)).1 0 j = M.1 0 j := fun j h1 h2 => by rw [sF_o _ _ _ _ _ _ (by omega), pA_1, sF_o _ _ _ _ _ _ (by omega)]
      have ma : ∀ g, g ≠ 2 → (sF (pA (sF M 0 31 (nI p)) 2 f) 0 0 (nI 0)).2.1 g = M.2.1 g := fun g hg => by
        show (pA (sF M 0 31 (nI p)) 2 f).2.1 g = _
        rw [pA_n _ _ _ _ hg]; rfl
      have m2 : (sF (pA (sF M 0 31 (nI p)) 2 f) 0 0 (nI 0)).2.1 2 = f := pA_e _ _ _
      refine Rel_of hR (fun g hg => ⟨vg g (by omega) (by omega), by rw [va, wn g (by omega) (by omega) (by omega) (by omega)], by rw [vr]⟩) (by rw [vr]) (by rw [vr]) (ma 3 (by omega)) (ma 4 (by omega)) (vf 1 10 (by omega) (by omega)) (vf 1 11 (by omega) (by omega)) (fun j h1 h2 => by rw [m2]; exact f2' j (by omega)) (ma 6 (by omega)) ?_ ?_ ?_ ?_ ?_ ?_
      · rw [vg 1 (by omega) (by omega), va, va, va, va, va, va, va, va, wn 4 (by omega) (by omega) (by omega) (by omega), wn 5 (by omega) (by omega) (by omega) (by omega), wn 9 (by omega) (by omega) (by omega) (by omega), wn 10 (by omega) (by omega) (by omega) (by omega), m2]
        exact ⟨nE, nF, bS_c (fun i hi => f2' _ (by omega)) b3, bK_c (fun i hi => f2' _ (by omega)) b4, nH, nT, bZ_c (fun i hi => f2' _ (by omega)) (f2' _ (by omega)) b7, bP_c (fun i hi => f2' _ (by omega)) (f2' _ (by omega)) b8, bC_c (f2' _ (by omega)) b9⟩
      · have q1 : V2.1 32 1 = nI p := by rw [eV2, sF_o _ _ _ _ _ _ (by omega), sF_e, upd_e]
        have q2 : (sF (pA (sF M 0 31 (nI p)) 2 f) 0 0 (nI 0)).1 0 31 = nI p := by rw [sF_o _ _ _ _ _ _ (by omega), pA_1, sF_e, upd_e]
        rw [q1, q2, va, wn 33 (by omega) (by omega) (by omega) (by omega), ma 13 (by omega), m2]
        refine ⟨p, by omega, rfl, rfl, fun j hj => dOne_c3 (fun _ _ => rfl) (fun k hk => ?_) (fun _ _ => rfl) (hD j (by omega))⟩
        simp only [if_neg (show ¬ j + 1 = p + 1 by omega)]
        by_cases hjp : j + 1 = p
        · simp only [if_pos hjp]
          rw [hjp]; exact f1' k hk
        · simp only [if_neg hjp]
      · rw [vf 0 15 (by omega) (by omega), mf 13 (by omega) (by omega), va, wn 36 (by omega) (by omega) (by omega) (by omega), ma 7 (by omega)]; exact hR.2.2.2.2.2.1
      · have q1 : V2.1 0 18 = nI 0 := by rw [eV2, sF_e, upd_e]
        rw [q1, sF_e, upd_e, va, wn 63 (by omega) (by omega) (by omega) (by omega), ma 1 (by omega)]; exact ⟨rfl, hR.2.2.2.2.2.2.1.2⟩
      · rw [vf 22 9 (by omega) (by omega), mf 48 (by omega) (by omega), va, va, wn 23 (by omega) (by omega) (by omega) (by omega), wn 27 (by omega) (by omega) (by omega) (by omega), ma 24 (by omega)]; exact hR.2.2.2.2.2.2.2.1
      · rw [vf 0 16 (by omega) (by omega), mf 6 (by omega) (by omega), vf 0 17 (by omega) (by omega), mf 40 (by omega) (by omega), vf 37 8 (by omega) (by omega), mf 14 (by omega) (by omega)]; exact hR.2.2.2.2.2.2.2.2.1
end OPS
