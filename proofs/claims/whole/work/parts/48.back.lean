/-! back -/
theorem BkA_k {f e fe su ke ha te si pa K K' : Nat → Int32} (hk : ∀ j, j < 106 → K' j = K j) (b : BkA f e fe su ke ha te si pa K) : BkA f e fe su ke ha te si pa K' := by
  obtain ⟨b1, b2, b3, b4, b5, b6, b7, b8, b9⟩ := b
  exact ⟨bE_c (fun i hi => hk _ (by omega)) b1, bF_c (hk _ (by omega)) b2, bS_c (fun i hi => hk _ (by omega)) b3, bK_c (fun i hi => hk _ (by omega)) b4, bH_c (fun i hi => hk _ (by omega)) b5, bT_c (hk _ (by omega)) (hk _ (by omega)) (hk _ (by omega)) b6, bZ_c (fun i hi => hk _ (by omega)) (hk _ (by omega)) b7, bP_c (fun i hi => hk _ (by omega)) (hk _ (by omega)) b8, bC_c (hk _ (by omega)) b9⟩
theorem BkL_l {X : TxP} {S : St} {V : Vt} {im : Nat → Nat} {f : Nat → Int32} {la la' : Nat → Nat} {K : Nat → Int32} (hl : ∀ i, i < 6 → la' i = la i) (b : BkL X S V im f la K) : BkL X S V im f la' K := by
  obtain ⟨e1, e2, n, hn, e3, e4, e5, e6⟩ := b
  exact ⟨e1, e2, n, hn, e3, e4, fun i hi => by rw [hl i hi]; exact e5 i hi, fun i hi => by rw [hl i (by omega)]; exact e6 i hi⟩
theorem BkL_tsh {X : TxP} {S : St} {V : Vt} {im : Nat → Nat} {f : Nat → Int32} {la : Nat → Nat} {K : Nat → Int32} (b : BkL X S V im f la K) : ∀ i, i < 6 → la i = 0 ∨ ∃ q, la i = q + 1 ∧ tshB S q = true := by
  obtain ⟨-, -, n, -, -, -, e5, -⟩ := b
  intro i hi
  rcases e5 i hi with h | ⟨q, h, ht⟩
  · exact Or.inl h
  · exact Or.inr ⟨q, h, ht.2.1⟩
/-- a book that is copied is related as the other one was -/
theorem Bk_copy {X : TxP} {S : St} {V V' : Vt} {im : Nat → Nat} {o a : Nat} {K K' : Nat → Int32} (hf : V'.1 o 9 = V.1 a 9 ∧ V'.1 o 10 = V.1 a 10 ∧ V'.1 o 11 = V.1 a 11 ∧ V'.1 o 12 = V.1 a 12 ∧ V'.1 o 13 = V.1 a 13) (ha : ∀ g, V'.2.1 g = (bkS V o a).2.1 g) (hl : ∀ i, i < 6 → V'.2.2.2 (o + 7) i = V.2.2.2 (a + 7) i) (hv : ∀ q, TH S im q → V'.1 q = V.1 q ∧ V'.2.1 (q + 1) = V.2.1 (q + 1) ∧ V'.2.1 (q + 2) = V.2.1 (q + 2)) (hk : ∀ j, j < 5715 → K' j = K j)
    (bA : BkA (V.1 a) (V.2.1 (a + 1)) (V.2.1 (a + 2)) (V.2.1 (a + 3)) (V.2.1 (a + 4)) (V.2.1 (a + 5)) (V.2.1 (a + 6)) (V.2.1 (a + 8)) (V.2.1 (a + 9)) K) (bL : BkL X S V im (V.1 a) (V.2.2.2 (a + 7)) K) : BkA (V'.1 o) (V'.2.1 (o + 1)) (V'.2.1 (o + 2)) (V'.2.1 (o + 3)) (V'.2.1 (o + 4)) (V'.2.1 (o + 5)) (V'.2.1 (o + 6)) (V'.2.1 (o + 8)) (V'.2.1 (o + 9)) K' ∧ BkL X S V' im (V'.1 o) (V'.2.2.2 (o + 7)) K' := by
  obtain ⟨f9, f10, f11, f12, f13⟩ := hf
  obtain ⟨s1, s2, s3, s4, s5, s6, s8, s9⟩ := bkS_a V o a
  constructor
  · refine BkA_k (fun j hj => hk j (by omega)) ?_
    rw [ha, ha, ha, ha, ha, ha, ha, ha]
    exact BkA_v f12 f13 f9 s1 s2 s3 s4 s5 s6 s8 s9 bA
  · exact BkL_l hl (BkL_c f10 f11 hv (fun j h1 h2 => hk j h2) bL)
theorem m_back33 {N : Nat} (hN : 20000 ≤ N) (M : Vt) (k : Nat) (hk : k ≤ 1) : ∃ f : Nat → Int32, f_X9_back_33 N N M (nI k) (nI 0) = some (nI 0, sF (sF (pA M 2 f) 0 31 (nI 0)) 0 0 (nI 0)) ∧ ∀ j, j < 5715 → f j = M.2.1 3 (5715 * k + j) := by
  obtain ⟨g, g1, n, en⟩ := lpN N (fun n (f : Nat → Int32) i => f_X9_back_33 N n (pA M 2 f) (nI k) i) 5715 (fun i f => ∀ j, j < i → f j = M.2.1 3 (5715 * k + j)) (by
    intro i f hi h1
    refine ⟨upd f i (M.2.1 3 (5715 * k + i)), fun j hj => ?_, fun n => ?_⟩
    · by_cases hji : j = i
      · subst hji; rw [upd_e]
      · rw [upd_n _ _ _ _ (by omega)]; exact h1 j (by omega)
    · have h32 : ¬ 5715 ≤ i := by omega
      have k2 : (pA M 2 f).2.1 3 (5715 * k + i) = M.2.1 3 (5715 * k + i) := rfl
      rw [f_X9_back_33]
      simp (disch := omega) only [h32, k2, sA_pAe, pl_bd, pl_ob, pl_ob1, pl_obv, pl_oa, pl_oav, pl_cg, pl_cb0, pl_cb1, pl_nl0, pl_nls, li, nI_cl, pl_ck, nI_E, nI_L, nI_T, nI_add, pk_mul, nI_s1, Nat.zero_add, Nat.add_zero, Nat.reduceAdd, Nat.reduceMul, Nat.reduceSub, Nat.reduceEqDiff, Nat.reduceLeDiff, Nat.reduceLT, ↓reduceIte]) (M.2.1 2) (by omega) (fun k hk => absurd hk (Nat.not_lt_zero k))
  refine ⟨g, ?_, g1⟩
  have e0 : f_X9_back_33 N N M (nI k) (nI 0) = f_X9_back_33 N N (pA M 2 (M.2.1 2)) (nI k) (nI 0) := by rw [pA_self]
  rw [e0, en, f_X9_back_33]
  simp (disch := omega) only [m_goodAnew, pl_bd, pl_ob, pl_ob1, pl_obv, pl_oa, pl_oav, pl_cg, pl_cb0, pl_cb1, pl_nl0, pl_nls, li, nI_cl, pl_ck, nI_E, nI_L, nI_T, nI_add, pk_mul, nI_s1, Nat.zero_add, Nat.add_zero, Nat.reduceAdd, Nat.reduceMul, Nat.reduceSub, Nat.reduceEqDiff, Nat.reduceLeDiff, Nat.reduceLT, ↓reduceIte]
section OPS
variable {N b0 : Nat} {X : TxP}
theorem op_back (hN : 20000 ≤ N) : Op_back N b0 (Rel X b0) := by
  intro S V M hR a1
  rcases lies_c N a1 0 1 (by omega) (by omega) with ⟨k, -, hk, rfl, el⟩ | ⟨-, el⟩
  · have hI : IM X S V (V.2.2.2 11) (M.2.1 4) (M.2.1 3) k := by
      rcases (by omega : k = 0 ∨ k = 1) with rfl | rfl
      · exact hR.2.2.2.1.1
      · exact hR.2.2.2.1.2.1
    rcases hI with ⟨e1, e2⟩ | ⟨q, e1, e2, hq, hs, bA, bL⟩
    · refine ⟨-2, rfX V 2, rfM M 2, ?_, ?_, Rel_ref hR 2 (by omega)⟩
      · simp (disch := omega) only [f_X8_back, within_lies, el, e1, pl_bd, pl_ob, pl_ob1, pl_obv, pl_oa, pl_oav, pl_cg, pl_cb0, pl_cb1, pl_nl0, pl_nls, li, nI_cl, pl_ck, nI_E, nI_L, nI_T, nI_add, pk_mul, nI_s1, Nat.zero_add, Nat.add_zero, Nat.reduceAdd, Nat.reduceMul, Nat.reduceSub, Nat.reduceEqDiff, Nat.reduceLeDiff, Nat.reduceLT, ↓reduceIte]; rfl
      · simp (disch := omega) only [f_X9_back, el, e2, pl_bd, pl_ob, pl_ob1, pl_obv, pl_oa, pl_oav, pl_cg, pl_cb0, pl_cb1, pl_nl0, pl_nls, li, nI_cl, pl_ck, nI_E, nI_L, nI_T, nI_add, pk_mul, nI_s1, Nat.zero_add, Nat.add_zero, Nat.reduceAdd, Nat.reduceMul, Nat.reduceSub, Nat.reduceEqDiff, Nat.reduceLeDiff, Nat.reduceLT, ↓reduceIte]; rfl
    · obtain ⟨V', kx, fr, ff, fa, fl⟩ := x_copy hN S V 1 q (by omega) (BkL_tsh bL)
      obtain ⟨f, km, hf⟩ := m_back33 hN M k hk
      refine ⟨nI 0, sF (sF V' 32 1 (nI 0)) 0 18 (nI 0), sF (sF (pA M 2 f) 0 31 (nI 0)) 0 0 (nI 0), ?_, ?_, ?_⟩
      · simp (disch := omega) only [f_X8_back, within_lies, el, e1, hs, kx, x_clear, x_granted, pl_bd, pl_ob, pl_ob1, pl_obv, pl_oa, pl_oav, pl_cg, pl_cb0, pl_cb1, pl_nl0, pl_nls, li, nI_cl, pl_ck, nI_E, nI_L, nI_T, nI_add, pk_mul, nI_s1, Nat.zero_add, Nat.add_zero, Nat.reduceAdd, Nat.reduceMul, Nat.reduceSub, Nat.reduceEqDiff, Nat.reduceLeDiff, Nat.reduceLT, ↓reduceIte]
      · simp (disch := omega) only [f_X9_back, el, e2, pl_bd, pl_ob, pl_ob1, pl_obv, pl_oa, pl_oav, pl_cg, pl_cb0, pl_cb1, pl_nl0, pl_nls, li, nI_cl, pl_ck, nI_E, nI_L, nI_T, nI_add, pk_mul, nI_s1, Nat.zero_add, Nat.add_zero, Nat.reduceAdd, Nat.reduceMul, Nat.reduceSub, Nat.reduceEqDiff, Nat.reduceLeDiff, Nat.reduceLT, ↓reduceIte]; exact km
      · obtain ⟨h1, h2, h3, h4, h5, h6, h7, h8, h9, h10⟩ := hR
        have g64 : G64 V V' := fun h hh => fr h (by omega)
        have g64' : G64 V (sF (sF V' 32 1 (nI 0)) 0 18 (nI 0)) := G64_F (G64_F g64 (by omega)) (by omega)
        obtain ⟨nA, nL⟩ := Bk_copy (X := X) (S := S) (im := V.2.2.2 11) ff fa fl (fun q hq => ⟨(G64_o g64 q hq.1).1, (G64_o g64 (q + 1) (Nat.le_succ_of_le hq.1)).2.1, (G64_o g64 (q + 2) (Nat.le_trans hq.1 (by omega))).2.1⟩) hf bA bL
        have r11 : V'.2.2.2 11 = V.2.2.2 11 := (fr 11 (by omega)).2.2
        have vf : ∀ g j, (g < 1 ∨ 11 ≤ g) → ¬ (g = 32 ∧ j = 1) → ¬ (g = 0 ∧ j = 18) → (sF (sF V' 32 1 (nI 0)) 0 18 (nI 0)).1 g j = V.1 g j := fun g j h1 h2 h3 => by rw [sF_o _ _ _ _ _ _ h3, sF_o _ _ _ _ _ _ h2, (fr g h1).1]
        have va : ∀ g, (g < 1 ∨ 11 ≤ g) → (sF (sF V' 32 1 (nI 0)) 0 18 (nI 0)).2.1 g = V.2.1 g := fun g h1 => (fr g h1).2.1
        have mf : ∀ j, j ≠ 0 → j ≠ 31 → (sF (sF (pA M 2 f) 0 31 (nI 0)) 0 0 (nI 0)).1 0 j = M.1 0 j := fun j h1 h2 => by rw [sF_o _ _ _ _ _ _ (by omega), sF_o _ _ _ _ _ _ (by omega), pA_1]
        have ma : ∀ g, g ≠ 2 → (sF (sF (pA M 2 f) 0 31 (nI 0)) 0 0 (nI 0)).2.1 g = M.2.1 g := fun g hg => pA_n _ _ _ _ hg
        have m2 : (sF (sF (pA M 2 f) 0 31 (nI 0)) 0 0 (nI 0)).2.1 2 = f := pA_e _ _ _
        refine ⟨h1, ?_, ?_, ?_, ?_, ?_, ?_, ?_, ?_, ?_⟩
        · rw [m2]; exact nA
        · rw [m2]
          show BkL X S _ (V'.2.2.2 11) (V'.1 1) (V'.2.2.2 8) f
          rw [r11]
          exact BkL_g rfl rfl (G64_o (G64_F (G64_F (G64_r V') (by omega)) (by omega))) (fun _ _ _ => rfl) nL
        · show Ims X S _ (V'.2.2.2 11) _ _
          rw [r11, ma 4 (by omega), ma 3 (by omega)]
          exact Ims_g (G64_o g64') h4
        · have q1 : (sF (sF V' 32 1 (nI 0)) 0 18 (nI 0)).1 32 1 = nI 0 := by rw [sF_o _ _ _ _ _ _ (by omega), sF_e, upd_e]
          have q2 : (sF (sF (pA M 2 f) 0 31 (nI 0)) 0 0 (nI 0)).1 0 31 = nI 0 := by rw [sF_o _ _ _ _ _ _ (by omega), sF_e, upd_e]
          rw [q1, q2]; exact Dd_0 _ _ _
        · rw [vf 0 15 (by omega) (by omega) (by omega), mf 13 (by omega) (by omega), va 36 (by omega), ma 7 (by omega)]; exact h6
        · have q1 : (sF (sF V' 32 1 (nI 0)) 0 18 (nI 0)).1 0 18 = nI 0 := by rw [sF_e, upd_e]
          have q2 : (sF (sF (pA M 2 f) 0 31 (nI 0)) 0 0 (nI 0)).1 0 0 = nI 0 := by rw [sF_e, upd_e]
          rw [q1, q2, va 63 (by omega), ma 1 (by omega)]; exact ⟨rfl, h7.2⟩
        · rw [vf 22 9 (by omega) (by omega) (by omega), mf 48 (by omega) (by omega), va 23 (by omega), va 27 (by omega), ma 24 (by omega)]; exact h8
        · rw [vf 0 16 (by omega) (by omega) (by omega), mf 6 (by omega) (by omega), vf 0 17 (by omega) (by omega) (by omega), mf 40 (by omega) (by omega), vf 37 8 (by omega) (by omega) (by omega), mf 14 (by omega) (by omega)]; exact h9
        · rw [ma 6 (by omega), va 59 (by omega), va 60 (by omega)]; exact h10
  · refine ⟨-1, rfX V 1, rfM M 1, ?_, ?_, Rel_ref hR 1 (by omega)⟩
    · simp (disch := omega) only [f_X8_back, within_lies, el, pl_bd, pl_ob, pl_ob1, pl_obv, pl_oa, pl_oav, pl_cg, pl_cb0, pl_cb1, pl_nl0, pl_nls, li, nI_cl, pl_ck, nI_E, nI_L, nI_T, nI_add, pk_mul, nI_s1, Nat.zero_add, Nat.add_zero, Nat.reduceAdd, Nat.reduceMul, Nat.reduceSub, Nat.reduceEqDiff, Nat.reduceLeDiff, Nat.reduceLT, ↓reduceIte]; rfl
    · simp (disch := omega) only [f_X9_back, el, pl_bd, pl_ob, pl_ob1, pl_obv, pl_oa, pl_oav, pl_cg, pl_cb0, pl_cb1, pl_nl0, pl_nls, li, nI_cl, pl_ck, nI_E, nI_L, nI_T, nI_add, pk_mul, nI_s1, Nat.zero_add, Nat.add_zero, Nat.reduceAdd, Nat.reduceMul, Nat.reduceSub, Nat.reduceEqDiff, Nat.reduceLeDiff, Nat.reduceLT, ↓reduceIte]; rfl
end OPS
