/-! counts; bits of a set -/
theorem m_isIn (N : Nat) {F i : Nat} (hF : F < 2147483648) (hi : i < 32) : f_X9_isIn N (nI F) (nI i) = some (nI (F / 2 ^ i % 2)) := by
  have e1 : nI F >>> (nI i &&& 31) = nI (F / 2 ^ i) := pk_shrN hF _ i (s_l i hi)
  have e2 : nI (F / 2 ^ i) &&& (1 : Int32) = nI (F / 2 ^ i % 2) := pk_andN (Nat.lt_of_le_of_lt (Nat.div_le_self _ _) (by omega)) 1 rfl
  unfold f_X9_isIn
  rw [e1, e2]
  rcases Nat.mod_two_eq_zero_or_one (F / 2 ^ i) with h | h
  · rw [h]; rfl
  · rw [h]; rfl
theorem m_bit {F i : Nat} (hF : F < 2147483648) (hi : i < 32) : (nI F >>> (nI i &&& nI 31)) &&& nI 1 = nI (F / 2 ^ i % 2) := by
  have e1 : nI F >>> (nI i &&& 31) = nI (F / 2 ^ i) := pk_shrN hF _ i (s_l i hi)
  have e2 : nI (F / 2 ^ i) &&& (1 : Int32) = nI (F / 2 ^ i % 2) := pk_andN (Nat.lt_of_le_of_lt (Nat.div_le_self _ _) (by omega)) 1 rfl
  rw [show nI 31 = (31 : Int32) from rfl, show nI 1 = (1 : Int32) from rfl, e1, e2]
theorem m_ones {N : Nat} (hN : 20000 ≤ N) {F : Nat} (hF : F < 2147483648) : f_X9_ones N (nI F) = some (l_sum (fun i => nI (F / 2 ^ i % 2)) 25) := by
  obtain ⟨s, hs, n, e⟩ := lpN N (fun n s i => f_X9_ones_4 N n (nI F) s i) 25 (fun i s => s = l_sum (fun i => nI (F / 2 ^ i % 2)) i) (by
    intro i s hi hs
    refine ⟨s + nI (F / 2 ^ i % 2), by rw [hs]; rfl, fun n => ?_⟩
    have h25 : ¬ 25 ≤ i := by omega
    simp (disch := omega) only [f_X9_ones_4, h25, m_bit hF, pl_bd, pl_ob, pl_ob1, pl_obv, pl_oa, pl_oav, pl_cg, pl_cb0, pl_cb1, pl_nl0, pl_nls, li, nI_cl, pl_ck, nI_E, nI_L, nI_T, nI_add, pk_mul, nI_s1, Nat.zero_add, Nat.add_zero, Nat.reduceAdd, Nat.reduceMul, Nat.reduceSub, Nat.reduceEqDiff, Nat.reduceLeDiff, Nat.reduceLT, ↓reduceIte]) 0 (by omega) rfl
  have e' : f_X9_ones N (nI F) = f_X9_ones_4 N N (nI F) 0 (nI 0) := rfl
  rw [e', e, hs]
  simp (disch := omega) only [f_X9_ones_4, pl_bd, pl_ob, pl_ob1, pl_obv, pl_oa, pl_oav, pl_cg, pl_cb0, pl_cb1, pl_nl0, pl_nls, li, nI_cl, pl_ck, nI_E, nI_L, nI_T, nI_add, pk_mul, nI_s1, Nat.zero_add, Nat.add_zero, Nat.reduceAdd, Nat.reduceMul, Nat.reduceSub, Nat.reduceEqDiff, Nat.reduceLeDiff, Nat.reduceLT, ↓reduceIte]
theorem x_fenceCount {N : Nat} (hN : 20000 ≤ N) (S : St) (V : Vt) (o : Nat) : f_X0_fenceCount N S V o = some (l_sum (V.2.1 (o + 2)) 25) := by
  obtain ⟨s, hs, n, e⟩ := lpN N (fun n s i => f_X0_fenceCount_4 N S V o n s i) 25 (fun i s => s = l_sum (V.2.1 (o + 2)) i) (by
    intro i s hi hs
    refine ⟨s + V.2.1 (o + 2) i, by rw [hs]; rfl, fun n => ?_⟩
    have h25 : ¬ 25 ≤ i := by omega
    simp (disch := omega) only [f_X0_fenceCount_4, h25, pl_bd, pl_ob, pl_ob1, pl_obv, pl_oa, pl_oav, pl_cg, pl_cb0, pl_cb1, pl_nl0, pl_nls, li, nI_cl, pl_ck, nI_E, nI_L, nI_T, nI_add, pk_mul, nI_s1, Nat.zero_add, Nat.add_zero, Nat.reduceAdd, Nat.reduceMul, Nat.reduceSub, Nat.reduceEqDiff, Nat.reduceLeDiff, Nat.reduceLT, ↓reduceIte]) 0 (by omega) rfl
  have e' : f_X0_fenceCount N S V o = f_X0_fenceCount_4 N S V o N 0 (nI 0) := rfl
  rw [e', e, hs]
  simp (disch := omega) only [f_X0_fenceCount_4, pl_bd, pl_ob, pl_ob1, pl_obv, pl_oa, pl_oav, pl_cg, pl_cb0, pl_cb1, pl_nl0, pl_nls, li, nI_cl, pl_ck, nI_E, nI_L, nI_T, nI_add, pk_mul, nI_s1, Nat.zero_add, Nat.add_zero, Nat.reduceAdd, Nat.reduceMul, Nat.reduceSub, Nat.reduceEqDiff, Nat.reduceLeDiff, Nat.reduceLT, ↓reduceIte]
theorem l_sum_c {f g : Nat → Int32} : ∀ {n : Nat}, (∀ i, i < n → f i = g i) → l_sum f n = l_sum g n
  | 0, _ => rfl
  | n + 1, h => by
    show l_sum f n + f n = l_sum g n + g n
    rw [l_sum_c (fun i hi => h i (by omega)), h n (by omega)]
section OPS
variable {N b0 : Nat} {X : TxP}
theorem op_count (hN : 20000 ≤ N) : Op_count N b0 (Rel X b0) := by
  intro S V M hR a1
  have hB := hR.2.1
  obtain ⟨-, u1, u2, u3, u5, u6⟩ := hR.2.2.2.2.2.2.1
  obtain ⟨⟨t0, -⟩, ⟨t1, -⟩, t2, -⟩ := hB.2.2.2.2.2.1
  rcases lies_c N a1 0 15 (by omega) (by omega) with ⟨c, -, hc, rfl, -⟩ | ⟨hx, -⟩
  · have d7 : f_X9_lies N (nI c) (nI 7) (nI 11) = some (nI (if 7 ≤ c ∧ c ≤ 11 then 1 else 0)) := by
      rcases lies_c N (nI c) 7 11 (by omega) (by omega) with ⟨c', h1, h2, h3, el⟩ | ⟨hx, el⟩
      · rw [nI_E (by omega) (by omega)] at h3; subst h3
        rw [el, if_pos ⟨h1, h2⟩]
      · rw [nI_L (by omega) (by omega), nI_L (by omega) (by omega)] at hx
        rw [el, if_neg hx]
    have d13 : f_X9_lies N (nI c) (nI 13) (nI 15) = some (nI (if 13 ≤ c ∧ c ≤ 15 then 1 else 0)) := by
      rcases lies_c N (nI c) 13 15 (by omega) (by omega) with ⟨c', h1, h2, h3, el⟩ | ⟨hx, el⟩
      · rw [nI_E (by omega) (by omega)] at h3; subst h3
        rw [el, if_pos ⟨h1, h2⟩]
      · rw [nI_L (by omega) (by omega), nI_L (by omega) (by omega)] at hx
        rw [el, if_neg hx]
    have s7 : ∀ k : Nat, nI (7 + k) - nI 7 = nI k := fun k => by rw [pk_sub (by omega)]; congr 1; omega
    have s6 : ∀ k : Nat, nI (6 + k) - nI 6 = nI k := fun k => by rw [pk_sub (by omega)]; congr 1; omega
    have s13 : ∀ k : Nat, nI (13 + k) - nI 13 = nI k := fun k => by rw [pk_sub (by omega)]; congr 1; omega
    rcases (by omega : c = 0 ∨ c = 1 ∨ c = 2 ∨ c = 3 ∨ c = 4 ∨ c = 5 ∨ c = 6 ∨ c = 7 ∨ c = 8 ∨ c = 9 ∨ c = 10 ∨ c = 11 ∨ c = 12 ∨ c = 13 ∨ c = 14 ∨ c = 15) with rfl | rfl | rfl | rfl | rfl | rfl | rfl | rfl | rfl | rfl | rfl | rfl | rfl | rfl | rfl | rfl
    · exact ⟨V.1 1 9, rfl, by rw [hB.2.2.2.2.2.2.2.2.1]; rfl, hR⟩
    · obtain ⟨F, hF, eF, hf⟩ := hB.2.1
      refine ⟨l_sum (V.2.1 3) 25, ?_, ?_, hR⟩
      · simp (disch := omega) only [f_X8_count, within_lies, d7, d13, x_fenceCount hN, pl_bd, pl_ob, pl_ob1, pl_obv, pl_oa, pl_oav, pl_cg, pl_cb0, pl_cb1, pl_nl0, pl_nls, li, nI_cl, pl_ck, nI_E, nI_L, nI_T, nI_add, pk_mul, nI_s1, Nat.zero_add, Nat.add_zero, Nat.reduceAdd, Nat.reduceMul, Nat.reduceSub, Nat.reduceEqDiff, Nat.reduceLeDiff, Nat.reduceLT, ↓reduceIte]
        rfl
      · rw [l_sum_c hf]
        simp (disch := omega) only [f_X9_count, eF, m_ones hN, pl_bd, pl_ob, pl_ob1, pl_obv, pl_oa, pl_oav, pl_cg, pl_cb0, pl_cb1, pl_nl0, pl_nls, li, nI_cl, pl_ck, nI_E, nI_L, nI_T, nI_add, pk_mul, nI_s1, Nat.zero_add, Nat.add_zero, Nat.reduceAdd, Nat.reduceMul, Nat.reduceSub, Nat.reduceEqDiff, Nat.reduceLeDiff, Nat.reduceLT, ↓reduceIte]
    · exact ⟨V.1 1 12, rfl, by rw [hB.2.2.2.2.2.2.1.2.1]; rfl, hR⟩
    · exact ⟨V.1 1 13, rfl, by rw [hB.2.2.2.2.2.2.2.1.2.1]; rfl, hR⟩
    · exact ⟨V.1 1 10, rfl, by rw [hR.2.2.1.1]; rfl, hR⟩
    · obtain ⟨n, -, e1, e2, -⟩ := hR.2.2.2.2.1
      exact ⟨V.1 32 1, rfl, by rw [e1, ← e2]; rfl, hR⟩
    · obtain ⟨n, -, e1, e2, -⟩ := hR.2.2.2.2.2.1
      exact ⟨V.1 0 15, rfl, by rw [e1, ← e2]; rfl, hR⟩
    · exact ⟨V.2.1 63 0, rfl, by rw [u1]; rfl, hR⟩
    · exact ⟨V.2.1 63 1, rfl, by rw [u2]; rfl, hR⟩
    · exact ⟨V.2.1 63 2, rfl, by rw [u3]; rfl, hR⟩
    · exact ⟨V.2.1 63 3, rfl, by rw [u5]; rfl, hR⟩
    · exact ⟨V.2.1 63 4, rfl, by rw [u6]; rfl, hR⟩
    · exact ⟨V.1 1 11, rfl, by rw [hR.2.2.1.2.1]; rfl, hR⟩
    · exact ⟨V.2.1 7 0, rfl, by rw [t0]; rfl, hR⟩
    · exact ⟨V.2.1 7 1, rfl, by rw [t1]; rfl, hR⟩
    · exact ⟨V.2.1 7 2, rfl, by rw [t2]; rfl, hR⟩
  · have nn : ∀ k : Nat, k ≤ 15 → ¬ a1 = nI k := fun k hk e => hx (by rw [e, nI_L (by omega) (by omega), nI_L (by omega) (by omega)]; omega)
    have d7 : f_X9_lies N a1 (nI 7) (nI 11) = some (nI 0) := by
      rcases lies_c N a1 7 11 (by omega) (by omega) with ⟨c', h1, h2, h3, el⟩ | ⟨hx, el⟩
      · exact absurd h3 (nn c' (by omega))
      · exact el
    have d13 : f_X9_lies N a1 (nI 13) (nI 15) = some (nI 0) := by
      rcases lies_c N a1 13 15 (by omega) (by omega) with ⟨c', h1, h2, h3, el⟩ | ⟨hx, el⟩
      · exact absurd h3 (nn c' (by omega))
      · exact el
    refine ⟨-1, ?_, ?_, hR⟩
    · simp (disch := omega) only [f_X8_count, within_lies, d7, d13, nn, pl_bd, pl_ob, pl_ob1, pl_obv, pl_oa, pl_oav, pl_cg, pl_cb0, pl_cb1, pl_nl0, pl_nls, li, nI_cl, pl_ck, nI_E, nI_L, nI_T, nI_add, pk_mul, nI_s1, Nat.zero_add, Nat.add_zero, Nat.reduceAdd, Nat.reduceMul, Nat.reduceSub, Nat.reduceEqDiff, Nat.reduceLeDiff, Nat.reduceLT, ↓reduceIte]
    · simp (disch := omega) only [f_X9_count, nn, pl_bd, pl_ob, pl_ob1, pl_obv, pl_oa, pl_oav, pl_cg, pl_cb0, pl_cb1, pl_nl0, pl_nls, li, nI_cl, pl_ck, nI_E, nI_L, nI_T, nI_add, pk_mul, nI_s1, Nat.zero_add, Nat.add_zero, Nat.reduceAdd, Nat.reduceMul, Nat.reduceSub, Nat.reduceEqDiff, Nat.reduceLeDiff, Nat.reduceLT, ↓reduceIte]
end OPS
