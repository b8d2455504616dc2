/-! through: the least that is booked out of a set -/
def pkA (K : Nat → Int32) (i : Nat) : Nat := (K (71 + 3 * i)).toNatClampNeg
def pkB (K : Nat → Int32) (i : Nat) : Nat := (K (72 + 3 * i)).toNatClampNeg
def pkS (K : Nat → Int32) (i : Nat) : Nat := (K (73 + 3 * i)).toNatClampNeg
def ouT (K : Nat → Int32) (s i : Nat) : Nat := if s / 2 ^ pkA K i % 2 = 1 ∧ s / 2 ^ pkB K i % 2 = 0 then pkS K i else 0
def ouN (K : Nat → Int32) (n s : Nat) : Nat := fb_sm (ouT K s) n
def Pay (K : Nat → Int32) (n : Nat) : Prop := n ≤ 10 ∧ K 105 = nI n ∧ ∀ i, i < n → (pkA K i < 5 ∧ pkB K i < 5 ∧ pkA K i ≠ pkB K i ∧ 1 ≤ pkS K i ∧ pkS K i ≤ 999) ∧ K (71 + 3 * i) = nI (pkA K i) ∧ K (72 + 3 * i) = nI (pkB K i) ∧ K (73 + 3 * i) = nI (pkS K i)
theorem Pay_of {c : Int32} {pa K : Nat → Int32} (h : bP c pa K) : ∃ n, Pay K n := by
  obtain ⟨-, -, n, hn, en, h3⟩ := h
  refine ⟨n, hn, en, fun i hi => ?_⟩
  obtain ⟨a, b, s, hh, e1, e2, e3⟩ := h3 i hi
  have ea : pkA K i = a := by unfold pkA; rw [e1, nI_cl (by omega)]
  have eb : pkB K i = b := by unfold pkB; rw [e2, nI_cl (by omega)]
  have es : pkS K i = s := by unfold pkS; rw [e3, nI_cl (by omega)]
  rw [ea, eb, es]
  exact ⟨hh, e1, e2, e3⟩
theorem ouT_le {K : Nat → Int32} {n : Nat} (h : Pay K n) (s i : Nat) (hi : i < n) : ouT K s i ≤ 999 := by
  unfold ouT
  have := (h.2.2 i hi).1
  split
  · omega
  · omega
theorem ouN_le {K : Nat → Int32} {n : Nat} (h : Pay K n) (s j : Nat) (hj : j ≤ n) : ouN K j s ≤ 9990 := by
  have := fb_sm_bound (f := ouT K s) (c := 999) (n := j) (fun k hk => ouT_le h s k (by omega))
  have h10 := h.1
  have : j * 999 ≤ 10 * 999 := Nat.mul_le_mul_right 999 (by omega)
  unfold ouN
  omega
theorem m_outOf {N : Nat} (hN : 20000 ≤ N) (M : Vt) {n : Nat} (h : Pay (M.2.1 2) n) {s : Nat} (hs : s < 32) : f_X9_outOf N M (nI s) = some (nI (ouN (M.2.1 2) n s)) := by
  have hn := h.1
  obtain ⟨t, ht, m, em⟩ := lpN N (fun m t i => f_X9_outOf_4 N M m (nI s) t i) n (fun i t => t = nI (ouN (M.2.1 2) i s)) (by
    intro i t hi ht
    obtain ⟨⟨ha, hb, hab, h1, h9⟩, ea, eb, es⟩ := h.2.2 i hi
    refine ⟨nI (ouN (M.2.1 2) (i + 1) s), rfl, fun m => ?_⟩
    have hni : ¬ n ≤ i := by omega
    have i1 : 71 + 3 * i + 1 = 72 + 3 * i := by omega
    have i2 : 71 + 3 * i + 2 = 73 + 3 * i := by omega
    have qa := m_isIn N (F := s) (i := pkA (M.2.1 2) i) (by omega) (by omega)
    have qb := m_isIn N (F := s) (i := pkB (M.2.1 2) i) (by omega) (by omega)
    have eo : ouN (M.2.1 2) (i + 1) s = ouN (M.2.1 2) i s + ouT (M.2.1 2) s i := rfl
    rw [f_X9_outOf_4, ht, eo]
    rcases Nat.mod_two_eq_zero_or_one (s / 2 ^ pkA (M.2.1 2) i) with z1 | z1
    · rw [z1] at qa
      rw [show ouT (M.2.1 2) s i = 0 from if_neg (by omega)]
      simp (disch := omega) only [h.2.1, hni, ea, qa, f_X9_outOf_65, pl_bd, pl_ob, pl_ob1, pl_obv, pl_oa, pl_oav, pl_cg, pl_cb0, pl_cb1, pl_nl0, pl_nls, li, nI_cl, pl_ck, nI_E, nI_L, nI_T, nI_add, pk_mul, nI_s1, Nat.zero_add, Nat.add_zero, Nat.reduceAdd, Nat.reduceMul, Nat.reduceSub, Nat.reduceEqDiff, Nat.reduceLeDiff, Nat.reduceLT, ↓reduceIte]
    · rw [z1] at qa
      rcases Nat.mod_two_eq_zero_or_one (s / 2 ^ pkB (M.2.1 2) i) with z2 | z2
      · rw [z2] at qb
        rw [show ouT (M.2.1 2) s i = pkS (M.2.1 2) i from if_pos ⟨z1, z2⟩]
        simp (disch := omega) only [h.2.1, hni, ea, qa, i1, eb, qb, i2, es, f_X9_outOf_65, pl_bd, pl_ob, pl_ob1, pl_obv, pl_oa, pl_oav, pl_cg, pl_cb0, pl_cb1, pl_nl0, pl_nls, li, nI_cl, pl_ck, nI_E, nI_L, nI_T, nI_add, pk_mul, nI_s1, Nat.zero_add, Nat.add_zero, Nat.reduceAdd, Nat.reduceMul, Nat.reduceSub, Nat.reduceEqDiff, Nat.reduceLeDiff, Nat.reduceLT, ↓reduceIte]
      · rw [z2] at qb
        rw [show ouT (M.2.1 2) s i = 0 from if_neg (by omega)]
        simp (disch := omega) only [h.2.1, hni, ea, qa, i1, eb, qb, f_X9_outOf_65, pl_bd, pl_ob, pl_ob1, pl_obv, pl_oa, pl_oav, pl_cg, pl_cb0, pl_cb1, pl_nl0, pl_nls, li, nI_cl, pl_ck, nI_E, nI_L, nI_T, nI_add, pk_mul, nI_s1, Nat.zero_add, Nat.add_zero, Nat.reduceAdd, Nat.reduceMul, Nat.reduceSub, Nat.reduceEqDiff, Nat.reduceLeDiff, Nat.reduceLT, ↓reduceIte]) (nI 0) (by omega) rfl
  have e0 : f_X9_outOf N M (nI s) = f_X9_outOf_4 N M N (nI s) (nI 0) (nI 0) := rfl
  rw [e0, em, f_X9_outOf_4, ht]
  simp (disch := omega) only [h.2.1, Nat.le_refl, pl_bd, pl_ob, pl_ob1, pl_obv, pl_oa, pl_oav, pl_cg, pl_cb0, pl_cb1, pl_nl0, pl_nls, li, nI_cl, pl_ck, nI_E, nI_L, nI_T, nI_add, pk_mul, nI_s1, Nat.zero_add, Nat.add_zero, Nat.reduceAdd, Nat.reduceMul, Nat.reduceSub, Nat.reduceEqDiff, Nat.reduceLeDiff, Nat.reduceLT, ↓reduceIte]
theorem x_outOf {N : Nat} (hN : 20000 ≤ N) (S : St) (V : Vt) {K : Nat → Int32} {n : Nat} (h : Pay K n) (hb : bP (V.1 1 13) (V.2.1 10) K) {s : Nat} (hs : s < 32) : f_X0_bookedOutOf N S V 1 (nI s) = some (nI (ouN K n s)) := by
  have hn := h.1
  have e13 : V.1 1 13 = nI n := hb.2.1.trans h.2.1
  obtain ⟨t, ht, m, em⟩ := lpN N (fun m t i => f_X0_bookedOutOf_4 N S V 1 m (nI s) t i) n (fun i t => t = nI (ouN K i s)) (by
    intro i t hi ht
    obtain ⟨⟨ha, hb', hab, h1, h9⟩, ea, eb, es⟩ := h.2.2 i hi
    refine ⟨nI (ouN K (i + 1) s), rfl, fun m => ?_⟩
    have hni : ¬ n ≤ i := by omega
    have va : V.2.1 10 (3 * i) = nI (pkA K i) := (hb.1 (3 * i) (by omega)).trans ea
    have vb : V.2.1 10 (3 * i + 1) = nI (pkB K i) := (hb.1 (3 * i + 1) (by omega)).trans (by rw [← eb]; congr 1; omega)
    have vs : V.2.1 10 (3 * i + 2) = nI (pkS K i) := (hb.1 (3 * i + 2) (by omega)).trans (by rw [← es]; congr 1; omega)
    have qa := m_bit (F := s) (i := pkA K i) (by omega) (by omega)
    have qb := m_bit (F := s) (i := pkB K i) (by omega) (by omega)
    have eo : ouN K (i + 1) s = ouN K i s + ouT K s i := rfl
    rw [f_X0_bookedOutOf_4, ht, eo]
    rcases Nat.mod_two_eq_zero_or_one (s / 2 ^ pkA K i) with z1 | z1
    · rw [z1] at qa
      rw [show ouT K s i = 0 from if_neg (by omega)]
      simp (disch := omega) only [e13, hni, va, qa, f_X0_bookedOutOf_58, pl_bd, pl_ob, pl_ob1, pl_obv, pl_oa, pl_oav, pl_cg, pl_cb0, pl_cb1, pl_nl0, pl_nls, li, nI_cl, pl_ck, nI_E, nI_L, nI_T, nI_add, pk_mul, nI_s1, Nat.zero_add, Nat.add_zero, Nat.reduceAdd, Nat.reduceMul, Nat.reduceSub, Nat.reduceEqDiff, Nat.reduceLeDiff, Nat.reduceLT, ↓reduceIte]
    · rw [z1] at qa
      rcases Nat.mod_two_eq_zero_or_one (s / 2 ^ pkB K i) with z2 | z2
      · rw [z2] at qb
        rw [show ouT K s i = pkS K i from if_pos ⟨z1, z2⟩]
        simp (disch := omega) only [e13, hni, va, qa, vb, qb, vs, f_X0_bookedOutOf_58, pl_bd, pl_ob, pl_ob1, pl_obv, pl_oa, pl_oav, pl_cg, pl_cb0, pl_cb1, pl_nl0, pl_nls, li, nI_cl, pl_ck, nI_E, nI_L, nI_T, nI_add, pk_mul, nI_s1, Nat.zero_add, Nat.add_zero, Nat.reduceAdd, Nat.reduceMul, Nat.reduceSub, Nat.reduceEqDiff, Nat.reduceLeDiff, Nat.reduceLT, ↓reduceIte]
      · rw [z2] at qb
        rw [show ouT K s i = 0 from if_neg (by omega)]
        simp (disch := omega) only [e13, hni, va, qa, vb, qb, f_X0_bookedOutOf_58, pl_bd, pl_ob, pl_ob1, pl_obv, pl_oa, pl_oav, pl_cg, pl_cb0, pl_cb1, pl_nl0, pl_nls, li, nI_cl, pl_ck, nI_E, nI_L, nI_T, nI_add, pk_mul, nI_s1, Nat.zero_add, Nat.add_zero, Nat.reduceAdd, Nat.reduceMul, Nat.reduceSub, Nat.reduceEqDiff, Nat.reduceLeDiff, Nat.reduceLT, ↓reduceIte]) (nI 0) (by omega) rfl
  have e0 : f_X0_bookedOutOf N S V 1 (nI s) = f_X0_bookedOutOf_4 N S V 1 N (nI s) (nI 0) (nI 0) := rfl
  rw [e0, em, f_X0_bookedOutOf_4, ht]
  simp (disch := omega) only [e13, Nat.le_refl, pl_bd, pl_ob, pl_ob1, pl_obv, pl_oa, pl_oav, pl_cg, pl_cb0, pl_cb1, pl_nl0, pl_nls, li, nI_cl, pl_ck, nI_E, nI_L, nI_T, nI_add, pk_mul, nI_s1, Nat.zero_add, Nat.add_zero, Nat.reduceAdd, Nat.reduceMul, Nat.reduceSub, Nat.reduceEqDiff, Nat.reduceLeDiff, Nat.reduceLT, ↓reduceIte]
section OPS
variable {N b0 : Nat} {X : TxP}
theorem op_through (hN : 20000 ≤ N) : Op_through N b0 (Rel X b0) := by
  intro S V M hR a1 a2 a3
  have hB := hR.2.1
  obtain ⟨n, hP⟩ := Pay_of hB.2.2.2.2.2.2.2.1
  rcases five_c N a1 with ⟨a, ha, rfl, e8, e9⟩ | ⟨e8, e9⟩
  · rcases five_c N a2 with ⟨b, hb, rfl, d8, d9⟩ | ⟨d8, d9⟩
    · by_cases hab : a = b
      · refine ⟨-1, ?_, ?_, hR⟩
        · simp (disch := omega) only [f_X8_through, e8, d8, hab, pl_bd, pl_ob, pl_ob1, pl_obv, pl_oa, pl_oav, pl_cg, pl_cb0, pl_cb1, pl_nl0, pl_nls, li, nI_cl, pl_ck, nI_E, nI_L, nI_T, nI_add, pk_mul, nI_s1, Nat.zero_add, Nat.add_zero, Nat.reduceAdd, Nat.reduceMul, Nat.reduceSub, Nat.reduceEqDiff, Nat.reduceLeDiff, Nat.reduceLT, ↓reduceIte]
        · simp (disch := omega) only [f_X9_through, e9, d9, hab, pl_bd, pl_ob, pl_ob1, pl_obv, pl_oa, pl_oav, pl_cg, pl_cb0, pl_cb1, pl_nl0, pl_nls, li, nI_cl, pl_ck, nI_E, nI_L, nI_T, nI_add, pk_mul, nI_s1, Nat.zero_add, Nat.add_zero, Nat.reduceAdd, Nat.reduceMul, Nat.reduceSub, Nat.reduceEqDiff, Nat.reduceLeDiff, Nat.reduceLT, ↓reduceIte]
      · rcases lies_c N a3 0 1 (by omega) (by omega) with ⟨w, -, hw, rfl, el⟩ | ⟨-, el⟩
        · have key : ∀ k s, s + k = 32 → ∀ (v4 v5 u4 u5 : Int32), ((v4 = nI 9991 ∧ u4 = nI 1000000 ∧ s ≤ 2 ^ a) ∨ ∃ l c : Nat, l ≤ 9990 ∧ v4 = nI l ∧ u4 = nI l ∧ v5 = nI c ∧ u5 = nI c) → ∀ i j, ∃ r, f_X8_through_41 N S V 0 (i + k + 1) (nI a) (nI b) (nI w) v4 v5 (nI s) = some r ∧ f_X9_through_40 N M (j + k + 1) (nI a) (nI b) (nI w) u4 u5 (nI s) = some r := by
            intro k
            induction k with
            | zero =>
              intro s hs v4 v5 u4 u5 hv i j
              have : s = 32 := by omega
              subst this
              rcases hv with ⟨-, -, h3⟩ | ⟨l, c, hl, rfl, rfl, rfl, rfl⟩
              · have : 2 ^ a < 2 ^ 5 := Nat.pow_lt_pow_right (by omega) ha
                omega
              · rcases (by omega : w = 0 ∨ w = 1) with rfl | rfl
                · refine ⟨nI l, ?_, ?_⟩
                  · rw [f_X8_through_41]; simp (disch := omega) only [pl_bd, pl_ob, pl_ob1, pl_obv, pl_oa, pl_oav, pl_cg, pl_cb0, pl_cb1, pl_nl0, pl_nls, li, nI_cl, pl_ck, nI_E, nI_L, nI_T, nI_add, pk_mul, nI_s1, Nat.zero_add, Nat.add_zero, Nat.reduceAdd, Nat.reduceMul, Nat.reduceSub, Nat.reduceEqDiff, Nat.reduceLeDiff, Nat.reduceLT, ↓reduceIte]
                  · rw [f_X9_through_40]; simp (disch := omega) only [pl_bd, pl_ob, pl_ob1, pl_obv, pl_oa, pl_oav, pl_cg, pl_cb0, pl_cb1, pl_nl0, pl_nls, li, nI_cl, pl_ck, nI_E, nI_L, nI_T, nI_add, pk_mul, nI_s1, Nat.zero_add, Nat.add_zero, Nat.reduceAdd, Nat.reduceMul, Nat.reduceSub, Nat.reduceEqDiff, Nat.reduceLeDiff, Nat.reduceLT, ↓reduceIte]
                · refine ⟨nI c, ?_, ?_⟩
                  · rw [f_X8_through_41]; simp (disch := omega) only [pl_bd, pl_ob, pl_ob1, pl_obv, pl_oa, pl_oav, pl_cg, pl_cb0, pl_cb1, pl_nl0, pl_nls, li, nI_cl, pl_ck, nI_E, nI_L, nI_T, nI_add, pk_mul, nI_s1, Nat.zero_add, Nat.add_zero, Nat.reduceAdd, Nat.reduceMul, Nat.reduceSub, Nat.reduceEqDiff, Nat.reduceLeDiff, Nat.reduceLT, ↓reduceIte]
                  · rw [f_X9_through_40]; simp (disch := omega) only [pl_bd, pl_ob, pl_ob1, pl_obv, pl_oa, pl_oav, pl_cg, pl_cb0, pl_cb1, pl_nl0, pl_nls, li, nI_cl, pl_ck, nI_E, nI_L, nI_T, nI_add, pk_mul, nI_s1, Nat.zero_add, Nat.add_zero, Nat.reduceAdd, Nat.reduceMul, Nat.reduceSub, Nat.reduceEqDiff, Nat.reduceLeDiff, Nat.reduceLT, ↓reduceIte]
            | succ k ih =>
              intro s hs v4 v5 u4 u5 hv i j
              have h32 : ¬ 32 ≤ s := by omega
              have qa := m_bit (F := s) (i := a) (by omega) (by omega)
              have qb := m_bit (F := s) (i := b) (by omega) (by omega)
              have ra := m_isIn N (F := s) (i := a) (by omega) (by omega)
              have rb := m_isIn N (F := s) (i := b) (by omega) (by omega)
              have ox := x_outOf hN S V hP hB.2.2.2.2.2.2.2.1 (s := s) (by omega)
              have om := m_outOf hN M hP (s := s) (by omega)
              have ole := ouN_le hP s n (Nat.le_refl n)
              have same : (s ≠ 2 ^ a ∨ ∃ l c : Nat, l ≤ 9990 ∧ v4 = nI l ∧ u4 = nI l ∧ v5 = nI c ∧ u5 = nI c) → ∃ r, f_X8_through_41 N S V 0 (i + k + 1) (nI a) (nI b) (nI w) v4 v5 (nI (s + 1)) = some r ∧ f_X9_through_40 N M (j + k + 1) (nI a) (nI b) (nI w) u4 u5 (nI (s + 1)) = some r := by
                intro h
                refine ih (s + 1) (by omega) v4 v5 u4 u5 ?_ i j
                rcases hv with ⟨h1, h2, h3⟩ | h4
                · rcases h with h | h
                  · exact Or.inl ⟨h1, h2, by omega⟩
                  · exact Or.inr h
                · exact Or.inr h4
              rcases Nat.mod_two_eq_zero_or_one (s / 2 ^ a) with z1 | z1
              · rw [z1] at qa ra
                have sne : s ≠ 2 ^ a := fun e => by
                  rw [e, Nat.div_self (Nat.two_pow_pos a)] at z1; cases z1
                obtain ⟨r, r8, r9⟩ := same (Or.inl sne)
                refine ⟨r, ?_, ?_⟩
                · rw [show i + (k + 1) + 1 = i + k + 1 + 1 by omega, f_X8_through_41]
                  simp (disch := omega) only [h32, qa, f_X8_through_96, pl_bd, pl_ob, pl_ob1, pl_obv, pl_oa, pl_oav, pl_cg, pl_cb0, pl_cb1, pl_nl0, pl_nls, li, nI_cl, pl_ck, nI_E, nI_L, nI_T, nI_add, pk_mul, nI_s1, Nat.zero_add, Nat.add_zero, Nat.reduceAdd, Nat.reduceMul, Nat.reduceSub, Nat.reduceEqDiff, Nat.reduceLeDiff, Nat.reduceLT, ↓reduceIte]; exact r8
                · rw [show j + (k + 1) + 1 = j + k + 1 + 1 by omega, f_X9_through_40]
                  simp (disch := omega) only [h32, ra, f_X9_through_91, pl_bd, pl_ob, pl_ob1, pl_obv, pl_oa, pl_oav, pl_cg, pl_cb0, pl_cb1, pl_nl0, pl_nls, li, nI_cl, pl_ck, nI_E, nI_L, nI_T, nI_add, pk_mul, nI_s1, Nat.zero_add, Nat.add_zero, Nat.reduceAdd, Nat.reduceMul, Nat.reduceSub, Nat.reduceEqDiff, Nat.reduceLeDiff, Nat.reduceLT, ↓reduceIte]; exact r9
              · rw [z1] at qa ra
                rcases Nat.mod_two_eq_zero_or_one (s / 2 ^ b) with z2 | z2
                · rw [z2] at qb rb
                  rcases hv with ⟨h1, h2, h3⟩ | ⟨l, c, hl, h1, h2, h3, h4⟩
                  · subst h1 h2
                    obtain ⟨r, r8, r9⟩ := ih (s + 1) (by omega) (nI (ouN (M.2.1 2) n s)) (nI s) (nI (ouN (M.2.1 2) n s)) (nI s) (Or.inr ⟨_, s, ole, rfl, rfl, rfl, rfl⟩) i j
                    have g1 : ¬ 9991 ≤ ouN (M.2.1 2) n s := by omega
                    have g2 : ouN (M.2.1 2) n s < 1000000 := by omega
                    refine ⟨r, ?_, ?_⟩
                    · rw [show i + (k + 1) + 1 = i + k + 1 + 1 by omega, f_X8_through_41]
                      simp (disch := omega) only [h32, qa, qb, ox, g1, f_X8_through_96, pl_bd, pl_ob, pl_ob1, pl_obv, pl_oa, pl_oav, pl_cg, pl_cb0, pl_cb1, pl_nl0, pl_nls, li, nI_cl, pl_ck, nI_E, nI_L, nI_T, nI_add, pk_mul, nI_s1, Nat.zero_add, Nat.add_zero, Nat.reduceAdd, Nat.reduceMul, Nat.reduceSub, Nat.reduceEqDiff, Nat.reduceLeDiff, Nat.reduceLT, ↓reduceIte]; exact r8
                    · rw [show j + (k + 1) + 1 = j + k + 1 + 1 by omega, f_X9_through_40]
                      simp (disch := omega) only [h32, ra, rb, om, g2, f_X9_through_91, pl_bd, pl_ob, pl_ob1, pl_obv, pl_oa, pl_oav, pl_cg, pl_cb0, pl_cb1, pl_nl0, pl_nls, li, nI_cl, pl_ck, nI_E, nI_L, nI_T, nI_add, pk_mul, nI_s1, Nat.zero_add, Nat.add_zero, Nat.reduceAdd, Nat.reduceMul, Nat.reduceSub, Nat.reduceEqDiff, Nat.reduceLeDiff, Nat.reduceLT, ↓reduceIte]; exact r9
                  · subst h1 h2
                    by_cases hlt : ouN (M.2.1 2) n s < l
                    · obtain ⟨r, r8, r9⟩ := ih (s + 1) (by omega) (nI (ouN (M.2.1 2) n s)) (nI s) (nI (ouN (M.2.1 2) n s)) (nI s) (Or.inr ⟨_, s, ole, rfl, rfl, rfl, rfl⟩) i j
                      have g1 : ¬ l ≤ ouN (M.2.1 2) n s := by omega
                      refine ⟨r, ?_, ?_⟩
                      · rw [show i + (k + 1) + 1 = i + k + 1 + 1 by omega, f_X8_through_41]
                        simp (disch := omega) only [h32, qa, qb, ox, g1, f_X8_through_96, pl_bd, pl_ob, pl_ob1, pl_obv, pl_oa, pl_oav, pl_cg, pl_cb0, pl_cb1, pl_nl0, pl_nls, li, nI_cl, pl_ck, nI_E, nI_L, nI_T, nI_add, pk_mul, nI_s1, Nat.zero_add, Nat.add_zero, Nat.reduceAdd, Nat.reduceMul, Nat.reduceSub, Nat.reduceEqDiff, Nat.reduceLeDiff, Nat.reduceLT, ↓reduceIte]; exact r8
                      · rw [show j + (k + 1) + 1 = j + k + 1 + 1 by omega, f_X9_through_40]
                        simp (disch := omega) only [h32, ra, rb, om, hlt, f_X9_through_91, pl_bd, pl_ob, pl_ob1, pl_obv, pl_oa, pl_oav, pl_cg, pl_cb0, pl_cb1, pl_nl0, pl_nls, li, nI_cl, pl_ck, nI_E, nI_L, nI_T, nI_add, pk_mul, nI_s1, Nat.zero_add, Nat.add_zero, Nat.reduceAdd, Nat.reduceMul, Nat.reduceSub, Nat.reduceEqDiff, Nat.reduceLeDiff, Nat.reduceLT, ↓reduceIte]; exact r9
                    · obtain ⟨r, r8, r9⟩ := same (Or.inr ⟨l, c, hl, rfl, rfl, h3, h4⟩)
                      have g1 : l ≤ ouN (M.2.1 2) n s := by omega
                      refine ⟨r, ?_, ?_⟩
                      · rw [show i + (k + 1) + 1 = i + k + 1 + 1 by omega, f_X8_through_41]
                        simp (disch := omega) only [h32, qa, qb, ox, g1, f_X8_through_96, pl_bd, pl_ob, pl_ob1, pl_obv, pl_oa, pl_oav, pl_cg, pl_cb0, pl_cb1, pl_nl0, pl_nls, li, nI_cl, pl_ck, nI_E, nI_L, nI_T, nI_add, pk_mul, nI_s1, Nat.zero_add, Nat.add_zero, Nat.reduceAdd, Nat.reduceMul, Nat.reduceSub, Nat.reduceEqDiff, Nat.reduceLeDiff, Nat.reduceLT, ↓reduceIte]; exact r8
                      · rw [show j + (k + 1) + 1 = j + k + 1 + 1 by omega, f_X9_through_40]
                        simp (disch := omega) only [h32, ra, rb, om, hlt, f_X9_through_91, pl_bd, pl_ob, pl_ob1, pl_obv, pl_oa, pl_oav, pl_cg, pl_cb0, pl_cb1, pl_nl0, pl_nls, li, nI_cl, pl_ck, nI_E, nI_L, nI_T, nI_add, pk_mul, nI_s1, Nat.zero_add, Nat.add_zero, Nat.reduceAdd, Nat.reduceMul, Nat.reduceSub, Nat.reduceEqDiff, Nat.reduceLeDiff, Nat.reduceLT, ↓reduceIte]; exact r9
                · rw [z2] at qb rb
                  have sne : s ≠ 2 ^ a := fun e => by
                    rw [e] at z2
                    have hp : 2 ^ a / 2 ^ b % 2 = bN ((2 ^ a).testBit b) := bit_div _ _
                    rw [Nat.testBit_two_pow] at hp
                    rw [decide_eq_false hab] at hp
                    rw [z2] at hp; cases hp
                  obtain ⟨r, r8, r9⟩ := same (Or.inl sne)
                  refine ⟨r, ?_, ?_⟩
                  · rw [show i + (k + 1) + 1 = i + k + 1 + 1 by omega, f_X8_through_41]
                    simp (disch := omega) only [h32, qa, qb, f_X8_through_96, pl_bd, pl_ob, pl_ob1, pl_obv, pl_oa, pl_oav, pl_cg, pl_cb0, pl_cb1, pl_nl0, pl_nls, li, nI_cl, pl_ck, nI_E, nI_L, nI_T, nI_add, pk_mul, nI_s1, Nat.zero_add, Nat.add_zero, Nat.reduceAdd, Nat.reduceMul, Nat.reduceSub, Nat.reduceEqDiff, Nat.reduceLeDiff, Nat.reduceLT, ↓reduceIte]; exact r8
                  · rw [show j + (k + 1) + 1 = j + k + 1 + 1 by omega, f_X9_through_40]
                    simp (disch := omega) only [h32, ra, rb, f_X9_through_91, pl_bd, pl_ob, pl_ob1, pl_obv, pl_oa, pl_oav, pl_cg, pl_cb0, pl_cb1, pl_nl0, pl_nls, li, nI_cl, pl_ck, nI_E, nI_L, nI_T, nI_add, pk_mul, nI_s1, Nat.zero_add, Nat.add_zero, Nat.reduceAdd, Nat.reduceMul, Nat.reduceSub, Nat.reduceEqDiff, Nat.reduceLeDiff, Nat.reduceLT, ↓reduceIte]; exact r9
          obtain ⟨r, r8, r9⟩ := key 32 0 (by omega) (nI 9991) (nI 0) (nI 1000000) (-nI 1) (Or.inl ⟨rfl, rfl, Nat.zero_le _⟩) (N - 33) (N - 33)
          rw [show N - 33 + 32 + 1 = N by omega] at r8 r9
          refine ⟨r, ?_, ?_, hR⟩
          · simp (disch := omega) only [f_X8_through, e8, d8, hab, within_lies, el, pl_bd, pl_ob, pl_ob1, pl_obv, pl_oa, pl_oav, pl_cg, pl_cb0, pl_cb1, pl_nl0, pl_nls, li, nI_cl, pl_ck, nI_E, nI_L, nI_T, nI_add, pk_mul, nI_s1, Nat.zero_add, Nat.add_zero, Nat.reduceAdd, Nat.reduceMul, Nat.reduceSub, Nat.reduceEqDiff, Nat.reduceLeDiff, Nat.reduceLT, ↓reduceIte]; exact r8
          · simp (disch := omega) only [f_X9_through, e9, d9, hab, el, pl_bd, pl_ob, pl_ob1, pl_obv, pl_oa, pl_oav, pl_cg, pl_cb0, pl_cb1, pl_nl0, pl_nls, li, nI_cl, pl_ck, nI_E, nI_L, nI_T, nI_add, pk_mul, nI_s1, Nat.zero_add, Nat.add_zero, Nat.reduceAdd, Nat.reduceMul, Nat.reduceSub, Nat.reduceEqDiff, Nat.reduceLeDiff, Nat.reduceLT, ↓reduceIte]; exact r9
        · refine ⟨-1, ?_, ?_, hR⟩
          · simp (disch := omega) only [f_X8_through, e8, d8, hab, within_lies, el, pl_bd, pl_ob, pl_ob1, pl_obv, pl_oa, pl_oav, pl_cg, pl_cb0, pl_cb1, pl_nl0, pl_nls, li, nI_cl, pl_ck, nI_E, nI_L, nI_T, nI_add, pk_mul, nI_s1, Nat.zero_add, Nat.add_zero, Nat.reduceAdd, Nat.reduceMul, Nat.reduceSub, Nat.reduceEqDiff, Nat.reduceLeDiff, Nat.reduceLT, ↓reduceIte]
          · simp (disch := omega) only [f_X9_through, e9, d9, hab, el, pl_bd, pl_ob, pl_ob1, pl_obv, pl_oa, pl_oav, pl_cg, pl_cb0, pl_cb1, pl_nl0, pl_nls, li, nI_cl, pl_ck, nI_E, nI_L, nI_T, nI_add, pk_mul, nI_s1, Nat.zero_add, Nat.add_zero, Nat.reduceAdd, Nat.reduceMul, Nat.reduceSub, Nat.reduceEqDiff, Nat.reduceLeDiff, Nat.reduceLT, ↓reduceIte]
    · refine ⟨-1, ?_, ?_, hR⟩
      · simp (disch := omega) only [f_X8_through, e8, d8, pl_bd, pl_ob, pl_ob1, pl_obv, pl_oa, pl_oav, pl_cg, pl_cb0, pl_cb1, pl_nl0, pl_nls, li, nI_cl, pl_ck, nI_E, nI_L, nI_T, nI_add, pk_mul, nI_s1, Nat.zero_add, Nat.add_zero, Nat.reduceAdd, Nat.reduceMul, Nat.reduceSub, Nat.reduceEqDiff, Nat.reduceLeDiff, Nat.reduceLT, ↓reduceIte]
      · simp (disch := omega) only [f_X9_through, e9, d9, pl_bd, pl_ob, pl_ob1, pl_obv, pl_oa, pl_oav, pl_cg, pl_cb0, pl_cb1, pl_nl0, pl_nls, li, nI_cl, pl_ck, nI_E, nI_L, nI_T, nI_add, pk_mul, nI_s1, Nat.zero_add, Nat.add_zero, Nat.reduceAdd, Nat.reduceMul, Nat.reduceSub, Nat.reduceEqDiff, Nat.reduceLeDiff, Nat.reduceLT, ↓reduceIte]
  · refine ⟨-1, ?_, ?_, hR⟩
    · simp (disch := omega) only [f_X8_through, e8, pl_bd, pl_ob, pl_ob1, pl_obv, pl_oa, pl_oav, pl_cg, pl_cb0, pl_cb1, pl_nl0, pl_nls, li, nI_cl, pl_ck, nI_E, nI_L, nI_T, nI_add, pk_mul, nI_s1, Nat.zero_add, Nat.add_zero, Nat.reduceAdd, Nat.reduceMul, Nat.reduceSub, Nat.reduceEqDiff, Nat.reduceLeDiff, Nat.reduceLT, ↓reduceIte]
    · simp (disch := omega) only [f_X9_through, e9, pl_bd, pl_ob, pl_ob1, pl_obv, pl_oa, pl_oav, pl_cg, pl_cb0, pl_cb1, pl_nl0, pl_nls, li, nI_cl, pl_ck, nI_E, nI_L, nI_T, nI_add, pk_mul, nI_s1, Nat.zero_add, Nat.add_zero, Nat.reduceAdd, Nat.reduceMul, Nat.reduceSub, Nat.reduceEqDiff, Nat.reduceLeDiff, Nat.reduceLT, ↓reduceIte]
end OPS
