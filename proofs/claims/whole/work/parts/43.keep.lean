/-! deeds: how they are kept -/
theorem sA_pAe (V : Vt) (h j : Nat) (f : Nat → Int32) (x : Int32) : sA (pA V h f) h j x = pA V h (upd f j x) := by rw [sA_pA, pA_e, pA_pA]
theorem pA_1 (V : Vt) (h : Nat) (f : Nat → Int32) : (pA V h f).1 = V.1 := rfl
theorem pA_2 (V : Vt) (h : Nat) (f : Nat → Int32) : (pA V h f).2.2 = V.2.2 := rfl
def kM (m : Nat) : Nat := if m = 16 then 15 else m
def sg (m j : Nat) : Nat := if m = 16 then j + 1 else j
def OnD (V V' : Vt) : Prop := V'.2.2 = V.2.2 ∧ (∀ g, g ≠ 33 → V'.2.1 g = V.2.1 g) ∧ ∀ g j, ¬ (g = 32 ∧ j = 1) → V'.1 g j = V.1 g j
def OnM (M M' : Vt) : Prop := M'.2.2 = M.2.2 ∧ (∀ g, g ≠ 13 → M'.2.1 g = M.2.1 g) ∧ ∀ g j, ¬ (g = 0 ∧ j = 31) → M'.1 g j = M.1 g j
theorem x_keep34 {N : Nat} (S : St) (V : Vt) (p : Nat) (hp : p ≤ 15) (e : V.1 32 1 = nI p) (k a b n h : Int32) : f_X1_keep_34 N S 32 V k a b n h = some (sF (pA V 33 (upd (upd (upd (upd (upd (V.2.1 33) (5 * p) k) (5 * p + 1) a) (5 * p + 2) b) (5 * p + 3) n) (5 * p + 4) h)) 32 1 (nI (p + 1))) := by
  have e2 : ∀ f, (pA V 33 f).1 32 1 = nI p := fun f => e
  simp (disch := omega) only [f_X1_keep_34, e, pl_bd, pl_ob, pl_ob1, pl_obv, pl_oa, pl_oav, pl_cg, pl_cb0, pl_cb1, pl_nl0, pl_nls, li, nI_cl, pl_ck, nI_E, nI_L, nI_T, nI_add, pk_mul, nI_s1, Nat.zero_add, Nat.add_zero, Nat.reduceAdd, Nat.reduceMul, Nat.reduceSub, Nat.reduceEqDiff, Nat.reduceLeDiff, Nat.reduceLT, ↓reduceIte]
  rw [sA_pA V, sA_pAe, sA_pAe, sA_pAe, sA_pAe, e2, nI_add]
theorem x_keep {N : Nat} (S : St) (V : Vt) (m : Nat) (hm : m ≤ 16) (e : V.1 32 1 = nI m) (k a b n h : Int32) : ∃ V', f_X1_keep N S V 32 k a b n h = some V' ∧ V'.1 32 1 = nI (kM m + 1) ∧ (∀ j, j < kM m → ∀ i, i < 5 → V'.2.1 33 (5 * j + i) = V.2.1 33 (5 * sg m j + i)) ∧ (V'.2.1 33 (5 * kM m) = k ∧ V'.2.1 33 (5 * kM m + 1) = a ∧ V'.2.1 33 (5 * kM m + 2) = b ∧ V'.2.1 33 (5 * kM m + 3) = n ∧ V'.2.1 33 (5 * kM m + 4) = h) ∧ OnD V V' := by
  by_cases h16 : m = 16
  · subst h16
    have sv : ∀ (V : Vt) (f : Nat → Int32), sC V 33 f = pA V 33 f := fun V f => rfl
    obtain ⟨W, eW⟩ : ∃ W, W = sF (pA V 33 (va_cpy (V.2.1 33) (V.2.1 33) 5 0 75)) 32 1 (nI 15) := ⟨_, rfl⟩
    have W33 : W.2.1 33 = va_cpy (V.2.1 33) (V.2.1 33) 5 0 75 := by rw [eW]; exact pA_e _ _ _
    have W1 : W.1 32 1 = nI 15 := by rw [eW, sF_e, upd_e]
    have q := x_keep34 (N := N) S W 15 (by omega) W1 k a b n h
    refine ⟨sF (pA W 33 (upd (upd (upd (upd (upd (W.2.1 33) (5 * 15) k) (5 * 15 + 1) a) (5 * 15 + 2) b) (5 * 15 + 3) n) (5 * 15 + 4) h)) 32 1 (nI (15 + 1)), ?_, by rw [sF_e, upd_e]; rfl, ?_, ?_, ?_⟩
    · rw [← q]
      have c1 : cpB (nI 5) (nI 0) (nI 75) 80 80 = true := rfl
      have e2 : ∀ f, (pA V 33 f).1 32 1 = nI 16 := fun f => e
      have s1 : nI 16 - nI 1 = nI 15 := rfl
      rw [eW]
      simp (disch := omega) only [f_X1_keep, e, c1, sv, e2, s1, pl_bd, pl_ob, pl_ob1, pl_obv, pl_oa, pl_oav, pl_cg, pl_cb0, pl_cb1, pl_nl0, pl_nls, li, nI_cl, pl_ck, nI_E, nI_L, nI_T, nI_add, pk_mul, nI_s1, Nat.zero_add, Nat.add_zero, Nat.reduceAdd, Nat.reduceMul, Nat.reduceSub, Nat.reduceEqDiff, Nat.reduceLeDiff, Nat.reduceLT, ↓reduceIte]
    · intro j hj i hi
      have hj' : j < 15 := hj
      show (pA W 33 _).2.1 33 (5 * j + i) = _
      rw [pA_e, show sg 16 j = j + 1 from rfl]
      simp (disch := omega) only [upd_n]
      rw [W33]
      unfold va_cpy
      rw [if_pos (by omega), show 5 + (5 * j + i - 0) = 5 * (j + 1) + i by omega]
    · show (pA W 33 _).2.1 33 (5 * 15) = _ ∧ (pA W 33 _).2.1 33 (5 * 15 + 1) = _ ∧ (pA W 33 _).2.1 33 (5 * 15 + 2) = _ ∧ (pA W 33 _).2.1 33 (5 * 15 + 3) = _ ∧ (pA W 33 _).2.1 33 (5 * 15 + 4) = _
      rw [pA_e]
      exact ⟨rfl, rfl, rfl, rfl, rfl⟩
    · refine ⟨?_, fun g hg => ?_, fun g j hh => ?_⟩
      · show W.2.2 = _
        rw [eW]; rfl
      · show (pA W 33 _).2.1 g = _
        rw [pA_n _ _ _ _ hg, eW]
        exact pA_n _ _ _ _ hg
      · rw [sF_o _ _ _ _ _ _ hh, pA_1, eW, sF_o _ _ _ _ _ _ hh, pA_1]
  · have k1 : kM m = m := if_neg h16
    have q := x_keep34 (N := N) S V m (by omega) e k a b n h
    refine ⟨sF (pA V 33 (upd (upd (upd (upd (upd (V.2.1 33) (5 * m) k) (5 * m + 1) a) (5 * m + 2) b) (5 * m + 3) n) (5 * m + 4) h)) 32 1 (nI (m + 1)), ?_, ?_, ?_, ?_, ?_⟩
    · rw [← q]
      simp (disch := omega) only [f_X1_keep, e, h16, pl_bd, pl_ob, pl_ob1, pl_obv, pl_oa, pl_oav, pl_cg, pl_cb0, pl_cb1, pl_nl0, pl_nls, li, nI_cl, pl_ck, nI_E, nI_L, nI_T, nI_add, pk_mul, nI_s1, Nat.zero_add, Nat.add_zero, Nat.reduceAdd, Nat.reduceMul, Nat.reduceSub, Nat.reduceEqDiff, Nat.reduceLeDiff, Nat.reduceLT, ↓reduceIte]
    · rw [sF_e, upd_e, k1]
    · intro j hj i hi
      rw [k1] at hj
      show (pA V 33 _).2.1 33 (5 * j + i) = _
      rw [pA_e, show sg m j = j from if_neg h16]
      simp (disch := omega) only [upd_n]
    · rw [k1]
      show (pA V 33 _).2.1 33 (5 * m) = _ ∧ (pA V 33 _).2.1 33 (5 * m + 1) = _ ∧ (pA V 33 _).2.1 33 (5 * m + 2) = _ ∧ (pA V 33 _).2.1 33 (5 * m + 3) = _ ∧ (pA V 33 _).2.1 33 (5 * m + 4) = _
      rw [pA_e]
      simp (disch := omega) only [upd_n, upd_e, and_self]
    · refine ⟨rfl, fun g hg => pA_n _ _ _ _ hg, fun g j hh => ?_⟩
      rw [sF_o _ _ _ _ _ _ hh, pA_1]
theorem m_keeps52 {N : Nat} (hN : 20000 ≤ N) (M : Vt) (p : Nat) (hp : p ≤ 15) (e : M.1 0 31 = nI p) (w : Int32) : ∃ f : Nat → Int32, f_X9_keeps_52 N M w (nI 33) = some (sF (pA M 13 f) 0 31 (nI (p + 1))) ∧ (∀ j, j < 33 * p → f j = M.2.1 13 j) ∧ (∀ k, k < 32 → f (33 * p + k) = M.2.1 2 k) ∧ f (33 * p + 32) = w := by
  obtain ⟨g, ⟨g1, g2⟩, n, en⟩ := lpN N (fun n (f : Nat → Int32) i => f_X9_keeps_54 N n (pA M 13 f) w (nI 33) i) 32 (fun i f => (∀ j, j < 33 * p → f j = M.2.1 13 j) ∧ ∀ k, k < i → f (33 * p + k) = M.2.1 2 k) (by
    intro i f hi ⟨h1, h2⟩
    refine ⟨upd f (33 * p + i) (M.2.1 2 i), ⟨fun j hj => by rw [upd_n _ _ _ _ (by omega)]; exact h1 j hj, fun k hk => ?_⟩, fun n => ?_⟩
    · by_cases hki : k = i
      · subst hki; rw [upd_e]
      · rw [upd_n _ _ _ _ (by omega)]; exact h2 k (by omega)
    · have h32 : ¬ 32 ≤ i := by omega
      have e2 : (pA M 13 f).1 0 31 = nI p := e
      have k2 : (pA M 13 f).2.1 2 i = M.2.1 2 i := rfl
      rw [f_X9_keeps_54]
      simp (disch := omega) only [h32, e2, k2, sA_pAe, pl_bd, pl_ob, pl_ob1, pl_obv, pl_oa, pl_oav, pl_cg, pl_cb0, pl_cb1, pl_nl0, pl_nls, li, nI_cl, pl_ck, nI_E, nI_L, nI_T, nI_add, pk_mul, nI_s1, Nat.zero_add, Nat.add_zero, Nat.reduceAdd, Nat.reduceMul, Nat.reduceSub, Nat.reduceEqDiff, Nat.reduceLeDiff, Nat.reduceLT, ↓reduceIte]) (M.2.1 13) (by omega) ⟨fun _ _ => rfl, fun k hk => absurd hk (Nat.not_lt_zero k)⟩
  refine ⟨upd g (33 * p + 32) w, ?_, fun j hj => by rw [upd_n _ _ _ _ (by omega)]; exact g1 j hj, fun k hk => by rw [upd_n _ _ _ _ (by omega)]; exact g2 k hk, upd_e _ _ _⟩
  have e0 : f_X9_keeps_52 N M w (nI 33) = f_X9_keeps_54 N N (pA M 13 (M.2.1 13)) w (nI 33) (nI 0) := by rw [pA_self]; rfl
  have e2 : ∀ f, (pA M 13 f).1 0 31 = nI p := fun f => e
  rw [e0, en, f_X9_keeps_54]
  simp (disch := omega) only [e2, sA_pAe, pl_bd, pl_ob, pl_ob1, pl_obv, pl_oa, pl_oav, pl_cg, pl_cb0, pl_cb1, pl_nl0, pl_nls, li, nI_cl, pl_ck, nI_E, nI_L, nI_T, nI_add, pk_mul, nI_s1, Nat.zero_add, Nat.add_zero, Nat.reduceAdd, Nat.reduceMul, Nat.reduceSub, Nat.reduceEqDiff, Nat.reduceLeDiff, Nat.reduceLT, ↓reduceIte]
theorem m_keeps {N : Nat} (hN : 20000 ≤ N) (M : Vt) (m : Nat) (hm : m ≤ 16) (e : M.1 0 31 = nI m) (w : Int32) : ∃ M', f_X9_keeps N M w = some M' ∧ M'.1 0 31 = nI (kM m + 1) ∧ (∀ j, j < kM m → ∀ i, i < 33 → M'.2.1 13 (33 * j + i) = M.2.1 13 (33 * sg m j + i)) ∧ (∀ k, k < 32 → M'.2.1 13 (33 * kM m + k) = M.2.1 2 k) ∧ M'.2.1 13 (33 * kM m + 32) = w ∧ OnM M M' := by
  by_cases h16 : m = 16
  · subst h16
    obtain ⟨g, g1, n, en⟩ := lpN N (fun n (f : Nat → Int32) i => f_X9_keeps_14 N n (pA M 13 f) w (nI 33) i) 495 (fun i f => ∀ j, j < 528 → f j = if j < i then M.2.1 13 (j + 33) else M.2.1 13 j) (by
      intro i f hi h1
      refine ⟨upd f i (M.2.1 13 (i + 33)), fun j hj => ?_, fun n => ?_⟩
      · by_cases hji : j = i
        · subst hji; rw [upd_e, if_pos (by omega)]
        · rw [upd_n _ _ _ _ hji, h1 j hj]
          by_cases h2 : j < i
          · rw [if_pos h2, if_pos (by omega)]
          · rw [if_neg h2, if_neg (by omega)]
      · have h495 : ¬ 495 ≤ i := by omega
        have e2 : (pA M 13 f).2.1 13 (i + 33) = M.2.1 13 (i + 33) := by rw [pA_e, h1 _ (by omega), if_neg (by omega)]
        rw [f_X9_keeps_14]
        simp (disch := omega) only [h495, e2, sA_pAe, pl_bd, pl_ob, pl_ob1, pl_obv, pl_oa, pl_oav, pl_cg, pl_cb0, pl_cb1, pl_nl0, pl_nls, li, nI_cl, pl_ck, nI_E, nI_L, nI_T, nI_add, pk_mul, nI_s1, Nat.zero_add, Nat.add_zero, Nat.reduceAdd, Nat.reduceMul, Nat.reduceSub, Nat.reduceEqDiff, Nat.reduceLeDiff, Nat.reduceLT, ↓reduceIte]) (M.2.1 13) (by omega) (fun j hj => by rw [if_neg (by omega)])
    obtain ⟨W, eW⟩ : ∃ W, W = sF (pA M 13 g) 0 31 (nI 15) := ⟨_, rfl⟩
    have W13 : W.2.1 13 = g := by rw [eW]; exact pA_e _ _ _
    have W1 : W.1 0 31 = nI 15 := by rw [eW, sF_e, upd_e]
    have W2 : W.2.1 2 = M.2.1 2 := by rw [eW]; exact pA_n _ _ _ _ (by omega)
    obtain ⟨f, ef, f1, f2, f3⟩ := m_keeps52 hN W 15 (by omega) W1 w
    refine ⟨sF (pA W 13 f) 0 31 (nI (15 + 1)), ?_, by rw [sF_e, upd_e]; rfl, ?_, ?_, ?_, ?_⟩
    · have e0 : f_X9_keeps N M w = f_X9_keeps_14 N N (pA M 13 (M.2.1 13)) w (nI 33) (nI 0) := by
        rw [pA_self]
        simp (disch := omega) only [f_X9_keeps, e, pl_bd, pl_ob, pl_ob1, pl_obv, pl_oa, pl_oav, pl_cg, pl_cb0, pl_cb1, pl_nl0, pl_nls, li, nI_cl, pl_ck, nI_E, nI_L, nI_T, nI_add, pk_mul, nI_s1, Nat.zero_add, Nat.add_zero, Nat.reduceAdd, Nat.reduceMul, Nat.reduceSub, Nat.reduceEqDiff, Nat.reduceLeDiff, Nat.reduceLT, ↓reduceIte]
      have s1 : nI 16 - nI 1 = nI 15 := rfl
      have e2 : ∀ f, (pA M 13 f).1 0 31 = nI 16 := fun f => e
      rw [e0, en, f_X9_keeps_14, ← ef, eW]
      simp (disch := omega) only [e2, s1, pl_bd, pl_ob, pl_ob1, pl_obv, pl_oa, pl_oav, pl_cg, pl_cb0, pl_cb1, pl_nl0, pl_nls, li, nI_cl, pl_ck, nI_E, nI_L, nI_T, nI_add, pk_mul, nI_s1, Nat.zero_add, Nat.add_zero, Nat.reduceAdd, Nat.reduceMul, Nat.reduceSub, Nat.reduceEqDiff, Nat.reduceLeDiff, Nat.reduceLT, ↓reduceIte]
    · intro j hj i hi
      have hj' : j < 15 := hj
      show (pA W 13 f).2.1 13 (33 * j + i) = _
      rw [pA_e, f1 _ (by omega), W13, g1 _ (by omega), if_pos (by omega), show sg 16 j = j + 1 from rfl, show 33 * j + i + 33 = 33 * (j + 1) + i by omega]
    · intro k hk
      show (pA W 13 f).2.1 13 (33 * 15 + k) = _
      rw [pA_e, f2 k hk, W2]
    · show (pA W 13 f).2.1 13 (33 * 15 + 32) = _
      rw [pA_e, f3]
    · refine ⟨?_, fun a ha => ?_, fun a j hh => ?_⟩
      · show W.2.2 = _
        rw [eW]; rfl
      · show (pA W 13 _).2.1 a = _
        rw [pA_n _ _ _ _ ha, eW]
        exact pA_n _ _ _ _ ha
      · rw [sF_o _ _ _ _ _ _ hh, pA_1, eW, sF_o _ _ _ _ _ _ hh, pA_1]
  · have k1 : kM m = m := if_neg h16
    obtain ⟨f, ef, f1, f2, f3⟩ := m_keeps52 hN M m (by omega) e w
    refine ⟨sF (pA M 13 f) 0 31 (nI (m + 1)), ?_, by rw [sF_e, upd_e, k1], ?_, ?_, ?_, ?_⟩
    · rw [← ef]
      simp (disch := omega) only [f_X9_keeps, e, h16, pl_bd, pl_ob, pl_ob1, pl_obv, pl_oa, pl_oav, pl_cg, pl_cb0, pl_cb1, pl_nl0, pl_nls, li, nI_cl, pl_ck, nI_E, nI_L, nI_T, nI_add, pk_mul, nI_s1, Nat.zero_add, Nat.add_zero, Nat.reduceAdd, Nat.reduceMul, Nat.reduceSub, Nat.reduceEqDiff, Nat.reduceLeDiff, Nat.reduceLT, ↓reduceIte]
    · intro j hj i hi
      rw [k1] at hj
      show (pA M 13 f).2.1 13 (33 * j + i) = _
      rw [pA_e, f1 _ (by omega), show sg m j = j from if_neg h16]
    · intro k hk
      rw [k1]
      show (pA M 13 f).2.1 13 (33 * m + k) = _
      rw [pA_e, f2 k hk]
    · rw [k1]
      show (pA M 13 f).2.1 13 (33 * m + 32) = _
      rw [pA_e, f3]
    · refine ⟨rfl, fun g hg => pA_n _ _ _ _ hg, fun g j hh => ?_⟩
      rw [sF_o _ _ _ _ _ _ hh, pA_1]
theorem dOne_c3 {r r' M M' A A' : Nat → Int32} {kd : Int32} (hr : ∀ i, i < 5 → r' i = r i) (hM : ∀ k, k < 32 → M' k = M k) (hA : ∀ k, k < 32 → A' k = A k) (b : dOne r M A kd) : dOne r' M' A' kd := by
  obtain ⟨⟨z1, z2, ⟨F, z3, z4⟩, z5⟩, h1, h2⟩ := b
  have r0 := hr 0 (by omega)
  have r1 := hr 1 (by omega)
  have r2 := hr 2 (by omega)
  have r3 := hr 3 (by omega)
  have r4 := hr 4 (by omega)
  refine ⟨⟨fun k hk => by rw [hA k (by omega)]; exact z1 k hk, fun k hk => by rw [hA _ (by omega)]; exact z2 k hk, ⟨F, z3, by rw [hA 30 (by omega)]; exact z4⟩, by rw [hA 31 (by omega)]; exact z5⟩, by rw [r0]; exact h1, ?_⟩
  rcases h2 with ⟨e, a, b, ha, hb, e1, e2, e3, e4, e5⟩ | ⟨e, a, b, ha, hb, hab, e1, e2, e3, e4, e5⟩ | ⟨e, a, ha, e1, e2, e3⟩ | ⟨e, e1, e2⟩
  · exact Or.inl ⟨e, a, b, ha, hb, by rw [r1]; exact e1, by rw [r2]; exact e2, by rw [hA a (by omega), hM a (by omega), r3]; exact e3, by rw [r4, hA _ (by omega)]; exact e4, fun k hk h1 h2 => by rw [hA k hk, hM k hk]; exact e5 k hk h1 h2⟩
  · exact Or.inr (Or.inl ⟨e, a, b, ha, hb, hab, by rw [r1]; exact e1, by rw [r2]; exact e2, by rw [hA a (by omega), hM a (by omega), r3]; exact e3, by rw [hA b (by omega), hM b (by omega), r3]; exact e4, fun k hk h1 h2 => by rw [hA k hk, hM k hk]; exact e5 k hk h1 h2⟩)
  · exact Or.inr (Or.inr (Or.inl ⟨e, a, ha, by rw [r1]; exact e1, by rw [hA 30 (by omega), hM 30 (by omega)]; exact e2, fun k hk h1 => by rw [hA k hk, hM k hk]; exact e3 k hk h1⟩))
  · exact Or.inr (Or.inr (Or.inr ⟨e, by rw [hA 31 (by omega), hM 31 (by omega)]; exact e1, fun k hk => by rw [hA k (by omega), hM k (by omega)]; exact e2 k hk⟩))
/-- one deed more -/
theorem Dd_keep {m : Nat} (hm : m ≤ 16) {R L K0 R' L' K : Nat → Int32} {kd a b n h : Int32} (hD : ∀ j, j < m → dOne (fun k => R (5 * j + k)) (fun k => if j + 1 = m then K0 k else L (33 * (j + 1) + k)) (fun k => L (33 * j + k)) (L (33 * j + 32)))
    (hR1 : ∀ j, j < kM m → ∀ i, i < 5 → R' (5 * j + i) = R (5 * sg m j + i)) (hR2 : R' (5 * kM m) = kd ∧ R' (5 * kM m + 1) = a ∧ R' (5 * kM m + 2) = b ∧ R' (5 * kM m + 3) = n ∧ R' (5 * kM m + 4) = h) (hL1 : ∀ j, j < kM m → ∀ i, i < 33 → L' (33 * j + i) = L (33 * sg m j + i)) (hL2 : ∀ k, k < 32 → L' (33 * kM m + k) = K0 k) (hL3 : L' (33 * kM m + 32) = kd)
    (hN : dOne (fun k => if k = 0 then kd else if k = 1 then a else if k = 2 then b else if k = 3 then n else h) K K0 kd) : Dd (nI (kM m + 1)) (nI (kM m + 1)) R' L' K := by
  have km : kM m ≤ 15 := by unfold kM; by_cases h16 : m = 16 <;> simp only [h16, if_true, if_false] <;> omega
  refine ⟨kM m + 1, by omega, rfl, rfl, fun j hj => ?_⟩
  by_cases hjm : j = kM m
  · subst hjm
    rw [hL3]
    refine dOne_c3 (fun i hi => ?_) (fun k hk => ?_) (fun k hk => hL2 k hk) hN
    · obtain ⟨q0, q1, q2, q3, q4⟩ := hR2
      rcases (by omega : i = 0 ∨ i = 1 ∨ i = 2 ∨ i = 3 ∨ i = 4) with rfl | rfl | rfl | rfl | rfl
      · exact q0
      · exact q1
      · exact q2
      · exact q3
      · exact q4
    · simp only [if_true]
  · have hj2 : j < kM m := by omega
    have sgm : sg m j < m := by
      unfold sg; unfold kM at hj2
      by_cases h16 : m = 16
      · rw [if_pos h16]; rw [if_pos h16] at hj2; omega
      · rw [if_neg h16]; rw [if_neg h16] at hj2; exact hj2
    rw [hL1 j hj2 32 (by omega)]
    refine dOne_c3 (fun i hi => hR1 j hj2 i hi) (fun k hk => ?_) (fun k hk => hL1 j hj2 k (by omega)) (hD (sg m j) sgm)
    simp only [if_neg (show ¬ j + 1 = kM m + 1 by omega)]
    by_cases hl : j + 1 = kM m
    · have : sg m j + 1 = m := by
        unfold sg; unfold kM at hl
        by_cases h16 : m = 16
        · rw [if_pos h16]; rw [if_pos h16] at hl; omega
        · rw [if_neg h16]; rw [if_neg h16] at hl; exact hl
      simp only [if_pos this]
      rw [hl]; exact hL2 k hk
    · have : ¬ sg m j + 1 = m := by
        unfold sg; unfold kM at hl
        by_cases h16 : m = 16
        · rw [if_pos h16]; rw [if_pos h16] at hl; omega
        · rw [if_neg h16]; rw [if_neg h16] at hl; exact hl
      simp only [if_neg this]
      rw [hL1 (j + 1) (by omega) k (by omega)]
      congr 2
      unfold sg
      by_cases h16 : m = 16
      · rw [if_pos h16, if_pos h16]
      · rw [if_neg h16, if_neg h16]
