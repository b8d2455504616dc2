/-! few: day by day -/
def pJ (V : Vt) (h : Nat) (f : Nat → Int64) : Vt := (V.1, V.2.1, va_up V.2.2.1 h f, V.2.2.2)
def updJ (f : Nat → Int64) (k : Nat) (x : Int64) : Nat → Int64 := fun j => if j = k then x else f j
theorem pJ_e (V : Vt) (h : Nat) (f : Nat → Int64) : (pJ V h f).2.2.1 h = f := if_pos rfl
theorem pJ_pJ (V : Vt) (h : Nat) (f g : Nat → Int64) : pJ (pJ V h f) h g = pJ V h g := by
  refine Prod.ext rfl (Prod.ext rfl (Prod.ext ?_ rfl))
  funext k
  show va_up (va_up V.2.2.1 h f) h g k = va_up V.2.2.1 h g k
  unfold va_up
  by_cases hk : k = h
  · rw [if_pos hk, if_pos hk]
  · rw [if_neg hk, if_neg hk, if_neg hk]
theorem sJ_pJ (V : Vt) (h j : Nat) (x : Int64) : sJ V h j x = pJ V h (updJ (V.2.2.1 h) j x) := by
  refine Prod.ext rfl (Prod.ext rfl (Prod.ext ?_ rfl))
  funext k b
  show up2 V.2.2.1 h j x k b = va_up V.2.2.1 h (updJ (V.2.2.1 h) j x) k b
  unfold up2 va_up updJ
  by_cases hk : k = h
  · subst hk
    by_cases hb : b = j
    · rw [if_pos ⟨rfl, hb⟩, if_pos rfl]; exact (if_pos hb).symm
    · rw [if_neg (fun q => hb q.2), if_pos rfl]; exact (if_neg hb).symm
  · rw [if_neg (fun q => hk q.1), if_neg hk]
theorem sJ_J (V : Vt) (h j : Nat) (f : Nat → Int64) (x : Int64) : sJ (pJ V h f) h j x = pJ V h (updJ f j x) := by rw [sJ_pJ, pJ_e, pJ_pJ]
theorem updJ_e (f : Nat → Int64) (k : Nat) (x : Int64) : updJ f k x k = x := if_pos rfl
theorem updJ_n (f : Nat → Int64) (k j : Nat) (x : Int64) (h : j ≠ k) : updJ f k x j = f j := if_neg h
/-- a day -/
def dyJ (sl : Int32) (A : Nat → Int64) (i : Nat) : Int64 := A i * ((nI 10 - sl).toInt64) / 10 + (if i = 0 then 0 else A (i - 1) * sl.toInt64 / 10)
def ssJ (A : Nat → Int64) : Nat → Int64
  | 0 => 0
  | n + 1 => ssJ A n + A n
theorem ssJ_c {A B : Nat → Int64} : ∀ {n : Nat}, (∀ i, i < n → A i = B i) → ssJ A n = ssJ B n
  | 0, _ => rfl
  | n + 1, h => by
    show ssJ A n + A n = ssJ B n + B n
    rw [ssJ_c (fun i hi => h i (by omega)), h n (by omega)]
def dysJ (sl : Int32) : Nat → (Nat → Int64) → (Nat → Int64)
  | 0, A => A
  | d + 1, A => dysJ sl d (dyJ sl A)
theorem dysJ_c (sl : Int32) {k : Nat} : ∀ (d : Nat) {A B : Nat → Int64}, (∀ i, i < k → A i = B i) → ∀ i, i < k → dysJ sl d A i = dysJ sl d B i
  | 0, _, _, h => h
  | d + 1, A, B, h => dysJ_c sl d (fun i hi => by
      unfold dyJ
      rw [h i hi]
      by_cases h0 : i = 0
      · rw [if_pos h0, if_pos h0]
      · rw [if_neg h0, if_neg h0, h (i - 1) (by omega)])
theorem x_fsum {N : Nat} (S : St) (V : Vt) (k : Nat) (hk : k ≤ 20) (A : Nat → Int64) : ∀ j i, i + j = k → ∀ n, f_X8_few_142 N S 0 (n + j + 1) (pJ V 62 A) (nI k) (ssJ A i) (nI i) = some (ssJ A k, pJ V 62 A) := by
  intro j
  induction j with
  | zero =>
    intro i hi n
    have : i = k := by omega
    subst this
    rw [f_X8_few_142]; simp (disch := omega) only [Nat.le_refl, pl_bd, pl_ob, pl_ob1, pl_obv, pl_oa, pl_oav, pl_cg, pl_cb0, pl_cb1, pl_nl0, pl_nls, li, nI_cl, pl_ck, nI_E, nI_L, nI_T, nI_add, pk_mul, nI_s1, Nat.zero_add, Nat.add_zero, Nat.reduceAdd, Nat.reduceMul, Nat.reduceSub, Nat.reduceEqDiff, Nat.reduceLeDiff, Nat.reduceLT, ↓reduceIte]
  | succ j ih =>
    intro i hi n
    have h1 : ¬ k ≤ i := by omega
    rw [show n + (j + 1) + 1 = n + j + 1 + 1 by omega, f_X8_few_142]
    simp (disch := omega) only [h1, pJ_e, pl_bd, pl_ob, pl_ob1, pl_obv, pl_oa, pl_oav, pl_cg, pl_cb0, pl_cb1, pl_nl0, pl_nls, li, nI_cl, pl_ck, nI_E, nI_L, nI_T, nI_add, pk_mul, nI_s1, Nat.zero_add, Nat.add_zero, Nat.reduceAdd, Nat.reduceMul, Nat.reduceSub, Nat.reduceEqDiff, Nat.reduceLeDiff, Nat.reduceLT, ↓reduceIte]
    exact ih (i + 1) (by omega) n
theorem m_fsum {N : Nat} (V : Vt) (k : Nat) (hk : k ≤ 20) (A : Nat → Int64) : ∀ j i, i + j = k → ∀ n, f_X9_few_151 N (n + j + 1) (pJ V 22 A) (nI k) (ssJ A i) (nI i) = some (ssJ A k, pJ V 22 A) := by
  intro j
  induction j with
  | zero =>
    intro i hi n
    have : i = k := by omega
    subst this
    rw [f_X9_few_151]; simp (disch := omega) only [Nat.le_refl, pl_bd, pl_ob, pl_ob1, pl_obv, pl_oa, pl_oav, pl_cg, pl_cb0, pl_cb1, pl_nl0, pl_nls, li, nI_cl, pl_ck, nI_E, nI_L, nI_T, nI_add, pk_mul, nI_s1, Nat.zero_add, Nat.add_zero, Nat.reduceAdd, Nat.reduceMul, Nat.reduceSub, Nat.reduceEqDiff, Nat.reduceLeDiff, Nat.reduceLT, ↓reduceIte]
  | succ j ih =>
    intro i hi n
    have h1 : ¬ k ≤ i := by omega
    rw [show n + (j + 1) + 1 = n + j + 1 + 1 by omega, f_X9_few_151]
    simp (disch := omega) only [h1, pJ_e, pl_bd, pl_ob, pl_ob1, pl_obv, pl_oa, pl_oav, pl_cg, pl_cb0, pl_cb1, pl_nl0, pl_nls, li, nI_cl, pl_ck, nI_E, nI_L, nI_T, nI_add, pk_mul, nI_s1, Nat.zero_add, Nat.add_zero, Nat.reduceAdd, Nat.reduceMul, Nat.reduceSub, Nat.reduceEqDiff, Nat.reduceLeDiff, Nat.reduceLT, ↓reduceIte]
    exact ih (i + 1) (by omega) n
theorem nlt0 : (-nI 1 < nI 0) = True := eq_true (by decide)
/-- the class within a day: from place j-1 down -/
theorem x_fday {N : Nat} (S : St) (V : Vt) (k : Nat) (hk : k ≤ 20) (sl v2 : Int32) (A0 : Nat → Int64) (K : Vt → Int32 → Int32 → Int32 → Int32 → Option (Int64 × Vt)) (d : Nat) : ∀ j, j ≤ k → ∀ (A : Nat → Int64), (∀ i, i < j → A i = A0 i) → (∀ i, j ≤ i → i < k → A i = dyJ sl A0 i) → ∀ n, ∃ A', (∀ i, i < k → A' i = dyJ sl A0 i) ∧ f_X8_few_65 N S 0 K (n + j + 1) (pJ V 62 A) (nI k) v2 sl (nI d) (if j = 0 then -nI 1 else nI (j - 1)) = K (pJ V 62 A') (nI k) v2 sl (nI (d + 1)) := by
  intro j
  induction j with
  | zero =>
    intro _ A h1 h2 n
    refine ⟨A, fun i hi => h2 i (by omega) hi, ?_⟩
    rw [f_X8_few_65, if_pos rfl]
    simp (disch := omega) only [nlt0, if_true, pl_bd, pl_ob, pl_ob1, pl_obv, pl_oa, pl_oav, pl_cg, pl_cb0, pl_cb1, pl_nl0, pl_nls, li, nI_cl, pl_ck, nI_E, nI_L, nI_T, nI_add, pk_mul, nI_s1, Nat.zero_add, Nat.add_zero, Nat.reduceAdd, Nat.reduceMul, Nat.reduceSub, Nat.reduceEqDiff, Nat.reduceLeDiff, Nat.reduceLT, ↓reduceIte]
  | succ j ih =>
    intro hj A h1 h2 n
    have e : (if j + 1 = 0 then -nI 1 else nI (j + 1 - 1)) = nI j := by rw [if_neg (by omega)]; rfl
    have hn0 : ¬ j < 0 := by omega
    have A1 : ∀ i, i < j → updJ A j (dyJ sl A0 j) i = A0 i := fun i hi => by rw [updJ_n _ _ _ _ (by omega)]; exact h1 i (by omega)
    have A2 : ∀ i, j ≤ i → i < k → updJ A j (dyJ sl A0 j) i = dyJ sl A0 i := fun i hi hik => by
      by_cases hij : i = j
      · subst hij; rw [updJ_e]
      · rw [updJ_n _ _ _ _ hij]; exact h2 i (by omega) hik
    obtain ⟨A', ha, eq⟩ := ih (by omega) (updJ A j (dyJ sl A0 j)) A1 A2 n
    refine ⟨A', ha, ?_⟩
    rw [← eq, e, show n + (j + 1) + 1 = n + j + 1 + 1 by omega, f_X8_few_65]
    by_cases h0 : j = 0
    · subst h0
      have ev0 : A 0 * ((nI 10 - sl).toInt64) / 10 + 0 = dyJ sl A0 0 := by rw [h1 0 (by omega)]; rfl
      have m1 : nI 0 + -nI 1 = -nI 1 := rfl
      simp (disch := omega) only [f_X8_few_95, pJ_e, sJ_J, m1, ev0, pl_bd, pl_ob, pl_ob1, pl_obv, pl_oa, pl_oav, pl_cg, pl_cb0, pl_cb1, pl_nl0, pl_nls, li, nI_cl, pl_ck, nI_E, nI_L, nI_T, nI_add, pk_mul, nI_s1, Nat.zero_add, Nat.add_zero, Nat.reduceAdd, Nat.reduceMul, Nat.reduceSub, Nat.reduceEqDiff, Nat.reduceLeDiff, Nat.reduceLT, ↓reduceIte]
    · have hp : ¬ j ≤ 0 := by omega
      have ev0 : A j * ((nI 10 - sl).toInt64) / 10 + A (j - 1) * sl.toInt64 / 10 = dyJ sl A0 j := by
        rw [h1 j (by omega), h1 (j - 1) (by omega)]
        unfold dyJ
        rw [if_neg h0]
      simp (disch := omega) only [f_X8_few_95, hn0, hp, h0, pJ_e, sJ_J, nI_ng, ev0, pl_bd, pl_ob, pl_ob1, pl_obv, pl_oa, pl_oav, pl_cg, pl_cb0, pl_cb1, pl_nl0, pl_nls, li, nI_cl, pl_ck, nI_E, nI_L, nI_T, nI_add, pk_mul, nI_s1, Nat.zero_add, Nat.add_zero, Nat.reduceAdd, Nat.reduceMul, Nat.reduceSub, Nat.reduceEqDiff, Nat.reduceLeDiff, Nat.reduceLT, ↓reduceIte]
theorem x_fdays {N : Nat} (hN : 20000 ≤ N) (S : St) (V : Vt) (k n : Nat) (hk : k ≤ 20) (hk1 : 1 ≤ k) (hn : n ≤ 99) (sl : Int32) : ∀ j d, d + j = n → ∀ (A : Nat → Int64) m, ∃ A', (∀ i, i < k → A' i = dysJ sl j A i) ∧ f_X8_few_54 N S 0 (m + j + 1) (pJ V 62 A) (nI k) (nI n) sl (nI d) = some (ssJ A' k, pJ V 62 A') := by
  intro j
  induction j with
  | zero =>
    intro d hd A m
    have : d = n := by omega
    subst this
    refine ⟨A, fun _ _ => rfl, ?_⟩
    rw [f_X8_few_54]
    simp (disch := omega) only [Nat.le_refl, pl_bd, pl_ob, pl_ob1, pl_obv, pl_oa, pl_oav, pl_cg, pl_cb0, pl_cb1, pl_nl0, pl_nls, li, nI_cl, pl_ck, nI_E, nI_L, nI_T, nI_add, pk_mul, nI_s1, Nat.zero_add, Nat.add_zero, Nat.reduceAdd, Nat.reduceMul, Nat.reduceSub, Nat.reduceEqDiff, Nat.reduceLeDiff, Nat.reduceLT, ↓reduceIte]
    have := x_fsum (N := N) S V k hk A k 0 (by omega) (N - k - 1)
    rw [show N - k - 1 + k + 1 = N by omega] at this
    exact this
  | succ j ih =>
    intro d hd A m
    have h1 : ¬ n ≤ d := by omega
    obtain ⟨B, hB, eB⟩ := x_fday (N := N) S V k hk sl (nI n) A (f_X8_few_54 N S 0 (m + j + 1)) d k (Nat.le_refl k) A (fun _ _ => rfl) (fun i h1 h2 => absurd h2 (by omega)) (N - k - 1)
    rw [show N - k - 1 + k + 1 = N by omega, if_neg (by omega)] at eB
    obtain ⟨A', hA', eA'⟩ := ih (d + 1) (by omega) B m
    refine ⟨A', fun i hi => ?_, ?_⟩
    · rw [hA' i hi]
      exact dysJ_c sl j hB i hi
    · rw [show m + (j + 1) + 1 = m + j + 1 + 1 by omega, f_X8_few_54]
      simp (disch := omega) only [h1, pl_bd, pl_ob, pl_ob1, pl_obv, pl_oa, pl_oav, pl_cg, pl_cb0, pl_cb1, pl_nl0, pl_nls, li, nI_cl, pl_ck, nI_E, nI_L, nI_T, nI_add, pk_mul, nI_s1, Nat.zero_add, Nat.add_zero, Nat.reduceAdd, Nat.reduceMul, Nat.reduceSub, Nat.reduceEqDiff, Nat.reduceLeDiff, Nat.reduceLT, ↓reduceIte]
      rw [eB]; exact eA'
/-- the reference within a day -/
theorem m_fday {N : Nat} (M : Vt) (k : Nat) (hk : k ≤ 20) (sl v2 : Int32) (hs : M.2.1 2 101 = sl) (A0 : Nat → Int64) (K : Vt → Int32 → Int32 → Int32 → Option (Int64 × Vt)) (d : Nat) : ∀ j, j ≤ k → ∀ (A : Nat → Int64), (∀ i, i < j → A i = A0 i) → (∀ i, j ≤ i → i < k → A i = if i = j then A0 i * ((nI 10 - sl).toInt64) / 10 else dyJ sl A0 i) → ∀ n, ∃ A', (∀ i, i < k → A' i = dyJ sl A0 i) ∧ f_X9_few_67 N K (n + j + 1) (pJ M 22 A) (nI k) v2 (nI d) (if j = 0 then -nI 1 else nI (j - 1)) = K (pJ M 22 A') (nI k) v2 (nI (d + 1)) := by
  intro j
  induction j with
  | zero =>
    intro _ A h1 h2 n
    refine ⟨A, fun i hi => ?_, ?_⟩
    · rw [h2 i (by omega) hi]
      by_cases h0 : i = 0
      · subst h0
        rw [if_pos rfl]
        unfold dyJ
        rw [if_pos rfl]
        exact (Int64.add_zero _).symm
      · rw [if_neg h0]
    · rw [f_X9_few_67, if_pos rfl]
      simp (disch := omega) only [nlt0, if_true, pl_bd, pl_ob, pl_ob1, pl_obv, pl_oa, pl_oav, pl_cg, pl_cb0, pl_cb1, pl_nl0, pl_nls, li, nI_cl, pl_ck, nI_E, nI_L, nI_T, nI_add, pk_mul, nI_s1, Nat.zero_add, Nat.add_zero, Nat.reduceAdd, Nat.reduceMul, Nat.reduceSub, Nat.reduceEqDiff, Nat.reduceLeDiff, Nat.reduceLT, ↓reduceIte]
  | succ j ih =>
    intro hj A h1 h2 n
    have e : (if j + 1 = 0 then -nI 1 else nI (j + 1 - 1)) = nI j := by rw [if_neg (by omega)]; rfl
    have hn0 : ¬ j < 0 := by omega
    obtain ⟨B, eB⟩ : ∃ B, B = updJ (updJ A (j + 1) (A (j + 1) + A j * sl.toInt64 / 10)) j (A j * ((nI 10 - sl).toInt64) / 10) := ⟨_, rfl⟩
    have A1 : ∀ i, i < j → B i = A0 i := fun i hi => by rw [eB, updJ_n _ _ _ _ (by omega), updJ_n _ _ _ _ (by omega)]; exact h1 i (by omega)
    have A2 : ∀ i, j ≤ i → i < k → B i = if i = j then A0 i * ((nI 10 - sl).toInt64) / 10 else dyJ sl A0 i := fun i hi hik => by
      by_cases hij : i = j
      · subst hij; rw [eB, updJ_e, if_pos rfl, h1 i (by omega)]
      · rw [eB, updJ_n _ _ _ _ hij, if_neg hij]
        by_cases hi1 : i = j + 1
        · subst hi1
          rw [updJ_e, h2 (j + 1) (by omega) hik, if_pos rfl, h1 j (by omega)]
          unfold dyJ
          rw [if_neg (by omega)]; rfl
        · rw [updJ_n _ _ _ _ hi1, h2 i (by omega) hik, if_neg (by omega)]
    obtain ⟨A', ha, eq⟩ := ih (by omega) B A1 A2 n
    refine ⟨A', ha, ?_⟩
    rw [← eq, e, show n + (j + 1) + 1 = n + j + 1 + 1 by omega, f_X9_few_67]
    have t1 : updJ A (j + 1) (A (j + 1) + A j * sl.toInt64 / 10) j = A j := updJ_n _ _ _ _ (by omega)
    have s1 : ∀ F, (pJ M 22 F).2.1 2 101 = sl := fun F => hs
    by_cases h0 : j = 0
    · subst h0
      have m1 : nI 0 + -nI 1 = -nI 1 := rfl
      simp (disch := omega) only [pJ_e, s1, sJ_J, t1, m1, pl_bd, pl_ob, pl_ob1, pl_obv, pl_oa, pl_oav, pl_cg, pl_cb0, pl_cb1, pl_nl0, pl_nls, li, nI_cl, pl_ck, nI_E, nI_L, nI_T, nI_add, pk_mul, nI_s1, Nat.zero_add, Nat.add_zero, Nat.reduceAdd, Nat.reduceMul, Nat.reduceSub, Nat.reduceEqDiff, Nat.reduceLeDiff, Nat.reduceLT, ↓reduceIte]
      rw [eB]
    · simp (disch := omega) only [hn0, h0, pJ_e, s1, sJ_J, t1, nI_ng, pl_bd, pl_ob, pl_ob1, pl_obv, pl_oa, pl_oav, pl_cg, pl_cb0, pl_cb1, pl_nl0, pl_nls, li, nI_cl, pl_ck, nI_E, nI_L, nI_T, nI_add, pk_mul, nI_s1, Nat.zero_add, Nat.add_zero, Nat.reduceAdd, Nat.reduceMul, Nat.reduceSub, Nat.reduceEqDiff, Nat.reduceLeDiff, Nat.reduceLT, ↓reduceIte]
      rw [eB]
theorem m_fdays {N : Nat} (hN : 20000 ≤ N) (M : Vt) (k n : Nat) (hk : k ≤ 20) (hk1 : 1 ≤ k) (hn : n ≤ 99) (sl : Int32) (hs : M.2.1 2 101 = sl) : ∀ j d, d + j = n → ∀ (A : Nat → Int64) m, ∃ A', (∀ i, i < k → A' i = dysJ sl j A i) ∧ f_X9_few_57 N (m + j + 1) (pJ M 22 A) (nI k) (nI n) (nI d) = some (ssJ A' k, pJ M 22 A') := by
  intro j
  induction j with
  | zero =>
    intro d hd A m
    have : d = n := by omega
    subst this
    refine ⟨A, fun _ _ => rfl, ?_⟩
    rw [f_X9_few_57]
    simp (disch := omega) only [Nat.le_refl, pl_bd, pl_ob, pl_ob1, pl_obv, pl_oa, pl_oav, pl_cg, pl_cb0, pl_cb1, pl_nl0, pl_nls, li, nI_cl, pl_ck, nI_E, nI_L, nI_T, nI_add, pk_mul, nI_s1, Nat.zero_add, Nat.add_zero, Nat.reduceAdd, Nat.reduceMul, Nat.reduceSub, Nat.reduceEqDiff, Nat.reduceLeDiff, Nat.reduceLT, ↓reduceIte]
    have := m_fsum (N := N) M k hk A k 0 (by omega) (N - k - 1)
    rw [show N - k - 1 + k + 1 = N by omega] at this
    exact this
  | succ j ih =>
    intro d hd A m
    have h1 : ¬ n ≤ d := by omega
    obtain ⟨B, hB, eB⟩ := m_fday (N := N) M k hk sl (nI n) hs A (f_X9_few_57 N (m + j + 1)) d k (Nat.le_refl k) A (fun _ _ => rfl) (fun i h1 h2 => absurd h2 (by omega)) (N - k - 1)
    rw [show N - k - 1 + k + 1 = N by omega, if_neg (by omega)] at eB
    obtain ⟨A', hA', eA'⟩ := ih (d + 1) (by omega) B m
    refine ⟨A', fun i hi => ?_, ?_⟩
    · rw [hA' i hi]
      exact dysJ_c sl j hB i hi
    · rw [show m + (j + 1) + 1 = m + j + 1 + 1 by omega, f_X9_few_57]
      simp (disch := omega) only [h1, pl_bd, pl_ob, pl_ob1, pl_obv, pl_oa, pl_oav, pl_cg, pl_cb0, pl_cb1, pl_nl0, pl_nls, li, nI_cl, pl_ck, nI_E, nI_L, nI_T, nI_add, pk_mul, nI_s1, Nat.zero_add, Nat.add_zero, Nat.reduceAdd, Nat.reduceMul, Nat.reduceSub, Nat.reduceEqDiff, Nat.reduceLeDiff, Nat.reduceLT, ↓reduceIte]
      rw [eB]; exact eA'
def oneJ : Nat → Int64 := fun i => if i = 0 then 1000000000000 else 0
theorem x_fill {N : Nat} (S : St) (V : Vt) (h L : Nat) (hL : S.2.2.1 h = L) (hL2 : L < 20000) (x : Int64) : ∀ j i, i + j = L → ∀ (A : Nat → Int64) n, (∀ k, k < i → A k = x) → ∃ A', (∀ k, k < L → A' k = x) ∧ f_J7_fill_d0a16_6 N S h (n + j + 1) (pJ V h A) x (nI i) (nI L) = some (pJ V h A') := by
  intro j
  induction j with
  | zero =>
    intro i hi A n hA
    have : i = L := by omega
    subst this
    refine ⟨A, hA, ?_⟩
    rw [f_J7_fill_d0a16_6]
    simp (disch := omega) only [Nat.le_refl, pl_bd, pl_ob, pl_ob1, pl_obv, pl_oa, pl_oav, pl_cg, pl_cb0, pl_cb1, pl_nl0, pl_nls, li, nI_cl, pl_ck, nI_E, nI_L, nI_T, nI_add, pk_mul, nI_s1, Nat.zero_add, Nat.add_zero, Nat.reduceAdd, Nat.reduceMul, Nat.reduceSub, Nat.reduceEqDiff, Nat.reduceLeDiff, Nat.reduceLT, ↓reduceIte]
  | succ j ih =>
    intro i hi A n hA
    have h1 : ¬ L ≤ i := by omega
    obtain ⟨A', hA', eA'⟩ := ih (i + 1) (by omega) (updJ A i x) n (fun k hk => by
      by_cases hki : k = i
      · subst hki; rw [updJ_e]
      · rw [updJ_n _ _ _ _ hki]; exact hA k (by omega))
    refine ⟨A', hA', ?_⟩
    rw [← eA', show n + (j + 1) + 1 = n + j + 1 + 1 by omega, f_J7_fill_d0a16_6]
    simp (disch := omega) only [h1, hL, sJ_J, pl_bd, pl_ob, pl_ob1, pl_obv, pl_oa, pl_oav, pl_cg, pl_cb0, pl_cb1, pl_nl0, pl_nls, li, nI_cl, pl_ck, nI_E, nI_L, nI_T, nI_add, pk_mul, nI_s1, Nat.zero_add, Nat.add_zero, Nat.reduceAdd, Nat.reduceMul, Nat.reduceSub, Nat.reduceEqDiff, Nat.reduceLeDiff, Nat.reduceLT, ↓reduceIte]
theorem m_f26 {N : Nat} (M : Vt) (v1 v2 : Int32) : ∀ j i, i + j = 21 → ∀ (A : Nat → Int64) n, (∀ k, k < i → A k = oneJ k) → ∃ A', (∀ k, k < 21 → A' k = oneJ k) ∧ f_X9_few_26 N (n + j + 1) (pJ M 22 A) v1 v2 (nI i) = f_X9_few_57 N N (pJ M 22 A') v1 v2 (nI 0) := by
  intro j
  induction j with
  | zero =>
    intro i hi A n hA
    have : i = 21 := by omega
    subst this
    refine ⟨A, hA, ?_⟩
    rw [f_X9_few_26]
    simp (disch := omega) only [pl_bd, pl_ob, pl_ob1, pl_obv, pl_oa, pl_oav, pl_cg, pl_cb0, pl_cb1, pl_nl0, pl_nls, li, nI_cl, pl_ck, nI_E, nI_L, nI_T, nI_add, pk_mul, nI_s1, Nat.zero_add, Nat.add_zero, Nat.reduceAdd, Nat.reduceMul, Nat.reduceSub, Nat.reduceEqDiff, Nat.reduceLeDiff, Nat.reduceLT, ↓reduceIte]
  | succ j ih =>
    intro i hi A n hA
    have h1 : ¬ 20 < i := by omega
    obtain ⟨A', hA', eA'⟩ := ih (i + 1) (by omega) (updJ A i (oneJ i)) n (fun k hk => by
      by_cases hki : k = i
      · subst hki; rw [updJ_e]
      · rw [updJ_n _ _ _ _ hki]; exact hA k (by omega))
    refine ⟨A', hA', ?_⟩
    rw [← eA', show n + (j + 1) + 1 = n + j + 1 + 1 by omega, f_X9_few_26]
    by_cases h0 : i = 0
    · subst h0
      simp (disch := omega) only [f_X9_few_48, sJ_J, pl_bd, pl_ob, pl_ob1, pl_obv, pl_oa, pl_oav, pl_cg, pl_cb0, pl_cb1, pl_nl0, pl_nls, li, nI_cl, pl_ck, nI_E, nI_L, nI_T, nI_add, pk_mul, nI_s1, Nat.zero_add, Nat.add_zero, Nat.reduceAdd, Nat.reduceMul, Nat.reduceSub, Nat.reduceEqDiff, Nat.reduceLeDiff, Nat.reduceLT, ↓reduceIte]; rfl
    · have o : oneJ i = 0 := if_neg h0
      simp (disch := omega) only [h1, h0, f_X9_few_48, sJ_J, o, pl_bd, pl_ob, pl_ob1, pl_obv, pl_oa, pl_oav, pl_cg, pl_cb0, pl_cb1, pl_nl0, pl_nls, li, nI_cl, pl_ck, nI_E, nI_L, nI_T, nI_add, pk_mul, nI_s1, Nat.zero_add, Nat.add_zero, Nat.reduceAdd, Nat.reduceMul, Nat.reduceSub, Nat.reduceEqDiff, Nat.reduceLeDiff, Nat.reduceLT, ↓reduceIte]
theorem pJ_self (V : Vt) (h : Nat) : pJ V h (V.2.2.1 h) = V := by
  refine Prod.ext rfl (Prod.ext rfl (Prod.ext ?_ rfl))
  funext k
  show va_up V.2.2.1 h (V.2.2.1 h) k = V.2.2.1 k
  unfold va_up
  by_cases hk : k = h
  · rw [if_pos hk, hk]
  · rw [if_neg hk]
section OPS
variable {N b0 : Nat} {X : TxP}
theorem op_few (hN : 20000 ≤ N) : Op_few N b0 (Rel X b0) := by
  intro S V M hR a1 a2
  rcases lies_c N a1 1 20 (by omega) (by omega) with ⟨k, hk1, hk, rfl, el⟩ | ⟨-, el⟩
  · rcases lies_c N a2 0 99 (by omega) (by omega) with ⟨n, -, hn, rfl, el2⟩ | ⟨-, el2⟩
    · have eL : S.2.2.1 62 = 20 := shL hR (i := 62) rfl
      have es : V.2.1 7 1 = M.2.1 2 101 := hR.2.1.2.2.2.2.2.1.2.1.1
      obtain ⟨A, hA, eA⟩ := x_fill (N := N) S V 62 20 eL (by omega) 0 20 0 (by omega) (V.2.2.1 62) (N - 21) (fun k hk => absurd hk (Nat.not_lt_zero k))
      rw [pJ_self, show N - 21 + 20 + 1 = N by omega] at eA
      have eF : f_J7_fill_d0a16 N S V 62 0 = some (pJ V 62 A) := by
        unfold f_J7_fill_d0a16
        rw [eL]; exact eA
      obtain ⟨B, hB, eB⟩ := x_fdays hN S V k n hk hk1 hn (M.2.1 2 101) n 0 (by omega) (updJ A 0 1000000000000) (N - n - 1)
      rw [show N - n - 1 + n + 1 = N by omega] at eB
      obtain ⟨C, hC, eC⟩ := m_f26 (N := N) M (nI k) (nI n) 21 0 (by omega) (M.2.2.1 22) (N - 22) (fun k hk => absurd hk (Nat.not_lt_zero k))
      rw [pJ_self, show N - 22 + 21 + 1 = N by omega] at eC
      obtain ⟨D, hD, eD⟩ := m_fdays hN M k n hk hk1 hn (M.2.1 2 101) rfl n 0 (by omega) C (N - n - 1)
      rw [show N - n - 1 + n + 1 = N by omega] at eD
      refine ⟨ssJ B k, pJ V 62 B, pJ M 22 D, ?_, ?_, Rel_s hR (SX_r V) (SM_r M)⟩
      · simp (disch := omega) only [f_X8_few, within_lies, el, el2, es, eF, sJ_J, pl_bd, pl_ob, pl_ob1, pl_obv, pl_oa, pl_oav, pl_cg, pl_cb0, pl_cb1, pl_nl0, pl_nls, li, nI_cl, pl_ck, nI_E, nI_L, nI_T, nI_add, pk_mul, nI_s1, Nat.zero_add, Nat.add_zero, Nat.reduceAdd, Nat.reduceMul, Nat.reduceSub, Nat.reduceEqDiff, Nat.reduceLeDiff, Nat.reduceLT, ↓reduceIte]
        exact eB
      · simp (disch := omega) only [f_X9_few, el, el2, pl_bd, pl_ob, pl_ob1, pl_obv, pl_oa, pl_oav, pl_cg, pl_cb0, pl_cb1, pl_nl0, pl_nls, li, nI_cl, pl_ck, nI_E, nI_L, nI_T, nI_add, pk_mul, nI_s1, Nat.zero_add, Nat.add_zero, Nat.reduceAdd, Nat.reduceMul, Nat.reduceSub, Nat.reduceEqDiff, Nat.reduceLeDiff, Nat.reduceLT, ↓reduceIte]
        rw [eC, eD, ssJ_c (A := B) (B := D) (n := k)]
        intro i hi
        rw [hB i hi, hD i hi]
        refine dysJ_c _ n (k := k) (fun j hj => ?_) i hi
        rw [hC j (by omega)]
        by_cases h0 : j = 0
        · subst h0; rw [updJ_e]; rfl
        · rw [updJ_n _ _ _ _ h0, hA j (by omega)]; exact (if_neg h0).symm
    · refine ⟨-1, V, M, ?_, ?_, hR⟩
      · simp (disch := omega) only [f_X8_few, within_lies, el, el2, pl_bd, pl_ob, pl_ob1, pl_obv, pl_oa, pl_oav, pl_cg, pl_cb0, pl_cb1, pl_nl0, pl_nls, li, nI_cl, pl_ck, nI_E, nI_L, nI_T, nI_add, pk_mul, nI_s1, Nat.zero_add, Nat.add_zero, Nat.reduceAdd, Nat.reduceMul, Nat.reduceSub, Nat.reduceEqDiff, Nat.reduceLeDiff, Nat.reduceLT, ↓reduceIte]
      · simp (disch := omega) only [f_X9_few, el, el2, pl_bd, pl_ob, pl_ob1, pl_obv, pl_oa, pl_oav, pl_cg, pl_cb0, pl_cb1, pl_nl0, pl_nls, li, nI_cl, pl_ck, nI_E, nI_L, nI_T, nI_add, pk_mul, nI_s1, Nat.zero_add, Nat.add_zero, Nat.reduceAdd, Nat.reduceMul, Nat.reduceSub, Nat.reduceEqDiff, Nat.reduceLeDiff, Nat.reduceLT, ↓reduceIte]
  · refine ⟨-1, V, M, ?_, ?_, hR⟩
    · simp (disch := omega) only [f_X8_few, within_lies, el, pl_bd, pl_ob, pl_ob1, pl_obv, pl_oa, pl_oav, pl_cg, pl_cb0, pl_cb1, pl_nl0, pl_nls, li, nI_cl, pl_ck, nI_E, nI_L, nI_T, nI_add, pk_mul, nI_s1, Nat.zero_add, Nat.add_zero, Nat.reduceAdd, Nat.reduceMul, Nat.reduceSub, Nat.reduceEqDiff, Nat.reduceLeDiff, Nat.reduceLT, ↓reduceIte]
    · simp (disch := omega) only [f_X9_few, el, pl_bd, pl_ob, pl_ob1, pl_obv, pl_oa, pl_oav, pl_cg, pl_cb0, pl_cb1, pl_nl0, pl_nls, li, nI_cl, pl_ck, nI_E, nI_L, nI_T, nI_add, pk_mul, nI_s1, Nat.zero_add, Nat.add_zero, Nat.reduceAdd, Nat.reduceMul, Nat.reduceSub, Nat.reduceEqDiff, Nat.reduceLeDiff, Nat.reduceLT, ↓reduceIte]
end OPS
