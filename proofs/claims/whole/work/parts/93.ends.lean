section
/-! next: where all hounds of one law end -/
theorem x_37 {N : Nat} (hN : 20000 ≤ N) {S : St} {V : Vt} {st : Nat → Nat} (hst : ∀ c, c ≤ 25 → st c ≤ 25) (hv : ∀ c, c ≤ 25 → V.2.1 53 c = nI (st c)) {k j : Nat} (hk : k ≤ 99) (hj : j < 6) (v2 : Int32) : ∃ f, (∀ K, f_X3_learnPlaces_37 N S 48 1 K N V v2 (nI k) (nI j) 0 = f_X3_learnPlaces_70 N S 48 1 K (pA V 56 f) v2 (nI k) (nI j)) ∧ (∀ c, c < 25 → f (j * 25 + c) = nI (pla st k c)) ∧ ∀ i, ¬ (j * 25 ≤ i ∧ i < j * 25 + 25) → f i = V.2.1 56 i := by
  have key : ∀ d t f, t + d = 25 → (∀ c, c < t → f (j * 25 + c) = nI (pla st k c)) → (∀ i, ¬ (j * 25 ≤ i ∧ i < j * 25 + 25) → f i = V.2.1 56 i) → ∃ f', (∀ K m, f_X3_learnPlaces_37 N S 48 1 K (m + d + 1) (pA V 56 f) v2 (nI k) (nI j) (nI t) = f_X3_learnPlaces_70 N S 48 1 K (pA V 56 f') v2 (nI k) (nI j)) ∧ (∀ c, c < 25 → f' (j * 25 + c) = nI (pla st k c)) ∧ ∀ i, ¬ (j * 25 ≤ i ∧ i < j * 25 + 25) → f' i = V.2.1 56 i := by
    intro d
    induction d with
    | zero =>
      intro t f ht h1 h2
      have e : t = 25 := by omega
      subst e
      exact ⟨f, fun K m => by rw [f_X3_learnPlaces_37, if_pos (by decide)], h1, h2⟩
    | succ d ih =>
      intro t f ht h1 h2
      obtain ⟨f', f1, f2⟩ := ih (t + 1) (upd f (j * 25 + t) (nI (pla st k t))) (by omega) (fun c hc => by
        by_cases e : c = t
        · rw [e, upd_e]
        · rw [upd_n _ _ _ _ (by omega)]; exact h1 c (by omega)) (fun i hi => by rw [upd_n _ _ _ _ (by omega)]; exact h2 i hi)
      refine ⟨f', fun K m => ?_, f2⟩
      have xa := x_after (N := N) hN (S := S) (V := pA V 56 f) (o := 48) hst (fun c hc => by rw [pA_n _ _ _ _ (by omega)]; exact hv c hc) (c := t) (k := k) (by omega) hk
      rw [show m + (d + 1) + 1 = (m + d + 1) + 1 by omega, f_X3_learnPlaces_37, show (25 : Int32) = nI 25 from rfl, if_neg (by rw [nI_L (by omega) (by omega)]; omega), xa, pl_ob1, pk_mul, nI_add, pl_ck (by omega) (by omega), nI_cl (by omega)]
      show bd (sA (pA V 56 f) 56 (j * 25 + t) (nI (pla st k t))) _ = _
      rw [sA_pAe, pl_bd, nI_1, pl_bd]
      exact f1 K m
  obtain ⟨f, f1, f2⟩ := key 25 0 (V.2.1 56) rfl (fun c hc => absurd hc (Nat.not_lt_zero c)) (fun _ _ => rfl)
  refine ⟨f, fun K => ?_, f2⟩
  have := f1 K (N - 26)
  rw [show N - 26 + 25 + 1 = N by omega, pA_self] at this
  exact this
theorem m_36 {N : Nat} (hN : 20000 ≤ N) {M : Vt} {st : Nat → Nat} (hst : ∀ c, c ≤ 25 → st c ≤ 25) (hv : ∀ c, c ≤ 25 → M.2.1 18 c = nI (st c)) {k j : Nat} (hk : k ≤ 99) (hj : j < 6) (v2 : Int32) : ∃ f, (∀ K, f_X9_laysEnds_36 N K N M (nI k) v2 (nI j) 0 = K (pA M 19 f) (nI k) v2 (nI (j + 1))) ∧ (∀ c, c < 25 → f (25 * j + c) = nI (pla st k c)) ∧ ∀ i, ¬ (25 * j ≤ i ∧ i < 25 * j + 25) → f i = M.2.1 19 i := by
  have key : ∀ d t f, t + d = 25 → (∀ c, c < t → f (25 * j + c) = nI (pla st k c)) → (∀ i, ¬ (25 * j ≤ i ∧ i < 25 * j + 25) → f i = M.2.1 19 i) → ∃ f', (∀ K m, f_X9_laysEnds_36 N K (m + d + 1) (pA M 19 f) (nI k) v2 (nI j) (nI t) = K (pA M 19 f') (nI k) v2 (nI (j + 1))) ∧ (∀ c, c < 25 → f' (25 * j + c) = nI (pla st k c)) ∧ ∀ i, ¬ (25 * j ≤ i ∧ i < 25 * j + 25) → f' i = M.2.1 19 i := by
    intro d
    induction d with
    | zero =>
      intro t f ht h1 h2
      have e : t = 25 := by omega
      subst e
      exact ⟨f, fun K m => by rw [f_X9_laysEnds_36, if_pos (by decide), nI_1, pl_bd], h1, h2⟩
    | succ d ih =>
      intro t f ht h1 h2
      obtain ⟨f', f1, f2⟩ := ih (t + 1) (upd f (25 * j + t) (nI (pla st k t))) (by omega) (fun c hc => by
        by_cases e : c = t
        · rw [e, upd_e]
        · rw [upd_n _ _ _ _ (by omega)]; exact h1 c (by omega)) (fun i hi => by rw [upd_n _ _ _ _ (by omega)]; exact h2 i hi)
      refine ⟨f', fun K m => ?_, f2⟩
      have xa := m_behind (N := N) hN (M := pA M 19 f) hst (fun c hc => by rw [pA_n _ _ _ _ (by omega)]; exact hv c hc) (c := t) (k := k) (by omega) hk
      rw [show m + (d + 1) + 1 = (m + d + 1) + 1 by omega, f_X9_laysEnds_36, show (25 : Int32) = nI 25 from rfl, if_neg (by rw [nI_L (by omega) (by omega)]; omega), xa, pl_ob1, pk_mul, nI_add, pl_ck (by omega) (by omega), nI_cl (by omega), sA_pAe, pl_bd, nI_1, pl_bd]
      exact f1 K m
  obtain ⟨f, f1, f2⟩ := key 25 0 (M.2.1 19) rfl (fun c hc => absurd hc (Nat.not_lt_zero c)) (fun _ _ => rfl)
  refine ⟨f, fun K => ?_, f2⟩
  have := f1 K (N - 26)
  rw [show N - 26 + 25 + 1 = N by omega, pA_self] at this
  exact this
end
