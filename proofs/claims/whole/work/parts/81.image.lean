section
/-! image -/
theorem OldV_bkZ (V : Vt) (o g : Nat) (hg : g < o ∨ o + 10 ≤ g) : (bkZ V o).1 g = V.1 g ∧ (bkZ V o).2.1 g = V.2.1 g ∧ (bkZ V o).2.2.2 g = V.2.2.2 g := by
  have z : ∀ (V : Vt) h, g ≠ h → (zV V h).1 g = V.1 g ∧ (zV V h).2.1 g = V.2.1 g ∧ (zV V h).2.2.2 g = V.2.2.2 g := fun V h hh => zV_o V h g hh
  have s : ∀ (V : Vt) h j x, g ≠ h → (sA V h j x).1 g = V.1 g ∧ (sA V h j x).2.1 g = V.2.1 g ∧ (sA V h j x).2.2.2 g = V.2.2.2 g := fun V h j x hh => ⟨rfl, sA_n _ _ _ _ _ hh, rfl⟩
  unfold bkZ
  refine ⟨?_, ?_, ?_⟩
  · rw [sF_n _ _ _ _ _ (by omega), (z _ _ (by omega)).1, (z _ _ (by omega)).1, (z _ _ (by omega)).1, (s _ _ _ _ (by omega)).1, (s _ _ _ _ (by omega)).1, (s _ _ _ _ (by omega)).1, (z _ _ (by omega)).1, (z _ _ (by omega)).1, (z _ _ (by omega)).1, (z _ _ (by omega)).1, (z _ _ (by omega)).1, (z _ _ (by omega)).1]
  · rw [sF_2, (z _ _ (by omega)).2.1, (z _ _ (by omega)).2.1, (z _ _ (by omega)).2.1, (s _ _ _ _ (by omega)).2.1, (s _ _ _ _ (by omega)).2.1, (s _ _ _ _ (by omega)).2.1, (z _ _ (by omega)).2.1, (z _ _ (by omega)).2.1, (z _ _ (by omega)).2.1, (z _ _ (by omega)).2.1, (z _ _ (by omega)).2.1, (z _ _ (by omega)).2.1]
  · show (zV _ (o + 9)).2.2.2 g = _
    rw [(z _ _ (by omega)).2.2, (z _ _ (by omega)).2.2, (z _ _ (by omega)).2.2, (s _ _ _ _ (by omega)).2.2, (s _ _ _ _ (by omega)).2.2, (s _ _ _ _ (by omega)).2.2, (z _ _ (by omega)).2.2, (z _ _ (by omega)).2.2, (z _ _ (by omega)).2.2, (z _ _ (by omega)).2.2, (z _ _ (by omega)).2.2, (z _ _ (by omega)).2.2]
theorem m_image17 {N : Nat} (hN : 20000 ≤ N) (M : Vt) (k : Nat) (hk : k ≤ 1) : ∃ f : Nat → Int32, f_X9_image_17 N N M (nI k) (nI 0) = some (nI 0, sF (sA (pA M 3 f) 4 k (nI 1)) 0 0 (nI 0)) ∧ (∀ j, j < 5715 → f (5715 * k + j) = M.2.1 2 j) ∧ ∀ j, j < 5715 → f (5715 * (1 - k) + j) = M.2.1 3 (5715 * (1 - k) + j) := by
  obtain ⟨g, ⟨g1, g2⟩, n, en⟩ := lpN N (fun n (f : Nat → Int32) i => f_X9_image_17 N n (pA M 3 f) (nI k) i) 5715 (fun i f => (∀ j, j < i → f (5715 * k + j) = M.2.1 2 j) ∧ ∀ j, j < 5715 → f (5715 * (1 - k) + j) = M.2.1 3 (5715 * (1 - k) + j)) (by
    intro i f hi ⟨h1, h2⟩
    refine ⟨upd f (5715 * k + i) (M.2.1 2 i), ⟨fun j hj => ?_, fun j hj => ?_⟩, fun n => ?_⟩
    · by_cases hji : j = i
      · subst hji; rw [upd_e]
      · rw [upd_n _ _ _ _ (by omega)]; exact h1 j (by omega)
    · rw [upd_n _ _ _ _ (by rcases (by omega : k = 0 ∨ k = 1) with rfl | rfl <;> omega)]; exact h2 j hj
    · have h32 : ¬ 5715 ≤ i := by omega
      have k2 : (pA M 3 f).2.1 2 i = M.2.1 2 i := rfl
      rw [f_X9_image_17]
      simp (disch := omega) only [h32, k2, sA_pAe, pl_bd, pl_ob, pl_ob1, pl_obv, pl_oa, pl_oav, pl_cg, pl_cb0, pl_cb1, pl_nl0, pl_nls, li, nI_cl, pl_ck, nI_E, nI_L, nI_T, nI_add, pk_mul, nI_s1, Nat.zero_add, Nat.add_zero, Nat.reduceAdd, Nat.reduceMul, Nat.reduceSub, Nat.reduceEqDiff, Nat.reduceLeDiff, Nat.reduceLT, ↓reduceIte]) (M.2.1 3) (by omega) ⟨fun j hj => absurd hj (Nat.not_lt_zero j), fun _ _ => rfl⟩
  refine ⟨g, ?_, g1, g2⟩
  have e0 : f_X9_image_17 N N M (nI k) (nI 0) = f_X9_image_17 N N (pA M 3 (M.2.1 3)) (nI k) (nI 0) := by rw [pA_self]
  rw [e0, en, f_X9_image_17]
  simp (disch := omega) only [m_good, pl_bd, pl_ob, pl_ob1, pl_obv, pl_oa, pl_oav, pl_cg, pl_cb0, pl_cb1, pl_nl0, pl_nls, li, nI_cl, pl_ck, nI_E, nI_L, nI_T, nI_add, pk_mul, nI_s1, Nat.zero_add, Nat.add_zero, Nat.reduceAdd, Nat.reduceMul, Nat.reduceSub, Nat.reduceEqDiff, Nat.reduceLeDiff, Nat.reduceLT, ↓reduceIte]
  rfl
end
