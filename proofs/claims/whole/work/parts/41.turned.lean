/-! turned: entries put for one another -/
def allZ (e t : Nat → Int32) : Bool := (List.range 10).all fun s => decide (ofS e t s = nI 0)
theorem allZ_t {e t : Nat → Int32} (h : ∀ s, s < 10 → ofS e t s = nI 0) : allZ e t = true := List.all_eq_true.mpr fun s hs => decide_eq_true (h s (List.mem_range.mp hs))
theorem allZ_f {e t : Nat → Int32} {s : Nat} (hs : s < 10) (h : ¬ ofS e t s = nI 0) : allZ e t = false := by
  cases hb : allZ e t with
  | false => rfl
  | true => exact absurd (of_decide_eq_true (List.all_eq_true.mp hb s (List.mem_range.mpr hs))) h
theorem allZ_c {e t e' t' : Nat → Int32} (h : ∀ s, s < 10 → ofS e t s = ofS e' t' s) : allZ e t = allZ e' t' := by
  by_cases hz : ∀ s, s < 10 → ofS e t s = nI 0
  · rw [allZ_t hz, allZ_t (fun s hs => (h s hs).symm.trans (hz s hs))]
  · obtain ⟨s, hs⟩ := Classical.not_forall.mp hz
    obtain ⟨hs1, hs2⟩ := Classical.not_imp.mp hs
    rw [allZ_f hs1 hs2, allZ_f hs1 (by rw [← h s hs1]; exact hs2)]
theorem add_n0 (x : Int32) : x + nI 0 = x := Int32.add_zero x
def bN (b : Bool) : Nat := if b then 1 else 0
theorem m_nothing {N : Nat} (hN : 20000 ≤ N) (M : Vt) : f_X9_isNothingOff N M = some (nI (bN (allZ (M.2.1 2) (fun i => M.2.1 2 (32 + i))))) := by
  have key : ∀ k i, i + k = 10 → (∀ s, s < i → ofS (M.2.1 2) (fun i => M.2.1 2 (32 + i)) s = nI 0) → ∀ n, f_X9_isNothingOff_4 N M (n + k + 2) (nI 1) (nI i) = some (nI (bN (allZ (M.2.1 2) (fun i => M.2.1 2 (32 + i))))) := by
    intro k
    induction k with
    | zero =>
      intro i hi h n
      have : i = 10 := by omega
      subst this
      rw [allZ_t h]
      simp (disch := omega) only [f_X9_isNothingOff_4, pl_bd, pl_ob, pl_ob1, pl_obv, pl_oa, pl_oav, pl_cg, pl_cb0, pl_cb1, pl_nl0, pl_nls, li, nI_cl, pl_ck, nI_E, nI_L, nI_T, nI_add, pk_mul, nI_s1, Nat.zero_add, Nat.add_zero, Nat.reduceAdd, Nat.reduceMul, Nat.reduceSub, Nat.reduceEqDiff, Nat.reduceLeDiff, Nat.reduceLT, ↓reduceIte]
      rfl
    | succ k ih =>
      intro i hi h n
      have h10 : ¬ 10 ≤ i := by omega
      by_cases hz : ofS (M.2.1 2) (fun i => M.2.1 2 (32 + i)) i = nI 0
      · have := ih (i + 1) (by omega) (fun s hs => by
          by_cases hsi : s = i
          · rw [hsi]; exact hz
          · exact h s (by omega)) n
        rw [show n + (k + 1) + 2 = n + k + 2 + 1 by omega, f_X9_isNothingOff_4]
        simp (disch := omega) only [h10, m_offBy hN, hz, f_X9_isNothingOff_27, pl_bd, pl_ob, pl_ob1, pl_obv, pl_oa, pl_oav, pl_cg, pl_cb0, pl_cb1, pl_nl0, pl_nls, li, nI_cl, pl_ck, nI_E, nI_L, nI_T, nI_add, pk_mul, nI_s1, Nat.zero_add, Nat.add_zero, Nat.reduceAdd, Nat.reduceMul, Nat.reduceSub, Nat.reduceEqDiff, Nat.reduceLeDiff, Nat.reduceLT, ↓reduceIte]
        exact this
      · rw [allZ_f (by omega) hz, show n + (k + 1) + 2 = n + k + 1 + 1 + 1 by omega, f_X9_isNothingOff_4]
        simp (disch := omega) only [h10, m_offBy hN, hz, f_X9_isNothingOff_27, pl_bd, pl_ob, pl_ob1, pl_obv, pl_oa, pl_oav, pl_cg, pl_cb0, pl_cb1, pl_nl0, pl_nls, li, nI_cl, pl_ck, nI_E, nI_L, nI_T, nI_add, pk_mul, nI_s1, Nat.zero_add, Nat.add_zero, Nat.reduceAdd, Nat.reduceMul, Nat.reduceSub, Nat.reduceEqDiff, Nat.reduceLeDiff, Nat.reduceLT, ↓reduceIte]
        rw [f_X9_isNothingOff_4]
        by_cases h9 : 10 ≤ i + 1
        · simp (disch := omega) only [h9, pl_bd, pl_ob, pl_ob1, pl_obv, pl_oa, pl_oav, pl_cg, pl_cb0, pl_cb1, pl_nl0, pl_nls, li, nI_cl, pl_ck, nI_E, nI_L, nI_T, nI_add, pk_mul, nI_s1, Nat.zero_add, Nat.add_zero, Nat.reduceAdd, Nat.reduceMul, Nat.reduceSub, Nat.reduceEqDiff, Nat.reduceLeDiff, Nat.reduceLT, ↓reduceIte]; rfl
        · simp (disch := omega) only [h9, pl_bd, pl_ob, pl_ob1, pl_obv, pl_oa, pl_oav, pl_cg, pl_cb0, pl_cb1, pl_nl0, pl_nls, li, nI_cl, pl_ck, nI_E, nI_L, nI_T, nI_add, pk_mul, nI_s1, Nat.zero_add, Nat.add_zero, Nat.reduceAdd, Nat.reduceMul, Nat.reduceSub, Nat.reduceEqDiff, Nat.reduceLeDiff, Nat.reduceLT, ↓reduceIte]; rfl
  have := key 10 0 (by omega) (fun s hs => absurd hs (Nat.not_lt_zero s)) (N - 12)
  rw [show N - 12 + 10 + 2 = N by omega] at this
  exact this
def swp (e : Nat → Int32) (a b : Nat) : Nat → Int32 := upd (upd e a (e b)) b (e a)
theorem swp_b (e : Nat → Int32) (a b j : Nat) : swp e a b j = if j = b then e a else if j = a then e b else e j := rfl
theorem swp2 (e : Nat → Int32) (a b : Nat) : swp (swp e a b) a b = e := by
  funext j
  simp only [swp_b]
  by_cases h1 : j = b
  · subst h1
    rw [if_pos rfl]
    by_cases h2 : a = j
    · rw [if_pos h2]; rw [h2]
    · rw [if_neg h2, if_pos trivial]
  · rw [if_neg h1]
    by_cases h2 : j = a
    · subst h2; rw [if_pos rfl, if_pos trivial]
    · rw [if_neg h2, if_neg h1, if_neg h2]
/-- a row put whole -/
def pA (V : Vt) (h : Nat) (f : Nat → Int32) : Vt := (V.1, va_up V.2.1 h f, V.2.2)
theorem pA_e (V : Vt) (h : Nat) (f : Nat → Int32) : (pA V h f).2.1 h = f := if_pos rfl
theorem pA_n (V : Vt) (h g : Nat) (f : Nat → Int32) (hg : g ≠ h) : (pA V h f).2.1 g = V.2.1 g := va_up_ne _ _ hg
theorem pA_self (V : Vt) (h : Nat) : pA V h (V.2.1 h) = V := by
  refine Prod.ext rfl (Prod.ext ?_ rfl)
  funext g
  show va_up V.2.1 h (V.2.1 h) g = V.2.1 g
  unfold va_up
  by_cases hg : g = h
  · rw [if_pos hg, hg]
  · rw [if_neg hg]
theorem pA_pA (V : Vt) (h : Nat) (f g : Nat → Int32) : pA (pA V h f) h g = pA V h g := by
  refine Prod.ext rfl (Prod.ext ?_ rfl)
  funext k
  show va_up (va_up V.2.1 h f) h g k = va_up V.2.1 h g k
  unfold va_up
  by_cases hk : k = h
  · rw [if_pos hk, if_pos hk]
  · rw [if_neg hk, if_neg hk, if_neg hk]
theorem sA_pA (V : Vt) (h j : Nat) (x : Int32) : sA V h j x = pA V h (upd (V.2.1 h) j x) := by
  refine Prod.ext rfl (Prod.ext ?_ rfl)
  funext k
  by_cases hk : k = h
  · subst hk; rw [sA_e, pA_e]
  · rw [sA_n _ _ _ _ _ hk, pA_n _ _ _ _ hk]
theorem x_turn {N : Nat} (S : St) (V : Vt) (o a b : Nat) (ha : a < 25) (hb : b < 25) : f_X0_turn N S V o (nI a) (nI b) = some (pA V (o + 1) (swp (V.2.1 (o + 1)) a b)) := by
  simp (disch := omega) only [f_X0_turn, pl_bd, pl_ob, pl_ob1, pl_obv, pl_oa, pl_oav, pl_cg, pl_cb0, pl_cb1, pl_nl0, pl_nls, li, nI_cl, pl_ck, nI_E, nI_L, nI_T, nI_add, pk_mul, nI_s1, Nat.zero_add, Nat.add_zero, Nat.reduceAdd, Nat.reduceMul, Nat.reduceSub, Nat.reduceEqDiff, Nat.reduceLeDiff, Nat.reduceLT, ↓reduceIte]
  rw [sA_pA, sA_pA, pA_pA, pA_e]; rfl
theorem m_swaps {N : Nat} (M : Vt) (a b : Nat) (ha : a < 25) (hb : b < 25) : f_X9_swaps N M (nI a) (nI b) = some (pA M 2 (swp (M.2.1 2) a b)) := by
  simp (disch := omega) only [f_X9_swaps, pl_bd, pl_ob, pl_ob1, pl_obv, pl_oa, pl_oav, pl_cg, pl_cb0, pl_cb1, pl_nl0, pl_nls, li, nI_cl, pl_ck, nI_E, nI_L, nI_T, nI_add, pk_mul, nI_s1, Nat.zero_add, Nat.add_zero, Nat.reduceAdd, Nat.reduceMul, Nat.reduceSub, Nat.reduceEqDiff, Nat.reduceLeDiff, Nat.reduceLT, ↓reduceIte]
  rw [sA_pA, sA_pA, pA_pA, pA_e]; rfl
theorem x_even {N : Nat} (hN : 20000 ≤ N) (S : St) (V : Vt) (o a b : Nat) (ha : a < 25) (hb : b < 25) : f_X0_isEvenTurned N S V o (nI a) (nI b) = some (nI (bN (allZ (swp (V.2.1 (o + 1)) a b) (V.2.1 (o + 3)))), V) := by
  obtain ⟨W, eW⟩ : ∃ W, W = pA V (o + 1) (swp (V.2.1 (o + 1)) a b) := ⟨_, rfl⟩
  have w1 : W.2.1 (o + 1) = swp (V.2.1 (o + 1)) a b := by rw [eW, pA_e]
  have w3 : W.2.1 (o + 3) = V.2.1 (o + 3) := by rw [eW, pA_n _ _ _ _ (by omega)]
  have hend : ∀ v : Nat, v ≤ 1 → f_X0_isEvenTurned_53 N S o W (nI a) (nI b) (nI v) = some (nI v, V) := by
    intro v hv
    have t2 := x_turn (N := N) S W o a b ha hb
    rw [w1, swp2] at t2
    rw [eW, pA_pA, pA_self] at t2
    unfold f_X0_isEvenTurned_53
    rw [eW, t2, pl_obv]
    rcases (by omega : v = 0 ∨ v = 1) with rfl | rfl <;> rfl
  have key : ∀ k i, i + k = 5 → (∀ s, s < 10 → (s % 5 < i) → ofS (swp (V.2.1 (o + 1)) a b) (V.2.1 (o + 3)) s = nI 0) → ∀ n, f_X0_isEvenTurned_11 N S o (n + k + 2) W (nI a) (nI b) (nI 1) (nI i) = some (nI (bN (allZ (swp (V.2.1 (o + 1)) a b) (V.2.1 (o + 3)))), V) := by
    intro k
    induction k with
    | zero =>
      intro i hi h n
      have : i = 5 := by omega
      subst this
      rw [allZ_t (fun s hs => h s hs (by omega))]
      simp (disch := omega) only [f_X0_isEvenTurned_11, pl_bd, pl_ob, pl_ob1, pl_obv, pl_oa, pl_oav, pl_cg, pl_cb0, pl_cb1, pl_nl0, pl_nls, li, nI_cl, pl_ck, nI_E, nI_L, nI_T, nI_add, pk_mul, nI_s1, Nat.zero_add, Nat.add_zero, Nat.reduceAdd, Nat.reduceMul, Nat.reduceSub, Nat.reduceEqDiff, Nat.reduceLeDiff, Nat.reduceLT, ↓reduceIte]
      exact hend 1 (by omega)
    | succ k ih =>
      intro i hi h n
      have h5 : ¬ 5 ≤ i := by omega
      have g0 := x_gap hN S W o 0 i (by omega) (by omega)
      have g1 := x_gap hN S W o 1 i (by omega) (by omega)
      rw [w1, w3, show 5 * 0 + i = i by omega] at g0
      rw [w1, w3, show 5 * 1 + i = 5 + i by omega] at g1
      have stop : ∀ m, f_X0_isEvenTurned_11 N S o (m + 1) W (nI a) (nI b) (nI 0) (nI (i + 1)) = some (nI 0, V) := by
        intro m
        rw [f_X0_isEvenTurned_11]
        by_cases h9 : 5 ≤ i + 1
        · simp (disch := omega) only [h9, pl_bd, pl_ob, pl_ob1, pl_obv, pl_oa, pl_oav, pl_cg, pl_cb0, pl_cb1, pl_nl0, pl_nls, li, nI_cl, pl_ck, nI_E, nI_L, nI_T, nI_add, pk_mul, nI_s1, Nat.zero_add, Nat.add_zero, Nat.reduceAdd, Nat.reduceMul, Nat.reduceSub, Nat.reduceEqDiff, Nat.reduceLeDiff, Nat.reduceLT, ↓reduceIte]; exact hend 0 (by omega)
        · simp (disch := omega) only [h9, pl_bd, pl_ob, pl_ob1, pl_obv, pl_oa, pl_oav, pl_cg, pl_cb0, pl_cb1, pl_nl0, pl_nls, li, nI_cl, pl_ck, nI_E, nI_L, nI_T, nI_add, pk_mul, nI_s1, Nat.zero_add, Nat.add_zero, Nat.reduceAdd, Nat.reduceMul, Nat.reduceSub, Nat.reduceEqDiff, Nat.reduceLeDiff, Nat.reduceLT, ↓reduceIte]; exact hend 0 (by omega)
      by_cases hz0 : ofS (swp (V.2.1 (o + 1)) a b) (V.2.1 (o + 3)) i = nI 0
      · by_cases hz1 : ofS (swp (V.2.1 (o + 1)) a b) (V.2.1 (o + 3)) (5 + i) = nI 0
        · have := ih (i + 1) (by omega) (fun s hs h2 => by
            by_cases hsi : s % 5 = i
            · rcases (by omega : s = i ∨ s = 5 + i) with h3 | h3
              · rw [h3]; exact hz0
              · rw [h3]; exact hz1
            · exact h s hs (by omega)) n
          rw [show n + (k + 1) + 2 = n + k + 2 + 1 by omega, f_X0_isEvenTurned_11]
          simp (disch := omega) only [h5, g0, g1, hz0, hz1, f_X0_isEvenTurned_46, pl_bd, pl_ob, pl_ob1, pl_obv, pl_oa, pl_oav, pl_cg, pl_cb0, pl_cb1, pl_nl0, pl_nls, li, nI_cl, pl_ck, nI_E, nI_L, nI_T, nI_add, pk_mul, nI_s1, Nat.zero_add, Nat.add_zero, Nat.reduceAdd, Nat.reduceMul, Nat.reduceSub, Nat.reduceEqDiff, Nat.reduceLeDiff, Nat.reduceLT, ↓reduceIte]
          exact this
        · rw [allZ_f (by omega) hz1, show n + (k + 1) + 2 = n + k + 1 + 1 + 1 by omega, f_X0_isEvenTurned_11]
          simp (disch := omega) only [h5, g0, g1, hz0, hz1, f_X0_isEvenTurned_45, f_X0_isEvenTurned_46, pl_bd, pl_ob, pl_ob1, pl_obv, pl_oa, pl_oav, pl_cg, pl_cb0, pl_cb1, pl_nl0, pl_nls, li, nI_cl, pl_ck, nI_E, nI_L, nI_T, nI_add, pk_mul, nI_s1, Nat.zero_add, Nat.add_zero, Nat.reduceAdd, Nat.reduceMul, Nat.reduceSub, Nat.reduceEqDiff, Nat.reduceLeDiff, Nat.reduceLT, ↓reduceIte]
          exact stop _
      · rw [allZ_f (by omega) hz0, show n + (k + 1) + 2 = n + k + 1 + 1 + 1 by omega, f_X0_isEvenTurned_11]
        simp (disch := omega) only [h5, g0, hz0, f_X0_isEvenTurned_45, f_X0_isEvenTurned_46, pl_bd, pl_ob, pl_ob1, pl_obv, pl_oa, pl_oav, pl_cg, pl_cb0, pl_cb1, pl_nl0, pl_nls, li, nI_cl, pl_ck, nI_E, nI_L, nI_T, nI_add, pk_mul, nI_s1, Nat.zero_add, Nat.add_zero, Nat.reduceAdd, Nat.reduceMul, Nat.reduceSub, Nat.reduceEqDiff, Nat.reduceLeDiff, Nat.reduceLT, ↓reduceIte]
        exact stop _
  have e0 : f_X0_isEvenTurned N S V o (nI a) (nI b) = f_X0_isEvenTurned_11 N S o N W (nI a) (nI b) (nI 1) (nI 0) := by
    unfold f_X0_isEvenTurned
    rw [x_turn S V o a b ha hb, pl_obv, eW]; rfl
  have := key 5 0 (by omega) (fun s hs h => absurd h (Nat.not_lt_zero _)) (N - 7)
  rw [show N - 7 + 5 + 2 = N by omega] at this
  rw [e0, this]
section OPS
variable {N b0 : Nat} {X : TxP}
theorem op_turned (hN : 20000 ≤ N) : Op_turned N b0 (Rel X b0) := by
  intro S V M hR v1
  have tst : ∀ a b, a < 25 → b < 25 → allZ (swp (V.2.1 2) a b) (V.2.1 4) = allZ (swp (M.2.1 2) a b) (fun i => M.2.1 2 (32 + i)) := by
    intro a b ha hb
    refine allZ_c fun s hs => ofS_c hs (fun i hi => ?_) (hR.2.1.2.2.1 s hs).1
    simp only [swp_b]
    rw [(hR.2.1.1 a ha).1, (hR.2.1.1 b hb).1, (hR.2.1.1 i hi).1]
  have inner : ∀ (a : Nat) (K8 K9 : Vt → Int32 → Int32 → Int32 → Option (Int32 × Vt)), a < 25 → (∀ v2, ∃ r, K8 V v1 v2 (nI (a + 1)) = some (r, V) ∧ K9 M v1 v2 (nI (a + 1)) = some (r, M)) → ∀ k b, b + k = 25 → ∀ n m v2, ∃ r, f_X8_turned_22 N S 0 K8 (n + k + 1) V v1 v2 (nI a) (nI b) = some (r, V) ∧ f_X9_turned_22 N K9 (m + k + 1) M v1 v2 (nI a) (nI b) = some (r, M) := by
    intro a K8 K9 ha hK k
    induction k with
    | zero =>
      intro b hb n m v2
      have : b = 25 := by omega
      subst this
      obtain ⟨r, h8, h9⟩ := hK v2
      refine ⟨r, ?_, ?_⟩
      · rw [f_X8_turned_22]; simp (disch := omega) only [pl_bd, pl_ob, pl_ob1, pl_obv, pl_oa, pl_oav, pl_cg, pl_cb0, pl_cb1, pl_nl0, pl_nls, li, nI_cl, pl_ck, nI_E, nI_L, nI_T, nI_add, pk_mul, nI_s1, Nat.zero_add, Nat.add_zero, Nat.reduceAdd, Nat.reduceMul, Nat.reduceSub, Nat.reduceEqDiff, Nat.reduceLeDiff, Nat.reduceLT, ↓reduceIte]; exact h8
      · rw [f_X9_turned_22]; simp (disch := omega) only [pl_bd, pl_ob, pl_ob1, pl_obv, pl_oa, pl_oav, pl_cg, pl_cb0, pl_cb1, pl_nl0, pl_nls, li, nI_cl, pl_ck, nI_E, nI_L, nI_T, nI_add, pk_mul, nI_s1, Nat.zero_add, Nat.add_zero, Nat.reduceAdd, Nat.reduceMul, Nat.reduceSub, Nat.reduceEqDiff, Nat.reduceLeDiff, Nat.reduceLT, ↓reduceIte]; exact h9
    | succ k ih =>
      intro b hb n m v2
      have h25 : ¬ 25 ≤ b := by omega
      have q8 := x_even hN S V 1 a b ha (by omega)
      have s1 := m_swaps (N := N) M a b ha (by omega)
      have s2 := m_swaps (N := N) (pA M 2 (swp (M.2.1 2) a b)) a b ha (by omega)
      rw [pA_e, swp2, pA_pA, pA_self] at s2
      have q9 := m_nothing hN (pA M 2 (swp (M.2.1 2) a b))
      have q9' : allZ ((pA M 2 (swp (M.2.1 2) a b)).2.1 2) (fun i => (pA M 2 (swp (M.2.1 2) a b)).2.1 2 (32 + i)) = allZ (swp (V.2.1 2) a b) (V.2.1 4) := by
        rw [tst a b ha (by omega), pA_e]
        refine allZ_c fun s hs => ofS_c hs (fun i hi => rfl) ?_
        show swp (M.2.1 2) a b (32 + s) = _
        rw [swp_b, if_neg (by omega), if_neg (by omega)]
      rw [q9'] at q9
      cases hz : allZ (swp (V.2.1 2) a b) (V.2.1 4) with
      | false =>
        rw [show allZ (swp (V.2.1 (1 + 1)) a b) (V.2.1 (1 + 3)) = false from hz] at q8
        rw [hz] at q9
        obtain ⟨r, h8, h9⟩ := ih (b + 1) (by omega) n m v2
        refine ⟨r, ?_, ?_⟩
        · rw [show n + (k + 1) + 1 = n + k + 1 + 1 by omega, f_X8_turned_22]
          simp (disch := omega) only [h25, q8, bN, f_X8_turned_58, pl_bd, pl_ob, pl_ob1, pl_obv, pl_oa, pl_oav, pl_cg, pl_cb0, pl_cb1, pl_nl0, pl_nls, li, nI_cl, pl_ck, nI_E, nI_L, nI_T, nI_add, pk_mul, nI_s1, Nat.zero_add, Nat.add_zero, Nat.reduceAdd, Nat.reduceMul, Nat.reduceSub, Nat.reduceEqDiff, Nat.reduceLeDiff, Nat.reduceLT, ↓reduceIte]
          exact h8
        · rw [show m + (k + 1) + 1 = m + k + 1 + 1 by omega, f_X9_turned_22]
          simp (disch := omega) only [h25, s1, s2, q9, bN, f_X9_turned_67, f_X9_turned_78, add_n0, pl_bd, pl_ob, pl_ob1, pl_obv, pl_oa, pl_oav, pl_cg, pl_cb0, pl_cb1, pl_nl0, pl_nls, li, nI_cl, pl_ck, nI_E, nI_L, nI_T, nI_add, pk_mul, nI_s1, Nat.zero_add, Nat.add_zero, Nat.reduceAdd, Nat.reduceMul, Nat.reduceSub, Nat.reduceEqDiff, Nat.reduceLeDiff, Nat.reduceLT, ↓reduceIte]
          exact h9
      | true =>
        rw [show allZ (swp (V.2.1 (1 + 1)) a b) (V.2.1 (1 + 3)) = true from hz] at q8
        rw [hz] at q9
        by_cases hv : v2 = v1
        · refine ⟨nI 100 * nI a + nI b, ?_, ?_⟩
          · rw [show n + (k + 1) + 1 = n + k + 1 + 1 by omega, f_X8_turned_22]
            simp (disch := omega) only [h25, q8, bN, hv, pl_bd, pl_ob, pl_ob1, pl_obv, pl_oa, pl_oav, pl_cg, pl_cb0, pl_cb1, pl_nl0, pl_nls, li, nI_cl, pl_ck, nI_E, nI_L, nI_T, nI_add, pk_mul, nI_s1, Nat.zero_add, Nat.add_zero, Nat.reduceAdd, Nat.reduceMul, Nat.reduceSub, Nat.reduceEqDiff, Nat.reduceLeDiff, Nat.reduceLT, ↓reduceIte]
          · rw [show m + (k + 1) + 1 = m + k + 1 + 1 by omega, f_X9_turned_22]
            simp (disch := omega) only [h25, s1, s2, q9, bN, hv, pl_bd, pl_ob, pl_ob1, pl_obv, pl_oa, pl_oav, pl_cg, pl_cb0, pl_cb1, pl_nl0, pl_nls, li, nI_cl, pl_ck, nI_E, nI_L, nI_T, nI_add, pk_mul, nI_s1, Nat.zero_add, Nat.add_zero, Nat.reduceAdd, Nat.reduceMul, Nat.reduceSub, Nat.reduceEqDiff, Nat.reduceLeDiff, Nat.reduceLT, ↓reduceIte]
        · obtain ⟨r, h8, h9⟩ := ih (b + 1) (by omega) n m (v2 + nI 1)
          refine ⟨r, ?_, ?_⟩
          · rw [show n + (k + 1) + 1 = n + k + 1 + 1 by omega, f_X8_turned_22]
            simp (disch := omega) only [h25, q8, bN, hv, f_X8_turned_58, pl_bd, pl_ob, pl_ob1, pl_obv, pl_oa, pl_oav, pl_cg, pl_cb0, pl_cb1, pl_nl0, pl_nls, li, nI_cl, pl_ck, nI_E, nI_L, nI_T, nI_add, pk_mul, nI_s1, Nat.zero_add, Nat.add_zero, Nat.reduceAdd, Nat.reduceMul, Nat.reduceSub, Nat.reduceEqDiff, Nat.reduceLeDiff, Nat.reduceLT, ↓reduceIte]
            exact h8
          · rw [show m + (k + 1) + 1 = m + k + 1 + 1 by omega, f_X9_turned_22]
            simp (disch := omega) only [h25, s1, s2, q9, bN, hv, f_X9_turned_67, f_X9_turned_78, pl_bd, pl_ob, pl_ob1, pl_obv, pl_oa, pl_oav, pl_cg, pl_cb0, pl_cb1, pl_nl0, pl_nls, li, nI_cl, pl_ck, nI_E, nI_L, nI_T, nI_add, pk_mul, nI_s1, Nat.zero_add, Nat.add_zero, Nat.reduceAdd, Nat.reduceMul, Nat.reduceSub, Nat.reduceEqDiff, Nat.reduceLeDiff, Nat.reduceLT, ↓reduceIte]
            exact h9
  have outer : ∀ k a, a + k = 25 → ∀ n m v2, ∃ r, f_X8_turned_11 N S 0 (n + k + 1) V v1 v2 (nI a) = some (r, V) ∧ f_X9_turned_11 N (m + k + 1) M v1 v2 (nI a) = some (r, M) := by
    intro k
    induction k with
    | zero =>
      intro a ha n m v2
      have : a = 25 := by omega
      subst this
      by_cases h1 : v1 = -nI 1
      · refine ⟨v2, ?_, ?_⟩
        · rw [f_X8_turned_11]; simp (disch := omega) only [h1, pl_bd, pl_ob, pl_ob1, pl_obv, pl_oa, pl_oav, pl_cg, pl_cb0, pl_cb1, pl_nl0, pl_nls, li, nI_cl, pl_ck, nI_E, nI_L, nI_T, nI_add, pk_mul, nI_s1, Nat.zero_add, Nat.add_zero, Nat.reduceAdd, Nat.reduceMul, Nat.reduceSub, Nat.reduceEqDiff, Nat.reduceLeDiff, Nat.reduceLT, ↓reduceIte]
        · rw [f_X9_turned_11]; simp (disch := omega) only [h1, pl_bd, pl_ob, pl_ob1, pl_obv, pl_oa, pl_oav, pl_cg, pl_cb0, pl_cb1, pl_nl0, pl_nls, li, nI_cl, pl_ck, nI_E, nI_L, nI_T, nI_add, pk_mul, nI_s1, Nat.zero_add, Nat.add_zero, Nat.reduceAdd, Nat.reduceMul, Nat.reduceSub, Nat.reduceEqDiff, Nat.reduceLeDiff, Nat.reduceLT, ↓reduceIte]
      · refine ⟨-nI 1, ?_, ?_⟩
        · rw [f_X8_turned_11]; simp (disch := omega) only [h1, pl_bd, pl_ob, pl_ob1, pl_obv, pl_oa, pl_oav, pl_cg, pl_cb0, pl_cb1, pl_nl0, pl_nls, li, nI_cl, pl_ck, nI_E, nI_L, nI_T, nI_add, pk_mul, nI_s1, Nat.zero_add, Nat.add_zero, Nat.reduceAdd, Nat.reduceMul, Nat.reduceSub, Nat.reduceEqDiff, Nat.reduceLeDiff, Nat.reduceLT, ↓reduceIte]
        · rw [f_X9_turned_11]; simp (disch := omega) only [h1, pl_bd, pl_ob, pl_ob1, pl_obv, pl_oa, pl_oav, pl_cg, pl_cb0, pl_cb1, pl_nl0, pl_nls, li, nI_cl, pl_ck, nI_E, nI_L, nI_T, nI_add, pk_mul, nI_s1, Nat.zero_add, Nat.add_zero, Nat.reduceAdd, Nat.reduceMul, Nat.reduceSub, Nat.reduceEqDiff, Nat.reduceLeDiff, Nat.reduceLT, ↓reduceIte]
    | succ k ih =>
      intro a ha n m v2
      have h25 : ¬ 25 ≤ a := by omega
      obtain ⟨r, h8, h9⟩ := inner a (f_X8_turned_11 N S 0 (n + k + 1)) (f_X9_turned_11 N (m + k + 1)) (by omega) (fun v2 => ih (a + 1) (by omega) n m v2) (25 - (a + 1)) (a + 1) (by omega) (N - (25 - (a + 1)) - 1) (N - (25 - (a + 1)) - 1) v2
      rw [show N - (25 - (a + 1)) - 1 + (25 - (a + 1)) + 1 = N by omega] at h8 h9
      refine ⟨r, ?_, ?_⟩
      · rw [show n + (k + 1) + 1 = n + k + 1 + 1 by omega, f_X8_turned_11]
        simp (disch := omega) only [h25, pl_bd, pl_ob, pl_ob1, pl_obv, pl_oa, pl_oav, pl_cg, pl_cb0, pl_cb1, pl_nl0, pl_nls, li, nI_cl, pl_ck, nI_E, nI_L, nI_T, nI_add, pk_mul, nI_s1, Nat.zero_add, Nat.add_zero, Nat.reduceAdd, Nat.reduceMul, Nat.reduceSub, Nat.reduceEqDiff, Nat.reduceLeDiff, Nat.reduceLT, ↓reduceIte]; exact h8
      · rw [show m + (k + 1) + 1 = m + k + 1 + 1 by omega, f_X9_turned_11]
        simp (disch := omega) only [h25, pl_bd, pl_ob, pl_ob1, pl_obv, pl_oa, pl_oav, pl_cg, pl_cb0, pl_cb1, pl_nl0, pl_nls, li, nI_cl, pl_ck, nI_E, nI_L, nI_T, nI_add, pk_mul, nI_s1, Nat.zero_add, Nat.add_zero, Nat.reduceAdd, Nat.reduceMul, Nat.reduceSub, Nat.reduceEqDiff, Nat.reduceLeDiff, Nat.reduceLT, ↓reduceIte]; exact h9
  by_cases h1 : -nI 1 ≤ v1
  · obtain ⟨r, h8, h9⟩ := outer 25 0 (by omega) (N - 26) (N - 26) (nI 0)
    rw [show N - 26 + 25 + 1 = N by omega] at h8 h9
    refine ⟨r, V, M, ?_, ?_, hR⟩
    · simp (disch := omega) only [f_X8_turned, h1, pl_bd, pl_ob, pl_ob1, pl_obv, pl_oa, pl_oav, pl_cg, pl_cb0, pl_cb1, pl_nl0, pl_nls, li, nI_cl, pl_ck, nI_E, nI_L, nI_T, nI_add, pk_mul, nI_s1, Nat.zero_add, Nat.add_zero, Nat.reduceAdd, Nat.reduceMul, Nat.reduceSub, Nat.reduceEqDiff, Nat.reduceLeDiff, Nat.reduceLT, ↓reduceIte]; exact h8
    · simp (disch := omega) only [f_X9_turned, h1, pl_bd, pl_ob, pl_ob1, pl_obv, pl_oa, pl_oav, pl_cg, pl_cb0, pl_cb1, pl_nl0, pl_nls, li, nI_cl, pl_ck, nI_E, nI_L, nI_T, nI_add, pk_mul, nI_s1, Nat.zero_add, Nat.add_zero, Nat.reduceAdd, Nat.reduceMul, Nat.reduceSub, Nat.reduceEqDiff, Nat.reduceLeDiff, Nat.reduceLT, ↓reduceIte]; exact h9
  · refine ⟨-1, V, M, ?_, ?_, hR⟩
    · simp (disch := omega) only [f_X8_turned, h1, pl_bd, pl_ob, pl_ob1, pl_obv, pl_oa, pl_oav, pl_cg, pl_cb0, pl_cb1, pl_nl0, pl_nls, li, nI_cl, pl_ck, nI_E, nI_L, nI_T, nI_add, pk_mul, nI_s1, Nat.zero_add, Nat.add_zero, Nat.reduceAdd, Nat.reduceMul, Nat.reduceSub, Nat.reduceEqDiff, Nat.reduceLeDiff, Nat.reduceLT, ↓reduceIte]
    · simp (disch := omega) only [f_X9_turned, h1, pl_bd, pl_ob, pl_ob1, pl_obv, pl_oa, pl_oav, pl_cg, pl_cb0, pl_cb1, pl_nl0, pl_nls, li, nI_cl, pl_ck, nI_E, nI_L, nI_T, nI_add, pk_mul, nI_s1, Nat.zero_add, Nat.add_zero, Nat.reduceAdd, Nat.reduceMul, Nat.reduceSub, Nat.reduceEqDiff, Nat.reduceLeDiff, Nat.reduceLT, ↓reduceIte]
end OPS
