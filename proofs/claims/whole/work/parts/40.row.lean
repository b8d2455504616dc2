/-! row: entries by threes -/
theorem sb_sm {b : Nat} (h : b < 128) : sb_b b = nI b := fa_byte_small h
theorem sb_neg : ∀ b, b < 256 → 128 ≤ b → sb_b b < nI 0 := by decide +kernel
theorem sb_lies (N : Nat) {b m : Nat} (hb : b < 256) (hm : m < 128) : f_X9_lies N (sb_b b) (nI 0) (nI m) = some (nI (if b ≤ m then 1 else 0)) := by
  by_cases h : b ≤ m
  · rw [if_pos h, sb_sm (by omega), lies_n N (by omega) h (by omega)]
  · rw [if_neg h]
    unfold f_X9_lies
    by_cases h1 : b < 128
    · rw [sb_sm h1, if_neg (by rw [nI_T (by omega) (by omega)]; omega), if_pos (by rw [nI_T (by omega) (by omega)]; omega)]; rfl
    · rw [if_pos (sb_neg b hb (by omega))]; rfl
theorem sb_cell (N : Nat) {b : Nat} (hb : b < 256) : f_X9_isCell N (sb_b b) = some (nI (if b < 25 then 1 else 0)) := by
  have h9 : f_X9_isCell N (sb_b b) = ob1 (f_X9_lies N (sb_b b) (nI 0) (nI 24)) (fun r3 => cb r3 (some r3)) := rfl
  rw [h9, sb_lies N hb (by omega)]
  by_cases h : b < 25
  · rw [if_pos (by omega), if_pos h]; rfl
  · rw [if_neg (by omega), if_neg h]; rfl
theorem nI_cell (N : Nat) {b : Nat} (hb : b < 256) : f_X8_isCell N (nI b) = some (nI (if b < 25 then 1 else 0)) := by
  unfold f_X8_isCell
  by_cases h : b < 25
  · rw [if_neg (nI_pos (by omega)), lj 25, if_neg (by rw [nI_L (by omega) (by omega)]; omega), if_pos h]; rfl
  · rw [if_neg (nI_pos (by omega)), lj 25, if_pos (by rw [nI_L (by omega) (by omega)]; omega), if_neg h]; rfl
def rowP (V0 M0 : Vt) (n : Nat) (V M : Vt) (s : Nat) : Prop :=
  (V.2.2 = V0.2.2 ∧ (∀ h, h ≠ 2 → V.2.1 h = V0.2.1 h) ∧ (∀ h j, ¬ (h = 0 ∧ j = 16) → V.1 h j = V0.1 h j) ∧ V.1 0 16 = nI s) ∧
  (M.2.2 = M0.2.2 ∧ (∀ h, h ≠ 2 → M.2.1 h = M0.2.1 h) ∧ (∀ j, 25 ≤ j → M.2.1 2 j = M0.2.1 2 j) ∧ (∀ h j, ¬ (h = 0 ∧ j = 6) → M.1 h j = M0.1 h j) ∧ M.1 0 6 = nI (s + if n % 3 = 0 then 0 else 1)) ∧ bE (V.2.1 2) (M.2.1 2)
theorem sF_o (V : Vt) (h j : Nat) (x : Int32) (a b : Nat) (hh : ¬ (a = h ∧ b = j)) : (sF V h j x).1 a b = V.1 a b := by
  show up2 V.1 h j x a b = _
  simp only [up2]
  rw [if_neg hh]
theorem row_step {N n : Nat} (hn : n ≤ 400) {S : St} {V0 M0 : Vt} (hT : ∀ i, i < n → ∃ b : Nat, b < 256 ∧ V0.2.1 36 i = nI b ∧ M0.2.1 7 i = sb_b b) (e15 : V0.1 0 15 = nI n) {V M : Vt} {s t : Nat} (ht : 3 * t + 3 ≤ n) (c : Int32) (hP : rowP V0 M0 n V M s) : ∃ (V' M' : Vt) (s' : Nat) (c' : Int32), s' ≤ s + 1 ∧ rowP V0 M0 n V' M' s' ∧ (∀ k, f_X8_row_23 N S 0 (k + 1) V c (nI (3 * t)) = f_X8_row_23 N S 0 k V' c' (nI (3 * (t + 1)))) ∧ ∀ k, f_X9_row_40 N (k + 1) M (nI n) c (nI (3 * t)) = f_X9_row_40 N k M' (nI n) c' (nI (3 * (t + 1))) := by
  obtain ⟨⟨v1, v2, v3, v4⟩, ⟨m1, m2, m3, m4, m5⟩, hE⟩ := hP
  obtain ⟨b0, hb0, x0, y0⟩ := hT (3 * t) (by omega)
  obtain ⟨b1, hb1, x1, y1⟩ := hT (3 * t + 1) (by omega)
  obtain ⟨b2, hb2, x2, y2⟩ := hT (3 * t + 2) (by omega)
  have V36 : V.2.1 36 = V0.2.1 36 := v2 36 (by omega)
  have M7 : M.2.1 7 = M0.2.1 7 := m2 7 (by omega)
  have V15 : V.1 0 15 = nI n := by rw [v3 0 15 (by omega)]; exact e15
  have g1 : ¬ n ≤ 3 * t := by omega
  have g2 : ¬ n ≤ 3 * t + 2 := by omega
  have g3 : ¬ n < 3 * t + 3 := by omega
  have g4 : 3 * t + 3 = 3 * (t + 1) := by omega
  have g5 : ¬ n < 3 * (t + 1) := by omega
  by_cases ok : b0 < 25 ∧ b1 ≤ 9 ∧ b2 ≤ 99
  · obtain ⟨o0, o1, o2⟩ := ok
    refine ⟨sA V 2 b0 (nI (100 * b1 + b2)), sA M 2 b0 (nI (100 * b1 + b2)), s, c + nI 1, by omega, ⟨⟨v1, fun h hh => by rw [sA_n _ _ _ _ _ hh]; exact v2 h hh, v3, v4⟩, ⟨m1, fun h hh => by rw [sA_n _ _ _ _ _ hh]; exact m2 h hh, fun j hj => by rw [sA_e, upd_n _ _ _ _ (by omega)]; exact m3 j hj, m4, m5⟩, ?_⟩, fun k => ?_, fun k => ?_⟩
    · rw [sA_e, sA_e]
      intro i hi
      by_cases hib : i = b0
      · subst hib; rw [upd_e, upd_e]; exact ⟨rfl, _, by omega, rfl⟩
      · rw [upd_n _ _ _ _ hib, upd_n _ _ _ _ hib]; exact hE i hi
    · have p1 : ¬ 9 < b1 := by omega
      have p2 : ¬ 99 < b2 := by omega
      simp (disch := omega) only [f_X8_row_23, V15, g1, g2, V36, x0, x1, x2, nI_cell N hb0, o0, p1, p2, f_X8_row_129, g4, pl_bd, pl_ob, pl_ob1, pl_obv, pl_oa, pl_oav, pl_cg, pl_cb0, pl_cb1, pl_nl0, pl_nls, li, nI_cl, pl_ck, nI_E, nI_L, nI_T, nI_add, pk_mul, nI_s1, Nat.zero_add, Nat.add_zero, Nat.reduceAdd, Nat.reduceMul, Nat.reduceSub, Nat.reduceEqDiff, Nat.reduceLeDiff, Nat.reduceLT, ↓reduceIte]
    · have z0 : sb_b b0 = nI b0 := sb_sm (by omega)
      have z1 : sb_b b1 = nI b1 := sb_sm (by omega)
      have z2 : sb_b b2 = nI b2 := sb_sm (by omega)
      have q0 := sb_cell N hb0
      have q1 := sb_lies N hb1 (m := 9) (by omega)
      have q2 := sb_lies N hb2 (m := 99) (by omega)
      rw [if_pos o0, z0] at q0
      rw [if_pos o1, z1] at q1
      rw [if_pos o2, z2] at q2
      have w : nI (s + if n % 3 = 0 then 0 else 1) + nI 0 = nI (s + if n % 3 = 0 then 0 else 1) := by rw [nI_add]; rfl
      have w2 : (sA M 2 b0 (nI (100 * b1 + b2))).1 0 6 = nI (s + if n % 3 = 0 then 0 else 1) := m5
      have w3 : sF (sA M 2 b0 (nI (100 * b1 + b2))) 0 6 (nI (s + if n % 3 = 0 then 0 else 1)) = sA M 2 b0 (nI (100 * b1 + b2)) := by
        refine Prod.ext ?_ rfl
        funext a b
        by_cases hab : a = 0 ∧ b = 6
        · obtain ⟨rfl, rfl⟩ := hab
          rw [sF_e, upd_e]; exact m5.symm
        · rw [sF_o _ _ _ _ _ _ hab]
      simp (disch := omega) only [f_X9_row_40, g3, M7, y0, y1, y2, z0, z1, z2, q0, q1, q2, f_X9_row_98, f_X9_row_138, f_X9_row_149, f_X9_row_166, w2, w3, g4, g5, pl_bd, pl_ob, pl_ob1, pl_obv, pl_oa, pl_oav, pl_cg, pl_cb0, pl_cb1, pl_nl0, pl_nls, li, nI_cl, pl_ck, nI_E, nI_L, nI_T, nI_add, pk_mul, nI_s1, Nat.zero_add, Nat.add_zero, Nat.reduceAdd, Nat.reduceMul, Nat.reduceSub, Nat.reduceEqDiff, Nat.reduceLeDiff, Nat.reduceLT, ↓reduceIte]
  · refine ⟨sF V 0 16 (nI (s + 1)), sF M 0 6 (nI (s + 1 + if n % 3 = 0 then 0 else 1)), s + 1, c, by omega, ⟨⟨v1, v2, fun h j hh => by rw [sF_o _ _ _ _ _ _ hh]; exact v3 h j hh, by rw [sF_e, upd_e]⟩, ⟨m1, m2, m3, fun h j hh => by rw [sF_o _ _ _ _ _ _ hh]; exact m4 h j hh, by rw [sF_e, upd_e]⟩, hE⟩, fun k => ?_, fun k => ?_⟩
    · by_cases o0 : b0 < 25
      · by_cases o1 : b1 ≤ 9
        · have p1 : ¬ 9 < b1 := by omega
          have p2 : 99 < b2 := by omega
          simp (disch := omega) only [f_X8_row_23, V15, g1, g2, V36, x0, x1, x2, nI_cell N hb0, o0, p1, p2, f_X8_row_119, f_X8_row_129, v4, g4, pl_bd, pl_ob, pl_ob1, pl_obv, pl_oa, pl_oav, pl_cg, pl_cb0, pl_cb1, pl_nl0, pl_nls, li, nI_cl, pl_ck, nI_E, nI_L, nI_T, nI_add, pk_mul, nI_s1, Nat.zero_add, Nat.add_zero, Nat.reduceAdd, Nat.reduceMul, Nat.reduceSub, Nat.reduceEqDiff, Nat.reduceLeDiff, Nat.reduceLT, ↓reduceIte]
        · have p1 : 9 < b1 := by omega
          simp (disch := omega) only [f_X8_row_23, V15, g1, g2, V36, x0, x1, x2, nI_cell N hb0, o0, p1, f_X8_row_119, f_X8_row_129, v4, g4, pl_bd, pl_ob, pl_ob1, pl_obv, pl_oa, pl_oav, pl_cg, pl_cb0, pl_cb1, pl_nl0, pl_nls, li, nI_cl, pl_ck, nI_E, nI_L, nI_T, nI_add, pk_mul, nI_s1, Nat.zero_add, Nat.add_zero, Nat.reduceAdd, Nat.reduceMul, Nat.reduceSub, Nat.reduceEqDiff, Nat.reduceLeDiff, Nat.reduceLT, ↓reduceIte]
      · simp (disch := omega) only [f_X8_row_23, V15, g1, g2, V36, x0, x1, x2, nI_cell N hb0, o0, f_X8_row_119, f_X8_row_129, v4, g4, pl_bd, pl_ob, pl_ob1, pl_obv, pl_oa, pl_oav, pl_cg, pl_cb0, pl_cb1, pl_nl0, pl_nls, li, nI_cl, pl_ck, nI_E, nI_L, nI_T, nI_add, pk_mul, nI_s1, Nat.zero_add, Nat.add_zero, Nat.reduceAdd, Nat.reduceMul, Nat.reduceSub, Nat.reduceEqDiff, Nat.reduceLeDiff, Nat.reduceLT, ↓reduceIte]
    · have q0 := sb_cell N hb0
      have q1 := sb_lies N hb1 (m := 9) (by omega)
      have q2 := sb_lies N hb2 (m := 99) (by omega)
      have w : nI (s + if n % 3 = 0 then 0 else 1) + nI 1 = nI (s + 1 + if n % 3 = 0 then 0 else 1) := by rw [nI_add]; congr 1; omega
      have w0 : c + nI 0 = c := Int32.add_zero c
      have w9 : f_X9_row_97 N (f_X9_row_40 N k) M (nI n) c (nI (3 * t)) = f_X9_row_40 N k (sF M 0 6 (nI (s + 1 + if n % 3 = 0 then 0 else 1))) (nI n) c (nI (3 * (t + 1))) := by
        simp (disch := omega) only [f_X9_row_97, f_X9_row_98, f_X9_row_138, f_X9_row_149, f_X9_row_166, m5, w0, w, pl_bd, li, ↓reduceIte]
        rw [nI_add, g4]
      by_cases o0 : b0 < 25
      · rw [if_pos o0] at q0
        by_cases o1 : b1 ≤ 9
        · rw [if_pos o1] at q1
          rw [if_neg (by omega)] at q2
          simp (disch := omega) only [f_X9_row_40, g3, M7, y0, y1, y2, q0, q1, q2, pl_bd, pl_ob, pl_ob1, pl_obv, pl_oa, pl_oav, pl_cg, pl_cb0, pl_cb1, pl_nl0, pl_nls, li, nI_cl, pl_ck, nI_E, nI_L, nI_T, nI_add, pk_mul, nI_s1, Nat.zero_add, Nat.add_zero, Nat.reduceAdd, Nat.reduceMul, Nat.reduceSub, Nat.reduceEqDiff, Nat.reduceLeDiff, Nat.reduceLT, ↓reduceIte]
          exact w9
        · rw [if_neg o1] at q1
          simp (disch := omega) only [f_X9_row_40, g3, M7, y0, y1, y2, q0, q1, pl_bd, pl_ob, pl_ob1, pl_obv, pl_oa, pl_oav, pl_cg, pl_cb0, pl_cb1, pl_nl0, pl_nls, li, nI_cl, pl_ck, nI_E, nI_L, nI_T, nI_add, pk_mul, nI_s1, Nat.zero_add, Nat.add_zero, Nat.reduceAdd, Nat.reduceMul, Nat.reduceSub, Nat.reduceEqDiff, Nat.reduceLeDiff, Nat.reduceLT, ↓reduceIte]
          exact w9
      · rw [if_neg o0] at q0
        simp (disch := omega) only [f_X9_row_40, g3, M7, y0, y1, y2, q0, pl_bd, pl_ob, pl_ob1, pl_obv, pl_oa, pl_oav, pl_cg, pl_cb0, pl_cb1, pl_nl0, pl_nls, li, nI_cl, pl_ck, nI_E, nI_L, nI_T, nI_add, pk_mul, nI_s1, Nat.zero_add, Nat.add_zero, Nat.reduceAdd, Nat.reduceMul, Nat.reduceSub, Nat.reduceEqDiff, Nat.reduceLeDiff, Nat.reduceLT, ↓reduceIte]
        exact w9
theorem row_all {N n : Nat} (hn : n ≤ 400) {S : St} {V0 M0 : Vt} (hT : ∀ i, i < n → ∃ b : Nat, b < 256 ∧ V0.2.1 36 i = nI b ∧ M0.2.1 7 i = sb_b b) (e15 : V0.1 0 15 = nI n) : ∀ (k t : Nat) (V M : Vt) (s : Nat) (c : Int32), 3 * (t + k) ≤ n → s ≤ t → rowP V0 M0 n V M s → ∃ (V' M' : Vt) (s' : Nat) (c' : Int32), s' ≤ t + k ∧ rowP V0 M0 n V' M' s' ∧ (∀ j, f_X8_row_23 N S 0 (j + k) V c (nI (3 * t)) = f_X8_row_23 N S 0 j V' c' (nI (3 * (t + k)))) ∧ ∀ j, f_X9_row_40 N (j + k) M (nI n) c (nI (3 * t)) = f_X9_row_40 N j M' (nI n) c' (nI (3 * (t + k))) := by
  intro k
  induction k with
  | zero => intro t V M s c h1 h2 hP; exact ⟨V, M, s, c, h2, hP, fun _ => rfl, fun _ => rfl⟩
  | succ k ih =>
    intro t V M s c h1 h2 hP
    obtain ⟨V1, M1, s1, c1, a1, a2, a3, a4⟩ := row_step (S := S) hn hT e15 (t := t) (by omega) c hP
    obtain ⟨V2, M2, s2, c2, b1, b2, b3, b4⟩ := ih (t + 1) V1 M1 s1 c1 (by omega) (by omega) a2
    refine ⟨V2, M2, s2, c2, by omega, b2, fun j => ?_, fun j => ?_⟩
    · rw [show j + (k + 1) = j + k + 1 from rfl, a3, b3, show t + 1 + k = t + (k + 1) by omega]
    · rw [show j + (k + 1) = j + k + 1 from rfl, a4, b4, show t + 1 + k = t + (k + 1) by omega]
section OPS
variable {N b0 : Nat} {X : TxP}
theorem op_row (hN : 20000 ≤ N) : Op_row N b0 (Rel X b0) := by
  intro S V M hR _
  obtain ⟨n, hn, e1, e2, h3⟩ := hR.2.2.2.2.2.1
  have hTz : ∀ (V' M' : Vt), V'.1 0 15 = nI 0 → M'.1 0 13 = nI 0 → Tp (V'.1 0 15) (M'.1 0 13) (V'.2.1 36) (M'.2.1 7) := fun V' M' h1 h2 => ⟨0, by omega, h1, h2, fun i hi => absurd hi (Nat.not_lt_zero i)⟩
  by_cases h0 : n = 0
  · subst h0
    have m0 : sF M 0 13 (nI 0) = M := by
      refine Prod.ext ?_ rfl
      funext a b
      by_cases hab : a = 0 ∧ b = 13
      · obtain ⟨rfl, rfl⟩ := hab
        rw [sF_e, upd_e]; exact e2.symm
      · rw [sF_o _ _ _ _ _ _ hab]
    refine ⟨-6, rfX V 6, rfM M 6, ?_, ?_, Rel_ref hR 6 (by omega)⟩
    · simp (disch := omega) only [f_X8_row, e1, pl_bd, pl_ob, pl_ob1, pl_obv, pl_oa, pl_oav, pl_cg, pl_cb0, pl_cb1, pl_nl0, pl_nls, li, nI_cl, pl_ck, nI_E, nI_L, nI_T, nI_add, pk_mul, nI_s1, Nat.zero_add, Nat.add_zero, Nat.reduceAdd, Nat.reduceMul, Nat.reduceSub, Nat.reduceEqDiff, Nat.reduceLeDiff, Nat.reduceLT, ↓reduceIte]; rfl
    · simp (disch := omega) only [f_X9_row, e2, m0, pl_bd, pl_ob, pl_ob1, pl_obv, pl_oa, pl_oav, pl_cg, pl_cb0, pl_cb1, pl_nl0, pl_nls, li, nI_cl, pl_ck, nI_E, nI_L, nI_T, nI_add, pk_mul, nI_s1, Nat.zero_add, Nat.add_zero, Nat.reduceAdd, Nat.reduceMul, Nat.reduceSub, Nat.reduceEqDiff, Nat.reduceLeDiff, Nat.reduceLT, ↓reduceIte]; rfl
  · obtain ⟨V0, eV0⟩ : ∃ W, W = sF V 0 16 (nI 0) := ⟨_, rfl⟩
    obtain ⟨M0, eM0⟩ : ∃ W, W = sF (sF M 0 13 (nI 0)) 0 6 (nI (if n % 3 = 0 then 0 else 1)) := ⟨_, rfl⟩
    have e15 : V0.1 0 15 = nI n := by rw [eV0, sF_o _ _ _ _ _ _ (by omega)]; exact e1
    have hT : ∀ i, i < n → ∃ b : Nat, b < 256 ∧ V0.2.1 36 i = nI b ∧ M0.2.1 7 i = sb_b b := by rw [eV0, eM0]; exact h3
    have hP0 : rowP V0 M0 n V0 M0 0 := by
      refine ⟨⟨rfl, fun _ _ => rfl, fun _ _ _ => rfl, by rw [eV0, sF_e, upd_e]⟩, ⟨rfl, fun _ _ => rfl, fun _ _ => rfl, fun _ _ _ => rfl, by rw [eM0, sF_e, upd_e, Nat.zero_add]⟩, ?_⟩
      rw [eV0, eM0]; exact hR.2.1.1
    obtain ⟨V1, M1, s1, c1, a1, ⟨⟨v1, v2, v3, v4⟩, ⟨m1, m2, m3, m4, m5⟩, hE⟩, a3, a4⟩ := row_all (N := N) (S := S) hn hT e15 (n / 3) 0 V0 M0 0 (nI 0) (by omega) (by omega) hP0
    rw [Nat.zero_add] at a3 a4
    have hm : f_X9_row N M = some (c1, sF (sF M1 0 31 (nI 0)) 0 0 (nI 0)) := by
      have q : f_X9_row N M = f_X9_row_40 N N M0 (nI n) (nI 0) (nI 0) := by
        rw [eM0]
        have hr : n - n / 3 * 3 = n % 3 := by omega
        by_cases h3 : n % 3 = 0
        · simp (disch := omega) only [f_X9_row, e2, h0, pk_div, pk_sub, hr, h3, f_X9_row_35, if_true, pl_bd, pl_ob, pl_ob1, pl_obv, pl_oa, pl_oav, pl_cg, pl_cb0, pl_cb1, pl_nl0, pl_nls, li, nI_cl, pl_ck, nI_E, nI_L, nI_T, nI_add, pk_mul, nI_s1, Nat.zero_add, Nat.add_zero, Nat.reduceAdd, Nat.reduceMul, Nat.reduceSub, Nat.reduceEqDiff, Nat.reduceLeDiff, Nat.reduceLT, ↓reduceIte]
        · simp (disch := omega) only [f_X9_row, e2, h0, pk_div, pk_sub, hr, h3, f_X9_row_35, if_false, pl_bd, pl_ob, pl_ob1, pl_obv, pl_oa, pl_oav, pl_cg, pl_cb0, pl_cb1, pl_nl0, pl_nls, li, nI_cl, pl_ck, nI_E, nI_L, nI_T, nI_add, pk_mul, nI_s1, Nat.zero_add, Nat.add_zero, Nat.reduceAdd, Nat.reduceMul, Nat.reduceSub, Nat.reduceEqDiff, Nat.reduceLeDiff, Nat.reduceLT, ↓reduceIte]
      obtain ⟨j, ej⟩ : ∃ j, N = j + 1 + n / 3 := ⟨N - 1 - n / 3, by omega⟩
      rw [q]
      have q2 := a4 (j + 1)
      rw [← ej] at q2
      have g : n < 3 * (n / 3) + 3 := by omega
      rw [show nI 0 = nI (3 * 0) from rfl]
      rw [q2]
      simp (disch := omega) only [f_X9_row_40, g, m_goodAnew, pl_bd, pl_ob, pl_ob1, pl_obv, pl_oa, pl_oav, pl_cg, pl_cb0, pl_cb1, pl_nl0, pl_nls, li, nI_cl, pl_ck, nI_E, nI_L, nI_T, nI_add, pk_mul, nI_s1, Nat.zero_add, Nat.add_zero, Nat.reduceAdd, Nat.reduceMul, Nat.reduceSub, Nat.reduceEqDiff, Nat.reduceLeDiff, Nat.reduceLT, ↓reduceIte]
    -- the class: the last piece
    have V15 : V1.1 0 15 = nI n := by rw [v3 0 15 (by omega)]; exact e15
    have hx0 : f_X8_row N S V 0 = f_X8_row_23 N S 0 N V0 (nI 0) (nI 0) := by
      rw [eV0]
      simp (disch := omega) only [f_X8_row, e1, h0, pl_bd, pl_ob, pl_ob1, pl_obv, pl_oa, pl_oav, pl_cg, pl_cb0, pl_cb1, pl_nl0, pl_nls, li, nI_cl, pl_ck, nI_E, nI_L, nI_T, nI_add, pk_mul, nI_s1, Nat.zero_add, Nat.add_zero, Nat.reduceAdd, Nat.reduceMul, Nat.reduceSub, Nat.reduceEqDiff, Nat.reduceLeDiff, Nat.reduceLT, ↓reduceIte]
    obtain ⟨V2, hx, u1, u2, u3, u4⟩ : ∃ V2 : Vt, f_X8_row N S V 0 = some (c1, sF (sF (sF V2 0 15 (nI 0)) 32 1 (nI 0)) 0 18 (nI 0)) ∧ V2.2.2 = V0.2.2 ∧ V2.2.1 = V1.2.1 ∧ (∀ h j, ¬ (h = 0 ∧ j = 16) → V2.1 h j = V0.1 h j) ∧ V2.1 0 16 = nI (s1 + if n % 3 = 0 then 0 else 1) := by
      by_cases h3 : n % 3 = 0
      · refine ⟨V1, ?_, v1, rfl, v3, by rw [if_pos h3]; exact v4⟩
        obtain ⟨j, ej⟩ : ∃ j, N = j + 1 + n / 3 := ⟨N - 1 - n / 3, by omega⟩
        have q2 := a3 (j + 1)
        rw [← ej] at q2
        have g : n ≤ 3 * (n / 3) := by omega
        rw [hx0]
        show f_X8_row_23 N S 0 N V0 (nI 0) (nI (3 * 0)) = _
        rw [q2]
        simp (disch := omega) only [f_X8_row_23, V15, g, x_clear, x_granted, pl_bd, pl_ob, pl_ob1, pl_obv, pl_oa, pl_oav, pl_cg, pl_cb0, pl_cb1, pl_nl0, pl_nls, li, nI_cl, pl_ck, nI_E, nI_L, nI_T, nI_add, pk_mul, nI_s1, Nat.zero_add, Nat.add_zero, Nat.reduceAdd, Nat.reduceMul, Nat.reduceSub, Nat.reduceEqDiff, Nat.reduceLeDiff, Nat.reduceLT, ↓reduceIte]
      · refine ⟨sF V1 0 16 (nI (s1 + 1)), ?_, v1, rfl, fun h j hh => by rw [sF_o _ _ _ _ _ _ hh]; exact v3 h j hh, by rw [if_neg h3, sF_e, upd_e]⟩
        obtain ⟨j, ej⟩ : ∃ j, N = j + 1 + 1 + n / 3 := ⟨N - 2 - n / 3, by omega⟩
        have q2 := a3 (j + 1 + 1)
        rw [← ej] at q2
        have g : ¬ n ≤ 3 * (n / 3) := by omega
        have g2 : n ≤ 3 * (n / 3) + 2 := by omega
        have g3 : n ≤ 3 * (n / 3) + 3 := by omega
        have W15 : (sF V1 0 16 (nI (s1 + 1))).1 0 15 = nI n := by rw [sF_o _ _ _ _ _ _ (by omega)]; exact V15
        rw [hx0]
        show f_X8_row_23 N S 0 N V0 (nI 0) (nI (3 * 0)) = _
        rw [q2]
        have q3 : f_X8_row_23 N S 0 (j + 1 + 1) V1 c1 (nI (3 * (n / 3))) = f_X8_row_23 N S 0 (j + 1) (sF V1 0 16 (nI (s1 + 1))) c1 (nI (3 * (n / 3) + 3)) := by
          rw [f_X8_row_23]
          simp (disch := omega) only [V15, g, g2, f_X8_row_119, f_X8_row_129, v4, pl_bd, pl_ob, pl_ob1, pl_obv, pl_oa, pl_oav, pl_cg, pl_cb0, pl_cb1, pl_nl0, pl_nls, li, nI_cl, pl_ck, nI_E, nI_L, nI_T, nI_add, pk_mul, nI_s1, Nat.zero_add, Nat.add_zero, Nat.reduceAdd, Nat.reduceMul, Nat.reduceSub, Nat.reduceEqDiff, Nat.reduceLeDiff, Nat.reduceLT, ↓reduceIte]
        rw [q3]
        simp (disch := omega) only [f_X8_row_23, W15, g3, x_clear, x_granted, pl_bd, pl_ob, pl_ob1, pl_obv, pl_oa, pl_oav, pl_cg, pl_cb0, pl_cb1, pl_nl0, pl_nls, li, nI_cl, pl_ck, nI_E, nI_L, nI_T, nI_add, pk_mul, nI_s1, Nat.zero_add, Nat.add_zero, Nat.reduceAdd, Nat.reduceMul, Nat.reduceSub, Nat.reduceEqDiff, Nat.reduceLeDiff, Nat.reduceLT, ↓reduceIte]
    refine ⟨_, _, _, hx, hm, ?_⟩
    have va : ∀ h, h ≠ 2 → V2.2.1 h = V.2.1 h := fun h hh => by rw [u2, v2 h hh, eV0]; rfl
    have vf : ∀ h, h ≠ 0 → V2.1 h = V.1 h := fun h hh => funext fun j => by rw [u3 h j (by omega), eV0, sF_o _ _ _ _ _ _ (by omega)]
    have vr : V2.2.2.2 = V.2.2.2 := by
      have : V2.2.2 = V.2.2 := u1.trans (by rw [eV0]; rfl)
      exact congrArg Prod.snd this
    have ma : ∀ h, h ≠ 2 → M1.2.1 h = M.2.1 h := fun h hh => by rw [m2 h hh, eM0]; rfl
    have mf : ∀ j, j ≠ 6 → j ≠ 13 → M1.1 0 j = M.1 0 j := fun j h6 h13 => by rw [m4 0 j (by omega), eM0, sF_o _ _ _ _ _ _ (by omega), sF_o _ _ _ _ _ _ (by omega)]
    have mk : ∀ j, 25 ≤ j → M1.2.1 2 j = M.2.1 2 j := fun j hj => by rw [m3 j hj, eM0]; rfl
    have m13 : M1.1 0 13 = nI 0 := by rw [m4 0 13 (by omega), eM0, sF_o _ _ _ _ _ _ (by omega), sF_e, upd_e]
    obtain ⟨V3, eV3⟩ : ∃ W, W = sF (sF (sF V2 0 15 (nI 0)) 32 1 (nI 0)) 0 18 (nI 0) := ⟨_, rfl⟩
    obtain ⟨M3, eM3⟩ : ∃ W, W = sF (sF M1 0 31 (nI 0)) 0 0 (nI 0) := ⟨_, rfl⟩
    rw [← eV3, ← eM3]
    have wa : ∀ h, h ≠ 2 → V3.2.1 h = V.2.1 h := fun h hh => by rw [eV3]; exact va h hh
    have wf : ∀ h, h ≠ 0 → h ≠ 32 → V3.1 h = V.1 h := fun h h0 h32 => by
      rw [eV3, sF_n _ _ _ _ _ h0, sF_n _ _ _ _ _ h32, sF_n _ _ _ _ _ h0]; exact vf h h0
    have wr : V3.2.2.2 = V.2.2.2 := by rw [eV3]; exact vr
    have na : ∀ h, h ≠ 2 → M3.2.1 h = M.2.1 h := fun h hh => by rw [eM3]; exact ma h hh
    have nk : ∀ j, 25 ≤ j → M3.2.1 2 j = M.2.1 2 j := fun j hj => by rw [eM3]; exact mk j hj
    have nE : bE (V3.2.1 2) (M3.2.1 2) := by
      rw [eV3, eM3]
      show bE (V2.2.1 2) (M1.2.1 2)
      rw [u2]; exact hE
    refine Rel_of hR (fun h hh => ⟨wf h (by omega) (by omega), wa h (by omega), by rw [wr]⟩) (by rw [wr]) (by rw [wr]) (na 3 (by omega)) (na 4 (by omega)) (by rw [wf 1 (by omega) (by omega)]) (by rw [wf 1 (by omega) (by omega)]) (fun j h1 h2 => nk j (by omega)) (na 6 (by omega)) ?_ ?_ ?_ ?_ ?_ ?_
    · rw [wf 1 (by omega) (by omega), wa 3 (by omega), wa 4 (by omega), wa 5 (by omega), wa 6 (by omega), wa 7 (by omega), wa 9 (by omega), wa 10 (by omega)]
      obtain ⟨b1, b2, b3, b4, b5, b6, b7, b8, b9⟩ := hR.2.1
      exact ⟨nE, bF_c (nk _ (by omega)) b2, bS_c (fun i hi => nk _ (by omega)) b3, bK_c (fun i hi => nk _ (by omega)) b4, bH_c (fun i hi => nk _ (by omega)) b5, bT_c (nk _ (by omega)) (nk _ (by omega)) (nk _ (by omega)) b6, bZ_c (fun i hi => nk _ (by omega)) (nk _ (by omega)) b7, bP_c (fun i hi => nk _ (by omega)) (nk _ (by omega)) b8, bC_c (nk _ (by omega)) b9⟩
    · have q1 : V3.1 32 1 = nI 0 := by rw [eV3, sF_n _ _ _ _ _ (by omega), sF_e, upd_e]
      have q2 : M3.1 0 31 = nI 0 := by rw [eM3, sF_o _ _ _ _ _ _ (by omega), sF_e, upd_e]
      rw [q1, q2]; exact Dd_0 _ _ _
    · refine hTz V3 M3 ?_ ?_
      · rw [eV3, sF_o _ _ _ _ _ _ (by omega), sF_o _ _ _ _ _ _ (by omega), sF_e, upd_e]
      · rw [eM3, sF_o _ _ _ _ _ _ (by omega), sF_o _ _ _ _ _ _ (by omega)]; exact m13
    · have q1 : V3.1 0 18 = nI 0 := by rw [eV3, sF_e, upd_e]
      have q2 : M3.1 0 0 = nI 0 := by rw [eM3, sF_e, upd_e]
      rw [q1, q2, wa 63 (by omega), na 1 (by omega)]; exact ⟨rfl, hR.2.2.2.2.2.2.1.2⟩
    · have q2 : M3.1 0 48 = M.1 0 48 := by rw [eM3, sF_o _ _ _ _ _ _ (by omega), sF_o _ _ _ _ _ _ (by omega)]; exact mf 48 (by omega) (by omega)
      rw [wf 22 (by omega) (by omega), q2, wa 23 (by omega), wa 27 (by omega), na 24 (by omega)]; exact hR.2.2.2.2.2.2.2.1
    · have q1 : V3.1 0 16 = nI (s1 + if n % 3 = 0 then 0 else 1) := by rw [eV3, sF_o _ _ _ _ _ _ (by omega), sF_o _ _ _ _ _ _ (by omega), sF_o _ _ _ _ _ _ (by omega)]; exact u4
      have q2 : M3.1 0 6 = nI (s1 + if n % 3 = 0 then 0 else 1) := by rw [eM3, sF_o _ _ _ _ _ _ (by omega), sF_o _ _ _ _ _ _ (by omega)]; exact m5
      have q3 : V3.1 0 17 = V.1 0 17 := by rw [eV3, sF_o _ _ _ _ _ _ (by omega), sF_o _ _ _ _ _ _ (by omega), sF_o _ _ _ _ _ _ (by omega), u3 0 17 (by omega), eV0, sF_o _ _ _ _ _ _ (by omega)]
      have q4 : M3.1 0 40 = M.1 0 40 := by rw [eM3, sF_o _ _ _ _ _ _ (by omega), sF_o _ _ _ _ _ _ (by omega)]; exact mf 40 (by omega) (by omega)
      have q5 : M3.1 0 14 = M.1 0 14 := by rw [eM3, sF_o _ _ _ _ _ _ (by omega), sF_o _ _ _ _ _ _ (by omega)]; exact mf 14 (by omega) (by omega)
      rw [q1, q2, q3, q4, wf 37 (by omega) (by omega), q5]
      exact ⟨rfl, hR.2.2.2.2.2.2.2.2.1.2.1, hR.2.2.2.2.2.2.2.2.1.2.2⟩
end OPS
