/-! books copied -/
def cp0 (f g : Nat → Int32) (n : Nat) : Nat → Int32 := va_cpy f g 0 0 n
theorem cp0_in {f g : Nat → Int32} {n i : Nat} (h : i < n) : cp0 f g n i = f i := by
  unfold cp0 va_cpy
  rw [if_pos (by omega)]; congr 1; omega
def bkS (V : Vt) (o a : Nat) : Vt := pA (pA (pA (pA (pA (pA (pA (pA V (o + 1) (cp0 (V.2.1 (a + 1)) (V.2.1 (o + 1)) 25)) (o + 2) (cp0 (V.2.1 (a + 2)) (V.2.1 (o + 2)) 25)) (o + 3) (cp0 (V.2.1 (a + 3)) (V.2.1 (o + 3)) 10)) (o + 4) (cp0 (V.2.1 (a + 4)) (V.2.1 (o + 4)) 5)) (o + 5) (cp0 (V.2.1 (a + 5)) (V.2.1 (o + 5)) 5)) (o + 6) (cp0 (V.2.1 (a + 6)) (V.2.1 (o + 6)) 3)) (o + 8) (cp0 (V.2.1 (a + 8)) (V.2.1 (o + 8)) 24)) (o + 9) (cp0 (V.2.1 (a + 9)) (V.2.1 (o + 9)) 30)
theorem x_cpa {N : Nat} (S : St) (V : Vt) (o a : Nat) (hd : o + 10 ≤ a ∨ a + 10 ≤ o) : f_X0_copyFrom N S V o a = f_X0_copyFrom_119 N S o a N (bkS V o a) (nI 0) := by
  have c25 : cpB (nI 0) (nI 0) (nI 25) 25 25 = true := rfl
  have c10 : cpB (nI 0) (nI 0) (nI 10) 10 10 = true := rfl
  have c5 : cpB (nI 0) (nI 0) (nI 5) 5 5 = true := rfl
  have c3 : cpB (nI 0) (nI 0) (nI 3) 3 3 = true := rfl
  have c24 : cpB (nI 0) (nI 0) (nI 24) 24 24 = true := rfl
  have c30 : cpB (nI 0) (nI 0) (nI 30) 30 30 = true := rfl
  have sv : ∀ (V : Vt) (h : Nat) (f : Nat → Int32), sC V h f = pA V h f := fun V h f => rfl
  have cq : ∀ (f g : Nat → Int32) (n : Nat), va_cpy f g 0 0 n = cp0 f g n := fun _ _ _ => rfl
  unfold f_X0_copyFrom bkS
  simp (disch := omega) only [c25, c10, c5, c3, c24, c30, sv, cq, pA_n, pl_bd, pl_ob, pl_ob1, pl_obv, pl_oa, pl_oav, pl_cg, pl_cb0, pl_cb1, pl_nl0, pl_nls, li, nI_cl, pl_ck, nI_E, nI_L, nI_T, nI_add, pk_mul, nI_s1, Nat.zero_add, Nat.add_zero, Nat.reduceAdd, Nat.reduceMul, Nat.reduceSub, Nat.reduceEqDiff, Nat.reduceLeDiff, Nat.reduceLT, ↓reduceIte]
theorem sR_1 (V : Vt) (h j x : Nat) : (sR V h j x).1 = V.1 ∧ (sR V h j x).2.1 = V.2.1 ∧ (sR V h j x).2.2.1 = V.2.2.1 := ⟨rfl, rfl, rfl⟩
theorem sR_e (V : Vt) (h j x k : Nat) : (sR V h j x).2.2.2 h k = if k = j then x else V.2.2.2 h k := by
  show up2 V.2.2.2 h j x h k = _
  unfold up2
  by_cases hk : k = j
  · rw [if_pos ⟨rfl, hk⟩, if_pos hk]
  · rw [if_neg (fun q => hk q.2), if_neg hk]
theorem sR_n (V : Vt) (h j x g : Nat) (hg : g ≠ h) : (sR V h j x).2.2.2 g = V.2.2.2 g := by
  funext k
  show up2 V.2.2.2 h j x g k = _
  unfold up2
  rw [if_neg (fun q => hg q.1)]
theorem x_copy {N : Nat} (hN : 20000 ≤ N) (S : St) (V : Vt) (o a : Nat) (hd : o + 10 ≤ a ∨ a + 10 ≤ o) (hl : ∀ i, i < 6 → V.2.2.2 (a + 7) i = 0 ∨ ∃ q, V.2.2.2 (a + 7) i = q + 1 ∧ tshB S q = true) : ∃ V', f_X0_copyFrom N S V o a = some V' ∧ (∀ h, (h < o ∨ o + 10 ≤ h) → V'.1 h = V.1 h ∧ V'.2.1 h = V.2.1 h ∧ V'.2.2.2 h = V.2.2.2 h) ∧ (V'.1 o 9 = V.1 a 9 ∧ V'.1 o 10 = V.1 a 10 ∧ V'.1 o 11 = V.1 a 11 ∧ V'.1 o 12 = V.1 a 12 ∧ V'.1 o 13 = V.1 a 13) ∧ (∀ g, V'.2.1 g = (bkS V o a).2.1 g) ∧ ∀ i, i < 6 → V'.2.2.2 (o + 7) i = V.2.2.2 (a + 7) i := by
  obtain ⟨W, ⟨w1, w2, w3, w4, w5⟩, n, en⟩ := lpN N (fun n W i => f_X0_copyFrom_119 N S o a n W i) 6 (fun i W => W.1 = V.1 ∧ W.2.1 = (bkS V o a).2.1 ∧ (∀ h, h ≠ o + 7 → W.2.2.2 h = V.2.2.2 h) ∧ (∀ k, k < i → W.2.2.2 (o + 7) k = V.2.2.2 (a + 7) k) ∧ True) (by
    intro i W hi ⟨w1, w2, w3, w4, _⟩
    have h6 : ¬ 6 ≤ i := by omega
    have ra : W.2.2.2 (a + 7) i = V.2.2.2 (a + 7) i := by rw [w3 (a + 7) (by omega)]
    refine ⟨sR W (o + 7) i (V.2.2.2 (a + 7) i), ⟨w1, w2, fun h hh => by rw [sR_n _ _ _ _ _ hh]; exact w3 h hh, fun k hk => ?_, trivial⟩, fun n => ?_⟩
    · rw [sR_e]
      by_cases hki : k = i
      · rw [if_pos hki, hki]
      · rw [if_neg hki]; exact w4 k (by omega)
    · rw [f_X0_copyFrom_119]
      rcases hl i hi with h | ⟨q, h, ht⟩
      · simp (disch := omega) only [h6, ra, h, pl_bd, pl_ob, pl_ob1, pl_obv, pl_oa, pl_oav, pl_cg, pl_cb0, pl_cb1, pl_nl0, pl_nls, li, nI_cl, pl_ck, nI_E, nI_L, nI_T, nI_add, pk_mul, nI_s1, Nat.zero_add, Nat.add_zero, Nat.reduceAdd, Nat.reduceMul, Nat.reduceSub, Nat.reduceEqDiff, Nat.reduceLeDiff, Nat.reduceLT, ↓reduceIte]
      · simp (disch := omega) only [h6, ra, h, ht, pl_bd, pl_ob, pl_ob1, pl_obv, pl_oa, pl_oav, pl_cg, pl_cb0, pl_cb1, pl_nl0, pl_nls, li, nI_cl, pl_ck, nI_E, nI_L, nI_T, nI_add, pk_mul, nI_s1, Nat.zero_add, Nat.add_zero, Nat.reduceAdd, Nat.reduceMul, Nat.reduceSub, Nat.reduceEqDiff, Nat.reduceLeDiff, Nat.reduceLT, ↓reduceIte]) (bkS V o a) (by omega) ⟨rfl, rfl, fun _ _ => rfl, fun k hk => absurd hk (Nat.not_lt_zero k), trivial⟩
  refine ⟨sF (sF (sF (sF (sF W o 9 (V.1 a 9)) o 10 (V.1 a 10)) o 11 (V.1 a 11)) o 12 (V.1 a 12)) o 13 (V.1 a 13), ?_, fun h hh => ⟨?_, ?_, ?_⟩, ?_, fun g => ?_, fun i hi => w4 i hi⟩
  · have hao : a ≠ o := by omega
    have k9 : ∀ (W' : Vt) (j k : Nat) (x : Int32), (sF W' o j x).1 a k = W'.1 a k := fun W' j k x => by rw [sF_n _ _ _ _ _ hao]
    rw [x_cpa S V o a hd, en, f_X0_copyFrom_119]
    simp (disch := omega) only [k9, w1, pl_bd, pl_ob, pl_ob1, pl_obv, pl_oa, pl_oav, pl_cg, pl_cb0, pl_cb1, pl_nl0, pl_nls, li, nI_cl, pl_ck, nI_E, nI_L, nI_T, nI_add, pk_mul, nI_s1, Nat.zero_add, Nat.add_zero, Nat.reduceAdd, Nat.reduceMul, Nat.reduceSub, Nat.reduceEqDiff, Nat.reduceLeDiff, Nat.reduceLT, ↓reduceIte]
  · simp (disch := omega) only [sF_n]
    rw [w1]
  · show W.2.1 h = _
    rw [w2]
    unfold bkS
    simp (disch := omega) only [pA_n]
  · show W.2.2.2 h = _
    rw [w3 h (by omega)]
  · simp (disch := omega) only [sF_e, upd_e, upd_n, and_self]
  · show W.2.1 g = _
    rw [w2]
theorem bkS_a (V : Vt) (o a : Nat) : (∀ i, i < 25 → (bkS V o a).2.1 (o + 1) i = V.2.1 (a + 1) i) ∧ (∀ i, i < 25 → (bkS V o a).2.1 (o + 2) i = V.2.1 (a + 2) i) ∧ (∀ i, i < 10 → (bkS V o a).2.1 (o + 3) i = V.2.1 (a + 3) i) ∧ (∀ i, i < 5 → (bkS V o a).2.1 (o + 4) i = V.2.1 (a + 4) i) ∧ (∀ i, i < 5 → (bkS V o a).2.1 (o + 5) i = V.2.1 (a + 5) i) ∧ (∀ i, i < 3 → (bkS V o a).2.1 (o + 6) i = V.2.1 (a + 6) i) ∧ (∀ i, i < 24 → (bkS V o a).2.1 (o + 8) i = V.2.1 (a + 8) i) ∧ ∀ i, i < 30 → (bkS V o a).2.1 (o + 9) i = V.2.1 (a + 9) i := by
  unfold bkS
  refine ⟨fun i hi => ?_, fun i hi => ?_, fun i hi => ?_, fun i hi => ?_, fun i hi => ?_, fun i hi => ?_, fun i hi => ?_, fun i hi => ?_⟩
  all_goals (simp (disch := omega) only [pA_n, pA_e]; exact cp0_in hi)
theorem BkA_v {f e fe su ke ha te si pa f' e' fe' su' ke' ha' te' si' pa' K : Nat → Int32} (h12 : f' 12 = f 12) (h13 : f' 13 = f 13) (h9 : f' 9 = f 9) (h1 : ∀ i, i < 25 → e' i = e i) (h2 : ∀ i, i < 25 → fe' i = fe i) (h3 : ∀ i, i < 10 → su' i = su i) (h4 : ∀ i, i < 5 → ke' i = ke i) (h5 : ∀ i, i < 5 → ha' i = ha i) (h6 : ∀ i, i < 3 → te' i = te i) (h7 : ∀ i, i < 24 → si' i = si i) (h8 : ∀ i, i < 30 → pa' i = pa i) (b : BkA f e fe su ke ha te si pa K) : BkA f' e' fe' su' ke' ha' te' si' pa' K := by
  obtain ⟨b1, ⟨F, hF, eF, hf⟩, b3, b4, b5, ⟨⟨t0, t1⟩, ⟨t2, t3⟩, t4, t5⟩, ⟨z1, z2⟩, ⟨p1, p2⟩, b9⟩ := b
  refine ⟨fun i hi => by rw [h1 i hi]; exact b1 i hi, ⟨F, hF, eF, fun i hi => by rw [h2 i hi]; exact hf i hi⟩, fun i hi => by rw [h3 i hi]; exact b3 i hi, fun i hi => by rw [h4 i hi]; exact b4 i hi, fun i hi => by rw [h5 i hi]; exact b5 i hi, ⟨⟨by rw [h6 0 (by omega)]; exact t0, t1⟩, ⟨by rw [h6 1 (by omega)]; exact t2, t3⟩, by rw [h6 2 (by omega)]; exact t4, t5⟩, ⟨fun i hi => by rw [h7 i hi]; exact z1 i hi, by rw [h12]; exact z2⟩, ⟨fun i hi => by rw [h8 i hi]; exact p1 i hi, by rw [h13]; exact p2⟩, by rw [h9]; exact b9⟩
