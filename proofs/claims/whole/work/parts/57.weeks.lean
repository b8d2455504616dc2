section
/-! weeks by draws -/
theorem m_lays {N : Nat} (hN : 20000 ≤ N) (M : Vt) (k : Nat) (hk : k ≤ 1) : ∃ f : Nat → Int32, f_X9_laysAside N M (nI k) = some (pA M 5 f) ∧ (∀ i, i < 32 → f (32 * k + i) = M.2.1 2 i) := by
  obtain ⟨g, g1, n, en⟩ := lpN N (fun n (f : Nat → Int32) i => f_X9_laysAside_2 N n (pA M 5 f) (nI k) i) 32 (fun i f => ∀ j, j < i → f (32 * k + j) = M.2.1 2 j) (by
    intro i f hi h1
    refine ⟨upd f (32 * k + i) (M.2.1 2 i), fun j hj => ?_, fun n => ?_⟩
    · by_cases hji : j = i
      · subst hji; rw [upd_e]
      · rw [upd_n _ _ _ _ (by omega)]; exact h1 j (by omega)
    · have h32 : ¬ 32 ≤ i := by omega
      have k2 : (pA M 5 f).2.1 2 i = M.2.1 2 i := rfl
      rw [f_X9_laysAside_2]
      simp (disch := omega) only [h32, k2, sA_pAe, ↓pl_bd, pl_ob, pl_ob1, pl_obv, pl_oa, pl_oav, pl_cg, pl_cb0, pl_cb1, pl_nl0, pl_nls, li, nI_cl, pl_ck, nI_E, nI_L, nI_T, nI_add, pk_mul, Nat.zero_add, Nat.add_zero, Nat.reduceAdd, Nat.reduceMul, Nat.reduceSub, Nat.reduceEqDiff, Nat.reduceLeDiff, Nat.reduceLT, ↓reduceIte]) (M.2.1 5) (by omega) (fun k hk => absurd hk (Nat.not_lt_zero k))
  refine ⟨g, ?_, g1⟩
  unfold f_X9_laysAside
  have e0 : f_X9_laysAside_2 N N M (nI k) (nI 0) = f_X9_laysAside_2 N N (pA M 5 (M.2.1 5)) (nI k) (nI 0) := by rw [pA_self]
  rw [show (0 : Int32) = nI 0 from rfl, e0, en, f_X9_laysAside_2]
  simp (disch := omega) only [↓pl_bd, pl_ob, pl_ob1, pl_obv, pl_oa, pl_oav, pl_cg, pl_cb0, pl_cb1, pl_nl0, pl_nls, li, nI_cl, pl_ck, nI_E, nI_L, nI_T, nI_add, pk_mul, Nat.zero_add, Nat.add_zero, Nat.reduceAdd, Nat.reduceMul, Nat.reduceSub, Nat.reduceEqDiff, Nat.reduceLeDiff, Nat.reduceLT, ↓reduceIte]
theorem m_tback {N : Nat} (hN : 20000 ≤ N) (M : Vt) (k : Nat) (hk : k ≤ 1) : ∃ f : Nat → Int32, f_X9_takesBack N M (nI k) = some (pA M 2 f) ∧ (∀ i, i < 32 → f i = M.2.1 5 (32 * k + i)) ∧ ∀ j, 32 ≤ j → f j = M.2.1 2 j := by
  obtain ⟨g, ⟨g1, g2⟩, n, en⟩ := lpN N (fun n (f : Nat → Int32) i => f_X9_takesBack_2 N n (pA M 2 f) (nI k) i) 32 (fun i f => (∀ j, j < i → f j = M.2.1 5 (32 * k + j)) ∧ ∀ j, 32 ≤ j → f j = M.2.1 2 j) (by
    intro i f hi ⟨h1, h2⟩
    refine ⟨upd f i (M.2.1 5 (32 * k + i)), ⟨fun j hj => ?_, fun j hj => ?_⟩, fun n => ?_⟩
    · by_cases hji : j = i
      · subst hji; rw [upd_e]
      · rw [upd_n _ _ _ _ (by omega)]; exact h1 j (by omega)
    · rw [upd_n _ _ _ _ (by omega)]; exact h2 j hj
    · have h32 : ¬ 32 ≤ i := by omega
      have k2 : (pA M 2 f).2.1 5 (32 * k + i) = M.2.1 5 (32 * k + i) := rfl
      rw [f_X9_takesBack_2]
      simp (disch := omega) only [h32, k2, sA_pAe, ↓pl_bd, pl_ob, pl_ob1, pl_obv, pl_oa, pl_oav, pl_cg, pl_cb0, pl_cb1, pl_nl0, pl_nls, li, nI_cl, pl_ck, nI_E, nI_L, nI_T, nI_add, pk_mul, Nat.zero_add, Nat.add_zero, Nat.reduceAdd, Nat.reduceMul, Nat.reduceSub, Nat.reduceEqDiff, Nat.reduceLeDiff, Nat.reduceLT, ↓reduceIte]) (M.2.1 2) (by omega) ⟨fun k hk => absurd hk (Nat.not_lt_zero k), fun _ _ => rfl⟩
  refine ⟨g, ?_, g1, g2⟩
  unfold f_X9_takesBack
  have e0 : f_X9_takesBack_2 N N M (nI k) (nI 0) = f_X9_takesBack_2 N N (pA M 2 (M.2.1 2)) (nI k) (nI 0) := by rw [pA_self]
  rw [show (0 : Int32) = nI 0 from rfl, e0, en, f_X9_takesBack_2]
  simp (disch := omega) only [↓pl_bd, pl_ob, pl_ob1, pl_obv, pl_oa, pl_oav, pl_cg, pl_cb0, pl_cb1, pl_nl0, pl_nls, li, nI_cl, pl_ck, nI_E, nI_L, nI_T, nI_add, pk_mul, Nat.zero_add, Nat.add_zero, Nat.reduceAdd, Nat.reduceMul, Nat.reduceSub, Nat.reduceEqDiff, Nat.reduceLeDiff, Nat.reduceLT, ↓reduceIte]
theorem m_w104 {N : Nat} (hN : 20000 ≤ N) (M : Vt) (x : Int32) : ∃ f : Nat → Int32, f_X9_weeks_101 N M x = obv (f_X9_takesBack N (pA M 24 f) (nI 0)) (fun V55 => ob (f_X9_good N V55 x) (fun r56 V58 => some (r56, V58))) ∧ ∀ i, i < 32 → f i = M.2.1 2 i := by
  obtain ⟨g, g1, n, en⟩ := lpN N (fun n (f : Nat → Int32) i => f_X9_weeks_104 N n (pA M 24 f) x i) 32 (fun i f => ∀ j, j < i → f j = M.2.1 2 j) (by
    intro i f hi h1
    refine ⟨upd f i (M.2.1 2 i), fun j hj => ?_, fun n => ?_⟩
    · by_cases hji : j = i
      · subst hji; rw [upd_e]
      · rw [upd_n _ _ _ _ (by omega)]; exact h1 j (by omega)
    · have h32 : ¬ 32 ≤ i := by omega
      have k2 : (pA M 24 f).2.1 2 i = M.2.1 2 i := rfl
      rw [f_X9_weeks_104]
      simp (disch := omega) only [h32, k2, sA_pAe, ↓pl_bd, pl_ob, pl_ob1, pl_obv, pl_oa, pl_oav, pl_cg, pl_cb0, pl_cb1, pl_nl0, pl_nls, li, nI_cl, pl_ck, nI_E, nI_L, nI_T, nI_add, pk_mul, Nat.zero_add, Nat.add_zero, Nat.reduceAdd, Nat.reduceMul, Nat.reduceSub, Nat.reduceEqDiff, Nat.reduceLeDiff, Nat.reduceLT, ↓reduceIte]) (M.2.1 24) (by omega) (fun k hk => absurd hk (Nat.not_lt_zero k))
  refine ⟨g, ?_, g1⟩
  unfold f_X9_weeks_101
  have e0 : f_X9_weeks_104 N N M x (nI 0) = f_X9_weeks_104 N N (pA M 24 (M.2.1 24)) x (nI 0) := by rw [pA_self]
  rw [show (0 : Int32) = nI 0 from rfl, e0, en, f_X9_weeks_104]
  simp (disch := omega) only [↓pl_bd, pl_ob, pl_ob1, pl_obv, pl_oa, pl_oav, pl_cg, pl_cb0, pl_cb1, pl_nl0, pl_nls, li, nI_cl, pl_ck, nI_E, nI_L, nI_T, nI_add, pk_mul, Nat.zero_add, Nat.add_zero, Nat.reduceAdd, Nat.reduceMul, Nat.reduceSub, Nat.reduceEqDiff, Nat.reduceLeDiff, Nat.reduceLT, ↓reduceIte]
def drw (m : Nat) : Nat := (m * 1103 + 12345) % 1000003
theorem x_draw (N m : Nat) (hm : m < 1000003) : f_X8_drawAfter N (nI m) = some (nI (drw m)) := by
  unfold f_X8_drawAfter drw
  rw [lj 1103, lj 12345, lj 1000003, pk_mul, nI_add, pk_rem (by omega) (by omega) (by omega)]
theorem m_draw (N : Nat) (M : Vt) (m d : Nat) (hm : m < 1000003) (hd : 1 ≤ d) (hd2 : d < 1000) (e : M.1 0 49 = nI m) : f_X9_draws N M (nI d) = some (nI (drw m % d), sF M 0 49 (nI (drw m))) := by
  have e1 : ((((1103 : Int64) * ((M.1 0 49).toInt64)) + (12345 : Int64)) - (((1103 : Int64) * ((M.1 0 49).toInt64)) + (12345 : Int64)) / (1000003 : Int64) * (1000003 : Int64)).toInt32 = nI (drw m) := by
    rw [e, nI_l (by omega), show (1103 : Int64) = lN 1103 from rfl, show (12345 : Int64) = lN 12345 from rfl, show (1000003 : Int64) = lN 1000003 from rfl, lN_mul, lN_add, pk_lRem (by omega) (by omega) (by omega), lN_i]
    unfold drw
    rw [Nat.mul_comm 1103 m]
  unfold f_X9_draws
  rw [e1, pl_bd, cz, if_neg (nI_ne0 (by omega) (by omega)), sF_e, upd_e, pk_rem (by have : drw m < 1000003 := Nat.mod_lt _ (by omega); omega) (by omega) (by omega)]
theorem BkA_day {f e fe su ke ha te si pa K : Nat → Int32} (h : BkA f e fe su ke ha te si pa K) {d : Nat} (hd : d < 999) : BkA f e fe su ke ha (upd te 0 (nI (d + 1))) si pa (upd K 31 (nI (d + 1))) := by
  obtain ⟨b1, b2, b3, b4, b5, b6, b7, b8, b9⟩ := h
  have o : ∀ j, j ≠ 31 → upd K 31 (nI (d + 1)) j = K j := fun j hj => upd_n _ _ _ _ hj
  refine ⟨bE_c (fun i hi => o _ (by omega)) b1, bF_c (o _ (by omega)) b2, bS_c (fun i hi => o _ (by omega)) b3, bK_c (fun i hi => o _ (by omega)) b4, bH_c (fun i hi => o _ (by omega)) b5, ⟨⟨?_, ?_⟩, ?_, ?_⟩, bZ_c (fun i hi => o _ (by omega)) (o _ (by omega)) b7, bP_c (fun i hi => o _ (by omega)) (o _ (by omega)) b8, bC_c (o _ (by omega)) b9⟩
  · rw [upd_e, upd_e]
  · rw [upd_e]; exact ⟨d + 1, by omega, rfl⟩
  · rw [upd_n _ _ _ _ (by omega), o 101 (by omega)]; exact b6.2.1
  · rw [upd_n _ _ _ _ (by omega), o 102 (by omega)]; exact b6.2.2
/-- what holds through the days -/
def Wk (S : St) (im : Nat → Nat) (V0 M0 V M : Vt) (m : Nat) : Prop :=
  BkA (V.1 22) (V.2.1 23) (V.2.1 24) (V.2.1 25) (V.2.1 26) (V.2.1 27) (V.2.1 28) (V.2.1 30) (V.2.1 31) (M.2.1 2) ∧ BkL XL S V im (V.1 22) (V.2.2.2 29) (M.2.1 2) ∧
  (V.2.2 = V0.2.2 ∧ (∀ g, g ≠ 23 → g ≠ 27 → g ≠ 28 → g ≠ 46 → g ≠ 47 → V.2.1 g = V0.2.1 g) ∧ ∀ g j, ¬ (g = 45 ∧ j = 1) → V.1 g j = V0.1 g j) ∧
  (M.2.2 = M0.2.2 ∧ (∀ g, g ≠ 2 → g ≠ 12 → M.2.1 g = M0.2.1 g) ∧ (∀ j, 32 ≤ j → M.2.1 2 j = M0.2.1 2 j) ∧ (∀ j, ¬ (22 ≤ j ∧ j ≤ 25) → j ≠ 49 → M.1 0 j = M0.1 0 j) ∧ M.1 0 49 = nI m ∧ m < 1000003)
theorem wk_step {N : Nat} (hN : 20000 ≤ N) {S : St} {im : Nat → Nat} {V0 M0 V M : Vt} {m n5 : Nat} (hs : S.2.2.1 47 = 10) (h : Wk S im V0 M0 V M m) (h5 : V.1 22 9 = nI n5) (h48 : M.1 0 48 = nI n5) (h51 : 1 ≤ n5) (h52 : n5 ≤ 5) {d : Nat} (hd : M.2.1 2 31 = nI d) (hd9 : d < 999) :
    ∃ x V' M', x ≤ 99 ∧ Wk S im V0 M0 V' M' (drw (drw m)) ∧ f_X9_dayIsDrawn N M = some (nI x, M') ∧ ∀ (fuel i T : Nat) (nn : Int32), i < 100 → T < 100000 → ¬ nn ≤ nI i → f_X8_runWeeks_8 N S 0 (fuel + 1) V nn (nI m) (nI T) (nI i) = f_X8_runWeeks_8 N S 0 fuel V' nn (nI (drw (drw m))) (nI (T + x)) (nI (i + 1)) := by
  obtain ⟨hA, hL, ⟨v1, v2, v3⟩, m1, m2, m3, m4, m5, m6⟩ := h
  have d1 : drw m < 1000003 := Nat.mod_lt _ (by omega)
  have d2 : drw (drw m) < 1000003 := Nat.mod_lt _ (by omega)
  obtain ⟨c, hcd⟩ : ∃ c, c = drw (drw m) % 25 := ⟨_, rfl⟩
  have hc : c < 25 := by rw [hcd]; exact Nat.mod_lt _ (by omega)
  obtain ⟨k, hkd⟩ : ∃ k, k = drw m % n5 := ⟨_, rfl⟩
  have hk : k < n5 := by rw [hkd]; exact Nat.mod_lt _ (by omega)
  obtain ⟨Ma, hMa⟩ : ∃ Ma, Ma = sF (sF M 0 49 (nI (drw m))) 0 49 (nI (drw (drw m))) := ⟨_, rfl⟩
  have Ma2 : Ma.2 = M.2 := by rw [hMa]; rfl
  have MaF : ∀ j, j ≠ 49 → Ma.1 0 j = M.1 0 j := fun j hj => by rw [hMa, sF_o _ _ _ _ _ _ (by omega), sF_o _ _ _ _ _ _ (by omega)]
  have Ma49 : Ma.1 0 49 = nI (drw (drw m)) := by rw [hMa, sF_e, upd_e]
  have hBR : BkR V 22 (Ma.2.1 2) := by rw [Ma2]; exact BkR_of hA rfl rfl rfl rfl rfl
  have hL' : BkL XL S V im (V.1 22) (V.2.2.2 (22 + 7)) (Ma.2.1 2) := by rw [Ma2]; exact hL
  obtain ⟨x, V1, M1, hx, ⟨w, w9, hw, hxw⟩, f1, f2, cx, cm⟩ := canT hN (a1 := 22) (by omega) hs hBR hL' hc hk h52 h5
  have M12 : M1.2.1 2 = M.2.1 2 := by rw [cm.2.1 2 (by omega), Ma2]
  have A1 : BkA (V1.1 22) (V1.2.1 23) (V1.2.1 24) (V1.2.1 25) (V1.2.1 26) (V1.2.1 27) (V1.2.1 28) (V1.2.1 30) (V1.2.1 31) (M.2.1 2) := by
    rw [cx.2.1 23 (by omega) (by omega), cx.2.1 24 (by omega) (by omega), cx.2.1 25 (by omega) (by omega), cx.2.1 26 (by omega) (by omega), cx.2.1 27 (by omega) (by omega), cx.2.1 28 (by omega) (by omega), cx.2.1 30 (by omega) (by omega), cx.2.1 31 (by omega) (by omega), show V1.1 22 = V.1 22 from funext fun j => cx.2.2 22 j (by omega)]
    exact hA
  have w1 : V1.2.1 23 c = nI w := by rw [cx.2.1 23 (by omega) (by omega)]; exact hw
  have te0 : V1.2.1 28 0 = nI d := A1.2.2.2.2.2.1.1.1.trans hd
  -- the class's memory after the taking
  obtain ⟨V2, hV2, V2o, V2f, V2r, A2⟩ : ∃ V2, f_X8_takeAway N S V 0 22 (nI c) (nI k) = some (if x = 0 then -3 else nI x, V2) ∧ (∀ g, g ≠ 23 → g ≠ 27 → V2.2.1 g = V1.2.1 g) ∧ V2.1 = V1.1 ∧ V2.2.2 = V1.2.2 ∧ BkA (V2.1 22) (V2.2.1 23) (V2.2.1 24) (V2.2.1 25) (V2.2.1 26) (V2.2.1 27) (V2.2.1 28) (V2.2.1 30) (V2.2.1 31) (tkK (M.2.1 2) c k x) := by
    have bt := BkA_take A1 hc (show k < 5 by omega) w1 w9 hxw hx
    by_cases h0 : x = 0
    · refine ⟨V1, by rw [f1, if_pos h0, if_pos h0], fun _ _ _ => rfl, rfl, rfl, ?_⟩
      refine BkA_v rfl rfl rfl (fun i hi => ?_) (fun _ _ => rfl) (fun _ _ => rfl) (fun _ _ => rfl) (fun i hi => ?_) (fun _ _ => rfl) (fun _ _ => rfl) (fun _ _ => rfl) bt
      · subst h0
        by_cases hic : i = c
        · subst hic; rw [upd_e, w1, pk_sub (by omega)]; rfl
        · rw [upd_n _ _ _ _ hic]
      · subst h0
        by_cases hik : i = k
        · subst hik
          obtain ⟨e1, y, hy, ey⟩ := A1.2.2.2.2.1 i hi
          rw [upd_e, e1, ey, nI_add, mn_nI (by omega) (by omega), Nat.min_eq_right (by omega)]; rfl
        · rw [upd_n _ _ _ _ hik]
    · refine ⟨sA (sA V1 23 c (V1.2.1 23 c - nI x)) 27 k (mnI (nI 9999) (V1.2.1 27 k + nI x)), by rw [f1, if_neg h0, if_neg h0], fun g h1 h2 => by rw [sA_n _ _ _ _ _ h2, sA_n _ _ _ _ _ h1], rfl, rfl, ?_⟩
      rw [show (sA (sA V1 23 c (V1.2.1 23 c - nI x)) 27 k (mnI (nI 9999) (V1.2.1 27 k + nI x))).2.1 23 = upd (V1.2.1 23) c (V1.2.1 23 c - nI x) by rw [sA_n _ _ _ _ _ (by omega), sA_e], show (sA (sA V1 23 c (V1.2.1 23 c - nI x)) 27 k (mnI (nI 9999) (V1.2.1 27 k + nI x))).2.1 27 = upd (V1.2.1 27) k (mnI (nI 9999) (V1.2.1 27 k + nI x)) by rw [sA_e, sA_n _ _ _ _ _ (by omega)]]
      exact bt
  have te2 : V2.2.1 28 0 = nI d := by rw [V2o 28 (by omega) (by omega)]; exact te0
  have o := tkK_o (M.2.1 2) c k x
  refine ⟨x, sA V2 28 0 (nI (d + 1)), pA M1 2 (upd (tkK (M.2.1 2) c k x) 31 (nI (d + 1))), hx, ?_, ?_, ?_⟩
  · -- the relation goes on
    have p2 : (pA M1 2 (upd (tkK (M.2.1 2) c k x) 31 (nI (d + 1)))).2.1 2 = upd (tkK (M.2.1 2) c k x) 31 (nI (d + 1)) := pA_e _ _ _
    refine ⟨?_, ?_, ⟨?_, fun g h1 h2 h3 h4 h5 => ?_, fun g j hg => ?_⟩, ?_, fun g h1 h2 => ?_, fun j hj => ?_, fun j h1 h2 => ?_, ?_, d2⟩
    · rw [p2, sA_e, sA_n _ _ _ 23 _ (by omega), sA_n _ _ _ 24 _ (by omega), sA_n _ _ _ 25 _ (by omega), sA_n _ _ _ 26 _ (by omega), sA_n _ _ _ 27 _ (by omega), sA_n _ _ _ 30 _ (by omega), sA_n _ _ _ 31 _ (by omega)]
      exact BkA_day A2 hd9
    · rw [p2]
      have r29 : (sA V2 28 0 (nI (d + 1))).2.2.2 29 = V.2.2.2 29 := by show V2.2.2.2 29 = _; rw [V2r, cx.1]
      have q22 : (sA V2 28 0 (nI (d + 1))).1 22 = V.1 22 := by show V2.1 22 = _; rw [V2f]; exact funext fun j => cx.2.2 22 j (by omega)
      rw [r29, q22]
      refine BkL_g rfl rfl (fun g hg => ⟨?_, ?_, ?_⟩) (fun j h1 h2 => ?_) hL
      · show V2.1 g = _; rw [V2f]; exact funext fun j => cx.2.2 g j (by omega)
      · rw [sA_n _ _ _ _ _ (by omega), V2o g (by omega) (by omega)]; exact cx.2.1 g (by omega) (by omega)
      · show V2.2.2.2 g = _; rw [V2r, cx.1]
      · rw [upd_n _ _ _ _ (by omega)]; exact o j (by omega) (by omega)
    · show V2.2.2 = _; rw [V2r, cx.1, v1]
    · rw [sA_n _ _ _ _ _ h3, V2o g h1 h2, cx.2.1 g (by omega) (by omega)]; exact v2 g h1 h2 h3 h4 h5
    · show V2.1 g j = _; rw [V2f, cx.2.2 g j (by omega)]; exact v3 g j hg
    · rw [pA_2, cm.1, Ma2, m1]
    · rw [pA_n _ _ _ _ h1, cm.2.1 g h2, Ma2]; exact m2 g h1 h2
    · rw [p2, upd_n _ _ _ _ (by omega), o j (by omega) (by omega)]; exact m3 j hj
    · rw [pA_1, cm.2.2 0 j (by omega), MaF j h2]; exact m4 j h1 h2
    · rw [pA_1, cm.2.2 0 49 (by omega)]; exact Ma49
  · unfold f_X9_dayIsDrawn
    have q1 := m_draw N M m n5 m6 h51 (by omega) m5
    have q2 := m_draw N (sF M 0 49 (nI (drw m))) (drw m) 25 d1 (by omega) (by omega) (by rw [sF_e, upd_e])
    rw [h48, q1, pl_ob, lj 25, q2, pl_ob, ← hMa, ← hkd, ← hcd, f2, pl_ob, m_takesNow M1 hc (by omega), pl_obv, M12]
    have z31 : tkK (M.2.1 2) c k x 31 = nI d := by rw [o 31 (by omega) (by omega)]; exact hd
    simp (disch := omega) only [sA_pAe, pA_e, z31, ↓pl_bd, pl_ob, pl_ob1, pl_obv, pl_oa, pl_oav, pl_cg, pl_cb0, pl_cb1, pl_nl0, pl_nls, li, nI_cl, pl_ck, nI_E, nI_L, nI_T, nI_add, pk_mul, Nat.zero_add, Nat.add_zero, Nat.reduceAdd, Nat.reduceMul, Nat.reduceSub, Nat.reduceEqDiff, Nat.reduceLeDiff, Nat.reduceLT, ↓reduceIte]
  · intro fuel i T nn hi hT hnn
    rw [f_X8_runWeeks_8]
    have t28 : V.2.1 28 0 = nI d := by rw [← cx.2.1 28 (by omega) (by omega)]; exact te0
    have mx5 : mxI (nI 1) (nI n5) = nI n5 := by
      unfold mxI
      by_cases h : nI 1 < nI n5
      · rw [if_pos h]
      · rw [if_neg h]; rw [nI_T (by omega) (by omega)] at h; congr 1; omega
    have x1 := x_draw N m m6
    have x2 := x_draw N (drw m) d1
    have r5 : nI (drw m) - nI (drw m) / nI n5 * nI n5 = nI k := by rw [pk_rem (by omega) (by omega) (by omega), hkd]
    have r25 : nI (drw (drw m)) - nI (drw (drw m)) / nI 25 * nI 25 = nI c := by rw [pk_rem (by omega) (by omega) (by omega), hcd]
    have mx : mxI (nI 0) (if x = 0 then -3 else nI x) = nI x := by
      by_cases h0 : x = 0
      · rw [if_pos h0, h0]; rfl
      · rw [if_neg h0]
        unfold mxI
        rw [if_pos (by rw [nI_T (by omega) (by omega)]; omega)]
    rw [if_neg hnn, lj 0, pl_ck (by omega) (by omega), nI_cl (by omega)]
    show (if (999 : Int32) ≤ V.2.1 28 0 then _ else _) = _
    rw [t28, if_neg (by rw [lj 999, nI_L (by omega) (by omega)]; omega), x1, pl_ob1]
    show cz (mxI 1 (V.1 22 9)) _ = _
    rw [h5, lj 1, mx5, cz, if_neg (nI_ne0 (by omega) (by omega)), pl_bd, r5, x2, pl_ob1, lj 25, r25]
    show ob (f_X8_takeAway N S V 0 22 (nI c) (nI k)) _ = _
    rw [hV2, pl_ob, mx, nI_add, pl_bd, pl_ck (by omega) (by omega), pl_ck (by omega) (by omega)]
    show bd (sA V2 28 0 (V2.2.1 28 0 + nI 1)) _ = _
    rw [te2, nI_add, pl_bd, nI_add, pl_bd]
theorem wk_run {N : Nat} (hN : 20000 ≤ N) {S : St} {im : Nat → Nat} {V0 M0 : Vt} {n5 nd : Nat} (hs : S.2.2.1 47 = 10) (h5 : V0.1 22 9 = nI n5) (h48 : M0.1 0 48 = nI n5) (h51 : 1 ≤ n5) (h52 : n5 ≤ 5) (hnd : nd ≤ 60) :
    ∀ k i T V M m, i + k = nd → T ≤ 99 * i → Wk S im V0 M0 V M m → ∃ T' V' M' m', Wk S im V0 M0 V' M' m' ∧ ∀ fuel, k < fuel → f_X8_runWeeks_8 N S 0 fuel V (nI nd) (nI m) (nI T) (nI i) = some (nI T', V') ∧ f_X9_weeks_69 N fuel M (nI nd) (nI T) (nI i) = f_X9_weeks_101 N M' (nI T') := by
  intro k
  induction k with
  | zero =>
    intro i T V M m hi hT h
    refine ⟨T, V, M, m, h, fun fuel hf => ?_⟩
    obtain ⟨f', rfl⟩ : ∃ f', fuel = f' + 1 := ⟨fuel - 1, by omega⟩
    have e : i = nd := by omega
    subst e
    rw [f_X8_runWeeks_8, f_X9_weeks_69, if_pos (by rw [nI_L (by omega) (by omega)]; omega), if_pos (by rw [nI_L (by omega) (by omega)]; omega)]
    exact ⟨rfl, rfl⟩
  | succ k ih =>
    intro i T V M m hi hT h
    have hn : ¬ nI nd ≤ nI i := by rw [nI_L (by omega) (by omega)]; omega
    obtain ⟨d, hd, ed⟩ := h.1.2.2.2.2.2.1.1.2
    have te : V.2.1 28 0 = nI d := h.1.2.2.2.2.2.1.1.1.trans ed
    by_cases hd9 : d < 999
    · have h5' : V.1 22 9 = nI n5 := by rw [h.2.2.1.2.2 22 9 (by omega)]; exact h5
      have h48' : M.1 0 48 = nI n5 := by rw [h.2.2.2.2.2.2.1 48 (by omega) (by omega)]; exact h48
      obtain ⟨x, V1, M1, hx, hW, em, ex⟩ := wk_step hN hs h h5' h48' h51 h52 ed hd9
      obtain ⟨T', V', M', m', hW', fin⟩ := ih (i + 1) (T + x) V1 M1 _ (by omega) (by omega) hW
      refine ⟨T', V', M', m', hW', fun fuel hf => ?_⟩
      obtain ⟨f', rfl⟩ : ∃ f', fuel = f' + 1 := ⟨fuel - 1, by omega⟩
      obtain ⟨a, b⟩ := fin f' (by omega)
      refine ⟨by rw [ex f' i T (nI nd) (by omega) (by omega) hn]; exact a, ?_⟩
      rw [f_X9_weeks_69, if_neg hn, lj 31, pl_ck (by omega) (by omega), nI_cl (by omega), ed, if_neg (by rw [lj 999, nI_L (by omega) (by omega)]; omega), em, pl_ob, nI_add, pl_bd, lj 1, nI_add, pl_bd]
      exact b
    · refine ⟨T, V, M, m, h, fun fuel hf => ?_⟩
      obtain ⟨f', rfl⟩ : ∃ f', fuel = f' + 1 := ⟨fuel - 1, by omega⟩
      have c9 : (999 : Int32) ≤ nI d := by rw [lj 999, nI_L (by omega) (by omega)]; omega
      constructor
      · rw [f_X8_runWeeks_8, if_neg hn, lj 0, pl_ck (by omega) (by omega), nI_cl (by omega)]
        show (if (999 : Int32) ≤ V.2.1 28 0 then _ else _) = _
        rw [te, if_pos c9]
      · rw [f_X9_weeks_69, if_neg hn, lj 31, pl_ck (by omega) (by omega), nI_cl (by omega), ed, if_pos c9]
section OPS
variable {N b0 : Nat}
theorem op_weeks (hN : 20000 ≤ N) : Op_weeks N b0 (Rel XL b0) := by
  intro S V M hR a1 a2
  have hB := hR.2.1
  have hs : S.2.2.1 47 = 10 := len_of hR.1.1 47 _ rfl
  obtain ⟨ec, n5, hn5, en5⟩ := hB.2.2.2.2.2.2.2.2
  rcases lies_c N a1 0 1000000 (by omega) (by omega) with ⟨sd, -, hsd, rfl, el⟩ | ⟨-, el⟩
  · rcases lies_c N a2 1 60 (by omega) (by omega) with ⟨nd, hnd1, hnd, rfl, fl⟩ | ⟨-, fl⟩
    · by_cases h0 : n5 = 0
      · subst h0
        refine ⟨-3, rfX V 3, rfM M 3, ?_, ?_, Rel_ref hR 3 (by omega)⟩
        · unfold f_X8_weeks
          rw [within_lies, show (0 : Int32) = nI 0 from rfl, show (1000000 : Int32) = nI 1000000 from rfl, el, pl_ob1, if_neg (by decide), within_lies, show (1 : Int32) = nI 1 from rfl, show (60 : Int32) = nI 60 from rfl, fl, pl_ob1, if_neg (by decide), if_pos (show V.1 (0 + 1) 9 = nI 0 from ec.trans en5)]
          rfl
        · unfold f_X9_weeks
          rw [show (0 : Int32) = nI 0 from rfl, show (1000000 : Int32) = nI 1000000 from rfl, el, pl_ob1, if_neg (by decide), show (1 : Int32) = nI 1 from rfl, show (60 : Int32) = nI 60 from rfl, fl, pl_ob1, if_neg (by decide), lj 103, pl_ck (by omega) (by omega), nI_cl (by omega), if_pos en5]
          rfl
      · obtain ⟨V1, kx, fr, ff, fa, flw⟩ := x_copy hN S V 22 1 (by omega) (BkL_tsh hR.2.2.1)
        have g64 : G64 V V1 := fun h hh => fr h (by omega)
        obtain ⟨nA, nL⟩ := Bk_copy (X := XL) (S := S) (im := V.2.2.2 11) (K := M.2.1 2) (K' := M.2.1 2) ff fa flw (fun q hq => ⟨(G64_o g64 q hq.1).1, (G64_o g64 (q + 1) (Nat.le_succ_of_le hq.1)).2.1, (G64_o g64 (q + 2) (Nat.le_trans hq.1 (by omega))).2.1⟩) (fun _ _ => rfl) hR.2.1 hR.2.2.1
        obtain ⟨M1, hM1⟩ : ∃ M1, M1 = sF (sF M 0 49 (nI sd)) 0 48 (nI n5) := ⟨_, rfl⟩
        obtain ⟨fa5, el5, hf5⟩ := m_lays hN M1 0 (by omega)
        have M12 : M1.2 = M.2 := by rw [hM1]; rfl
        obtain ⟨M2, hM2⟩ : ∃ M2, M2 = pA M1 5 fa5 := ⟨_, rfl⟩
        have M22 : M2.2.1 2 = M.2.1 2 := by rw [hM2, pA_n _ _ _ _ (by omega), M12]
        have M2F : M2.1 = M1.1 := by rw [hM2]; rfl
        have c1 : V1.1 22 9 = nI n5 := by rw [ff.1]; exact ec.trans en5
        have c48 : M2.1 0 48 = nI n5 := by rw [M2F, hM1, sF_e, upd_e]
        have W0 : Wk S (V.2.2.2 11) V1 M2 V1 M2 sd := by
          refine ⟨by rw [M22]; exact nA, by rw [M22]; exact nL, ⟨rfl, fun _ _ _ _ _ _ => rfl, fun _ _ _ => rfl⟩, rfl, fun _ _ _ => rfl, fun _ _ => rfl, fun _ _ _ => rfl, ?_, by omega⟩
          rw [M2F, hM1, sF_o _ _ _ _ _ _ (by omega), sF_e, upd_e]
        obtain ⟨T', V', M', m', W', fin⟩ := wk_run hN hs c1 c48 (by omega) hn5 hnd nd 0 0 V1 M2 sd (by omega) (by omega) W0
        obtain ⟨fx, fm⟩ := fin N (by omega)
        obtain ⟨f24, e24, h24⟩ := m_w104 hN M' (nI T')
        obtain ⟨f2, e2, h2a, h2b⟩ := m_tback hN (pA M' 24 f24) 0 (by omega)
        obtain ⟨wA, wL, ⟨v1, v2, v3⟩, m1, m2, m3, m4, m5, m6⟩ := W'
        have K2 : f2 = M.2.1 2 := by
          funext j
          by_cases hj : j < 32
          · rw [h2a j hj, pA_n _ _ _ _ (by omega), m2 5 (by omega) (by omega), hM2, pA_e, hf5 j hj, M12]
          · rw [h2b j (by omega), pA_n _ _ _ _ (by omega), m3 j (by omega), M22]
        refine ⟨nI T', sF V' 0 18 (nI 0), sF (pA (pA M' 24 f24) 2 f2) 0 0 (nI 0), ?_, ?_, ?_⟩
        · unfold f_X8_weeks
          have nz : ¬ V.1 (0 + 1) 9 = nI 0 := by rw [show V.1 (0 + 1) 9 = nI n5 from ec.trans en5]; exact nI_ne0 (by omega) (by omega)
          rw [within_lies, show (0 : Int32) = nI 0 from rfl, show (1000000 : Int32) = nI 1000000 from rfl, el, pl_ob1, if_neg (by decide), within_lies, show (1 : Int32) = nI 1 from rfl, show (60 : Int32) = nI 60 from rfl, fl, pl_ob1, if_neg (by decide), if_neg nz]
          show obv (f_X0_copyFrom N S V 22 1) _ = _
          rw [kx, pl_obv]
          unfold f_X8_runWeeks
          rw [show (0 : Int32) = nI 0 from rfl, fx, pl_ob, x_granted, pl_ob]
        · unfold f_X9_weeks
          have nz : ¬ M.2.1 2 103 = nI 0 := by rw [en5]; exact nI_ne0 (by omega) (by omega)
          have r103 : (sF M 0 49 (nI sd)).2.1 2 103 = nI n5 := en5
          rw [show (0 : Int32) = nI 0 from rfl, show (1000000 : Int32) = nI 1000000 from rfl, el, pl_ob1, if_neg (by decide), show (1 : Int32) = nI 1 from rfl, show (60 : Int32) = nI 60 from rfl, fl, pl_ob1, if_neg (by decide), lj 103, pl_ck (by omega) (by omega), nI_cl (by omega), if_neg nz, pl_bd, pl_ck (by omega) (by omega), r103, pl_bd, ← hM1, el5, pl_obv, ← hM2, fm, e24, e2, pl_obv, m_good, pl_ob]
        · have va : ∀ g, (g < 22 ∨ 32 ≤ g) → g ≠ 46 → g ≠ 47 → (sF V' 0 18 (nI 0)).2.1 g = V.2.1 g := fun g hg h1 h2 => by rw [sF_2, v2 g (by omega) (by omega) (by omega) h1 h2]; exact (fr g hg).2.1
          have vr : ∀ g, (g < 22 ∨ 32 ≤ g) → (sF V' 0 18 (nI 0)).2.2.2 g = V.2.2.2 g := fun g hg => by show V'.2.2.2 g = _; rw [v1]; exact (fr g hg).2.2
          have vf : ∀ g j, (g < 22 ∨ 32 ≤ g) → ¬ (g = 45 ∧ j = 1) → ¬ (g = 0 ∧ j = 18) → (sF V' 0 18 (nI 0)).1 g j = V.1 g j := fun g j hg h1 h2 => by rw [sF_o _ _ _ _ _ _ h2, v3 g j h1, (fr g hg).1]
          have ma : ∀ g, g ≠ 2 → g ≠ 24 → g ≠ 12 → g ≠ 5 → (sF (pA (pA M' 24 f24) 2 f2) 0 0 (nI 0)).2.1 g = M.2.1 g := fun g h1 h2 h3 h4 => by rw [sF_2, pA_n _ _ _ _ h1, pA_n _ _ _ _ h2, m2 g h1 h3, hM2, pA_n _ _ _ _ h4, M12]
          have mf : ∀ j, j ≠ 0 → ¬ (22 ≤ j ∧ j ≤ 25) → j ≠ 48 → j ≠ 49 → (sF (pA (pA M' 24 f24) 2 f2) 0 0 (nI 0)).1 0 j = M.1 0 j := fun j h0 h1 h2 h3 => by rw [sF_o _ _ _ _ _ _ (by omega), pA_1, pA_1, m4 j h1 h3, M2F, hM1, sF_o _ _ _ _ _ _ (by omega), sF_o _ _ _ _ _ _ (by omega)]
          have mk2 : (sF (pA (pA M' 24 f24) 2 f2) 0 0 (nI 0)).2.1 2 = M.2.1 2 := by rw [sF_2, pA_e, K2]
          have m24 : (sF (pA (pA M' 24 f24) 2 f2) 0 0 (nI 0)).2.1 24 = f24 := by rw [sF_2, pA_n _ _ _ _ (by omega), pA_e]
          have m48 : (sF (pA (pA M' 24 f24) 2 f2) 0 0 (nI 0)).1 0 48 = nI n5 := by rw [sF_o _ _ _ _ _ _ (by omega), pA_1, pA_1, m4 48 (by omega) (by omega), c48]
          refine Rel_of hR (fun h hh => ⟨funext fun j => vf h j (by omega) (by omega) (by omega), va h (by omega) (by omega) (by omega), vr h (by omega)⟩) (vr 11 (by omega)) (vr 8 (by omega)) (ma 3 (by omega) (by omega) (by omega) (by omega)) (ma 4 (by omega) (by omega) (by omega) (by omega)) (vf 1 10 (by omega) (by omega) (by omega)) (vf 1 11 (by omega) (by omega) (by omega)) (fun j h1 h2 => by rw [mk2]) (ma 6 (by omega) (by omega) (by omega) (by omega)) ?_ ?_ ?_ ?_ ?_ ?_
          · rw [mk2, va 2 (by omega) (by omega) (by omega), va 3 (by omega) (by omega) (by omega), va 4 (by omega) (by omega) (by omega), va 5 (by omega) (by omega) (by omega), va 6 (by omega) (by omega) (by omega), va 7 (by omega) (by omega) (by omega), va 9 (by omega) (by omega) (by omega), va 10 (by omega) (by omega) (by omega), show (sF V' 0 18 (nI 0)).1 1 = V.1 1 from funext fun j => vf 1 j (by omega) (by omega) (by omega)]
            exact hR.2.1
          · rw [mk2, vf 32 1 (by omega) (by omega) (by omega), mf 31 (by omega) (by omega) (by omega) (by omega), va 33 (by omega) (by omega) (by omega), ma 13 (by omega) (by omega) (by omega) (by omega)]
            exact hR.2.2.2.2.1
          · rw [vf 0 15 (by omega) (by omega) (by omega), mf 13 (by omega) (by omega) (by omega) (by omega), va 36 (by omega) (by omega) (by omega), ma 7 (by omega) (by omega) (by omega) (by omega)]
            exact hR.2.2.2.2.2.1
          · rw [va 63 (by omega) (by omega) (by omega), ma 1 (by omega) (by omega) (by omega) (by omega), sF_e, upd_e, sF_e, upd_e]
            exact ⟨rfl, hR.2.2.2.2.2.2.1.2⟩
          · rw [m48, m24]
            refine Or.inr ⟨n5, by omega, hn5, ?_, rfl, fun i hi => ?_, fun i hi => ?_⟩
            · rw [sF_o _ _ _ _ _ _ (by omega), v3 22 9 (by omega), c1]
            · rw [sF_2, h24 i (by omega)]; exact (wA.1 i hi).1
            · rw [sF_2, h24 (25 + i) (by omega)]; exact (wA.2.2.2.2.1 i hi).1
          · rw [vf 0 16 (by omega) (by omega) (by omega), mf 6 (by omega) (by omega) (by omega) (by omega), vf 0 17 (by omega) (by omega) (by omega), mf 40 (by omega) (by omega) (by omega) (by omega), vf 37 8 (by omega) (by omega) (by omega), mf 14 (by omega) (by omega) (by omega) (by omega)]
            exact hR.2.2.2.2.2.2.2.2.1
    · refine ⟨-1, rfX V 1, rfM M 1, ?_, ?_, Rel_ref hR 1 (by omega)⟩
      · unfold f_X8_weeks
        rw [within_lies, show (0 : Int32) = nI 0 from rfl, show (1000000 : Int32) = nI 1000000 from rfl, el, pl_ob1, if_neg (by decide), within_lies, show (1 : Int32) = nI 1 from rfl, show (60 : Int32) = nI 60 from rfl, fl]
        rfl
      · unfold f_X9_weeks
        rw [show (0 : Int32) = nI 0 from rfl, show (1000000 : Int32) = nI 1000000 from rfl, el, pl_ob1, if_neg (by decide), show (1 : Int32) = nI 1 from rfl, show (60 : Int32) = nI 60 from rfl, fl]
        rfl
  · refine ⟨-1, rfX V 1, rfM M 1, ?_, ?_, Rel_ref hR 1 (by omega)⟩
    · unfold f_X8_weeks
      rw [within_lies, show (0 : Int32) = nI 0 from rfl, show (1000000 : Int32) = nI 1000000 from rfl, el]
      rfl
    · unfold f_X9_weeks
      rw [show (0 : Int32) = nI 0 from rfl, show (1000000 : Int32) = nI 1000000 from rfl, el]
      rfl
end OPS
end
