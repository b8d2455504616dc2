section
/-! orders -/
theorem Rel_old {b0 : Nat} {S S' : St} {V V' M M' : Vt} (hR : Rel XL b0 S V M) (o : Old S S') (hS' : ShX b0 S') (rx : RdX S.1 V V') (m1 : ∀ g, ¬ (9 ≤ g ∧ g ≤ 11) → M'.2.1 g = M.2.1 g) (m0 : ∀ j, j = 0 ∨ j = 6 ∨ j = 13 ∨ j = 31 ∨ j = 40 ∨ j = 48 → M'.1 0 j = M.1 0 j) (hf : V'.1 37 8 = M'.1 0 14) : Rel XL b0 S' V' M' := by
  obtain ⟨h1, h2, h3, h4, h5, h6, h7, h8, h9, h10⟩ := hR
  have l := h1.2.2
  have v : ∀ g, g < 64 → (g < 37 ∨ 42 ≤ g) → V'.1 g = V.1 g ∧ V'.2.1 g = V.2.1 g ∧ V'.2.2.2 g = V.2.2.2 g := fun g hg hh => rx g (by omega) hh
  refine ⟨hS', ?_, ?_, ?_, ?_, ?_, ?_, ?_, ?_, ?_⟩
  · rw [(v 1 (by omega) (by omega)).1, (v 2 (by omega) (by omega)).2.1, (v 3 (by omega) (by omega)).2.1, (v 4 (by omega) (by omega)).2.1, (v 5 (by omega) (by omega)).2.1, (v 6 (by omega) (by omega)).2.1, (v 7 (by omega) (by omega)).2.1, (v 9 (by omega) (by omega)).2.1, (v 10 (by omega) (by omega)).2.1, m1 2 (by omega)]; exact h2
  · rw [(v 11 (by omega) (by omega)).2.2, (v 8 (by omega) (by omega)).2.2, m1 2 (by omega)]
    exact BkL_old o rx (by rw [(v 1 (by omega) (by omega)).1]) (by rw [(v 1 (by omega) (by omega)).1]) h3
  · rw [(v 11 (by omega) (by omega)).2.2, m1 4 (by omega), m1 3 (by omega)]; exact Ims_old o rx h4
  · rw [(v 32 (by omega) (by omega)).1, m0 31 (by omega), (v 33 (by omega) (by omega)).2.1, m1 13 (by omega), m1 2 (by omega)]; exact h5
  · rw [(v 0 (by omega) (by omega)).1, m0 13 (by omega), (v 36 (by omega) (by omega)).2.1, m1 7 (by omega)]; exact h6
  · rw [(v 0 (by omega) (by omega)).1, m0 0 (by omega), (v 63 (by omega) (by omega)).2.1, m1 1 (by omega)]; exact h7
  · rw [(v 22 (by omega) (by omega)).1, m0 48 (by omega), (v 23 (by omega) (by omega)).2.1, (v 27 (by omega) (by omega)).2.1, m1 24 (by omega)]; exact h8
  · rw [(v 0 (by omega) (by omega)).1, m0 6 (by omega), m0 40 (by omega)]; exact ⟨h9.1, h9.2.1, hf⟩
  · rw [m1 6 (by omega), (v 59 (by omega) (by omega)).2.1, (v 60 (by omega) (by omega)).2.1]; exact h10
theorem Rel_k6 {X : TxP} {b0 : Nat} {S : St} {V M : Vt} (hR : Rel X b0 S V M) {f : Nat → Int32} (h : ∀ j, j < 114 ∨ (115 ≤ j ∧ j < 2515) ∨ (2915 ≤ j ∧ j < 5315) → f j = M.2.1 2 j) : Rel X b0 S V (pA M 2 f) := by
  obtain ⟨h1, h2, h3, h4, h5, h6, h7, h8, h9, h10⟩ := hR
  have p : ∀ g, g ≠ 2 → (pA M 2 f).2.1 g = M.2.1 g := fun g hg => pA_n _ _ _ _ hg
  refine ⟨h1, ?_, ?_, ?_, ?_, ?_, ?_, ?_, h9, ?_⟩
  · rw [pA_e]; exact BkA_k (fun j hj => h j (by omega)) h2
  · rw [pA_e]
    obtain ⟨e1, e2, n, hn, e3, e4, e5, e6⟩ := h3
    refine ⟨by rw [h 106 (by omega)]; exact e1, by rw [h 107 (by omega)]; exact e2, n, hn, by rw [h 106 (by omega)]; exact e3, by rw [h 107 (by omega)]; exact e4, e5, fun i hi => ?_⟩
    obtain ⟨q, hq, ht⟩ := e6 i hi
    exact ⟨q, hq, TX_c rfl rfl rfl (h _ (by omega)) (fun k hk => h _ (by omega)) (fun k hk => h _ (by omega)) ht⟩
  · rw [p 4 (by omega), p 3 (by omega)]; exact h4
  · rw [pA_e, p 13 (by omega)]; exact Dd_c (fun k hk => h k (by omega)) h5
  · rw [p 7 (by omega)]; exact h6
  · rw [p 1 (by omega)]; exact h7
  · rw [p 24 (by omega)]; exact h8
  · rw [p 6 (by omega)]; exact h10
theorem Dd_v {n1 n2 : Int32} {R R' L L' K K' : Nat → Int32} (hr : ∀ i, i < 80 → R' i = R i) (hl : ∀ i, i < 528 → L' i = L i) (hk : ∀ k, k < 32 → K' k = K k) (b : Dd n1 n2 R L K) : Dd n1 n2 R' L' K' := by
  obtain ⟨n, hn, e1, e2, h3⟩ := b
  refine ⟨n, hn, e1, e2, fun j hj => ?_⟩
  rw [hl (33 * j + 32) (by omega)]
  refine dOne_c3 (fun i hi => hr _ (by omega)) (fun k hk2 => ?_) (fun k hk2 => hl _ (by omega)) (h3 j hj)
  by_cases hjn : j + 1 = n
  · simp only [if_pos hjn]; exact hk k hk2
  · simp only [if_neg hjn]; exact hl _ (by omega)
theorem x_dcopy {N : Nat} (S : St) (V : Vt) (o a : Nat) : f_X1_copyFrom N S V o a = some (sF (pA V (o + 1) (cp0 (V.2.1 (a + 1)) (V.2.1 (o + 1)) 80)) o 1 (V.1 a 1)) := by
  have c1 : cpB (0 : Int32) (0 : Int32) (80 : Int32) 80 80 = true := rfl
  unfold f_X1_copyFrom
  rw [cgT c1, pl_bd, pl_bd]; rfl
theorem m_o27 {N : Nat} (hN : 20000 ≤ N) (M : Vt) : ∃ g, (∀ i, i < 528 → g i = M.2.1 13 i) ∧ f_X9_orders_27 N N M 0 = obv (f_X9_lays N (pA M 14 g) (6 : Int32)) (fun V55 => bd (sF V55 0 27 (0 : Int32)) (fun V56 => bd (sF V56 0 28 (-1 : Int32)) (fun V57 => bd (sF V57 0 41 (2400 : Int32)) (fun V58 => ck (114 : Int32) 5715 (bd ((V58.1 0 41) + (V58.2.1 2 (114 : Int32).toNatClampNeg)) (fun x60 => f_X9_orders_95 N N V58 (M.1 0 31) x60 (0 : Int32))))))) := by
  obtain ⟨g, g1, k, en⟩ := lpN N (fun k (f : Nat → Int32) i => f_X9_orders_27 N k (pA M 14 f) i) 528 (fun i f => ∀ j, j < i → f j = M.2.1 13 j) (by
    intro i f hi h1
    refine ⟨upd f i (M.2.1 13 i), fun j hj => ?_, fun k => ?_⟩
    · by_cases q : j = i
      · rw [q, upd_e]
      · rw [upd_n _ _ _ _ q]; exact h1 j (by omega)
    · have k13 : (pA M 14 f).2.1 13 i = M.2.1 13 i := rfl
      rw [f_X9_orders_27, if_neg (show ¬ (528 : Int32) ≤ nI i by rw [lj 528, nI_L (by omega) (by omega)]; omega), pl_ck (by omega) (by omega), pl_ck (by omega) (by omega), nI_cl (by omega), k13, sA_pAe, pl_bd, nI_1, pl_bd]) (M.2.1 14) (by omega) (fun j hj => absurd hj (Nat.not_lt_zero j))
  refine ⟨g, g1, ?_⟩
  have e0 : f_X9_orders_27 N N M 0 = f_X9_orders_27 N N (pA M 14 (M.2.1 14)) (nI 0) := by rw [pA_self]; rfl
  have en' : f_X9_orders_27 N N (pA M 14 (M.2.1 14)) (nI 0) = f_X9_orders_27 N (k + 1) (pA M 14 g) (nI 528) := en
  rw [e0, en', f_X9_orders_27, if_pos (by decide), pl_bd]; rfl
theorem m_o122 {N : Nat} (hN : 20000 ≤ N) (M : Vt) (x v : Int32) : ∃ g, (∀ i, i < 528 → g i = M.2.1 14 i) ∧ f_X9_orders_122 N N M x v 0 = some (-3, rfM (sF (sF (pA M 13 g) 0 31 x) 0 40 v) 3) := by
  obtain ⟨g, g1, k, en⟩ := lpN N (fun k (f : Nat → Int32) i => f_X9_orders_122 N k (pA M 13 f) x v i) 528 (fun i f => ∀ j, j < i → f j = M.2.1 14 j) (by
    intro i f hi h1
    refine ⟨upd f i (M.2.1 14 i), fun j hj => ?_, fun k => ?_⟩
    · by_cases q : j = i
      · rw [q, upd_e]
      · rw [upd_n _ _ _ _ q]; exact h1 j (by omega)
    · have k13 : (pA M 13 f).2.1 14 i = M.2.1 14 i := rfl
      rw [f_X9_orders_122, if_neg (show ¬ (528 : Int32) ≤ nI i by rw [lj 528, nI_L (by omega) (by omega)]; omega), pl_ck (by omega) (by omega), pl_ck (by omega) (by omega), nI_cl (by omega), k13, sA_pAe, pl_bd, nI_1, pl_bd]) (M.2.1 13) (by omega) (fun j hj => absurd hj (Nat.not_lt_zero j))
  refine ⟨g, g1, ?_⟩
  have e0 : f_X9_orders_122 N N M x v 0 = f_X9_orders_122 N N (pA M 13 (M.2.1 13)) x v (nI 0) := by rw [pA_self]; rfl
  have en' : f_X9_orders_122 N N (pA M 13 (M.2.1 13)) x v (nI 0) = f_X9_orders_122 N (k + 1) (pA M 13 g) x v (nI 528) := en
  rw [e0, en', f_X9_orders_122, if_pos (by decide), pl_bd, pl_bd, m_ref3, pl_ob]
/-- all is as it was ahead of it -/
theorem o_back {b0 : Nat} {S : St} {Va Vb Vc V2 Vd Ve M4 M2 Me : Vt} {x52 : Int32} {c' : Nat} (hR : Rel XL b0 S Vc M4)
    (fb : (∀ h, (h < 12 ∨ 12 + 10 ≤ h) → Vb.1 h = Va.1 h ∧ Vb.2.1 h = Va.2.1 h ∧ Vb.2.2.2 h = Va.2.2.2 h) ∧ (Vb.1 12 9 = Va.1 1 9 ∧ Vb.1 12 10 = Va.1 1 10 ∧ Vb.1 12 11 = Va.1 1 11 ∧ Vb.1 12 12 = Va.1 1 12 ∧ Vb.1 12 13 = Va.1 1 13) ∧ (∀ g, Vb.2.1 g = (bkS Va 12 1).2.1 g) ∧ ∀ i, i < 6 → Vb.2.2.2 (12 + 7) i = Va.2.2.2 (1 + 7) i)
    (hc : Vc = sF (pA Vb 35 (cp0 (Vb.2.1 33) (Vb.2.1 35) 80)) 34 1 (Vb.1 32 1)) (fx : FrX Vc V2) (v17 : V2.1 0 17 = nI c')
    (fd : (∀ h, (h < 1 ∨ 1 + 10 ≤ h) → Vd.1 h = V2.1 h ∧ Vd.2.1 h = V2.2.1 h ∧ Vd.2.2.2 h = V2.2.2.2 h) ∧ (Vd.1 1 9 = V2.1 12 9 ∧ Vd.1 1 10 = V2.1 12 10 ∧ Vd.1 1 11 = V2.1 12 11 ∧ Vd.1 1 12 = V2.1 12 12 ∧ Vd.1 1 13 = V2.1 12 13) ∧ (∀ g, Vd.2.1 g = (bkS V2 1 12).2.1 g) ∧ ∀ i, i < 6 → Vd.2.2.2 (1 + 7) i = V2.2.2.2 (12 + 7) i)
    (he : Ve = sF (pA Vd 33 (cp0 (Vd.2.1 35) (Vd.2.1 33) 80)) 32 1 (Vd.1 34 1))
    (fm : FrM M4 M2) (h31 : x52 = M4.1 0 31) {f2 g : Nat → Int32} (hf2 : f2 = M4.2.1 2) (hg : ∀ i, i < 528 → g i = M4.2.1 13 i) (hme : Me = sF (sF (pA (pA M2 2 f2) 13 g) 0 31 x52) 0 40 (nI c')) : Rel XL b0 S Ve Me := by
  obtain ⟨h1, h2, h3, h4, h5, h6, h7, h8, h9, h10⟩ := hR
  obtain ⟨b1, b2, b3, b4⟩ := fb
  obtain ⟨d1, d2, d3, d4⟩ := fd
  -- Vc against Va
  have ca : ∀ g, (g < 12 ∨ 22 ≤ g) → g ≠ 35 → Vc.2.1 g = Va.2.1 g := fun g hg h => by rw [hc, sF_2, pA_n _ _ _ _ h]; exact (b1 g (by omega)).2.1
  have cf : ∀ g j, (g < 12 ∨ 22 ≤ g) → ¬ (g = 34 ∧ j = 1) → Vc.1 g j = Va.1 g j := fun g j hg h => by rw [hc, sF_o _ _ _ _ _ _ h, pA_1, (b1 g (by omega)).1]
  have cr : ∀ g, Vc.2.2.2 g = Vb.2.2.2 g := fun g => by rw [hc]; rfl
  have cs : ∀ g, 12 ≤ g → g < 22 → Vc.2.1 g = (bkS Va 12 1).2.1 g := fun g g1 g2 => by rw [hc, sF_2, pA_n _ _ _ _ (by omega)]; exact b3 g
  have c12 : ∀ j, Vc.1 12 j = Vb.1 12 j := fun j => by rw [hc, sF_o _ _ _ _ _ _ (by omega), pA_1]
  have c35 : ∀ i, i < 80 → Vc.2.1 35 i = Va.2.1 33 i := fun i hi => by rw [hc, sF_2, pA_e, cp0_in hi, (b1 33 (by omega)).2.1]
  have c34 : Vc.1 34 1 = Va.1 32 1 := by rw [hc, sF_e, upd_e, (b1 32 (by omega)).1]
  -- V2 against Vc
  have w : ∀ g, g ≠ 2 → g ≠ 3 → g ≠ 6 → g ≠ 7 → g ≠ 33 → g ≠ 43 → g ≠ 46 → g ≠ 47 → g ≠ 61 → V2.2.1 g = Vc.2.1 g := fx.2.1
  have wf := fx.2.2
  -- Ve against V2
  have ea : ∀ g, (g < 1 ∨ 11 ≤ g) → g ≠ 33 → Ve.2.1 g = V2.2.1 g := fun g hg h => by rw [he, sF_2, pA_n _ _ _ _ h]; exact (d1 g (by omega)).2.1
  have ef : ∀ g j, (g < 1 ∨ 11 ≤ g) → ¬ (g = 32 ∧ j = 1) → Ve.1 g j = V2.1 g j := fun g j hg h => by rw [he, sF_o _ _ _ _ _ _ h, pA_1, (d1 g (by omega)).1]
  have es : ∀ g, g < 11 → Ve.2.1 g = (bkS V2 1 12).2.1 g := fun g hg => by rw [he, sF_2, pA_n _ _ _ _ (by omega)]; exact d3 g
  have e1 : ∀ j, Ve.1 1 j = Vd.1 1 j := fun j => by rw [he, sF_o _ _ _ _ _ _ (by omega), pA_1]
  have er : ∀ g, (g < 1 ∨ 11 ≤ g) → Ve.2.2.2 g = Vc.2.2.2 g := fun g hg => by
    rw [he]
    show Vd.2.2.2 g = _
    rw [(d1 g (by omega)).2.2, fx.1]
  have EA : ∀ g, (g < 1 ∨ 11 ≤ g) → g ≠ 33 → g ≠ 43 → g ≠ 46 → g ≠ 47 → g ≠ 61 → Ve.2.1 g = Vc.2.1 g := fun g hg h1 h2 h3 h4 h5 => (ea g hg h1).trans (w g (by omega) (by omega) (by omega) (by omega) h1 h2 h3 h4 h5)
  have EF : ∀ g j, (g < 1 ∨ 11 ≤ g) → ¬ (g = 32 ∧ j = 1) → ¬ (g = 45 ∧ j = 1) → ¬ (g = 42 ∧ j = 1) → ¬ (g = 0 ∧ j = 17) → Ve.1 g j = Vc.1 g j := fun g j hg h1 h2 h3 h4 => (ef g j hg h1).trans (wf g j h1 h2 h3 h4)
  have g6 : G6o Vc Ve := fun g hg => ⟨funext fun j => EF g j (by omega) (by omega) (by omega) (by omega) (by omega), EA g (by omega) (by omega) (by omega) (by omega) (by omega) (by omega), er g (by omega)⟩
  -- the book
  obtain ⟨k1, k2, k3, k4, k5, k6, k8, k9⟩ := bkS_a V2 1 12
  obtain ⟨l1, l2, l3, l4, l5, l6, l8, l9⟩ := bkS_a Va 12 1
  have row : ∀ a m, (a = 1 ∨ a = 2 ∨ a = 3 ∨ a = 4 ∨ a = 5 ∨ a = 6 ∨ a = 8 ∨ a = 9) → (∀ i, i < m → (bkS V2 1 12).2.1 (1 + a) i = V2.2.1 (12 + a) i) → (∀ i, i < m → (bkS Va 12 1).2.1 (12 + a) i = Va.2.1 (1 + a) i) → ∀ i, i < m → Ve.2.1 (1 + a) i = Vc.2.1 (1 + a) i := fun a m ha p1 p2 i hi => by
    rw [es (1 + a) (by omega), p1 i hi, w (12 + a) (by omega) (by omega) (by omega) (by omega) (by omega) (by omega) (by omega) (by omega) (by omega), cs (12 + a) (by omega) (by omega), p2 i hi, ca (1 + a) (by omega) (by omega)]
  have fld : ∀ j, Vd.1 1 j = V2.1 12 j → Vb.1 12 j = Va.1 1 j → Ve.1 1 j = Vc.1 1 j := fun j p1 p2 => by
    rw [e1, p1, wf 12 j (by omega) (by omega) (by omega) (by omega), c12, p2, cf 1 j (by omega) (by omega)]
  have ma : ∀ g, g ≠ 2 → g ≠ 12 → g ≠ 13 → Me.2.1 g = M4.2.1 g := fun a g1 g2 g3 => by rw [hme, sF_2, sF_2, pA_n _ _ _ _ g3, pA_n _ _ _ _ g1]; exact fm.1 a g1 g2 g3
  have mk : Me.2.1 2 = M4.2.1 2 := by rw [hme, sF_2, sF_2, pA_n _ _ _ _ (by omega), pA_e, hf2]
  have m13 : Me.2.1 13 = g := by rw [hme, sF_2, sF_2, pA_e]
  have mf : ∀ j, j = 0 ∨ j = 6 ∨ j = 13 ∨ j = 14 ∨ j = 48 → Me.1 0 j = M4.1 0 j := fun j hj => by rw [hme, sF_o _ _ _ _ _ _ (by omega), sF_o _ _ _ _ _ _ (by omega), pA_1, pA_1]; exact fm.2.2 0 j (by omega)
  have m31 : Me.1 0 31 = M4.1 0 31 := by rw [hme, sF_o _ _ _ _ _ _ (by omega), sF_e, upd_e, h31]
  have m40 : Me.1 0 40 = nI c' := by rw [hme, sF_e, upd_e]
  refine ⟨h1, ?_, ?_, ?_, ?_, ?_, ?_, ?_, ?_, ?_⟩
  · rw [mk]
    exact BkA_v (fld 12 d2.2.2.2.1 b2.2.2.2.1) (fld 13 d2.2.2.2.2 b2.2.2.2.2) (fld 9 d2.1 b2.1) (row 1 25 (by omega) k1 l1) (row 2 25 (by omega) k2 l2) (row 3 10 (by omega) k3 l3) (row 4 5 (by omega) k4 l4) (row 5 5 (by omega) k5 l5) (row 6 3 (by omega) k6 l6) (row 8 24 (by omega) k8 l8) (row 9 30 (by omega) k9 l9) h2
  · rw [mk, er 11 (by omega)]
    refine BkL_mv ⟨Nat.le_refl _, fun _ _ => ⟨rfl, rfl, rfl⟩⟩ (fld 10 d2.2.1 b2.2.1) (fld 11 d2.2.2.1 b2.2.2.1) (fun i hi => ?_) (fun p hp => ⟨hp, (g6 p hp.1).1, (g6 (p + 1) (by have := hp.1; omega)).2.1, (g6 (p + 2) (by have := hp.1; omega)).2.1⟩) (fun _ _ => rfl) h3
    rw [he]
    show Vd.2.2.2 (1 + 7) i = _
    rw [d4 i hi, fx.1, cr, b4 i hi, cr, (b1 8 (by omega)).2.2]
  · rw [er 11 (by omega), ma 4 (by omega) (by omega) (by omega), ma 3 (by omega) (by omega) (by omega)]; exact Ims_g g6 h4
  · have z1 : Ve.1 32 1 = Vc.1 32 1 := by
      rw [he, sF_e, upd_e, (d1 34 (by omega)).1, wf 34 1 (by omega) (by omega) (by omega) (by omega), c34, cf 32 1 (by omega) (by omega)]
    rw [z1, m31, m13, mk]
    refine Dd_v (fun i hi => ?_) (fun i hi => hg i hi) (fun _ _ => rfl) h5
    rw [he, sF_2, pA_e, cp0_in hi, (d1 35 (by omega)).2.1, w 35 (by omega) (by omega) (by omega) (by omega) (by omega) (by omega) (by omega) (by omega) (by omega), c35 i hi, ca 33 (by omega) (by omega)]
  · rw [EF 0 15 (by omega) (by omega) (by omega) (by omega) (by omega), mf 13 (by omega), EA 36 (by omega) (by omega) (by omega) (by omega) (by omega) (by omega), ma 7 (by omega) (by omega) (by omega)]; exact h6
  · rw [EF 0 18 (by omega) (by omega) (by omega) (by omega) (by omega), mf 0 (by omega), EA 63 (by omega) (by omega) (by omega) (by omega) (by omega) (by omega), ma 1 (by omega) (by omega) (by omega)]; exact h7
  · rw [EF 22 9 (by omega) (by omega) (by omega) (by omega) (by omega), mf 48 (by omega), EA 23 (by omega) (by omega) (by omega) (by omega) (by omega) (by omega), EA 27 (by omega) (by omega) (by omega) (by omega) (by omega) (by omega), ma 24 (by omega) (by omega) (by omega)]; exact h8
  · rw [EF 0 16 (by omega) (by omega) (by omega) (by omega) (by omega), mf 6 (by omega), EF 37 8 (by omega) (by omega) (by omega) (by omega) (by omega), mf 14 (by omega), m40, ef 0 17 (by omega) (by omega), v17]; exact ⟨h9.1, rfl, h9.2.2⟩
  · rw [ma 6 (by omega) (by omega) (by omega), EA 59 (by omega) (by omega) (by omega) (by omega) (by omega) (by omega), EA 60 (by omega) (by omega) (by omega) (by omega) (by omega) (by omega)]; exact h10
section OPS
variable {N b0 : Nat}
theorem op_orders (hN : 20000 ≤ N) : Op_orders N b0 (RelZ b0) := by
  intro S V M hRz _
  have hR := hRz.1
  have hS := hR.1
  have h64 := hS.2.2
  obtain ⟨V1, hV1⟩ : ∃ V1, V1 = sF V 0 17 (-1) := ⟨_, rfl⟩
  obtain ⟨M1, hM1⟩ : ∃ M1, M1 = sF M 0 40 (-1) := ⟨_, rfl⟩
  have hR0 : Rel XL b0 S V1 M1 := by
    have hM := hR.2.2.2.2.2.2.2.2.1
    rw [hV1, hM1]
    exact Rel_of hR (G64_F (G64_r V) (by omega)) rfl rfl rfl rfl rfl rfl (fun _ _ _ => rfl) rfl hR.2.1 hR.2.2.2.2.1 hR.2.2.2.2.2.1 hR.2.2.2.2.2.2.1 hR.2.2.2.2.2.2.2.1 ⟨hM.1, rfl, hM.2.2⟩
  rcases readB (b0 := b0) hN hS hR0.2.2.2.2.2.1 hR0.2.2.2.2.2.2.2.2.2.1 1 (Or.inr rfl) with ⟨V', M', f, hf, ex, em, f8, f14, f13, rx, rm⟩ | ⟨S', V', M', nt, cnt, sz, st, C, cl, T, U, ⟨q1, q2, q3, q4⟩, ex, em, f8, f14, f13, f18, rx, rm, ⟨s1, so, s3, s4, s5, s6, s7⟩, ⟨v1, v2, v3⟩, hTU, st0, stn, hcl⟩
  · have hR1 := Rel_read hR0 rx rm f13 (f8.trans f14.symm)
    refine ⟨-6, S, _, _, ?_, ?_, ⟨Rel_ref hR1 6 (by omega), hRz.2⟩, by omega⟩
    · have ex' : f_X5_readText N (adX b0) S V1 (0 + 37) (0 + 36) (V1.1 0 15) 0 = some (0, S, V') := ex
      unfold f_X8_orders
      rw [pl_bd, ← hV1, ex', pl_oa, cgT (shpB_of hS.1), pl_nl0, pl_bd, show (0 : Int32) = nI 0 from rfl, x_ref6, pl_ob]
    · have em' : f_X9_readsAs N M1 1 = some (nI 0, M') := em
      unfold f_X9_orders
      rw [pl_bd, ← hM1, em', pl_ob, if_pos (show nI 0 = 0 from rfl), m_ref6, pl_ob]
  · have hS' : ShX b0 S' := ⟨Old_shp so hS.1, by rw [s3, s1], by rw [s1]; omega⟩
    obtain ⟨r1, r2, r3⟩ := rm
    have hRa : Rel XL b0 S (sF V1 0 15 (nI 0)) (sF M1 0 13 (nI 0)) := Rel_of hR0 (G64_F (G64_r V1) (by omega)) rfl rfl rfl rfl rfl rfl (fun _ _ _ => rfl) rfl hR0.2.1 hR0.2.2.2.2.1 (Tp_0 _ _) hR0.2.2.2.2.2.2.1 hR0.2.2.2.2.2.2.2.1 hR0.2.2.2.2.2.2.2.2.1
    obtain ⟨Va, hVa⟩ : ∃ Va, Va = sF V' 0 15 (nI 0) := ⟨_, rfl⟩
    have hR2 : Rel XL b0 S' Va M' := by
      refine Rel_old hRa so hS' (fun g hg hh => ?_) (fun g hg => r2 g hg) (fun j hj => ?_) ?_
      · obtain ⟨a, b, c⟩ := rx g hg hh
        rw [hVa]
        refine ⟨funext fun j => ?_, b, c⟩
        show (if g = 0 ∧ j = 15 then nI 0 else V'.1 g j) = (if g = 0 ∧ j = 15 then nI 0 else V1.1 g j)
        rw [a]
      · by_cases c : j = 13
        · rw [c, f13, sF_e, upd_e]
        · rw [sF_o _ _ _ _ _ _ (by omega)]; exact r3 j (by omega) (by omega) (by omega)
      · rw [hVa, sF_o _ _ _ _ _ _ (by omega), f8, f14]
    obtain ⟨Vb, kx, b1, b2, b3, b4⟩ := x_copy hN S' Va 12 1 (by omega) (BkL_tsh hR2.2.2.1)
    obtain ⟨Vc, hVc⟩ : ∃ Vc, Vc = sF (pA Vb 35 (cp0 (Vb.2.1 33) (Vb.2.1 35) 80)) 34 1 (Vb.1 32 1) := ⟨_, rfl⟩
    have cA : ∀ g, (g < 12 ∨ 22 ≤ g) → g ≠ 35 → Vc.2.1 g = Va.2.1 g := fun g hg h => by rw [hVc, sF_2, pA_n _ _ _ _ h]; exact (b1 g (by omega)).2.1
    have cF : ∀ g j, (g < 12 ∨ 22 ≤ g) → ¬ (g = 34 ∧ j = 1) → Vc.1 g j = Va.1 g j := fun g j hg h => by rw [hVc, sF_o _ _ _ _ _ _ h, pA_1, (b1 g (by omega)).1]
    have sx : SX Va Vc := by
      refine ⟨fun h hh => ?_, cF 37 8 (by omega) (by omega)⟩
      have hh' : h < 12 ∨ 22 ≤ h := by
        rcases (by omega : h < 12 ∨ 22 ≤ h ∨ (h = 12 ∨ h = 13 ∨ h = 14 ∨ h = 15 ∨ h = 16 ∨ h = 17 ∨ h = 18 ∨ h = 19 ∨ h = 20 ∨ h = 21)) with c | c | c
        · exact Or.inl c
        · exact Or.inr c
        · rcases c with rfl | rfl | rfl | rfl | rfl | rfl | rfl | rfl | rfl | rfl <;> exact absurd hh (by decide)
      have n34 : h ≠ 34 := fun q => by rw [q] at hh; exact absurd hh (by decide)
      have n35 : h ≠ 35 := fun q => by rw [q] at hh; exact absurd hh (by decide)
      refine ⟨funext fun j => cF h j hh' (by omega), cA h hh' n35, ?_⟩
      rw [hVc]
      show Vb.2.2.2 h = _
      exact (b1 h (by omega)).2.2
    obtain ⟨f5, e5, hf5⟩ := m_lays hN M' 1 (by omega)
    obtain ⟨g14, hg14, e27⟩ := m_o27 hN (pA M' 5 f5)
    obtain ⟨M3, hM3⟩ : ∃ M3, M3 = pA (pA M' 5 f5) 14 g14 := ⟨_, rfl⟩
    have M3A : ∀ g, g ≠ 5 → g ≠ 14 → M3.2.1 g = M'.2.1 g := fun g h1 h2 => by rw [hM3, pA_n _ _ _ _ h2, pA_n _ _ _ _ h1]
    have M3F : M3.1 = M'.1 := by rw [hM3]; rfl
    obtain ⟨f, ef, g1, g2, g3⟩ := m_laysT hN M3 q1 (show 6 ≤ 6 by omega) (by rw [M3F]; exact f18)
    obtain ⟨M4, hM4⟩ : ∃ M4, M4 = sF (sF (sF (pA M3 2 f) 0 27 (nI 0)) 0 28 (-1)) 0 41 (nI 2400) := ⟨_, rfl⟩
    have M4A : ∀ g, g ≠ 2 → M4.2.1 g = M3.2.1 g := fun g h => by rw [hM4, sF_2, sF_2, sF_2, pA_n _ _ _ _ h]
    have M4K : M4.2.1 2 = f := by rw [hM4, sF_2, sF_2, sF_2, pA_e]
    have M4F : ∀ j, j ≠ 27 → j ≠ 28 → j ≠ 41 → M4.1 0 j = M'.1 0 j := fun j h1 h2 h3 => by rw [hM4, sF_o _ _ _ _ _ _ (by omega), sF_o _ _ _ _ _ _ (by omega), sF_o _ _ _ _ _ _ (by omega), pA_1, M3F]
    have fk : ∀ j, j < 114 ∨ (115 ≤ j ∧ j < 2515) ∨ (2915 ≤ j ∧ j < 5315) → f j = M'.2.1 2 j := fun j hj => by rw [g3 j (by omega) (by omega) (by omega)]; exact congrFun (M3A 2 (by omega) (by omega)) j
    have hR4 : Rel XL b0 S' Vc M4 := by
      have a1 : Rel XL b0 S' Vc M3 := Rel_s hR2 sx ⟨fun g hg => M3A g (fun q => by rw [q] at hg; exact absurd hg (by decide)) (fun q => by rw [q] at hg; exact absurd hg (by decide)), fun j _ => by rw [M3F]⟩
      have a2 : Rel XL b0 S' Vc (pA M3 2 f) := Rel_k6 a1 (fun j hj => by rw [fk j hj, M3A 2 (by omega) (by omega)])
      rw [hM4]
      exact Rel_s a2 (SX_r _) (SM_F (SM_F (SM_F (SM_r _) rfl) rfl) rfl)
    have cg64 : ∀ g, 64 ≤ g → Vc.1 g = V'.1 g ∧ Vc.2.1 g = V'.2.1 g := fun g hg => ⟨funext fun j => by rw [cF g j (by omega) (by omega), hVa, sF_o _ _ _ _ _ _ (by omega)], by rw [cA g (by omega) (by omega), hVa]; rfl⟩
    have E : OEnv S' Vc M4 S.1 nt cnt sz C cl T U := by
      refine ⟨h64, ⟨q1, q3, q4⟩, ⟨s5, s6, len_of hS'.1 61 _ rfl⟩, ⟨fun i hi => by rw [(cg64 _ (by omega)).2]; exact v2 i hi, fun i hi => by rw [(cg64 _ (by omega)).2]; exact v3 i hi, by rw [(cg64 _ h64).1]; exact v1⟩, fun j hj => ?_⟩
      have := g2 j hj
      rw [M4K]
      refine ⟨?_, ?_⟩
      · rw [show 2515 + j = 115 + 400 * 6 + j by omega, this.1, M3A 9 (by omega) (by omega)]; exact (hTU j hj).1
      · rw [show 5315 + j = 2915 + 400 * 6 + j by omega, this.2, M3A 10 (by omega) (by omega)]; exact (hTU j hj).2
    have I0 : OI b0 S' Vc M4 Vc M4 0 (-1) (st 0) := ⟨hR4, FrX_r _, FrM_r _, by rw [hM4, sF_o _ _ _ _ _ _ (by omega), sF_o _ _ _ _ _ _ (by omega), sF_e, upd_e], by rw [hM4, sF_o _ _ _ _ _ _ (by omega), sF_e, upd_e], Or.inl rfl, by rw [hM4, sF_e, upd_e, st0]⟩
    have hocs : ∀ c, c < cnt → ∃ u, OC C sz cl T U nt c (st c) u ∧ st (c + 1) = u + 1 := fun c hc => by
      obtain ⟨u, hu, hs⟩ := hcl c hc
      rcases hu with ⟨h, -⟩ | ⟨-, hu⟩
      · omega
      · exact ⟨u, hu, hs⟩
    have ex' : f_X5_readText N (adX b0) S V1 (0 + 37) (0 + 36) (V1.1 0 15) 0 = some (S.1 + 1, S', V') := ex
    have em' : f_X9_readsAs N M1 1 = some (nI 1, M') := em
    have kx' : f_X0_copyFrom N S' Va (0 + 12) (0 + 1) = some Vb := kx
    have dx' : f_X1_copyFrom N S' Vb (0 + 34) (0 + 32) = some Vc := by rw [hVc]; exact x_dcopy S' Vb 34 32
    have xs : f_X8_orders N (adX b0) S V 0 = ob (f_X8_runOrders_t_7 N S' 0 S.1 N Vc (nI 0) (-1) (nI 0)) (fun r50 V52 => if r50 < 0 then obv (f_X0_copyFrom N S' V52 (0 + 1) (0 + 12)) (fun V56 => obv (f_X1_copyFrom N S' V56 (0 + 32) (0 + 34)) (fun V59 => ob (f_X8_refused N S' V59 0 (-3 : Int32)) (fun r60 V62 => some (r60, S', V62)))) else ob (f_X8_granted N S' V52 0 r50) (fun r63 V65 => some (r63, S', V65))) := by
      unfold f_X8_orders
      rw [pl_bd, ← hV1, ex', pl_oa, cgT (shpB_of hS'.1), pl_nls, cgT s4, pl_bd]
      have : sF V' 0 15 (0 : Int32) = Va := hVa.symm
      rw [this, kx', pl_obv, dx', pl_obv]
      rfl
    have x60 : M4.1 0 41 + M4.2.1 2 114 = nI (2400 + nt) := by
      rw [M4K, show (114 : Nat) = 108 + 6 from rfl, g1, hM4, sF_e, upd_e, nI_add]
    have ms : f_X9_orders N M = f_X9_orders_95 N N M4 (M'.1 0 31) (nI (2400 + nt)) (nI 0) := by
      have e5' : f_X9_laysAside N M' 1 = some (pA M' 5 f5) := e5
      have ef' : f_X9_lays N (pA (pA M' 5 f5) 14 g14) 6 = some (pA M3 2 f) := by rw [← hM3]; exact ef
      have m4' : sF (sF (sF (pA M3 2 f) 0 27 0) 0 28 (-1)) 0 41 2400 = M4 := hM4.symm
      unfold f_X9_orders
      rw [pl_bd, ← hM1, em', pl_ob, if_neg (by decide), e5', pl_obv, e27, ef', pl_obv, pl_bd, pl_bd, pl_bd, m4', lj 114, pl_ck (by omega) (by omega), nI_cl (by omega), x60, pl_bd]
      rfl
    have lz : ∀ g, S'.1 ≤ g → S'.2.2.1 g = 0 := fun g hg => by
      rw [s1] at hg
      rw [s7 g hg]; exact hRz.2 g (by omega)
    rcases o_run hN E stn hocs (M'.1 0 31) cnt 0 N N Vc M4 0 (-1) (by omega) (by omega) (by omega) I0 (by omega) with ⟨V2, M2, dn, lt, t', hI, hdn, xr, mr⟩ | ⟨V2, M2, c', fx, v17, fm, xr, mr⟩
    · obtain ⟨a1, a2, a3, a4, -⟩ := hI
      refine ⟨nI dn, S', _, _, ?_, ?_, ⟨Rel_good a1, lz⟩, by rw [s1]; omega⟩
      · rw [xs, xr, pl_ob, if_neg (nI_pos (by omega)), x_granted, pl_ob]
      · rw [ms, mr, a4, m_good, pl_ob]
    · obtain ⟨Vd, ky, d1, d2, d3, d4⟩ := x_copy hN S' V2 1 12 (by omega) (fun i hi => by
        rw [fx.1]
        have : Vc.2.2.2 (12 + 7) i = Va.2.2.2 8 i := by
          rw [hVc]
          show Vb.2.2.2 (12 + 7) i = _
          rw [b4 i hi]
        rw [this]
        exact BkL_tsh hR2.2.2.1 i hi)
      obtain ⟨Ve, hVe⟩ : ∃ Ve, Ve = sF (pA Vd 33 (cp0 (Vd.2.1 35) (Vd.2.1 33) 80)) 32 1 (Vd.1 34 1) := ⟨_, rfl⟩
      obtain ⟨f2, e2, h2a, h2b⟩ := m_tback hN M2 1 (by omega)
      obtain ⟨g, hg, e122⟩ := m_o122 hN (pA M2 2 f2) (M'.1 0 31) (nI c')
      obtain ⟨Me, hMe⟩ : ∃ Me, Me = sF (sF (pA (pA M2 2 f2) 13 g) 0 31 (M'.1 0 31)) 0 40 (nI c') := ⟨_, rfl⟩
      have hf2 : f2 = M4.2.1 2 := by
        funext j
        by_cases hj : j < 32
        · rw [h2a j hj, fm.1 5 (by omega) (by omega) (by omega), M4A 5 (by omega), hM3, pA_n _ _ _ _ (by omega), pA_e, hf5 j hj, M4K, fk j (by omega)]
        · rw [h2b j (by omega), fm.2.1 j (by omega)]
      have hgg : ∀ i, i < 528 → g i = M4.2.1 13 i := fun i hi => by
        rw [hg i hi, pA_n _ _ _ _ (by omega), fm.1 14 (by omega) (by omega) (by omega), M4A 14 (by omega), hM3, pA_e, hg14 i hi, M4A 13 (by omega), hM3, pA_n _ _ _ _ (by omega)]; rfl
      have hRe : Rel XL b0 S' Ve Me := o_back hR4 ⟨b1, b2, b3, b4⟩ hVc fx v17 ⟨d1, d2, d3, d4⟩ hVe fm (M4F 31 (by omega) (by omega) (by omega)).symm hf2 hgg hMe
      refine ⟨-3, S', rfX Ve 3, rfM Me 3, ?_, ?_, ⟨Rel_ref hRe 3 (by omega), lz⟩, by rw [s1]; omega⟩
      · have ky' : f_X0_copyFrom N S' V2 (0 + 1) (0 + 12) = some Vd := ky
        have de' : f_X1_copyFrom N S' Vd (0 + 32) (0 + 34) = some Ve := by rw [hVe]; exact x_dcopy S' Vd 32 34
        rw [xs, xr, pl_ob, if_pos (by decide), ky', pl_obv, de', pl_obv, x_ref3, pl_ob]
      · have e2' : f_X9_takesBack N M2 1 = some (pA M2 2 f2) := e2
        rw [ms, mr, e2', pl_obv, e122, hMe]
end OPS
end
