section
/-! image -/
theorem OldV_bkZ (V : Vt) (o g : Nat) (hg : g < o ∨ o + 10 ≤ g) : (bkZ V o).1 g = V.1 g ∧ (bkZ V o).2.1 g = V.2.1 g ∧ (bkZ V o).2.2.2 g = V.2.2.2 g := by
  have z : ∀ (V : Vt) h, g ≠ h → (zV V h).1 g = V.1 g ∧ (zV V h).2.1 g = V.2.1 g ∧ (zV V h).2.2.2 g = V.2.2.2 g := fun V h hh => zV_o V h g hh
  have s : ∀ (V : Vt) h j x, g ≠ h → (sA V h j x).1 g = V.1 g ∧ (sA V h j x).2.1 g = V.2.1 g ∧ (sA V h j x).2.2.2 g = V.2.2.2 g := fun V h j x hh => ⟨rfl, sA_n _ _ _ _ _ hh, rfl⟩
  unfold bkZ
  refine ⟨?_, ?_, ?_⟩
  · rw [sF_n _ _ _ _ _ (by omega), (z _ _ (by omega)).1, (z _ _ (by omega)).1, (z _ _ (by omega)).1, (s _ _ _ _ (by omega)).1, (s _ _ _ _ (by omega)).1, (s _ _ _ _ (by omega)).1, (z _ _ (by omega)).1, (z _ _ (by omega)).1, (z _ _ (by omega)).1, (z _ _ (by omega)).1, (z _ _ (by omega)).1, (z _ _ (by omega)).1]
  · rw [sF_2, (z _ _ (by omega)).2.1, (z _ _ (by omega)).2.1, (z _ _ (by omega)).2.1, (s _ _ _ _ (by omega)).2.1, (s _ _ _ _ (by omega)).2.1, (s _ _ _ _ (by omega)).2.1, (z _ _ (by omega)).2.1, (z _ _ (by omega)).2.1, (z _ _ (by omega)).2.1, (z _ _ (by omega)).2.1, (z _ _ (by omega)).2.1, (z _ _ (by omega)).2.1]
  · show (zV _ (o + 9)).2.2.2 g = _
    rw [(z _ _ (by omega)).2.2, (z _ _ (by omega)).2.2, (z _ _ (by omega)).2.2, (s _ _ _ _ (by omega)).2.2, (s _ _ _ _ (by omega)).2.2, (s _ _ _ _ (by omega)).2.2, (z _ _ (by omega)).2.2, (z _ _ (by omega)).2.2, (z _ _ (by omega)).2.2, (z _ _ (by omega)).2.2, (z _ _ (by omega)).2.2, (z _ _ (by omega)).2.2]
theorem m_image17 {N : Nat} (hN : 20000 ≤ N) (M : Vt) (k : Nat) (hk : k ≤ 1) : ∃ f : Nat → Int32, f_X9_image_17 N N M (nI k) (nI 0) = some (nI 0, sF (sA (pA M 3 f) 4 k (nI 1)) 0 0 (nI 0)) ∧ (∀ j, j < 5715 → f (5715 * k + j) = M.2.1 2 j) ∧ ∀ j, j < 5715 → f (5715 * (1 - k) + j) = M.2.1 3 (5715 * (1 - k) + j) := by
  obtain ⟨g, ⟨g1, g2⟩, n, en⟩ := lpN N (fun n (f : Nat → Int32) i => f_X9_image_17 N n (pA M 3 f) (nI k) i) 5715 (fun i f => (∀ j, j < i → f (5715 * k + j) = M.2.1 2 j) ∧ ∀ j, j < 5715 → f (5715 * (1 - k) + j) = M.2.1 3 (5715 * (1 - k) + j)) (by
    intro i f hi ⟨h1, h2⟩
    refine ⟨upd f (5715 * k + i) (M.2.1 2 i), ⟨fun j hj => ?_, fun j hj => ?_⟩, fun n => ?_⟩
    · by_cases hji : j = i
      · subst hji; rw [upd_e]
      · rw [upd_n _ _ _ _ (by omega)]; exact h1 j (by omega)
    · rw [upd_n _ _ _ _ (by rcases (by omega : k = 0 ∨ k = 1) with rfl | rfl <;> omega)]; exact h2 j hj
    · have h32 : ¬ 5715 ≤ i := by omega
      have k2 : (pA M 3 f).2.1 2 i = M.2.1 2 i := rfl
      rw [f_X9_image_17]
      simp (disch := omega) only [h32, k2, sA_pAe, pl_bd, pl_ob, pl_ob1, pl_obv, pl_oa, pl_oav, pl_cg, pl_cb0, pl_cb1, pl_nl0, pl_nls, li, nI_cl, pl_ck, nI_E, nI_L, nI_T, nI_add, pk_mul, nI_s1, Nat.zero_add, Nat.add_zero, Nat.reduceAdd, Nat.reduceMul, Nat.reduceSub, Nat.reduceEqDiff, Nat.reduceLeDiff, Nat.reduceLT, ↓reduceIte]) (M.2.1 3) (by omega) ⟨fun j hj => absurd hj (Nat.not_lt_zero j), fun _ _ => rfl⟩
  refine ⟨g, ?_, g1, g2⟩
  have e0 : f_X9_image_17 N N M (nI k) (nI 0) = f_X9_image_17 N N (pA M 3 (M.2.1 3)) (nI k) (nI 0) := by rw [pA_self]
  rw [e0, en, f_X9_image_17]
  simp (disch := omega) only [m_good, pl_bd, pl_ob, pl_ob1, pl_obv, pl_oa, pl_oav, pl_cg, pl_cb0, pl_cb1, pl_nl0, pl_nls, li, nI_cl, pl_ck, nI_E, nI_L, nI_T, nI_add, pk_mul, nI_s1, Nat.zero_add, Nat.add_zero, Nat.reduceAdd, Nat.reduceMul, Nat.reduceSub, Nat.reduceEqDiff, Nat.reduceLeDiff, Nat.reduceLT, ↓reduceIte]
  rfl

theorem BkL_mv {X : TxP} {S S' : St} {V V' : Vt} {im im' : Nat → Nat} {f f' : Nat → Int32} {la la' : Nat → Nat} {K K' : Nat → Int32} (o : Old S S') (hf : f' 10 = f 10) (hg : f' 11 = f 11) (hl : ∀ i, i < 6 → la' i = la i) (hT : ∀ p, TH S im p → TH S' im' p ∧ V'.1 p = V.1 p ∧ V'.2.1 (p + 1) = V.2.1 (p + 1) ∧ V'.2.1 (p + 2) = V.2.1 (p + 2)) (hk : ∀ j, j < 5715 → K' j = K j) (b : BkL X S V im f la K) : BkL X S' V' im' f' la' K' := by
  obtain ⟨e1, e2, n, hn, e3, e4, e5, e6⟩ := b
  refine ⟨by rw [hf, hk 106 (by omega)]; exact e1, by rw [hg, hk 107 (by omega)]; exact e2, n, hn, by rw [hk 106 (by omega)]; exact e3, by rw [hk 107 (by omega)]; exact e4, fun i hi => ?_, fun i hi => ?_⟩
  · rw [hl i hi]
    rcases e5 i hi with h | ⟨q, h, ht⟩
    · exact Or.inl h
    · exact Or.inr ⟨q, h, (hT q ht).1⟩
  · rw [hl i (by omega)]
    obtain ⟨q, hq, ht⟩ := e6 i hi
    have hq2 : TH S im q := by
      rcases e5 i (by omega) with h | ⟨q', h, ht⟩
      · rw [h] at hq; cases hq
      · rw [h] at hq; cases hq; exact ht
    obtain ⟨-, a1, a2, a3⟩ := hT q hq2
    have hl2 := tsh_lt hq2.2.1
    refine ⟨q, hq, ?_⟩
    unfold TX
    rw [a1, a2, a3, (o.2 (q + 1) (by omega)).2.1, (o.2 (q + 2) (by omega)).2.1, hk (108 + i) (by omega), tk_c (K := K) (fun k hk2 => hk _ (by omega)), tk_c (K := K) (fun k hk2 => hk _ (by omega))]
    exact ht
/-- the book laid by at q -/
theorem im_put {N b0 : Nat} (hN : 20000 ≤ N) {S S' : St} {V W M : Vt} {k q : Nat} {f : Nat → Int32} (hR : Rel XL b0 S V M) (hS' : ShX b0 S') (so : Old S S') (hk : k ≤ 1) (h64 : 64 ≤ q) (hq : shpB S' q t0 = true) (w : ∀ g, (g < q ∨ q + 10 ≤ g) → W.1 g = V.1 g ∧ W.2.1 g = V.2.1 g ∧ (g ≠ 11 → W.2.2.2 g = V.2.2.2 g)) (w11 : ∀ i, W.2.2.2 11 i = if i = k then q + 1 else V.2.2.2 11 i) (ap : ∀ p, TH S (V.2.2.2 11) p → p + 3 ≤ q ∨ q + 10 ≤ p) (ai : ∀ r, V.2.2.2 11 (1 - k) = r + 1 → r + 10 ≤ q ∨ q + 10 ≤ r) (f1 : ∀ j, j < 5715 → f (5715 * k + j) = M.2.1 2 j) (f2 : ∀ j, j < 5715 → f (5715 * (1 - k) + j) = M.2.1 3 (5715 * (1 - k) + j)) :
    ∃ V', f_X0_copyFrom N S' W q 1 = some V' ∧ Rel XL b0 S' (sF V' 0 18 (nI 0)) (sF (sA (pA M 3 f) 4 k (nI 1)) 0 0 (nI 0)) := by
  obtain ⟨h1, h2, h3, h4, h5, h6, h7, h8, h9, h10⟩ := hR
  have w8 : W.2.2.2 8 = V.2.2.2 8 := (w 8 (by omega)).2.2 (by omega)
  obtain ⟨V', kx, fr, ff, fa, fl⟩ := x_copy hN S' W q 1 (by omega) (fun i hi => by
    rw [show 1 + 7 = 8 from rfl, w8]
    rcases BkL_tsh h3 i hi with h | ⟨p, e, ht⟩
    · exact Or.inl h
    · exact Or.inr ⟨p, e, tsh_old so ht⟩)
  refine ⟨V', kx, ?_⟩
  obtain ⟨V2, hV2⟩ : ∃ V2, V2 = sF V' 0 18 (nI 0) := ⟨_, rfl⟩
  obtain ⟨M2, hM2⟩ : ∃ M2, M2 = sF (sA (pA M 3 f) 4 k (nI 1)) 0 0 (nI 0) := ⟨_, rfl⟩
  rw [← hV2, ← hM2]
  have vA : ∀ g, (g < q ∨ q + 10 ≤ g) → V2.2.1 g = V.2.1 g := fun g hg => by rw [hV2, sF_2, (fr g hg).2.1, (w g hg).2.1]
  have vR : ∀ g, (g < q ∨ q + 10 ≤ g) → g ≠ 11 → V2.2.2.2 g = V.2.2.2 g := fun g hg h => by rw [hV2]; show V'.2.2.2 g = _; rw [(fr g hg).2.2]; exact (w g hg).2.2 h
  have vF : ∀ g j, (g < q ∨ q + 10 ≤ g) → ¬ (g = 0 ∧ j = 18) → V2.1 g j = V.1 g j := fun g j hg h => by rw [hV2, sF_o _ _ _ _ _ _ h, (fr g hg).1, (w g hg).1]
  have vG : ∀ g, (g < q ∨ q + 10 ≤ g) → g ≠ 0 → V2.1 g = V.1 g := fun g hg h => funext fun j => vF g j hg (by omega)
  have v11 : ∀ i, V2.2.2.2 11 i = if i = k then q + 1 else V.2.2.2 11 i := fun i => by rw [hV2]; show V'.2.2.2 11 i = _; rw [(fr 11 (by omega)).2.2]; exact w11 i
  have mA : ∀ g, g ≠ 3 → g ≠ 4 → M2.2.1 g = M.2.1 g := fun g g3 g4 => by rw [hM2, sF_2, sA_n _ _ _ _ _ g4, pA_n _ _ _ _ g3]
  have m3 : M2.2.1 3 = f := by rw [hM2, sF_2, sA_n _ _ _ _ _ (by omega), pA_e]
  have m4 : ∀ i, M2.2.1 4 i = if i = k then nI 1 else M.2.1 4 i := fun i => by rw [hM2, sF_2, sA_e, pA_n _ _ _ _ (by omega)]; rfl
  have mF : ∀ j, j ≠ 0 → M2.1 0 j = M.1 0 j := fun j hj => by rw [hM2, sF_o _ _ _ _ _ _ (by omega)]; rfl
  have hT : ∀ p, TH S (V.2.2.2 11) p → TH S' (V2.2.2.2 11) p ∧ V2.1 p = V.1 p ∧ V2.2.1 (p + 1) = V.2.1 (p + 1) ∧ V2.2.1 (p + 2) = V.2.1 (p + 2) := by
    intro p hp
    have a := ap p hp
    obtain ⟨p1, p2, p3⟩ := hp
    refine ⟨⟨p1, tsh_old so p2, fun i r hi hr => ?_⟩, vG p (by omega) (by omega), vA (p + 1) (by omega), vA (p + 2) (by omega)⟩
    rw [v11] at hr
    by_cases c : i = k
    · rw [if_pos c] at hr; omega
    · rw [if_neg c] at hr; exact p3 i r hi hr
  have hI : ∀ i, i < 2 → IM XL S' V2 (V2.2.2.2 11) (M2.2.1 4) (M2.2.1 3) i := by
    intro i hi
    by_cases c : i = k
    · subst c
      refine Or.inr ⟨q, by rw [v11, if_pos rfl], by rw [m4, if_pos rfl], h64, hq, ?_, ?_⟩
      · obtain ⟨s1, s2, s3, s4, s5, s6, s8, s9⟩ := bkS_a W q 1
        obtain ⟨f9, f10, f11, f12, f13⟩ := ff
        refine BkA_k (K := M.2.1 2) (fun j hj => by rw [m3]; exact f1 j (by omega)) ?_
        have x : ∀ g, V2.2.1 g = (bkS W q 1).2.1 g := fun g => by rw [hV2, sF_2]; exact fa g
        have y : ∀ j, V2.1 q j = V'.1 q j := fun j => by rw [hV2, sF_o _ _ _ _ _ _ (by omega)]
        rw [x, x, x, x, x, x, x, x]
        have bA : BkA (W.1 1) (W.2.1 (1 + 1)) (W.2.1 (1 + 2)) (W.2.1 (1 + 3)) (W.2.1 (1 + 4)) (W.2.1 (1 + 5)) (W.2.1 (1 + 6)) (W.2.1 (1 + 8)) (W.2.1 (1 + 9)) (M.2.1 2) := by
          rw [(w 1 (by omega)).1, (w (1 + 1) (by omega)).2.1, (w (1 + 2) (by omega)).2.1, (w (1 + 3) (by omega)).2.1, (w (1 + 4) (by omega)).2.1, (w (1 + 5) (by omega)).2.1, (w (1 + 6) (by omega)).2.1, (w (1 + 8) (by omega)).2.1, (w (1 + 9) (by omega)).2.1]
          exact h2
        exact BkA_v (by rw [y]; exact f12) (by rw [y]; exact f13) (by rw [y]; exact f9) s1 s2 s3 s4 s5 s6 s8 s9 bA
      · obtain ⟨f9, f10, f11, f12, f13⟩ := ff
        have y : ∀ j, V2.1 q j = V'.1 q j := fun j => by rw [hV2, sF_o _ _ _ _ _ _ (by omega)]
        refine BkL_mv so (by rw [y, f10, (w 1 (by omega)).1]) (by rw [y, f11, (w 1 (by omega)).1]) (fun j hj => ?_) hT (fun j hj => by rw [m3]; exact f1 j hj) h3
        rw [hV2]; show V'.2.2.2 (q + 7) j = _; rw [fl j hj, show 1 + 7 = 8 from rfl, w8]
    · have ei : i = 1 - k := by omega
      have hI0 : IM XL S V (V.2.2.2 11) (M.2.1 4) (M.2.1 3) i := by
        rcases (by omega : i = 0 ∨ i = 1) with rfl | rfl
        · exact h4.1
        · exact h4.2.1
      rcases hI0 with ⟨a1, a2⟩ | ⟨r, a1, a2, a3, a4, a5, a6⟩
      · exact Or.inl ⟨by rw [v11, if_neg c]; exact a1, by rw [m4, if_neg c]; exact a2⟩
      · have ar := ai r (by rw [← ei]; exact a1)
        have fj : ∀ j, j < 5715 → M2.2.1 3 (5715 * i + j) = M.2.1 3 (5715 * i + j) := fun j hj => by rw [m3, ei]; exact f2 j hj
        refine Or.inr ⟨r, by rw [v11, if_neg c]; exact a1, by rw [m4, if_neg c]; exact a2, a3, shpB_of (Old_shp so (shp_of a4)), ?_, ?_⟩
        · rw [vG r (by omega) (by omega), vA (r + 1) (by omega), vA (r + 2) (by omega), vA (r + 3) (by omega), vA (r + 4) (by omega), vA (r + 5) (by omega), vA (r + 6) (by omega), vA (r + 8) (by omega), vA (r + 9) (by omega)]
          exact BkA_k (K := fun j => M.2.1 3 (5715 * i + j)) (fun j hj => fj j (by omega)) a5
        · exact BkL_mv so (by rw [vG r (by omega) (by omega)]) (by rw [vG r (by omega) (by omega)]) (fun j _ => by rw [vR (r + 7) (by omega) (by omega)]) hT fj a6
  refine ⟨hS', ?_, ?_, ⟨hI 0 (by omega), hI 1 (by omega), fun p r e0 e1 => ?_⟩, ?_, ?_, ?_, ?_, ?_, ?_⟩
  · rw [vG 1 (by omega) (by omega), vA 2 (by omega), vA 3 (by omega), vA 4 (by omega), vA 5 (by omega), vA 6 (by omega), vA 7 (by omega), vA 9 (by omega), vA 10 (by omega), mA 2 (by omega) (by omega)]; exact h2
  · rw [mA 2 (by omega) (by omega)]
    exact BkL_mv so (by rw [vG 1 (by omega) (by omega)]) (by rw [vG 1 (by omega) (by omega)]) (fun j _ => by rw [vR 8 (by omega) (by omega)]) hT (fun _ _ => rfl) h3
  · rw [v11] at e0 e1
    rcases (by omega : k = 0 ∨ k = 1) with rfl | rfl
    · rw [if_pos rfl] at e0; rw [if_neg (by omega)] at e1
      have := ai r e1; omega
    · rw [if_neg (by omega)] at e0; rw [if_pos rfl] at e1
      have := ai p e0; omega
  · rw [vF 32 1 (by omega) (by omega), vA 33 (by omega), mF 31 (by omega), mA 13 (by omega) (by omega), mA 2 (by omega) (by omega)]; exact h5
  · rw [vF 0 15 (by omega) (by omega), vA 36 (by omega), mF 13 (by omega), mA 7 (by omega) (by omega)]; exact h6
  · rw [vA 63 (by omega), mA 1 (by omega) (by omega), hM2, sF_e, upd_e, hV2, sF_e, upd_e]; exact ⟨rfl, h7.2⟩
  · rw [vF 22 9 (by omega) (by omega), vA 23 (by omega), vA 27 (by omega), mF 48 (by omega), mA 24 (by omega) (by omega)]; exact h8
  · rw [vF 0 16 (by omega) (by omega), vF 0 17 (by omega) (by omega), vF 37 8 (by omega) (by omega), mF 6 (by omega), mF 40 (by omega), mF 14 (by omega)]; exact h9
  · rw [mA 6 (by omega) (by omega), vA 59 (by omega), vA 60 (by omega)]; exact h10
section OPS
variable {N b0 : Nat}
theorem op_image (hN : 20000 ≤ N) : Op_image N b0 (RelZ b0) := by
  intro S V M hRz a1
  have hR := hRz.1
  have hS := hR.1
  have g64 := hS.2.2
  rcases lies_c N a1 0 1 (by omega) (by omega) with ⟨k, -, hk, rfl, el⟩ | ⟨-, el⟩
  · have hI : IM XL S V (V.2.2.2 11) (M.2.1 4) (M.2.1 3) k := by
      rcases (by omega : k = 0 ∨ k = 1) with rfl | rfl
      · exact hR.2.2.2.1.1
      · exact hR.2.2.2.1.2.1
    obtain ⟨f, em, f1, f2⟩ := m_image17 hN M k hk
    have em' : f_X9_image N M (nI k) = some (nI 0, sF (sA (pA M 3 f) 4 k (nI 1)) 0 0 (nI 0)) := by
      simp (disch := omega) only [f_X9_image, el, pl_bd, pl_ob, pl_ob1, pl_obv, pl_oa, pl_oav, pl_cg, pl_cb0, pl_cb1, pl_nl0, pl_nls, li, nI_cl, pl_ck, nI_E, nI_L, nI_T, nI_add, pk_mul, nI_s1, Nat.zero_add, Nat.add_zero, Nat.reduceAdd, Nat.reduceMul, Nat.reduceSub, Nat.reduceEqDiff, Nat.reduceLeDiff, Nat.reduceLT, ↓reduceIte]; exact em
    have hO : IM XL S V (V.2.2.2 11) (M.2.1 4) (M.2.1 3) (1 - k) := by
      rcases (by omega : k = 0 ∨ k = 1) with rfl | rfl
      · exact hR.2.2.2.1.2.1
      · exact hR.2.2.2.1.1
    rcases hI with ⟨e1, e2⟩ | ⟨q, e1, e2, hq, hs, bA, bL⟩
    · obtain ⟨q, hqq⟩ : ∃ q, q = S.1 := ⟨_, rfl⟩
      have o0 : Old S (nwO S 0) := Old_O S 0
      have zz : S.2.2.2.2 = adX b0 q := by rw [hqq]; exact hS.2.1
      have ads : ∀ i, adX b0 (q + i) = adX b0 q + i := by
        intro i
        induction i with
        | zero => rfl
        | succ i ih => rw [← Nat.add_assoc, adX_s (by omega), ih]; omega
      obtain ⟨S', eI, n', z', sh', so', fl'⟩ := e_X0_init (N := N) (ad := adX b0) (S := nwO S 0) (zV V q) (o := q) (by rw [nwO_n, hqq]) (by rw [nwO_k, if_pos hqq]) (by rw [nwO_l]; exact hRz.2 q (by omega)) (fun j => by rw [nwO_p, if_pos hqq]) (fun i hi => by rw [nwO_z, zz, show q + 1 + i = q + (1 + i) by omega, ads]; omega)
      have so : Old S S' := ⟨by omega, fun g hg => by
        have a := so' g (by omega)
        have b := o0.2 g hg
        exact ⟨a.1.trans b.1, a.2.1.trans b.2.1, a.2.2.trans b.2.2⟩⟩
      have hS' : ShX b0 S' := ⟨Old_shp so hS.1, by rw [z', nwO_z, zz, n', ads], by omega⟩
      obtain ⟨W, hW⟩ : ∃ W, W = sR (bkZ (zV V q) q) 11 k (q + 1) := ⟨_, rfl⟩
      have b11 : (bkZ (zV V q) q).2.2.2 11 = V.2.2.2 11 := by rw [(OldV_bkZ (zV V q) q 11 (by omega)).2.2, (zV_o V q 11 (by omega)).2.2]
      have w11 : ∀ i, W.2.2.2 11 i = if i = k then q + 1 else V.2.2.2 11 i := fun i => by rw [hW, sR_e, b11]
      obtain ⟨V', kx, hR'⟩ := im_put (q := q) (W := W) (S' := S') hN hR hS' so hk (by omega) (shpB_of sh') (fun g hg => by
        have a := OldV_bkZ (zV V q) q g hg
        have b := zV_o V q g (by omega)
        refine ⟨by rw [hW]; exact a.1.trans b.1, by rw [hW]; exact a.2.1.trans b.2.1, fun h => by rw [hW, sR_n _ _ _ _ _ h]; exact a.2.2.trans b.2.2⟩) w11 (fun p hp => by
        have := tsh_lt hp.2.1
        omega) (fun r hr => by
        rcases hO with ⟨a1, -⟩ | ⟨r', a1, -, -, a4, -⟩
        · rw [a1] at hr; cases hr
        · have := shp_lt a4
          rw [a1] at hr
          omega) f1 f2
      refine ⟨nI 0, S', sF V' 0 18 (nI 0), sF (sA (pA M 3 f) 4 k (nI 1)) 0 0 (nI 0), ?_, em', ⟨hR', fun g hg => by rw [fl' g (by omega), nwO_l]; exact hRz.2 g (by omega)⟩, by omega⟩
      have ad0 : (adX b0 S.1 == S.2.2.2.2) = true := by rw [zz, hqq]; exact beq_self_eq_true _
      have el' : f_X8_isWithin N (nI k) 0 1 = some (nI 1) := by rw [within_lies]; exact el
      unfold f_X8_image
      rw [el', pl_ob1, if_neg (show ¬ nI 1 = 0 by decide), pl_ck (by omega) (by omega), nI_cl (by omega), pl_bd, show V.2.2.2 (0 + 11) k = 0 from e1, pl_nl0, cgT ad0, pl_bd, pl_bd, pl_bd, ← hqq, cgT (shpB_of (Old_shp o0 hS.1)), eI, pl_oav, cgT (shpB_of (Old_shp so hS.1)), cgT (ooT (by omega) (by have := (sh' 0 _ rfl).2.1; exact this)), pl_ck (by omega) (by omega), pl_bd, pl_ck (by omega) (by omega), pl_bd]
      have e11 : (sR (bkZ (zV V q) q) (0 + 11) k (q + 1)).2.2.2 (0 + 11) k = q + 1 := by
        show (sR (bkZ (zV V q) q) 11 k (q + 1)).2.2.2 11 k = q + 1
        rw [← hW, w11, if_pos rfl]
      have kx' : f_X0_copyFrom N S' (sR (bkZ (zV V q) q) (0 + 11) k (q + 1)) q (0 + 1) = some V' := by
        show f_X0_copyFrom N S' (sR (bkZ (zV V q) q) 11 k (q + 1)) q 1 = some V'
        rw [← hW]; exact kx
      rw [e11, pl_nls, cgT (shpB_of sh'), kx', pl_obv, show (0 : Int32) = nI 0 from rfl, x_granted, pl_ob]
    · obtain ⟨V', kx, hR'⟩ := im_put (q := q) (W := V) (S' := S) hN hR hS ⟨Nat.le_refl _, fun _ _ => ⟨rfl, rfl, rfl⟩⟩ hk hq hs (fun _ _ => ⟨rfl, rfl, fun _ => rfl⟩) (fun i => by
        by_cases c : i = k
        · rw [if_pos c, c]; exact e1
        · rw [if_neg c]) (fun p hp => hp.2.2 k q (by omega) e1) (fun r hr => by
        rcases (by omega : k = 0 ∨ k = 1) with rfl | rfl
        · have := hR.2.2.2.1.2.2 q r e1 hr; omega
        · have := hR.2.2.2.1.2.2 r q hr e1; omega) f1 f2
      refine ⟨nI 0, S, sF V' 0 18 (nI 0), sF (sA (pA M 3 f) 4 k (nI 1)) 0 0 (nI 0), ?_, em', ⟨hR', hRz.2⟩, by omega⟩
      have el' : f_X8_isWithin N (nI k) 0 1 = some (nI 1) := by rw [within_lies]; exact el
      have e1' : V.2.2.2 (0 + 11) k = q + 1 := e1
      have kx' : f_X0_copyFrom N S V q (0 + 1) = some V' := kx
      unfold f_X8_image
      rw [el', pl_ob1, if_neg (show ¬ nI 1 = 0 by decide), pl_ck (by omega) (by omega), nI_cl (by omega), pl_bd, e1', pl_nls, cgT hs, pl_ck (by omega) (by omega), pl_bd, pl_nls, cgT hs, kx', pl_obv, show (0 : Int32) = nI 0 from rfl, x_granted, pl_ob]
  · refine ⟨-1, S, rfX V 1, rfM M 1, ?_, ?_, ⟨Rel_ref hR 1 (by omega), hRz.2⟩, by omega⟩
    · simp (disch := omega) only [f_X8_image, within_lies, el, pl_bd, pl_ob, pl_ob1, pl_obv, pl_oa, pl_oav, pl_cg, pl_cb0, pl_cb1, pl_nl0, pl_nls, li, nI_cl, pl_ck, nI_E, nI_L, nI_T, nI_add, pk_mul, nI_s1, Nat.zero_add, Nat.add_zero, Nat.reduceAdd, Nat.reduceMul, Nat.reduceSub, Nat.reduceEqDiff, Nat.reduceLeDiff, Nat.reduceLT, ↓reduceIte]; rfl
    · simp (disch := omega) only [f_X9_image, el, pl_bd, pl_ob, pl_ob1, pl_obv, pl_oa, pl_oav, pl_cg, pl_cb0, pl_cb1, pl_nl0, pl_nls, li, nI_cl, pl_ck, nI_E, nI_L, nI_T, nI_add, pk_mul, nI_s1, Nat.zero_add, Nat.add_zero, Nat.reduceAdd, Nat.reduceMul, Nat.reduceSub, Nat.reduceEqDiff, Nat.reduceLeDiff, Nat.reduceLT, ↓reduceIte]; rfl
end OPS
end
