/-! shift, fence, pass; how they are judged -/
def RN (r : Int32) : Prop := nI 0 ≤ r ∨ r = -1 ∨ r = -2 ∨ r = -3
theorem judge {N b0 : Nat} {X : TxP} {S : St} {V M : Vt} (hR : Rel X b0 S V M) {r : Int32} (hr : RN r) : ∃ V' M', f_X8_judged N S V 0 r = some (r, V') ∧ f_X9_goodOr N M r = some (r, M') ∧ Rel X b0 S V' M' := by
  by_cases h0 : nI 0 ≤ r
  · refine ⟨_, _, ?_, ?_, Rel_good hR⟩
    · simp (disch := omega) only [f_X8_judged, h0, x_granted, pl_bd, pl_ob, pl_ob1, pl_obv, pl_oa, pl_oav, pl_cg, pl_cb0, pl_cb1, pl_nl0, pl_nls, li, nI_cl, pl_ck, nI_E, nI_L, nI_T, nI_add, pk_mul, nI_s1, Nat.zero_add, Nat.add_zero, Nat.reduceAdd, Nat.reduceMul, Nat.reduceSub, Nat.reduceEqDiff, Nat.reduceLeDiff, Nat.reduceLT, ↓reduceIte]
    · simp (disch := omega) only [f_X9_goodOr, h0, m_good, pl_bd, pl_ob, pl_ob1, pl_obv, pl_oa, pl_oav, pl_cg, pl_cb0, pl_cb1, pl_nl0, pl_nls, li, nI_cl, pl_ck, nI_E, nI_L, nI_T, nI_add, pk_mul, nI_s1, Nat.zero_add, Nat.add_zero, Nat.reduceAdd, Nat.reduceMul, Nat.reduceSub, Nat.reduceEqDiff, Nat.reduceLeDiff, Nat.reduceLT, ↓reduceIte]
  · rcases hr with h | rfl | rfl | rfl
    · exact absurd h h0
    · exact ⟨_, _, rfl, rfl, Rel_ref hR 1 (by omega)⟩
    · exact ⟨_, _, rfl, rfl, Rel_ref hR 2 (by omega)⟩
    · exact ⟨_, _, rfl, rfl, Rel_ref hR 3 (by omega)⟩
/-- a deed is done and kept: what is left to show -/
theorem Rel_deed {N b0 : Nat} (hN : 20000 ≤ N) {X : TxP} {S : St} {V M : Vt} (hR : Rel X b0 S V M) {V1 : Vt} {K1 : Nat → Int32} (kd a b n h : Int32)
    (hv : G64 V V1 ∧ V1.2.2.2 = V.2.2.2 ∧ (∀ g, g = 0 ∨ g = 22 ∨ g = 32 ∨ g = 37 → V1.1 g = V.1 g) ∧ V1.1 1 10 = V.1 1 10 ∧ V1.1 1 11 = V.1 1 11 ∧ (∀ g, g = 23 ∨ g = 27 ∨ g = 33 ∨ g = 36 ∨ g = 63 → V1.2.1 g = V.2.1 g))
    (hk : ∀ j, 32 ≤ j → K1 j = M.2.1 2 j) (hB : BkA (V1.1 1) (V1.2.1 2) (V1.2.1 3) (V1.2.1 4) (V1.2.1 5) (V1.2.1 6) (V1.2.1 7) (V1.2.1 9) (V1.2.1 10) K1)
    (hd : dOne (fun k => if k = 0 then kd else if k = 1 then a else if k = 2 then b else if k = 3 then n else h) K1 (M.2.1 2) kd) : ∃ V' M', f_X1_keep N S V1 32 kd a b n h = some V' ∧ f_X9_keeps N M kd = some M' ∧ M'.2.1 2 = M.2.1 2 ∧ Rel X b0 S V' (pA M' 2 K1) ∧ OnD V1 V' ∧ OnM M M' := by
  obtain ⟨m, hm, e1, e2, hD⟩ := hR.2.2.2.2.1
  obtain ⟨g64, vr, vf, f10, f11, va⟩ := hv
  have e1' : V1.1 32 1 = nI m := by rw [vf 32 (by omega)]; exact e1
  obtain ⟨V', kx, kx1, kx2, kx3, o1, o2, o3⟩ := x_keep (N := N) S V1 m hm e1' kd a b n h
  obtain ⟨M', km, km1, km2, km3, km4, p1, p2, p3⟩ := m_keeps hN M m hm e2 kd
  have vf' : ∀ g, g ≠ 32 → V'.1 g = V1.1 g := fun g hg => funext fun j => o3 g j (by omega)
  have mf' : ∀ j, j ≠ 31 → (pA M' 2 K1).1 0 j = M.1 0 j := fun j hj => p3 0 j (by omega)
  have ma' : ∀ g, g ≠ 2 → g ≠ 13 → (pA M' 2 K1).2.1 g = M.2.1 g := fun g hg hg2 => by rw [pA_n _ _ _ _ hg]; exact p2 g hg2
  have vr' : V'.2.2.2 = V.2.2.2 := (congrArg Prod.snd o1).trans vr
  refine ⟨V', M', kx, km, p2 2 (by omega), ?_, ⟨o1, o2, o3⟩, ⟨p1, p2, p3⟩⟩
  refine Rel_of hR (fun g hg => ⟨(vf' g (by omega)).trans (g64 g hg).1, (o2 g (by omega)).trans (g64 g hg).2.1, by rw [vr']⟩) (by rw [vr']) (by rw [vr']) (ma' 3 (by omega) (by omega)) (ma' 4 (by omega) (by omega)) (by rw [vf' 1 (by omega)]; exact f10) (by rw [vf' 1 (by omega)]; exact f11) (fun j h1 h2 => by rw [pA_e]; exact hk j (by omega)) (ma' 6 (by omega) (by omega)) ?_ ?_ ?_ ?_ ?_ ?_
  · rw [vf' 1 (by omega), o2 2 (by omega), o2 3 (by omega), o2 4 (by omega), o2 5 (by omega), o2 6 (by omega), o2 7 (by omega), o2 9 (by omega), o2 10 (by omega), pA_e]
    exact hB
  · rw [kx1, show (pA M' 2 K1).1 0 31 = nI (kM m + 1) from km1, pA_e, pA_n _ _ _ _ (show 13 ≠ 2 by omega)]
    refine Dd_keep hm hD (fun j hj i hi => ?_) kx3 km2 km3 km4 hd
    rw [kx2 j hj i hi, va 33 (by omega)]
  · rw [vf' 0 (by omega), vf 0 (by omega), mf' 13 (by omega), o2 36 (by omega), va 36 (by omega), ma' 7 (by omega) (by omega)]; exact hR.2.2.2.2.2.1
  · rw [vf' 0 (by omega), vf 0 (by omega), mf' 0 (by omega), o2 63 (by omega), va 63 (by omega), ma' 1 (by omega) (by omega)]; exact hR.2.2.2.2.2.2.1
  · rw [vf' 22 (by omega), vf 22 (by omega), mf' 48 (by omega), o2 23 (by omega), va 23 (by omega), o2 27 (by omega), va 27 (by omega), ma' 24 (by omega) (by omega)]; exact hR.2.2.2.2.2.2.2.1
  · rw [vf' 0 (by omega), vf 0 (by omega), mf' 6 (by omega), mf' 40 (by omega), vf' 37 (by omega), vf 37 (by omega), mf' 14 (by omega)]; exact hR.2.2.2.2.2.2.2.2.1
/-- what a deed leaves alone -/
def Dfx (V V' : Vt) : Prop := V'.2.2.2 = V.2.2.2 ∧ (∀ g, g ≠ 2 → g ≠ 3 → g ≠ 6 → g ≠ 7 → g ≠ 33 → g ≠ 46 → g ≠ 47 → V'.2.1 g = V.2.1 g) ∧ ∀ g j, ¬ (g = 32 ∧ j = 1) → ¬ (g = 45 ∧ j = 1) → V'.1 g j = V.1 g j
def Dfm (M M' : Vt) : Prop := (∀ g, g ≠ 2 → g ≠ 12 → g ≠ 13 → M'.2.1 g = M.2.1 g) ∧ (∀ j, 32 ≤ j → M'.2.1 2 j = M.2.1 2 j) ∧ ∀ g j, ¬ (g = 0 ∧ (j = 31 ∨ 22 ≤ j ∧ j ≤ 25)) → M'.1 g j = M.1 g j
theorem Dfx_r (V : Vt) : Dfx V V := ⟨rfl, fun _ _ _ _ _ _ _ _ => rfl, fun _ _ _ _ => rfl⟩
theorem Dfm_r (V : Vt) : Dfm V V := ⟨fun _ _ _ _ => rfl, fun _ _ => rfl, fun _ _ _ => rfl⟩
theorem Dfx_t {V V' V2 : Vt} (a : Dfx V V') (b : Dfx V' V2) : Dfx V V2 := ⟨b.1.trans a.1, fun g h1 h2 h3 h4 h5 h6 h7 => (b.2.1 g h1 h2 h3 h4 h5 h6 h7).trans (a.2.1 g h1 h2 h3 h4 h5 h6 h7), fun g j h1 h2 => (b.2.2 g j h1 h2).trans (a.2.2 g j h1 h2)⟩
theorem Dfm_t {V V' V2 : Vt} (a : Dfm V V') (b : Dfm V' V2) : Dfm V V2 := ⟨fun g h1 h2 h3 => (b.1 g h1 h2 h3).trans (a.1 g h1 h2 h3), fun j h => (b.2.1 j h).trans (a.2.1 j h), fun g j h => (b.2.2 g j h).trans (a.2.2 g j h)⟩
theorem Dfx_d {V V1 V' : Vt} (a : V1.2.2 = V.2.2) (b : ∀ g, g ≠ 2 → g ≠ 3 → g ≠ 6 → g ≠ 7 → V1.2.1 g = V.2.1 g) (c : V1.1 = V.1) (o : OnD V1 V') : Dfx V V' :=
  ⟨by rw [o.1, a], fun g h1 h2 h3 h4 h5 _ _ => (o.2.1 g h5).trans (b g h1 h2 h3 h4), fun g j h1 _ => by rw [o.2.2 g j h1, c]⟩
theorem Dfm_d {M M' : Vt} {K1 : Nat → Int32} (h : ∀ j, 32 ≤ j → K1 j = M.2.1 2 j) (o : OnM M M') : Dfm M (pA M' 2 K1) :=
  ⟨fun g h1 _ h3 => by rw [pA_n _ _ _ _ h1]; exact o.2.1 g h3, fun j hj => by rw [pA_e]; exact h j hj, fun g j hh => by rw [pA_1]; exact o.2.2 g j (fun q => hh ⟨q.1, Or.inl q.2⟩)⟩
theorem dRg_of {f e fe su ke ha te si pa K : Nat → Int32} (h : BkA f e fe su ke ha te si pa K) : dRg K := by
  obtain ⟨b1, ⟨F, hF, eF, -⟩, b3, b4, b5, b6, b7, b8, b9⟩ := h
  exact ⟨fun k hk => (b1 k hk).2, fun k hk => (b5 k hk).2, ⟨F, hF, eF⟩, b6.1.2⟩
theorem sub_add32 (a b : Int32) : a = a - b + b := (Int32.sub_add_cancel a b).symm
theorem add_sub32 (a b : Int32) : a = a + b - b := by
  rw [Int32.sub_eq_add_neg, Int32.add_assoc, Int32.add_right_neg, Int32.add_zero]
section OPS
variable {N b0 : Nat} {X : TxP}
theorem c_shift (hN : 20000 ≤ N) {S : St} {V M : Vt} (hR : Rel X b0 S V M) (a1 a2 a3 : Int32) : ∃ r V' M', f_X8_carryOut N S V 0 (nI 1) a1 a2 a3 = some (r, V') ∧ f_X9_shiftsKept N M a1 a2 a3 = some (r, M') ∧ Rel X b0 S V' M' ∧ RN r ∧ Dfx V V' ∧ Dfm M M' := by
  have hB := hR.2.1
  have n1 : (-nI 1 < nI 0) = True := eq_true (by decide)
  have n3 : (-nI 3 < nI 0) = True := eq_true (by decide)
  rcases cell_c N a1 with ⟨a, ha, rfl, e8, e9⟩ | ⟨e8, e9⟩
  · rcases cell_c N a2 with ⟨b, hb, rfl, d8, d9⟩ | ⟨d8, d9⟩
    · by_cases hab : a = b
      · refine ⟨-1, V, M, ?_, ?_, hR, Or.inr (Or.inl rfl), Dfx_r V, Dfm_r M⟩
        · simp (disch := omega) only [f_X8_carryOut, f_X8_carryOut_16, f_X0_moveEntry, e8, d8, hab, f_X8_carryOut_97, n1, pl_bd, pl_ob, pl_ob1, pl_obv, pl_oa, pl_oav, pl_cg, pl_cb0, pl_cb1, pl_nl0, pl_nls, li, nI_cl, pl_ck, nI_E, nI_L, nI_T, nI_add, pk_mul, nI_s1, Nat.zero_add, Nat.add_zero, Nat.reduceAdd, Nat.reduceMul, Nat.reduceSub, Nat.reduceEqDiff, Nat.reduceLeDiff, Nat.reduceLT, ↓reduceIte]
        · simp (disch := omega) only [f_X9_shiftsKept, e9, d9, hab, pl_bd, pl_ob, pl_ob1, pl_obv, pl_oa, pl_oav, pl_cg, pl_cb0, pl_cb1, pl_nl0, pl_nls, li, nI_cl, pl_ck, nI_E, nI_L, nI_T, nI_add, pk_mul, nI_s1, Nat.zero_add, Nat.add_zero, Nat.reduceAdd, Nat.reduceMul, Nat.reduceSub, Nat.reduceEqDiff, Nat.reduceLeDiff, Nat.reduceLT, ↓reduceIte]
      · rcases lies_c N a3 1 999 (by omega) (by omega) with ⟨n, hn1, hn, rfl, el⟩ | ⟨-, el⟩
        · obtain ⟨x, hx, ex⟩ := (hB.1 a ha).2
          obtain ⟨y, hy, ey⟩ := (hB.1 b hb).2
          have vx : V.2.1 2 a = nI x := (hB.1 a ha).1.trans ex
          have vy : V.2.1 2 b = nI y := (hB.1 b hb).1.trans ey
          by_cases hxn : x < n
          · refine ⟨-3, V, M, ?_, ?_, hR, Or.inr (Or.inr (Or.inr rfl)), Dfx_r V, Dfm_r M⟩
            · simp (disch := omega) only [f_X8_carryOut, f_X8_carryOut_16, f_X0_moveEntry, e8, d8, hab, within_lies, el, vx, hxn, f_X8_carryOut_97, n3, pl_bd, pl_ob, pl_ob1, pl_obv, pl_oa, pl_oav, pl_cg, pl_cb0, pl_cb1, pl_nl0, pl_nls, li, nI_cl, pl_ck, nI_E, nI_L, nI_T, nI_add, pk_mul, nI_s1, Nat.zero_add, Nat.add_zero, Nat.reduceAdd, Nat.reduceMul, Nat.reduceSub, Nat.reduceEqDiff, Nat.reduceLeDiff, Nat.reduceLT, ↓reduceIte]
            · simp (disch := omega) only [f_X9_shiftsKept, e9, d9, hab, el, ex, hxn, pl_bd, pl_ob, pl_ob1, pl_obv, pl_oa, pl_oav, pl_cg, pl_cb0, pl_cb1, pl_nl0, pl_nls, li, nI_cl, pl_ck, nI_E, nI_L, nI_T, nI_add, pk_mul, nI_s1, Nat.zero_add, Nat.add_zero, Nat.reduceAdd, Nat.reduceMul, Nat.reduceSub, Nat.reduceEqDiff, Nat.reduceLeDiff, Nat.reduceLT, ↓reduceIte]
          · by_cases hyn : y + n ≤ 999
            · obtain ⟨V1, eV1⟩ : ∃ W, W = pA V 2 (upd (upd (V.2.1 2) a (nI (x - n))) b (nI (y + n))) := ⟨_, rfl⟩
              obtain ⟨K1, eK1⟩ : ∃ W, W = upd (upd (M.2.1 2) a (nI (x - n))) b (nI (y + n)) := ⟨_, rfl⟩
              have hk : ∀ j, 32 ≤ j → K1 j = M.2.1 2 j := fun j hj => by rw [eK1]; simp (disch := omega) only [upd_n]
              have hk2 : ∀ j, j ≠ a → j ≠ b → K1 j = M.2.1 2 j := fun j h1 h2 => by rw [eK1, upd_n _ _ _ _ h2, upd_n _ _ _ _ h1]
              have w2 : V1.2.1 2 = upd (upd (V.2.1 2) a (nI (x - n))) b (nI (y + n)) := by rw [eV1, pA_e]
              have wn : ∀ g, g ≠ 2 → V1.2.1 g = V.2.1 g := fun g hg => by rw [eV1]; exact pA_n _ _ _ _ hg
              have w1 : V1.1 = V.1 := by rw [eV1]; rfl
              have wr : V1.2.2 = V.2.2 := by rw [eV1]; rfl
              obtain ⟨V', M', kx, km, m2, rel, fr⟩ := Rel_deed hN hR (V1 := V1) (K1 := K1) (nI 1) (nI a) (nI b) (nI n) (-1) ⟨fun g hg => ⟨by rw [w1], wn g (by omega), by rw [wr]⟩, by rw [wr], fun g hg => by rw [w1], by rw [w1], by rw [w1], fun g hg => wn g (by omega)⟩ hk (by
                rw [w1, w2, wn 3 (by omega), wn 4 (by omega), wn 5 (by omega), wn 6 (by omega), wn 7 (by omega), wn 9 (by omega), wn 10 (by omega)]
                obtain ⟨b1, b2, b3, b4, b5, b6, b7, b8, b9⟩ := hB
                refine ⟨fun i hi => ?_, bF_c (hk2 _ (by omega) (by omega)) b2, bS_c (fun i hi => hk2 _ (by omega) (by omega)) b3, bK_c (fun i hi => hk2 _ (by omega) (by omega)) b4, bH_c (fun i hi => hk2 _ (by omega) (by omega)) b5, bT_c (hk2 _ (by omega) (by omega)) (hk2 _ (by omega) (by omega)) (hk2 _ (by omega) (by omega)) b6, bZ_c (fun i hi => hk2 _ (by omega) (by omega)) (hk2 _ (by omega) (by omega)) b7, bP_c (fun i hi => hk2 _ (by omega) (by omega)) (hk2 _ (by omega) (by omega)) b8, bC_c (hk2 _ (by omega) (by omega)) b9⟩
                rw [eK1]
                by_cases hib : i = b
                · subst hib; rw [upd_e, upd_e]; exact ⟨rfl, _, hyn, rfl⟩
                · rw [upd_n _ _ _ _ hib, upd_n _ _ _ _ hib]
                  by_cases hia : i = a
                  · subst hia; rw [upd_e, upd_e]; exact ⟨rfl, _, by omega, rfl⟩
                  · rw [upd_n _ _ _ _ hia, upd_n _ _ _ _ hia]; exact b1 i hi) (by
                refine ⟨dRg_of hB, rfl, Or.inr (Or.inl ⟨rfl, a, b, ha, hb, hab, rfl, rfl, ?_, ?_, fun k hk h1 h2 => (hk2 k h1 h2).symm⟩)⟩
                · show M.2.1 2 a = K1 a + nI n
                  rw [eK1, upd_n _ _ _ _ hab, upd_e, ex, nI_add]; congr 1; omega
                · show M.2.1 2 b = K1 b - nI n
                  rw [eK1, upd_e, ey, pk_sub (by omega)]; congr 1; omega)
              refine ⟨nI (x - n), V', pA M' 2 K1, ?_, ?_, rel, Or.inl (by rw [nI_L (by omega) (by omega)]; omega), Dfx_d wr (fun g h1 h2 h3 h4 => wn g h1) w1 fr.1, Dfm_d hk fr.2⟩
              · have z1 : upd (V.2.1 2) a (nI (x - n)) b = nI y := by rw [upd_n _ _ _ _ (fun h => hab h.symm)]; exact vy
                have z2 : upd (upd (V.2.1 2) a (nI (x - n))) b (nI (y + n)) a = nI (x - n) := by rw [upd_n _ _ _ _ hab, upd_e]
                have z3 : ¬ x - n < 0 := by omega
                simp (disch := omega) only [f_X8_carryOut, f_X8_carryOut_16, f_X0_moveEntry, e8, d8, hab, within_lies, el, vx, hxn, vy, hyn, pk_sub, sA_pA V 2, pA_e, z1, sA_pAe, z2, f_X8_carryOut_97, z3, f_X8_carryOut_120, pl_bd, pl_ob, pl_ob1, pl_obv, pl_oa, pl_oav, pl_cg, pl_cb0, pl_cb1, pl_nl0, pl_nls, li, nI_cl, pl_ck, nI_E, nI_L, nI_T, nI_add, pk_mul, nI_s1, Nat.zero_add, Nat.add_zero, Nat.reduceAdd, Nat.reduceMul, Nat.reduceSub, Nat.reduceEqDiff, Nat.reduceLeDiff, Nat.reduceLT, ↓reduceIte]
                rw [← eV1]
                show (obv (f_X1_keep N S V1 32 (nI 1) (nI a) (nI b) (nI n) (-1)) fun V27 => some (nI (x - n), V27)) = _
                rw [kx]; rfl
              · have k1 : M'.2.1 2 a = nI x := by rw [m2]; exact ex
                have z1 : upd (M'.2.1 2) a (nI (x - n)) b = nI y := by rw [upd_n _ _ _ _ (fun h => hab h.symm), m2]; exact ey
                have z2 : upd (upd (M'.2.1 2) a (nI (x - n))) b (nI (y + n)) a = nI (x - n) := by rw [upd_n _ _ _ _ hab, upd_e]
                simp (disch := omega) only [f_X9_shiftsKept, e9, d9, hab, el, ex, hxn, ey, hyn, km, k1, pk_sub, sA_pA M' 2, pA_e, z1, sA_pAe, z2, pl_bd, pl_ob, pl_ob1, pl_obv, pl_oa, pl_oav, pl_cg, pl_cb0, pl_cb1, pl_nl0, pl_nls, li, nI_cl, pl_ck, nI_E, nI_L, nI_T, nI_add, pk_mul, nI_s1, Nat.zero_add, Nat.add_zero, Nat.reduceAdd, Nat.reduceMul, Nat.reduceSub, Nat.reduceEqDiff, Nat.reduceLeDiff, Nat.reduceLT, ↓reduceIte]
                rw [m2, ← eK1]
            · refine ⟨-3, V, M, ?_, ?_, hR, Or.inr (Or.inr (Or.inr rfl)), Dfx_r V, Dfm_r M⟩
              · simp (disch := omega) only [f_X8_carryOut, f_X8_carryOut_16, f_X0_moveEntry, e8, d8, hab, within_lies, el, vx, hxn, vy, hyn, f_X8_carryOut_97, n3, pl_bd, pl_ob, pl_ob1, pl_obv, pl_oa, pl_oav, pl_cg, pl_cb0, pl_cb1, pl_nl0, pl_nls, li, nI_cl, pl_ck, nI_E, nI_L, nI_T, nI_add, pk_mul, nI_s1, Nat.zero_add, Nat.add_zero, Nat.reduceAdd, Nat.reduceMul, Nat.reduceSub, Nat.reduceEqDiff, Nat.reduceLeDiff, Nat.reduceLT, ↓reduceIte]
              · simp (disch := omega) only [f_X9_shiftsKept, e9, d9, hab, el, ex, hxn, ey, hyn, pl_bd, pl_ob, pl_ob1, pl_obv, pl_oa, pl_oav, pl_cg, pl_cb0, pl_cb1, pl_nl0, pl_nls, li, nI_cl, pl_ck, nI_E, nI_L, nI_T, nI_add, pk_mul, nI_s1, Nat.zero_add, Nat.add_zero, Nat.reduceAdd, Nat.reduceMul, Nat.reduceSub, Nat.reduceEqDiff, Nat.reduceLeDiff, Nat.reduceLT, ↓reduceIte]
        · refine ⟨-1, V, M, ?_, ?_, hR, Or.inr (Or.inl rfl), Dfx_r V, Dfm_r M⟩
          · simp (disch := omega) only [f_X8_carryOut, f_X8_carryOut_16, f_X0_moveEntry, e8, d8, hab, within_lies, el, f_X8_carryOut_97, n1, pl_bd, pl_ob, pl_ob1, pl_obv, pl_oa, pl_oav, pl_cg, pl_cb0, pl_cb1, pl_nl0, pl_nls, li, nI_cl, pl_ck, nI_E, nI_L, nI_T, nI_add, pk_mul, nI_s1, Nat.zero_add, Nat.add_zero, Nat.reduceAdd, Nat.reduceMul, Nat.reduceSub, Nat.reduceEqDiff, Nat.reduceLeDiff, Nat.reduceLT, ↓reduceIte]
          · simp (disch := omega) only [f_X9_shiftsKept, e9, d9, hab, el, pl_bd, pl_ob, pl_ob1, pl_obv, pl_oa, pl_oav, pl_cg, pl_cb0, pl_cb1, pl_nl0, pl_nls, li, nI_cl, pl_ck, nI_E, nI_L, nI_T, nI_add, pk_mul, nI_s1, Nat.zero_add, Nat.add_zero, Nat.reduceAdd, Nat.reduceMul, Nat.reduceSub, Nat.reduceEqDiff, Nat.reduceLeDiff, Nat.reduceLT, ↓reduceIte]
    · refine ⟨-1, V, M, ?_, ?_, hR, Or.inr (Or.inl rfl), Dfx_r V, Dfm_r M⟩
      · simp (disch := omega) only [f_X8_carryOut, f_X8_carryOut_16, f_X0_moveEntry, e8, d8, f_X8_carryOut_97, n1, pl_bd, pl_ob, pl_ob1, pl_obv, pl_oa, pl_oav, pl_cg, pl_cb0, pl_cb1, pl_nl0, pl_nls, li, nI_cl, pl_ck, nI_E, nI_L, nI_T, nI_add, pk_mul, nI_s1, Nat.zero_add, Nat.add_zero, Nat.reduceAdd, Nat.reduceMul, Nat.reduceSub, Nat.reduceEqDiff, Nat.reduceLeDiff, Nat.reduceLT, ↓reduceIte]
      · simp (disch := omega) only [f_X9_shiftsKept, e9, d9, pl_bd, pl_ob, pl_ob1, pl_obv, pl_oa, pl_oav, pl_cg, pl_cb0, pl_cb1, pl_nl0, pl_nls, li, nI_cl, pl_ck, nI_E, nI_L, nI_T, nI_add, pk_mul, nI_s1, Nat.zero_add, Nat.add_zero, Nat.reduceAdd, Nat.reduceMul, Nat.reduceSub, Nat.reduceEqDiff, Nat.reduceLeDiff, Nat.reduceLT, ↓reduceIte]
  · refine ⟨-1, V, M, ?_, ?_, hR, Or.inr (Or.inl rfl), Dfx_r V, Dfm_r M⟩
    · simp (disch := omega) only [f_X8_carryOut, f_X8_carryOut_16, f_X0_moveEntry, e8, f_X8_carryOut_97, n1, pl_bd, pl_ob, pl_ob1, pl_obv, pl_oa, pl_oav, pl_cg, pl_cb0, pl_cb1, pl_nl0, pl_nls, li, nI_cl, pl_ck, nI_E, nI_L, nI_T, nI_add, pk_mul, nI_s1, Nat.zero_add, Nat.add_zero, Nat.reduceAdd, Nat.reduceMul, Nat.reduceSub, Nat.reduceEqDiff, Nat.reduceLeDiff, Nat.reduceLT, ↓reduceIte]
    · simp (disch := omega) only [f_X9_shiftsKept, e9, pl_bd, pl_ob, pl_ob1, pl_obv, pl_oa, pl_oav, pl_cg, pl_cb0, pl_cb1, pl_nl0, pl_nls, li, nI_cl, pl_ck, nI_E, nI_L, nI_T, nI_add, pk_mul, nI_s1, Nat.zero_add, Nat.add_zero, Nat.reduceAdd, Nat.reduceMul, Nat.reduceSub, Nat.reduceEqDiff, Nat.reduceLeDiff, Nat.reduceLT, ↓reduceIte]
theorem op_shift (hN : 20000 ≤ N) : Op_shift N b0 (Rel X b0) := by
  intro S V M hR a1 a2 a3
  obtain ⟨r, V1, M1, h8, h9, hR1, hr, -⟩ := c_shift hN hR a1 a2 a3
  obtain ⟨V2, M2, j8, j9, hR2⟩ := judge (N := N) hR1 hr
  refine ⟨r, V2, M2, ?_, ?_, hR2⟩
  · simp (disch := omega) only [f_X8_shift, h8, j8, pl_bd, pl_ob, pl_ob1, pl_obv, pl_oa, pl_oav, pl_cg, pl_cb0, pl_cb1, pl_nl0, pl_nls, li, nI_cl, pl_ck, nI_E, nI_L, nI_T, nI_add, pk_mul, nI_s1, Nat.zero_add, Nat.add_zero, Nat.reduceAdd, Nat.reduceMul, Nat.reduceSub, Nat.reduceEqDiff, Nat.reduceLeDiff, Nat.reduceLT, ↓reduceIte]
  · simp (disch := omega) only [f_X9_shift, h9, j9, pl_bd, pl_ob, pl_ob1, pl_obv, pl_oa, pl_oav, pl_cg, pl_cb0, pl_cb1, pl_nl0, pl_nls, li, nI_cl, pl_ck, nI_E, nI_L, nI_T, nI_add, pk_mul, nI_s1, Nat.zero_add, Nat.add_zero, Nat.reduceAdd, Nat.reduceMul, Nat.reduceSub, Nat.reduceEqDiff, Nat.reduceLeDiff, Nat.reduceLT, ↓reduceIte]
end OPS
