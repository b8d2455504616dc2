section
/-! law -/
theorem Tp_0 (t u : Nat → Int32) : Tp (nI 0) (nI 0) t u := ⟨0, by omega, rfl, rfl, fun i hi => absurd hi (Nat.not_lt_zero i)⟩
theorem Rel_read {X : TxP} {b0 : Nat} {S : St} {V M V' M' : Vt} (hR : Rel X b0 S V M) (hx : ∀ k, RdX k V V') (hm : RdM M M') (h13 : M'.1 0 13 = nI 0) (hf : V'.1 37 8 = M'.1 0 14) : Rel X b0 S (sF V' 0 15 (nI 0)) M' := by
  have v : ∀ g, (g < 37 ∨ 42 ≤ g) → V'.1 g = V.1 g ∧ V'.2.1 g = V.2.1 g ∧ V'.2.2.2 g = V.2.2.2 g := fun g hg => hx (g + 1) g (by omega) hg
  have v0 : ∀ j, j ≠ 15 → (sF V' 0 15 (nI 0)).1 0 j = V.1 0 j := fun j hj => by rw [sF_o _ _ _ _ _ _ (by omega), (v 0 (by omega)).1]
  have vn : ∀ g, g ≠ 0 → (g < 37 ∨ 42 ≤ g) → (sF V' 0 15 (nI 0)).1 g = V.1 g := fun g h0 hg => by rw [sF_n _ _ _ _ _ h0, (v g hg).1]
  have va : ∀ g, (g < 37 ∨ 42 ≤ g) → (sF V' 0 15 (nI 0)).2.1 g = V.2.1 g := fun g hg => (v g hg).2.1
  have vr : ∀ g, (g < 37 ∨ 42 ≤ g) → (sF V' 0 15 (nI 0)).2.2.2 g = V.2.2.2 g := fun g hg => (v g hg).2.2
  obtain ⟨m1, m2, m3⟩ := hm
  refine Rel_of hR (fun g hg => ⟨vn g (by omega) (by omega), va g (by omega), vr g (by omega)⟩) (vr 11 (by omega)) (vr 8 (by omega)) (m2 3 (by omega)) (m2 4 (by omega)) (by rw [vn 1 (by omega) (by omega)]) (by rw [vn 1 (by omega) (by omega)]) (fun j _ _ => by rw [m2 2 (by omega)]) (m2 6 (by omega)) ?_ ?_ ?_ ?_ ?_ ?_
  · rw [vn 1 (by omega) (by omega), va 2 (by omega), va 3 (by omega), va 4 (by omega), va 5 (by omega), va 6 (by omega), va 7 (by omega), va 9 (by omega), va 10 (by omega), m2 2 (by omega)]; exact hR.2.1
  · rw [vn 32 (by omega) (by omega), m3 31 (by omega) (by omega) (by omega), va 33 (by omega), m2 13 (by omega), m2 2 (by omega)]; exact hR.2.2.2.2.1
  · rw [sF_e, upd_e, h13]; exact Tp_0 _ _
  · rw [v0 18 (by omega), m3 0 (by omega) (by omega) (by omega), va 63 (by omega), m2 1 (by omega)]; exact hR.2.2.2.2.2.2.1
  · rw [vn 22 (by omega) (by omega), m3 48 (by omega) (by omega) (by omega), va 23 (by omega), va 27 (by omega), m2 24 (by omega)]; exact hR.2.2.2.2.2.2.2.1
  · rw [v0 16 (by omega), m3 6 (by omega) (by omega) (by omega), v0 17 (by omega), m3 40 (by omega) (by omega) (by omega), sF_n _ _ _ _ _ (by omega)]
    exact ⟨hR.2.2.2.2.2.2.2.2.1.1, hR.2.2.2.2.2.2.2.2.1.2.1, hf⟩
/-- with lengths of cells not yet made -/
def RelZ (b0 : Nat) (S : St) (V M : Vt) : Prop := Rel XL b0 S V M ∧ ∀ g, S.1 ≤ g → S.2.2.1 g = 0
section OPS
variable {N b0 : Nat}
theorem op_law (hN : 20000 ≤ N) : Op_law N b0 (RelZ b0) := by
  intro S V M hRz _
  have hR := hRz.1
  have hS := hR.1
  obtain ⟨e1, e2, n, hn, e3, e4, e5, e6⟩ := hR.2.2.1
  have h64 := hS.2.2
  have x10 : V.1 1 10 = nI n := e1.trans e3
  by_cases h6 : n = 6
  · subst h6
    have hR1 : Rel XL b0 S (sF V 0 15 (nI 0)) (sF M 0 13 (nI 0)) := by
      refine Rel_of hR (G64_F (G64_r V) (by omega)) rfl rfl rfl rfl rfl rfl (fun _ _ _ => rfl) rfl hR.2.1 hR.2.2.2.2.1 (Tp_0 _ _) hR.2.2.2.2.2.2.1 hR.2.2.2.2.2.2.2.1 hR.2.2.2.2.2.2.2.2.1
    refine ⟨-5, S, _, _, ?_, ?_, ⟨Rel_ref hR1 5 (by omega), hRz.2⟩, by omega⟩
    · unfold f_X8_law
      rw [if_neg (show ¬ V.1 (0 + 1) 10 < 6 by rw [show V.1 (0 + 1) 10 = nI 6 from x10]; decide), pl_bd, show (0 : Int32) = nI 0 from rfl, x_ref5, pl_ob]
    · unfold f_X9_law
      rw [lj 106, pl_ck (by omega) (by omega), nI_cl (by omega), e3, if_pos (show nI 6 = 6 from rfl), pl_bd, show (0 : Int32) = nI 0 from rfl, m_ref5, pl_ob]
  · have lt6 : V.1 (0 + 1) 10 < 6 := by rw [show V.1 (0 + 1) 10 = nI n from x10, lj 6, nI_T (by omega) (by omega)]; omega
    have ne6 : ¬ nI n = 6 := by rw [lj 6, nI_E (by omega) (by omega)]; exact h6
    rcases readB (b0 := b0) hN hS hR.2.2.2.2.2.1 hR.2.2.2.2.2.2.2.2.2.1 0 (Or.inl rfl) with ⟨V', M', f, hf, ex, em, f8, f14, f13, rx, rm⟩ | ⟨S', V', M', nt, cnt, sz, st, C, cl, T, U, ⟨q1, q2, q3, q4⟩, ex, em, f8, f14, f13, f18, rx, rm, ⟨s1, so, s3, s4, s5, s6, s7⟩, ⟨v1, v2, v3⟩, hTU, st0, stn, hcl⟩
    · have hR1 := Rel_read hR rx rm f13 (f8.trans f14.symm)
      refine ⟨-6, S, _, _, ?_, ?_, ⟨Rel_ref hR1 6 (by omega), hRz.2⟩, by omega⟩
      · have ex' : f_X5_readText N (adX b0) S V (0 + 37) (0 + 36) (V.1 0 15) 1 = some (0, S, V') := ex
        unfold f_X8_law
        rw [if_pos lt6, ex', pl_oa, cgT (shpB_of hS.1), pl_nl0, pl_bd, show (0 : Int32) = nI 0 from rfl, x_ref6, pl_ob]
      · have em' : f_X9_readsAs N M 0 = some (nI 0, M') := em
        unfold f_X9_law
        rw [lj 106, pl_ck (by omega) (by omega), nI_cl (by omega), e3, if_neg ne6, em', pl_ob, if_pos (show nI 0 = 0 from rfl), m_ref6, pl_ob]
    · obtain ⟨f, ef, g1, g2, g3⟩ := m_laysT hN M' q1 (show n ≤ 6 by omega) f18
      obtain ⟨m1, m2, m3⟩ := rm
      have v : ∀ g, g < S.1 → (g < 37 ∨ 42 ≤ g) → V'.1 g = V.1 g ∧ V'.2.1 g = V.2.1 g ∧ V'.2.2.2 g = V.2.2.2 g := rx
      obtain ⟨V2, hV2⟩ : ∃ V2, V2 = sF (sF (sR (sF V' 0 15 (nI 0)) 8 n (S.1 + 1)) 1 10 (nI (n + 1))) 0 18 (nI 0) := ⟨_, rfl⟩
      obtain ⟨K2, hK2⟩ : ∃ K2, K2 = upd f 106 (nI (n + 1)) := ⟨_, rfl⟩
      have K2o : ∀ j, j ≠ 106 → j ≠ 108 + n → ¬ (115 + 400 * n ≤ j ∧ j < 115 + 400 * n + nt) → ¬ (2915 + 400 * n ≤ j ∧ j < 2915 + 400 * n + nt) → K2 j = M.2.1 2 j := fun j h1 h2 h3 h4 => by rw [hK2, upd_n _ _ _ _ h1, g3 j h2 h3 h4, m2 2 (by omega)]
      have V2F : ∀ g j, g < S.1 → (g < 37 ∨ 42 ≤ g) → ¬ (g = 0 ∧ (j = 15 ∨ j = 18)) → ¬ (g = 1 ∧ j = 10) → V2.1 g j = V.1 g j := fun g j h1 h2 h3 h4 => by
        rw [hV2, sF_o _ _ _ _ _ _ (by omega), sF_o _ _ _ _ _ _ (by omega)]
        show (sF V' 0 15 (nI 0)).1 g j = _
        rw [sF_o _ _ _ _ _ _ (by omega), (v g h1 h2).1]
      have V2A : ∀ g, V2.2.1 g = V'.2.1 g := fun g => by rw [hV2]; rfl
      have V2A' : ∀ g, g < S.1 → (g < 37 ∨ 42 ≤ g) → V2.2.1 g = V.2.1 g := fun g h1 h2 => (V2A g).trans (v g h1 h2).2.1
      have V2R : ∀ g, g ≠ 8 → V2.2.2.2 g = V'.2.2.2 g := fun g hg => by rw [hV2]; exact sR_n _ _ _ _ _ hg
      have V2q : V2.1 S.1 2 = nI cnt := by
        rw [hV2, sF_o _ _ _ _ _ _ (by omega), sF_o _ _ _ _ _ _ (by omega)]
        show (sF V' 0 15 (nI 0)).1 S.1 2 = _
        rw [sF_o _ _ _ _ _ _ (by omega)]; exact v1
      have rx2 : RdX S.1 V V2 → True := fun _ => trivial
      have g64 : ∀ g, 64 ≤ g → g < S.1 → V2.1 g = V.1 g ∧ V2.2.1 g = V.2.1 g ∧ V2.2.2.2 g = V.2.2.2 g := fun g h1 h2 => ⟨funext fun j => V2F g j h2 (by omega) (by omega) (by omega), V2A' g h2 (by omega), by rw [V2R g (by omega)]; exact (v g h2 (by omega)).2.2⟩
      -- a picture of the older cells alone, for texts and images
      have rxI : RdX S.1 V V2 ∨ True := Or.inr trivial
      have thq : TH S' (V.2.2.2 11) S.1 := by
        refine ⟨h64, s4, fun k p hk hp => Or.inr ?_⟩
        have hI : IM XL S V (V.2.2.2 11) (M.2.1 4) (M.2.1 3) k := by
          rcases (by omega : k = 0 ∨ k = 1) with rfl | rfl
          · exact hR.2.2.2.1.1
          · exact hR.2.2.2.1.2.1
        rcases hI with ⟨i1, -⟩ | ⟨q, i1, -, -, i4, -⟩
        · rw [i1] at hp; cases hp
        · have : q = p := by rw [i1] at hp; omega
          subst this
          exact shp_lt i4
      have txo : ∀ q i, i < 6 → i ≠ n → 64 ≤ q → tshB S q = true → TX XL S V q (M.2.1 2) i → TX XL S' V2 q K2 i := by
        intro q i hi hin hq ht hx
        have hl := tsh_lt ht
        unfold TX
        rw [(g64 q hq (by omega)).1, (g64 (q + 1) (by omega) (by omega)).2.1, (g64 (q + 2) (by omega) (by omega)).2.1, (so.2 (q + 1) (by omega)).2.1, (so.2 (q + 2) (by omega)).2.1, K2o (108 + i) (by omega) (by omega) (by omega) (by omega), tk_c (fun k hk => K2o _ (by omega) (by omega) (by omega) (by omega)), tk_c (fun k hk => K2o _ (by omega) (by omega) (by omega) (by omega))]
        exact hx
      have txn : TX XL S' V2 S.1 K2 n := by
        refine ⟨nt, cnt, st, ⟨q1, ?_, q2, q3, V2q, s6, by rw [s5]; exact q4⟩, st0, stn, fun c hc => ?_⟩
        · rw [hK2, upd_n _ _ _ _ (by omega)]; exact g1
        · obtain ⟨u, hu, hs⟩ := hcl c hc
          refine ⟨u, ?_, hs⟩
          rcases hu with ⟨-, hu⟩ | ⟨h, -⟩
          · rw [s5]
            have tt : ∀ i, i < nt → tk K2 115 n i = T i ∧ tk K2 2915 n i = U i := by
              intro i hi
              have := g2 i hi
              refine ⟨?_, ?_⟩
              · show (if i < 400 then K2 (115 + 400 * n + i) else 0) = _
                rw [if_pos (by omega), hK2, upd_n _ _ _ _ (by omega), this.1]; exact (hTU i hi).1
              · show (if i < 400 then K2 (2915 + 400 * n + i) else 0) = _
                rw [if_pos (by omega), hK2, upd_n _ _ _ _ (by omega), this.2]; exact (hTU i hi).2
            have c2 : CLs 0 (V2.2.1 (S.1 + 1)) sz (V2.2.1 (S.1 + 2)) T U nt c (st c) u := CLs_c (fun i hi => by rw [V2A]; exact v2 i hi) (Nat.le_refl sz) (fun i hi => by rw [V2A]; exact v3 i (by omega)) (Or.inl ⟨rfl, hu⟩)
            rcases c2 with ⟨-, c2⟩ | ⟨h, -⟩
            · exact LC_T tt c2
            · omega
          · omega
      have r11 : V2.2.2.2 11 = V.2.2.2 11 := by rw [V2R 11 (by omega)]; exact (v 11 (by omega) (by omega)).2.2
      have r8 : ∀ i, V2.2.2.2 8 i = if i = n then S.1 + 1 else V.2.2.2 8 i := fun i => by
        rw [hV2]
        show (sR (sF V' 0 15 (nI 0)) 8 n (S.1 + 1)).2.2.2 8 i = _
        rw [sR_e]
        show (if i = n then S.1 + 1 else V'.2.2.2 8 i) = _
        rw [(v 8 (by omega) (by omega)).2.2]
      refine ⟨nI n, S', V2, sF (pA M' 2 K2) 0 0 (nI 0), ?_, ?_, ?_, by rw [s1]; omega⟩
      · have ex' : f_X5_readText N (adX b0) S V (0 + 37) (0 + 36) (V.1 0 15) 1 = some (S.1 + 1, S', V') := ex
        have x32 : (sF V' 0 15 (nI 0)).1 (0 + 1) 10 = nI n := by rw [sF_o _ _ _ _ _ _ (by omega), (v 1 (by omega) (by omega)).1]; exact x10
        unfold f_X8_law
        rw [if_pos lt6, ex', pl_oa, cgT (shpB_of (Old_shp so hS.1)), pl_nls, cgT s4, pl_bd, show (0 : Int32) = nI 0 from rfl, x32, pl_bd, pl_ck (by omega) (by omega), nI_cl (by omega), pl_bd, nI_1, pl_bd, x_granted, pl_ob, hV2]
      · have em' : f_X9_readsAs N M 0 = some (nI 1, M') := em
        have k106 : M'.2.1 2 106 = nI n := by rw [m2 2 (by omega)]; exact e3
        have f106 : f 106 = nI n := by rw [g3 106 (by omega) (by omega) (by omega)]; exact k106
        unfold f_X9_law
        rw [lj 106, pl_ck (by omega) (by omega), nI_cl (by omega), e3, if_neg ne6, em', pl_ob, if_neg (by decide), pl_ck (by omega) (by omega), k106, ef, pl_obv, pl_ck (by omega) (by omega), pl_ck (by omega) (by omega), pA_e, f106, nI_1, sA_pAe, pl_bd, pl_ck (by omega) (by omega), pA_e, upd_e, lj 1, pk_sub (by omega), m_good, pl_ob, hK2]
        rfl
      · have mA : ∀ g, g ≠ 2 → ¬ (9 ≤ g ∧ g ≤ 11) → (sF (pA M' 2 K2) 0 0 (nI 0)).2.1 g = M.2.1 g := fun g h1 h2 => by rw [sF_2, pA_n _ _ _ _ h1]; exact m2 g h2
        have mK : (sF (pA M' 2 K2) 0 0 (nI 0)).2.1 2 = K2 := by rw [sF_2, pA_e]
        have mF : ∀ j, j ≠ 0 → (sF (pA M' 2 K2) 0 0 (nI 0)).1 0 j = M'.1 0 j := fun j hj => by rw [sF_o _ _ _ _ _ _ (by omega), pA_1]
        refine ⟨⟨⟨Old_shp so hS.1, by rw [s3, s1], by rw [s1]; omega⟩, ?_, ?_, ?_, ?_, ?_, ?_, ?_, ?_, ?_⟩, fun g hg => by rw [s1] at hg; rw [s7 g hg]; exact hRz.2 g (by omega)⟩
        · rw [mK]
          refine BkA_k (fun j hj => K2o j (by omega) (by omega) (by omega) (by omega)) ?_
          rw [V2A' 2 (by omega) (by omega), V2A' 3 (by omega) (by omega), V2A' 4 (by omega) (by omega), V2A' 5 (by omega) (by omega), V2A' 6 (by omega) (by omega), V2A' 7 (by omega) (by omega), V2A' 9 (by omega) (by omega), V2A' 10 (by omega) (by omega)]
          exact BkA_v (V2F 1 12 (by omega) (by omega) (by omega) (by omega)) (V2F 1 13 (by omega) (by omega) (by omega) (by omega)) (V2F 1 9 (by omega) (by omega) (by omega) (by omega)) (fun _ _ => rfl) (fun _ _ => rfl) (fun _ _ => rfl) (fun _ _ => rfl) (fun _ _ => rfl) (fun _ _ => rfl) (fun _ _ => rfl) (fun _ _ => rfl) hR.2.1
        · rw [mK, r11]
          have k107 : K2 107 = M.2.1 2 107 := K2o 107 (by omega) (by omega) (by omega) (by omega)
          refine ⟨?_, ?_, n + 1, by omega, by rw [hK2, upd_e], ?_, fun i hi => ?_, fun i hi => ?_⟩
          · rw [hK2, upd_e, hV2, sF_o _ _ _ _ _ _ (by omega), sF_e, upd_e]
          · rw [k107, V2F 1 11 (by omega) (by omega) (by omega) (by omega)]; exact e2
          · rw [k107]
            rcases e4 with h | ⟨j, hj, h⟩
            · exact Or.inl h
            · exact Or.inr ⟨j, by omega, h⟩
          · rw [r8 i]
            by_cases hin : i = n
            · rw [if_pos hin]; exact Or.inr ⟨S.1, rfl, thq⟩
            · rw [if_neg hin]
              rcases e5 i hi with h | ⟨q, h, ht⟩
              · exact Or.inl h
              · exact Or.inr ⟨q, h, TH_old so ht⟩
          · rw [r8 i]
            by_cases hin : i = n
            · rw [if_pos hin]; subst hin; exact ⟨S.1, rfl, txn⟩
            · rw [if_neg hin]
              obtain ⟨q, hq, ht⟩ := e6 i (by omega)
              have hq2 : TH S (V.2.2.2 11) q := by
                rcases e5 i (by omega) with h | ⟨q', h, ht⟩
                · rw [h] at hq; cases hq
                · rw [h] at hq; cases hq; exact ht
              exact ⟨q, hq, txo q i (by omega) hin hq2.1 hq2.2.1 ht⟩
        · rw [r11, mA 4 (by omega) (by omega), mA 3 (by omega) (by omega)]
          -- images rest on cells from 64 on
          obtain ⟨V3, hV3⟩ : ∃ V3 : Vt, V3 = (fun g j => if 64 ≤ g then V2.1 g j else V.1 g j, fun g => if 64 ≤ g then V2.2.1 g else V.2.1 g, V2.2.2.1, fun g => if 64 ≤ g then V2.2.2.2 g else V.2.2.2 g) := ⟨_, rfl⟩
          have o3 : RdX S.1 V V3 := by
            intro g hg _
            by_cases c : 64 ≤ g
            · obtain ⟨a1, a2, a3⟩ := g64 g c hg
              rw [hV3]
              refine ⟨funext fun j => ?_, ?_, ?_⟩
              · show (if 64 ≤ g then V2.1 g j else V.1 g j) = _; rw [if_pos c, a1]
              · show (if 64 ≤ g then V2.2.1 g else V.2.1 g) = _; rw [if_pos c, a2]
              · show (if 64 ≤ g then V2.2.2.2 g else V.2.2.2 g) = _; rw [if_pos c, a3]
            · rw [hV3]
              refine ⟨funext fun j => ?_, ?_, ?_⟩
              · show (if 64 ≤ g then V2.1 g j else V.1 g j) = _; rw [if_neg c]
              · show (if 64 ≤ g then V2.2.1 g else V.2.1 g) = _; rw [if_neg c]
              · show (if 64 ≤ g then V2.2.2.2 g else V.2.2.2 g) = _; rw [if_neg c]
          refine Ims_g (V := V3) (fun g hg => ?_) (Ims_old so o3 hR.2.2.2.1)
          rw [hV3]
          refine ⟨funext fun j => ?_, ?_, ?_⟩
          · show _ = (if 64 ≤ g then V2.1 g j else V.1 g j); rw [if_pos hg]
          · show _ = (if 64 ≤ g then V2.2.1 g else V.2.1 g); rw [if_pos hg]
          · show _ = (if 64 ≤ g then V2.2.2.2 g else V.2.2.2 g); rw [if_pos hg]
        · rw [mK, V2F 32 1 (by omega) (by omega) (by omega) (by omega), mF 31 (by omega), m3 31 (by omega) (by omega) (by omega), V2A' 33 (by omega) (by omega), mA 13 (by omega) (by omega)]
          exact Dd_c (fun k hk => K2o k (by omega) (by omega) (by omega) (by omega)) hR.2.2.2.2.1
        · rw [mF 13 (by omega), f13, hV2, sF_o _ _ _ _ _ _ (by omega), sF_o _ _ _ _ _ _ (by omega)]
          show Tp ((sF V' 0 15 (nI 0)).1 0 15) _ _ _
          rw [sF_e, upd_e]; exact Tp_0 _ _
        · rw [V2A' 63 (by omega) (by omega), mA 1 (by omega) (by omega), sF_e, upd_e, hV2, sF_e, upd_e]
          exact ⟨rfl, hR.2.2.2.2.2.2.1.2⟩
        · rw [V2F 22 9 (by omega) (by omega) (by omega) (by omega), mF 48 (by omega), m3 48 (by omega) (by omega) (by omega), V2A' 23 (by omega) (by omega), V2A' 27 (by omega) (by omega), mA 24 (by omega) (by omega)]
          exact hR.2.2.2.2.2.2.2.1
        · rw [V2F 0 16 (by omega) (by omega) (by omega) (by omega), mF 6 (by omega), m3 6 (by omega) (by omega) (by omega), V2F 0 17 (by omega) (by omega) (by omega) (by omega), mF 40 (by omega), m3 40 (by omega) (by omega) (by omega), mF 14 (by omega), f14]
          refine ⟨hR.2.2.2.2.2.2.2.2.1.1, hR.2.2.2.2.2.2.2.2.1.2.1, ?_⟩
          rw [hV2, sF_o _ _ _ _ _ _ (by omega), sF_o _ _ _ _ _ _ (by omega)]
          show (sF V' 0 15 (nI 0)).1 37 8 = -1
          rw [sF_o _ _ _ _ _ _ (by omega)]; exact f8
        · rw [mA 6 (by omega) (by omega), V2A' 59 (by omega) (by omega), V2A' 60 (by omega) (by omega)]; exact hR.2.2.2.2.2.2.2.2.2
end OPS
end
