section
/-! take, weeks -/
theorem mnI_less (N : Nat) (a b : Int32) : f_X9_lesser N a b = some (mnI a b) := by
  unfold f_X9_lesser mnI
  by_cases h : b ≤ a
  · rw [if_pos h]
    by_cases h2 : b < a
    · rw [if_pos h2]
    · rw [if_neg h2]
      congr 1
      apply Int32.toInt_inj.mp
      rw [Int32.le_iff_toInt_le] at h
      rw [Int32.lt_iff_toInt_lt] at h2
      omega
  · rw [if_neg h, if_neg (fun q => h (by rw [Int32.lt_iff_toInt_lt] at q; rw [Int32.le_iff_toInt_le]; omega))]
theorem mn_nI {a b : Nat} (ha : a < 2147483648) (hb : b < 2147483648) : mnI (nI a) (nI b) = nI (min a b) := by
  unfold mnI
  by_cases h : b < a
  · rw [if_pos (by rw [nI_T hb ha]; exact h), Nat.min_eq_right (by omega)]
  · rw [if_neg (by rw [nI_T hb ha]; exact h), Nat.min_eq_left (by omega)]
/-- the cells of kept after a taking -/
def tkK (K : Nat → Int32) (c k x : Nat) : Nat → Int32 := upd (upd K c (K c - nI x)) (25 + k) (mnI (nI 9999) (K (25 + k) + nI x))
theorem m_takesNow {N : Nat} (M : Vt) {c k x : Nat} (hc : c < 25) (hk : k < 5) : f_X9_takesNow N M (nI c) (nI k) (nI x) = some (pA M 2 (tkK (M.2.1 2) c k x)) := by
  have z : upd (M.2.1 2) c (M.2.1 2 c - nI x) (25 + k) = M.2.1 2 (25 + k) := upd_n _ _ _ _ (by omega)
  simp (disch := omega) only [f_X9_takesNow, sA_pA M 2, pA_e, z, mnI_less, sA_pAe, ↓pl_bd, pl_ob, pl_ob1, pl_obv, pl_oa, pl_oav, pl_cg, pl_cb0, pl_cb1, pl_nl0, pl_nls, li, nI_cl, pl_ck, nI_E, nI_L, nI_T, nI_add, pk_mul, Nat.zero_add, Nat.add_zero, Nat.reduceAdd, Nat.reduceMul, Nat.reduceSub, Nat.reduceEqDiff, Nat.reduceLeDiff, Nat.reduceLT, ↓reduceIte]
  rfl
theorem tkK_o (K : Nat → Int32) (c k x j : Nat) (h1 : j ≠ c) (h2 : j ≠ 25 + k) : tkK K c k x j = K j := by
  unfold tkK; rw [upd_n _ _ _ _ h2, upd_n _ _ _ _ h1]
/-- a book after a taking -/
theorem BkA_take {f e fe su ke ha te si pa K : Nat → Int32} (h : BkA f e fe su ke ha te si pa K) {c k x w : Nat} (hc : c < 25) (hk : k < 5) (hw : e c = nI w) (w9 : w ≤ 999) (hx : x ≤ w) (hx9 : x ≤ 99) : BkA f (upd e c (e c - nI x)) fe su ke (upd ha k (mnI (nI 9999) (ha k + nI x))) te si pa (tkK K c k x) := by
  obtain ⟨b1, b2, b3, b4, b5, b6, b7, b8, b9⟩ := h
  have o := tkK_o K c k x
  refine ⟨fun i hi => ?_, bF_c (o 30 (by omega) (by omega)) b2, bS_c (fun i hi => o _ (by omega) (by omega)) b3, bK_c (fun i hi => o _ (by omega) (by omega)) b4, fun i hi => ?_, bT_c (o _ (by omega) (by omega)) (o _ (by omega) (by omega)) (o _ (by omega) (by omega)) b6, bZ_c (fun i hi => o _ (by omega) (by omega)) (o _ (by omega) (by omega)) b7, bP_c (fun i hi => o _ (by omega) (by omega)) (o _ (by omega) (by omega)) b8, bC_c (o _ (by omega) (by omega)) b9⟩
  · by_cases hic : i = c
    · subst hic
      have z : tkK K i k x i = K i - nI x := by unfold tkK; rw [upd_n _ _ _ _ (by omega), upd_e]
      rw [upd_e, z, ← (b1 i hi).1, hw, pk_sub hx]
      exact ⟨rfl, _, by omega, rfl⟩
    · rw [upd_n _ _ _ _ hic, o i hic (by omega)]; exact b1 i hi
  · by_cases hik : i = k
    · subst hik
      have z : tkK K c i x (25 + i) = mnI (nI 9999) (K (25 + i) + nI x) := by unfold tkK; rw [upd_e]
      obtain ⟨e1, h1, hh1, eh1⟩ := b5 i hi
      rw [upd_e, z, e1, eh1, nI_add, mn_nI (by omega) (by omega)]
      exact ⟨rfl, _, by omega, rfl⟩
    · rw [upd_n _ _ _ _ hik, o _ (by omega) (by omega)]; exact b5 i hi
section OPS
variable {N b0 : Nat}
theorem Dfx_ch {V V' : Vt} (h : chX 44 V V') : Dfx V V' := ⟨by rw [h.1], fun g _ _ _ _ _ h6 h7 => h.2.1 g h6 h7, fun g j _ h2 => h.2.2 g j h2⟩
theorem Dfm_ch {M M' : Vt} (h : chM M M') : Dfm M M' := ⟨fun g _ h2 _ => h.2.1 g h2, fun j _ => by rw [h.2.1 2 (by omega)], fun g j hh => h.2.2 g j (fun q => hh ⟨q.1, Or.inr q.2⟩)⟩
theorem c_take (hN : 20000 ≤ N) {S : St} {V M : Vt} (hR : Rel XL b0 S V M) (a1 a2 a4 : Int32) : ∃ r V' M', f_X8_carryOut N S V 0 (nI 0) a1 a2 a4 = some (r, V') ∧ f_X9_takesKept N M a1 a2 = some (r, M') ∧ Rel XL b0 S V' M' ∧ RN r ∧ Dfx V V' ∧ Dfm M M' := by
  have hB := hR.2.1
  have hBR : BkR V 1 (M.2.1 2) := BkR_of hB rfl rfl rfl rfl rfl
  have hs : S.2.2.1 47 = 10 := len_of hR.1.1 47 _ rfl
  obtain ⟨ec, n, hn, en⟩ := hB.2.2.2.2.2.2.2.2
  have start : ∀ hnd, f_X0_handOf N S V 1 a2 = some hnd → f_X8_carryOut N S V 0 (nI 0) a1 a2 a4 = ob (f_X8_takeAway N S V 0 1 a1 a2) (fun r20 V22 => f_X8_carryOut_97 N S 0 V22 (nI 0) a1 a2 a4 hnd r20) := by
    intro hnd hh
    unfold f_X8_carryOut f_X8_carryOut_16
    rw [if_pos (show nI 0 = 0 from rfl)]
    have hh' : f_X0_handOf N S V (0 + 1) a2 = some hnd := hh
    rw [hh', pl_ob1, if_pos (show nI 0 = 0 from rfl)]
  have neg : ∀ (r : Int32) V1 hnd, r < 0 → f_X8_carryOut_97 N S 0 V1 (nI 0) a1 a2 a4 hnd r = some (r, V1) := by
    intro r V1 hnd hr
    unfold f_X8_carryOut_97
    rw [if_pos hr]
  rcases clerk_c N S V M 1 n hn (ec.trans en) en a2 with ⟨k, hk, rfl, k8, k9⟩ | ⟨k8, k9⟩
  · have hnd : f_X0_handOf N S V 1 (nI k) = some (V.2.1 6 k) := by
      unfold f_X0_handOf
      rw [k8, pl_ob1, if_neg (by decide), pl_ck (by omega) (by omega), nI_cl (by omega)]
    rw [start _ hnd]
    rcases cell_c N a1 with ⟨c, hc, rfl, e8, e9⟩ | ⟨e8, e9⟩
    · obtain ⟨x, V1, M1, hx, ⟨w, w9, hw, hxw⟩, f1, f2, cx, cm⟩ := canT hN (a1 := 1) (by omega) hs hBR hR.2.2.1 hc hk hn (ec.trans en)
      have hR1 := Rel_s hR (SX_ch (Or.inl rfl) cx) (SM_ch cm)
      rw [f1]
      have mk : f_X9_takesKept N M (nI c) (nI k) = if nI x = 0 then some (-3, M1) else obv (f_X9_keeps N M1 0) (fun V26 => obv (f_X9_takesNow N V26 (nI c) (nI k) (nI x)) (fun V29 => some (nI x, V29))) := by
        unfold f_X9_takesKept
        rw [e9, pl_ob1, if_neg (by decide), k9, pl_ob1, if_neg (by decide), f2, pl_ob]
      by_cases h0 : x = 0
      · subst h0
        refine ⟨-3, V1, M1, ?_, ?_, hR1, Or.inr (Or.inr (Or.inr rfl)), Dfx_ch cx, Dfm_ch cm⟩
        · rw [if_pos rfl, pl_ob, neg _ _ _ (by decide)]
        · rw [mk, if_pos (show nI 0 = 0 from rfl)]
      · rw [if_neg h0, pl_ob]
        have v2 : V1.2.1 2 = V.2.1 2 := cx.2.1 2 (by omega) (by omega)
        have v6 : V1.2.1 6 = V.2.1 6 := cx.2.1 6 (by omega) (by omega)
        have w1 : V1.2.1 2 c = nI w := by rw [v2]; exact hw
        obtain ⟨V2, eV2⟩ : ∃ V2, V2 = sA (sA V1 2 c (V1.2.1 2 c - nI x)) 6 k (mnI (nI 9999) (V1.2.1 6 k + nI x)) := ⟨_, rfl⟩
        have s1 : V2.1 = V1.1 := by rw [eV2]; rfl
        have sr : V2.2.2 = V1.2.2 := by rw [eV2]; rfl
        have s2 : V2.2.1 2 = upd (V1.2.1 2) c (V1.2.1 2 c - nI x) := by rw [eV2, sA_n _ _ _ _ _ (by omega), sA_e]
        have s6 : V2.2.1 6 = upd (V1.2.1 6) k (mnI (nI 9999) (V1.2.1 6 k + nI x)) := by rw [eV2, sA_e, sA_n _ _ _ _ _ (by omega)]
        have so : ∀ g, g ≠ 2 → g ≠ 6 → V2.2.1 g = V1.2.1 g := fun g h1 h2 => by rw [eV2, sA_n _ _ _ _ _ h2, sA_n _ _ _ _ _ h1]
        have hB1 := hR1.2.1
        have hand : V.2.1 6 k = M1.2.1 2 (25 + k) := by rw [← v6]; exact (hB1.2.2.2.2.1 k (by omega)).1
        have o := tkK_o (M1.2.1 2) c k x
        obtain ⟨V', M', kx, km, m2, rel, fr⟩ := Rel_deed hN hR1 (V1 := V2) (K1 := tkK (M1.2.1 2) c k x) (nI 0) (nI c) (nI k) (nI x) (V.2.1 6 k) ⟨fun g hg => ⟨by rw [s1], so g (by omega) (by omega), by rw [sr]⟩, by rw [sr], fun g hg => by rw [s1], by rw [s1], by rw [s1], fun g hg => so g (by omega) (by omega)⟩ (fun j hj => o j (by omega) (by omega)) (by
          rw [s1, s2, s6, so 3 (by omega) (by omega), so 4 (by omega) (by omega), so 5 (by omega) (by omega), so 7 (by omega) (by omega), so 9 (by omega) (by omega), so 10 (by omega) (by omega)]
          exact BkA_take hB1 hc (by omega) w1 w9 hxw hx) (by
          refine ⟨dRg_of hB1, rfl, Or.inl ⟨rfl, c, k, hc, by omega, rfl, rfl, ?_, hand, fun j hj h1 h2 => (o j h1 h2).symm⟩⟩
          show M1.2.1 2 c = tkK (M1.2.1 2) c k x c + nI x
          unfold tkK
          rw [upd_n _ _ _ _ (by omega), upd_e]
          exact sub_add32 _ _)
        refine ⟨nI x, V', pA M' 2 (tkK (M1.2.1 2) c k x), ?_, ?_, rel, Or.inl (by rw [nI_L (by omega) (by omega)]; omega), Dfx_t (Dfx_ch cx) (Dfx_d sr (fun g h1 _ h3 _ => so g h1 h3) s1 fr.1), Dfm_t (Dfm_ch cm) (Dfm_d (fun j hj => o j (by omega) (by omega)) fr.2)⟩
        · unfold f_X8_carryOut_97 f_X8_carryOut_120
          rw [if_neg (nI_pos (by omega)), if_pos (show nI 0 = 0 from rfl)]
          have : sA (sA V1 (1 + 1) c (V1.2.1 (1 + 1) c - nI x)) (1 + 5) k (mnI (nI 9999) (V1.2.1 (1 + 5) k + nI x)) = V2 := eV2.symm
          rw [this]
          have kx' : f_X1_keep N S V2 (0 + 32) (nI 0) (nI c) (nI k) (nI x) (V.2.1 6 k) = some V' := kx
          rw [kx', pl_obv]
        · rw [mk, if_neg (nI_ne0 (by omega) (by omega)), show (0 : Int32) = nI 0 from rfl, km, pl_obv, m_takesNow M' hc (by omega), pl_obv, m2]
    · refine ⟨-1, V, M, ?_, ?_, hR, Or.inr (Or.inl rfl), Dfx_r V, Dfm_r M⟩
      · unfold f_X8_takeAway
        rw [e8, pl_ob1, if_pos (show nI 0 = 0 from rfl), pl_ob, neg _ _ _ (by decide)]
      · unfold f_X9_takesKept
        rw [e9]; rfl
  · have hnd : f_X0_handOf N S V 1 a2 = some (-1) := by
      unfold f_X0_handOf
      rw [k8]; rfl
    rw [start _ hnd]
    rcases cell_c N a1 with ⟨c, hc, rfl, e8, e9⟩ | ⟨e8, e9⟩
    · refine ⟨-2, V, M, ?_, ?_, hR, Or.inr (Or.inr (Or.inl rfl)), Dfx_r V, Dfm_r M⟩
      · unfold f_X8_takeAway
        rw [e8, pl_ob1, if_neg (by decide), k8, pl_ob1, if_pos (show nI 0 = 0 from rfl), pl_ob, neg _ _ _ (by decide)]
      · unfold f_X9_takesKept
        rw [e9, pl_ob1, if_neg (by decide), k9]; rfl
    · refine ⟨-1, V, M, ?_, ?_, hR, Or.inr (Or.inl rfl), Dfx_r V, Dfm_r M⟩
      · unfold f_X8_takeAway
        rw [e8, pl_ob1, if_pos (show nI 0 = 0 from rfl), pl_ob, neg _ _ _ (by decide)]
      · unfold f_X9_takesKept
        rw [e9]; rfl
theorem op_take (hN : 20000 ≤ N) : Op_take N b0 (Rel XL b0) := by
  intro S V M hR a1 a2
  obtain ⟨r, V1, M1, h8, h9, hR1, hr, -⟩ := c_take hN hR a1 a2 0
  obtain ⟨V2, M2, j8, j9, hR2⟩ := judge (N := N) hR1 hr
  refine ⟨r, V2, M2, ?_, ?_, hR2⟩
  · have h8' : f_X8_carryOut N S V 0 0 a1 a2 0 = some (r, V1) := h8
    unfold f_X8_take
    rw [h8', pl_ob, j8]; rfl
  · unfold f_X9_take
    rw [h9, pl_ob, j9]; rfl
end OPS
end
