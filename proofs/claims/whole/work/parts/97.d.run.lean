section
/-! orders: one time of a clause, a clause, all clauses, by both -/
def OEnv (S : St) (V0 M0 : Vt) (q n cnt sz : Nat) (C cl T U : Nat → Int32) : Prop := 64 ≤ q ∧ (n ≤ 400 ∧ cnt ≤ 12 ∧ sz ≤ 448) ∧ (S.2.2.1 (q + 1) = sz ∧ S.2.2.1 (q + 2) = 6 * cnt ∧ S.2.2.1 61 = 43) ∧ ((∀ i, i < sz → V0.2.1 (q + 1) i = C i) ∧ (∀ i, i < 6 * cnt → V0.2.1 (q + 2) i = cl i) ∧ V0.1 q 2 = nI cnt) ∧ ∀ j, j < n → M0.2.1 2 (2515 + j) = T j ∧ M0.2.1 2 (5315 + j) = U j
def OI (b0 : Nat) (S : St) (V0 M0 V M : Vt) (dn : Nat) (lt : Int32) (t : Nat) : Prop := Rel XL b0 S V M ∧ FrX V0 V ∧ FrM M0 M ∧ M.1 0 27 = nI dn ∧ M.1 0 28 = lt ∧ (lt = -1 ∨ nI 0 ≤ lt) ∧ M.1 0 41 = nI (2400 + t)
theorem lt_ne {lt : Int32} (h : lt = -1 ∨ nI 0 ≤ lt) : lt ≠ MNV := by
  rcases h with h | h
  · rw [h]; decide
  · intro q; rw [q] at h; exact absurd h (by decide)
theorem okS_all {sv : Nat → Option Int32} : ∀ {m : Nat}, okS sv m = true → ∀ j, j < m → ∃ x, sv j = some x
  | 0, _, j, hj => absurd hj (Nat.not_lt_zero j)
  | m + 1, h, j, hj => by
    rw [okS, Bool.and_eq_true] at h
    by_cases c : j = m
    · subst c; exact Option.isSome_iff_exists.mp h.2
    · exact okS_all h.1 j (by omega)
theorem okS_none {sv : Nat → Option Int32} : ∀ {m : Nat}, okS sv m = false → ∃ j, j < m ∧ sv j = none
  | 0, h => by cases h
  | m + 1, h => by
    rw [okS] at h
    cases c : okS sv m with
    | true =>
      rw [c, Bool.true_and] at h
      refine ⟨m, by omega, ?_⟩
      cases d : sv m with
      | none => rfl
      | some x => rw [d] at h; cases h
    | false =>
      obtain ⟨j, h1, h2⟩ := okS_none c
      exact ⟨j, by omega, h2⟩
section
variable {N b0 : Nat} {S : St} {V0 M0 : Vt} {q n cnt sz : Nat} {C cl T U : Nat → Int32}
theorem o_dead (hN : 20000 ≤ N) (E : OEnv S V0 M0 q n cnt sz C cl T U) {c t u kd e f tm : Nat} (hk : kd < 4) (hb : t < n ∧ u ≤ n ∧ t < e ∧ e ≤ f ∧ f ≤ u) (os : OSm C sz cl T U n c t e kd) (ht : TMo (nI tm) T U n e f) (pt : PT 1 C sz (cl (6 * c + 5)) T U n f u) {V M : Vt} {dn : Nat} {lt : Int32} (h : OI b0 S V0 M0 V M dn lt t) (hdn : dn < 1000) : ∃ M1, f_X9_goesAlong N M (nI (2400 + n)) (nI 0) = some M1 ∧ OI b0 S V0 M0 V M1 dn lt t ∧ M1.1 0 22 = nI (2400 + (u + 1)) ∧ M1.1 0 42 = nI tm := by
  obtain ⟨hq, ⟨n4, c12, s4⟩, ⟨l1, l2, l3⟩, ⟨v1, v2, v3⟩, hTU⟩ := E
  obtain ⟨hR, fx, fm, h27, h28, hlt, h41⟩ := h
  obtain ⟨ec, n5, hn5, en5⟩ := hR.2.1.2.2.2.2.2.2.2.2
  have hW : WB (oW (M.2.1 2) n5 (nI dn) lt) := oW_B hR.2.1 n5 (MNV_ne dn (by omega)) (lt_ne hlt)
  have G := MXg_of hN (K := M.2.1 2) (T := T) (U := U) hn5 en5 n4 (fun j hj => ⟨by rw [fm.2.1 _ (by omega)]; exact (hTU j hj).1, by rw [fm.2.1 _ (by omega)]; exact (hTU j hj).2⟩) (nI dn) lt
  obtain ⟨p, sv, hT, p0, pm, hme, -⟩ := o_vals hN hW os
  obtain ⟨tv, tmm, -⟩ := x_test hN pt hW
  obtain ⟨M1, e1, gf, m22, m42, -, -⟩ := m_goes hN G n4 hk hb.1 (show e ≤ n by omega) (show f ≤ n by omega) hT p0 pm hme ht tmm (Or.inl rfl) rfl h27 h28 h41
  refine ⟨M1, e1, ⟨Rel_s hR (SX_r V) (SM_g gf), fx, FrM_t fm (FrM_g gf), ?_, ?_, hlt, ?_⟩, m22, m42⟩
  · rw [gf.2.2 _ _ (by omega)]; exact h27
  · rw [gf.2.2 _ _ (by omega)]; exact h28
  · rw [gf.2.2 _ _ (by omega)]; exact h41
theorem o_step (hN : 20000 ≤ N) (E : OEnv S V0 M0 q n cnt sz C cl T U) {c t u kd e f tm : Nat} (hc : c < cnt) (hk : kd < 4) (hb : t < n ∧ u ≤ n ∧ t < e ∧ e ≤ f ∧ f ≤ u) (os : OSm C sz cl T U n c t e kd) (ht : TMo (nI tm) T U n e f) (ht20 : tm ≤ 20) (pt : PT 1 C sz (cl (6 * c + 5)) T U n f u) {V M : Vt} {dn : Nat} {lt : Int32} (h : OI b0 S V0 M0 V M dn lt t) (hdn : dn < 1000) : ∃ M1, f_X9_goesAlong N M (nI (2400 + n)) (nI 1) = some M1 ∧
    ((M1.1 0 45 = nI 0 ∧ ∃ V', OI b0 S V0 M0 V' M1 dn lt t ∧ ∀ K7 k i, i < tm → f_X8_runOrders_t_35 N S 0 q K7 (k + 1) V (nI dn) lt (nI c) (nI kd) (nI tm) (nI i) = f_X8_runOrders_t_35 N S 0 q K7 k V' (nI dn) lt (nI c) (nI kd) (nI tm) (nI (i + 1))) ∨
     (M1.1 0 45 = nI 1 ∧ M1.1 0 44 = nI 1 ∧ ∃ r V' M' lt', f_X9_obeys N M1 = some (r, M') ∧ 0 ≤ r ∧ M'.1 0 27 = nI dn ∧ OI b0 S V0 M0 V' (sF M' 0 27 (nI (dn + 1))) (dn + 1) lt' t ∧ ∀ K7 k i, i < tm → f_X8_runOrders_t_35 N S 0 q K7 (k + 1) V (nI dn) lt (nI c) (nI kd) (nI tm) (nI i) = f_X8_runOrders_t_35 N S 0 q K7 k V' (nI (dn + 1)) lt' (nI c) (nI kd) (nI tm) (nI (i + 1))) ∨
     (M1.1 0 45 = nI 1 ∧ ((M1.1 0 44 = nI 0 ∧ FrM M0 M1) ∨ (M1.1 0 44 = nI 1 ∧ ∃ r M', f_X9_obeys N M1 = some (r, M') ∧ ¬ 0 ≤ r ∧ FrM M0 M')) ∧ ∃ V', FrX V0 V' ∧ V'.1 0 17 = nI c ∧ ∀ K7 k i, i < tm → f_X8_runOrders_t_35 N S 0 q K7 (k + 1) V (nI dn) lt (nI c) (nI kd) (nI tm) (nI i) = some (-3, V'))) := by
  obtain ⟨hq, ⟨n4, c12, s4⟩, ⟨l1, l2, l3⟩, ⟨v1, v2, v3⟩, hTU⟩ := E
  obtain ⟨hR, fx, fm, h27, h28, hlt, h41⟩ := h
  obtain ⟨ec, n5, hn5, en5⟩ := hR.2.1.2.2.2.2.2.2.2.2
  obtain ⟨W, hWd⟩ : ∃ W, W = oW (M.2.1 2) n5 (nI dn) lt := ⟨_, rfl⟩
  have hW : WB W := by rw [hWd]; exact oW_B hR.2.1 n5 (MNV_ne dn (by omega)) (lt_ne hlt)
  have G : MXg N (M.2.1 2) n T U (nI dn) lt W := by
    rw [hWd]
    exact MXg_of hN hn5 en5 n4 (fun j hj => ⟨by rw [fm.2.1 _ (by omega)]; exact (hTU j hj).1, by rw [fm.2.1 _ (by omega)]; exact (hTU j hj).2⟩) (nI dn) lt
  obtain ⟨p, sv, hT, p0, pm, hme, hxs⟩ := o_vals hN hW os
  obtain ⟨tv, tmm, txx⟩ := x_test hN pt hW
  obtain ⟨M1, e1, gf, m22, m42, m43, mlv⟩ := m_goes hN G n4 hk hb.1 (show e ≤ n by omega) (show f ≤ n by omega) hT p0 pm hme ht tmm (Or.inr rfl) rfl h27 h28 h41
  obtain ⟨m44, msv, m45⟩ := mlv rfl
  obtain ⟨w, ew, hw⟩ := x_fillO (b0 := b0) (S := S) hN hR.2.1 hn5 en5 (nI dn) lt
  rw [← hWd] at hw
  -- the class's text
  have tc : ∀ V1, FrX V V1 → (∀ i, i < sz → V1.2.1 (q + 1) i = C i) ∧ (∀ i, i < 6 * cnt → V1.2.1 (q + 2) i = cl i) := fun V1 f1 => by
    have g := FrX_t fx f1
    exact ⟨fun i hi => by rw [g.2.1 (q + 1) (by omega) (by omega) (by omega) (by omega) (by omega) (by omega) (by omega) (by omega) (by omega)]; exact v1 i hi, fun i hi => by rw [g.2.1 (q + 2) (by omega) (by omega) (by omega) (by omega) (by omega) (by omega) (by omega) (by omega) (by omega)]; exact v2 i hi⟩
  have tp : ∀ V1, FrX V V1 → f_X7_testPlace N S V1 q (nI c) = some (cl (6 * c + 5)) := fun V1 f1 => by
    unfold f_X7_testPlace
    rw [l2, lj 6, pk_mul, lj 5, nI_add, pl_ck (by omega) (by omega), nI_cl (by omega), (tc V1 f1).2 _ (by omega)]
  have sp : ∀ V1 k, k < 3 → FrX V V1 → f_X7_sumPlace N S V1 q (nI c) (nI k) = some (cl (6 * c + 2 + k)) := fun V1 k hk3 f1 => by
    unfold f_X7_sumPlace
    rw [l2, lj 6, pk_mul, lj 2, nI_add, nI_add, pl_ck (by omega) (by omega), nI_cl (by omega), (tc V1 f1).2 _ (by omega)]
  have lw : lwm 1 = 43 := rfl
  have f1 := FrX_p V w
  have w61 : ∀ V1, MSt 42 (pA V 61 w) V1 0 → ∀ i, i < lwm 1 → V1.2.1 61 i = W i := fun V1 m i hi => by rw [m.2.1 61 (by omega), pA_e]; exact hw i hi
  obtain ⟨V2, ms2, et⟩ := txx S 42 (q + 1) 61 (pA V 61 w) (by omega) (by omega) l1 l3 s4 (tc _ f1).1 (fun i hi => by rw [pA_e]; exact hw i hi)
  have f2 := FrX_t f1 (FrX_m ms2)
  have et' : f_X4_worthAt N S (pA V 61 w) (0 + 42) (q + 1) (cl (6 * c + 5)) (0 + 61) 1 = some ((tv.map bI).getD MNV, V2) := et
  have ew' : f_X8_fillOrderWorths N S V 0 (nI dn) lt = some (pA V 61 w) := ew
  have R2 : ∀ {M'}, SM0 M M' → Rel XL b0 S V2 M' := fun sm => Rel_s hR (SX_t (SX_p V w) (SX_m ms2)) sm
  have start : ∀ K7 k i, i < tm → f_X8_runOrders_t_35 N S 0 q K7 (k + 1) V (nI dn) lt (nI c) (nI kd) (nI tm) (nI i) = if (tv.map bI).getD MNV = (1 : Int32) then ob1 (f_X7_sumPlace N S V2 q (nI c) (0 : Int32)) (fun r51 => ob (f_X4_worthAt N S V2 (0 + 42) (q + 1) r51 (0 + 61) (0 : Int32)) (fun r53 V55 => ob1 (f_X7_sumPlace N S V55 q (nI c) (1 : Int32)) (fun r56 => ob (f_X4_worthAt N S V55 (0 + 42) (q + 1) r56 (0 + 61) (0 : Int32)) (fun r58 V60 => ob1 (f_X7_sumPlace N S V60 q (nI c) (2 : Int32)) (fun r61 => ob (f_X4_worthAt N S V60 (0 + 42) (q + 1) r61 (0 + 61) (0 : Int32)) (fun r63 V65 => ob (f_X8_carryOut N S V65 0 (nI kd) r53 r58 r63) (fun r66 V68 => if 0 ≤ r66 then bd (nI dn + (1 : Int32)) (fun x70 => if nI kd = 0 then f_X8_runOrders_t_194 N S 0 q (f_X8_runOrders_t_35 N S 0 q K7 k) V68 x70 (nI c) (nI kd) (nI tm) (nI i) r66 else f_X8_runOrders_t_194 N S 0 q (f_X8_runOrders_t_35 N S 0 q K7 k) V68 x70 (nI c) (nI kd) (nI tm) (nI i) lt) else bd (sF V68 0 17 (nI c)) (fun V73 => some ((-3 : Int32), V73))))))))) else f_X8_runOrders_t_195 N S 0 q (f_X8_runOrders_t_35 N S 0 q K7 k) V2 (nI dn) lt (nI c) (nI kd) (nI tm) (nI i) := by
    intro K7 k i hi
    rw [f_X8_runOrders_t_35, if_neg (by rw [nI_L (by omega) (by omega)]; omega), ew', pl_obv, tp _ f1, pl_ob1, et', pl_ob]
  refine ⟨M1, e1, ?_⟩
  by_cases htv : tv = some true
  · have m45' : M1.1 0 45 = nI 1 := by rw [m45, if_pos htv]
    have r1 : (tv.map bI).getD MNV = (1 : Int32) := by rw [htv]; rfl
    -- the sums
    obtain ⟨V3, ms3, s0⟩ := hxs 0 (by omega) S 42 (q + 1) 61 V2 (by omega) (by omega) l1 l3 s4 (tc _ f2).1 (w61 V2 ms2)
    have ms23 := MSt_t ms2 ms3 (Nat.le_refl 0)
    have f3 := FrX_t f1 (FrX_m ms23)
    obtain ⟨V4, ms4, s1⟩ := hxs 1 (by omega) S 42 (q + 1) 61 V3 (by omega) (by omega) l1 l3 s4 (tc _ f3).1 (w61 V3 ms23)
    have ms24 := MSt_t ms23 ms4 (Nat.le_refl 0)
    have f4 := FrX_t f1 (FrX_m ms24)
    obtain ⟨V5, ms5, s2⟩ := hxs 2 (by omega) S 42 (q + 1) 61 V4 (by omega) (by omega) l1 l3 s4 (tc _ f4).1 (w61 V4 ms24)
    have ms25 := MSt_t ms24 ms5 (Nat.le_refl 0)
    have f5 := FrX_t f1 (FrX_m ms25)
    have R5 : Rel XL b0 S V5 M1 := Rel_s hR (SX_t (SX_p V w) (SX_m ms25)) (SM_g gf)
    obtain ⟨A, hA⟩ : ∃ A : Nat → Int32, A = fun k => if k < mkn kd then (sv k).getD MNV else nI 0 := ⟨_, rfl⟩
    have s0' : f_X4_worthAt N S V2 (0 + 42) (q + 1) (cl (6 * c + 2 + 0)) (0 + 61) 0 = some (A 0, V3) := by rw [hA]; exact s0
    have s1' : f_X4_worthAt N S V3 (0 + 42) (q + 1) (cl (6 * c + 2 + 1)) (0 + 61) 0 = some (A 1, V4) := by rw [hA]; exact s1
    have s2' : f_X4_worthAt N S V4 (0 + 42) (q + 1) (cl (6 * c + 2 + 2)) (0 + 61) 0 = some (A 2, V5) := by rw [hA]; exact s2
    have go : ∀ K7 k i, i < tm → f_X8_runOrders_t_35 N S 0 q K7 (k + 1) V (nI dn) lt (nI c) (nI kd) (nI tm) (nI i) = ob (f_X8_carryOut N S V5 0 (nI kd) (A 0) (A 1) (A 2)) (fun r66 V68 => if 0 ≤ r66 then bd (nI dn + (1 : Int32)) (fun x70 => if nI kd = 0 then f_X8_runOrders_t_194 N S 0 q (f_X8_runOrders_t_35 N S 0 q K7 k) V68 x70 (nI c) (nI kd) (nI tm) (nI i) r66 else f_X8_runOrders_t_194 N S 0 q (f_X8_runOrders_t_35 N S 0 q K7 k) V68 x70 (nI c) (nI kd) (nI tm) (nI i) lt) else bd (sF V68 0 17 (nI c)) (fun V73 => some ((-3 : Int32), V73))) := by
      intro K7 k i hi
      have q0 : f_X7_sumPlace N S V2 q (nI c) 0 = some (cl (6 * c + 2 + 0)) := sp V2 0 (by omega) f2
      have q1 : f_X7_sumPlace N S V3 q (nI c) 1 = some (cl (6 * c + 2 + 1)) := sp V3 1 (by omega) f3
      have q2 : f_X7_sumPlace N S V4 q (nI c) 2 = some (cl (6 * c + 2 + 2)) := sp V4 2 (by omega) f4
      rw [start K7 k i hi, if_pos r1, q0, pl_ob1, s0', pl_ob, q1, pl_ob1, s1', pl_ob, q2, pl_ob1, s2', pl_ob]
    cases ok : okS sv (mkn kd) with
    | true =>
      have m44' : M1.1 0 44 = nI 1 := by rw [m44, ok]; rfl
      have ya := okS_all ok
      obtain ⟨y, hy⟩ : ∃ y : Nat → Int32, y = fun k => (sv k).getD MNV := ⟨_, rfl⟩
      obtain ⟨r, V', M', d1, d2, d3, d4, d5, d6, d7, d8, d9, d10⟩ := o_deed hN R5 hk m43 y (fun j hj => by
        obtain ⟨x, hx⟩ := ya j hj
        rw [msv j hj x hx, hy]
        show x.toInt64 = ((sv j).getD MNV).toInt64
        rw [hx]; rfl) A (fun j hj => by rw [hA, hy]; exact if_pos hj)
      have m27 : M1.1 0 27 = nI dn := by rw [gf.2.2 _ _ (by omega)]; exact h27
      have m28 : M1.1 0 28 = lt := by rw [gf.2.2 _ _ (by omega)]; exact h28
      have m41 : M1.1 0 41 = nI (2400 + t) := by rw [gf.2.2 _ _ (by omega)]; exact h41
      by_cases hr : 0 ≤ r
      · refine Or.inr (Or.inl ⟨m45', m44', r, V', M', if kd = 0 then r else lt, d2, hr, d7.trans m27, ⟨Rel_s d3 (SX_r _) (SM_F (SM_r _) rfl), FrX_t fx (FrX_t f5 d5), FrM_t fm (FrM_t (FrM_g gf) (FrM_t d6 (FrM_f _ 27 _ (by omega)))), ?_, ?_, ?_, ?_⟩, fun K7 k i hi => ?_⟩)
        · rw [sF_e, upd_e]
        · rw [sF_o _ _ _ _ _ _ (by omega), d10, m28]
          by_cases c0 : kd = 0
          · rw [if_pos ⟨c0, hr⟩, if_pos c0]
          · rw [if_neg (fun z => c0 z.1), if_neg c0]
        · by_cases c0 : kd = 0
          · rw [if_pos c0]; exact Or.inr hr
          · rw [if_neg c0]; exact hlt
        · rw [sF_o _ _ _ _ _ _ (by omega), d8]; exact m41
        · rw [go K7 k i hi, d1, pl_ob, if_pos hr, nI_1, pl_bd]
          unfold f_X8_runOrders_t_194 f_X8_runOrders_t_195
          by_cases c0 : kd = 0
          · rw [if_pos (by rw [c0]; rfl), if_pos c0, nI_1, pl_bd]
          · rw [if_neg (nI_ne0 (by omega) (by omega)), if_neg c0, nI_1, pl_bd]
      · refine Or.inr (Or.inr ⟨m45', Or.inr ⟨m44', r, M', d2, hr, FrM_t fm (FrM_t (FrM_g gf) d6)⟩, sF V' 0 17 (nI c), FrX_t fx (FrX_t f5 (FrX_t d5 ⟨rfl, fun _ _ _ _ _ _ _ _ _ _ => rfl, fun g j _ _ _ h4 => sF_o _ _ _ _ _ _ h4⟩)), by rw [sF_e, upd_e], fun K7 k i hi => ?_⟩)
        rw [go K7 k i hi, d1, pl_ob, if_neg hr, pl_bd]
    | false =>
      have m44' : M1.1 0 44 = nI 0 := by rw [m44, ok]; rfl
      obtain ⟨j, hj, hn⟩ := okS_none ok
      obtain ⟨r, V', d1, d2, d3⟩ := o_brk hN R5 hk A hj (by rw [hA]; show (if j < mkn kd then (sv j).getD MNV else nI 0) = MNV; rw [if_pos hj, hn]; rfl)
      refine Or.inr (Or.inr ⟨m45', Or.inl ⟨m44', FrM_t fm (FrM_g gf)⟩, sF V' 0 17 (nI c), FrX_t fx (FrX_t f5 (FrX_t d3 ⟨rfl, fun _ _ _ _ _ _ _ _ _ _ => rfl, fun g j _ _ _ h4 => sF_o _ _ _ _ _ _ h4⟩)), by rw [sF_e, upd_e], fun K7 k i hi => ?_⟩)
      rw [go K7 k i hi, d1, pl_ob, if_neg d2, pl_bd]
  · have m45' : M1.1 0 45 = nI 0 := by rw [m45, if_neg htv]
    have r1 : ¬ (tv.map bI).getD MNV = (1 : Int32) := by
      rcases tv with _ | b
      · show ¬ MNV = 1; decide
      · cases b
        · show ¬ nI 0 = 1; decide
        · exact absurd rfl htv
    refine Or.inl ⟨m45', V2, ⟨R2 (SM_g gf), FrX_t fx f2, FrM_t fm (FrM_g gf), ?_, ?_, hlt, ?_⟩, fun K7 k i hi => ?_⟩
    · rw [gf.2.2 _ _ (by omega)]; exact h27
    · rw [gf.2.2 _ _ (by omega)]; exact h28
    · rw [gf.2.2 _ _ (by omega)]; exact h41
    · rw [start K7 k i hi, if_neg r1]
      unfold f_X8_runOrders_t_195
      rw [nI_1, pl_bd]
/-- a clause as often as it tells -/
theorem o_times (hN : 20000 ≤ N) (E : OEnv S V0 M0 q n cnt sz C cl T U) {c t u kd e f tm : Nat} (hc : c < cnt) (hk : kd < 4) (hb : t < n ∧ u ≤ n ∧ t < e ∧ e ≤ f ∧ f ≤ u) (os : OSm C sz cl T U n c t e kd) (ht : TMo (nI tm) T U n e f) (ht20 : tm ≤ 20) (pt : PT 1 C sz (cl (6 * c + 5)) T U n f u) (K7 : Vt → Int32 → Int32 → Int32 → Option (Int32 × Vt)) :
    ∀ d i qx qm V M dn lt, i + d = tm → d < qx → d < qm → OI b0 S V0 M0 V M dn lt t → dn + d < 1000 →
      (∃ V' M' dn' lt', OI b0 S V0 M0 V' M' dn' lt' t ∧ dn' ≤ dn + d ∧ f_X8_runOrders_t_35 N S 0 q K7 qx V (nI dn) lt (nI c) (nI kd) (nI tm) (nI i) = K7 V' (nI dn') lt' (nI (c + 1)) ∧ f_X9_runs_19 N qm M (nI (2400 + n)) (nI tm) (nI (2400 + (u + 1))) (nI i) = some (nI 1, sF M' 0 41 (nI (2400 + (u + 1))))) ∨
      (∃ V' M', FrX V0 V' ∧ V'.1 0 17 = nI c ∧ FrM M0 M' ∧ f_X8_runOrders_t_35 N S 0 q K7 qx V (nI dn) lt (nI c) (nI kd) (nI tm) (nI i) = some (-3, V') ∧ f_X9_runs_19 N qm M (nI (2400 + n)) (nI tm) (nI (2400 + (u + 1))) (nI i) = some (nI 0, M')) := by
  intro d
  induction d with
  | zero =>
    intro i qx qm V M dn lt hi hx hm h hd
    have ei : i = tm := by omega
    subst ei
    obtain ⟨qx', rfl⟩ : ∃ z, qx = z + 1 := ⟨qx - 1, by omega⟩
    obtain ⟨qm', rfl⟩ : ∃ z, qm = z + 1 := ⟨qm - 1, by omega⟩
    refine Or.inl ⟨V, M, dn, lt, h, by omega, ?_, ?_⟩
    · rw [f_X8_runOrders_t_35, if_pos (by rw [nI_L (by omega) (by omega)]; omega), nI_1, pl_bd]
    · rw [f_X9_runs_19, if_pos (by rw [nI_L (by omega) (by omega)]; omega), pl_bd]; rfl
  | succ d ih =>
    intro i qx qm V M dn lt hi hx hm h hd
    obtain ⟨qx', rfl⟩ : ∃ z, qx = z + 1 := ⟨qx - 1, by omega⟩
    obtain ⟨qm', rfl⟩ : ∃ z, qm = z + 1 := ⟨qm - 1, by omega⟩
    obtain ⟨M1, e1, hh⟩ := o_step hN E hc hk hb os ht ht20 pt h (by omega)
    have e1' : f_X9_goesAlong N M (nI (2400 + n)) (1 : Int32) = some M1 := e1
    have mst : f_X9_runs_19 N (qm' + 1) M (nI (2400 + n)) (nI tm) (nI (2400 + (u + 1))) (nI i) = if (M1.1 0 45) = 0 then f_X9_runs_19 N qm' M1 (nI (2400 + n)) (nI tm) (nI (2400 + (u + 1))) (nI (i + 1)) else if (M1.1 0 44) = 0 then some ((0 : Int32), M1) else ob (f_X9_obeys N M1) (fun r27 V29 => if 0 ≤ r27 then bd (sF V29 0 27 ((V29.1 0 27) + (1 : Int32))) (fun V31 => f_X9_runs_67 N (f_X9_runs_19 N qm') V31 (nI (2400 + n)) (nI tm) (nI (2400 + (u + 1))) (nI i)) else some ((0 : Int32), V29)) := by
      rw [f_X9_runs_19, if_neg (by rw [nI_L (by omega) (by omega)]; omega), e1', pl_obv]
      unfold f_X9_runs_67
      rw [nI_1, pl_bd]
    rcases hh with ⟨m45, V', hI, ex⟩ | ⟨m45, m44, r, V', M', lt', eo, hr, m27, hI, ex⟩ | ⟨m45, hm44, V', fx, v17, ex⟩
    · rw [ex K7 qx' i (by omega), mst, if_pos (show M1.1 0 45 = 0 from m45)]
      rcases ih (i + 1) qx' qm' V' M1 dn lt (by omega) (by omega) (by omega) hI (by omega) with ⟨V2, M2, dn2, lt2, a1, a2, a3, a4⟩ | a
      · exact Or.inl ⟨V2, M2, dn2, lt2, a1, by omega, a3, a4⟩
      · exact Or.inr a
    · rw [ex K7 qx' i (by omega), mst, m45, if_neg (by decide), m44, if_neg (by decide), eo, pl_ob, if_pos hr, m27, nI_1, pl_bd]
      unfold f_X9_runs_67
      rw [nI_1, pl_bd]
      rcases ih (i + 1) qx' qm' V' _ (dn + 1) lt' (by omega) (by omega) (by omega) hI (by omega) with ⟨V2, M2, dn2, lt2, a1, a2, a3, a4⟩ | a
      · exact Or.inl ⟨V2, M2, dn2, lt2, a1, by omega, a3, a4⟩
      · exact Or.inr a
    · rw [ex K7 qx' i (by omega), mst, m45, if_neg (by decide)]
      rcases hm44 with ⟨m44, fm⟩ | ⟨m44, r, M', eo, hr, fm⟩
      · refine Or.inr ⟨V', M1, fx, v17, fm, rfl, ?_⟩
        rw [m44, if_pos (show nI 0 = 0 from rfl)]; rfl
      · refine Or.inr ⟨V', M', fx, v17, fm, rfl, ?_⟩
        rw [m44, if_neg (by decide), eo, pl_ob, if_neg hr]; rfl
/-- all clauses -/
theorem o_run (hN : 20000 ≤ N) (E : OEnv S V0 M0 q n cnt sz C cl T U) {st : Nat → Nat} (stn : st cnt = n + 1) (hst : ∀ c, c < cnt → ∃ u, OC C sz cl T U n c (st c) u ∧ st (c + 1) = u + 1) (x52 : Int32) :
    ∀ d c qx qm V M dn lt, c + d = cnt → d < qx → d < qm → OI b0 S V0 M0 V M dn lt (st c) → dn + 20 * d ≤ 240 →
      (∃ V' M' dn' lt' t', OI b0 S V0 M0 V' M' dn' lt' t' ∧ dn' ≤ 240 ∧ f_X8_runOrders_t_7 N S 0 q qx V (nI dn) lt (nI c) = some (nI dn', V') ∧ f_X9_orders_95 N qm M x52 (nI (2400 + n)) (nI c) = ob (f_X9_good N M' (M'.1 0 27)) (fun r62 V64 => some (r62, V64))) ∨
      (∃ V' M' c', FrX V0 V' ∧ V'.1 0 17 = nI c' ∧ FrM M0 M' ∧ f_X8_runOrders_t_7 N S 0 q qx V (nI dn) lt (nI c) = some (-3, V') ∧ f_X9_orders_95 N qm M x52 (nI (2400 + n)) (nI c) = obv (f_X9_takesBack N M' (1 : Int32)) (fun V71 => f_X9_orders_122 N N V71 x52 (nI c') (0 : Int32))) := by
  have E' := E
  obtain ⟨hq, ⟨n4, c12, s4⟩, ⟨l1, l2, l3⟩, ⟨v1, v2, v3⟩, hTU⟩ := E'
  intro d
  induction d with
  | zero =>
    intro c qx qm V M dn lt hc hx hm h hd
    have ec : c = cnt := by omega
    subst ec
    obtain ⟨qx', rfl⟩ : ∃ z, qx = z + 1 := ⟨qx - 1, by omega⟩
    obtain ⟨qm', rfl⟩ : ∃ z, qm = z + 1 := ⟨qm - 1, by omega⟩
    have h41 := h.2.2.2.2.2.2
    have vq : V.1 q 2 = nI c := by rw [h.2.1.2.2 q 2 (by omega) (by omega) (by omega) (by omega)]; exact v3
    refine Or.inl ⟨V, M, dn, lt, st c, h, by omega, ?_, ?_⟩
    · rw [f_X8_runOrders_t_7, vq, if_pos (by rw [nI_L (by omega) (by omega)]; omega)]
    · rw [f_X9_orders_95, h41, stn, if_pos (by rw [nI_L (by omega) (by omega)]; omega)]
  | succ d ih =>
    intro c qx qm V M dn lt hc hx hm h hd
    obtain ⟨qx', rfl⟩ : ∃ z, qx = z + 1 := ⟨qx - 1, by omega⟩
    obtain ⟨qm', rfl⟩ : ∃ z, qm = z + 1 := ⟨qm - 1, by omega⟩
    obtain ⟨u, oc, hs⟩ := hst c (by omega)
    obtain ⟨⟨t1, t2⟩, kd, e, f, ⟨hk, b1, b2, b3⟩, hcl, os, tmo, pt⟩ := oc
    obtain ⟨tm, htm, ht20⟩ : ∃ tm, cl (6 * c + 1) = nI tm ∧ tm ≤ 20 := by
      rcases tmo with ⟨-, -, h⟩ | ⟨-, -, -, tm, -, -, h6, h7⟩
      · exact ⟨1, h, by omega⟩
      · exact ⟨tm, h7, h6⟩
    rw [htm] at tmo
    have vq : V.1 q 2 = nI cnt := by rw [h.2.1.2.2 q 2 (by omega) (by omega) (by omega) (by omega)]; exact v3
    have vcl : ∀ i, i < 6 * cnt → V.2.1 (q + 2) i = cl i := fun i hi => by rw [h.2.1.2.1 (q + 2) (by omega) (by omega) (by omega) (by omega) (by omega) (by omega) (by omega) (by omega) (by omega)]; exact v2 i hi
    have ek : f_X7_kindOf N S V q (nI c) = some (nI kd) := by
      unfold f_X7_kindOf
      rw [l2, lj 6, pk_mul, pl_ck (by omega) (by omega), nI_cl (by omega), vcl _ (by omega), hcl]
    have et : f_X7_timesOf N S V q (nI c) = some (nI tm) := by
      unfold f_X7_timesOf
      rw [l2, lj 6, pk_mul, nI_1, pl_ck (by omega) (by omega), nI_cl (by omega), vcl _ (by omega), htm]
    obtain ⟨M1, e1, hI1, m22, m42⟩ := o_dead (c := c) hN E hk ⟨t1, t2, b1, b2, b3⟩ os tmo pt h (by omega)
    have e1' : f_X9_goesAlong N M (nI (2400 + n)) (0 : Int32) = some M1 := e1
    have h41 := h.2.2.2.2.2.2
    have xst : f_X8_runOrders_t_7 N S 0 q (qx' + 1) V (nI dn) lt (nI c) = f_X8_runOrders_t_35 N S 0 q (f_X8_runOrders_t_7 N S 0 q qx') N V (nI dn) lt (nI c) (nI kd) (nI tm) (nI 0) := by
      rw [f_X8_runOrders_t_7, vq, if_neg (by rw [nI_L (by omega) (by omega)]; omega), ek, pl_ob1, et, pl_ob1]; rfl
    have mst : f_X9_orders_95 N (qm' + 1) M x52 (nI (2400 + n)) (nI c) = ob (f_X9_runs_19 N N M1 (nI (2400 + n)) (nI tm) (nI (2400 + (u + 1))) (nI 0)) (fun r65 V67 => if r65 = 0 then obv (f_X9_takesBack N V67 (1 : Int32)) (fun V71 => f_X9_orders_122 N N V71 x52 (nI c) (0 : Int32)) else f_X9_orders_95 N qm' V67 x52 (nI (2400 + n)) (nI (c + 1))) := by
      rw [f_X9_orders_95, h41, if_neg (by rw [nI_L (by omega) (by omega)]; omega)]
      unfold f_X9_runs
      rw [e1', pl_obv, pl_bd, pl_bd, m42, m22]
      simp only [nI_1, pl_bd]
      rfl
    rcases o_times hN E (show c < cnt by omega) hk ⟨t1, t2, b1, b2, b3⟩ os tmo ht20 pt (f_X8_runOrders_t_7 N S 0 q qx') tm 0 N N V M1 dn lt (by omega) (by omega) (by omega) hI1 (by omega) with ⟨V', M', dn', lt', a1, a2, a3, a4⟩ | ⟨V', M', a1, a2, a3, a4, a5⟩
    · rw [xst, a3, mst, a4, pl_ob, if_neg (show ¬ nI 1 = 0 by decide)]
      obtain ⟨c1, c2, c3, c4, c5, c6, c7⟩ := a1
      refine ih (c + 1) qx' qm' V' _ dn' lt' (by omega) (by omega) (by omega) ⟨Rel_s c1 (SX_r _) (SM_F (SM_r _) rfl), c2, FrM_t c3 (FrM_f _ 41 _ (by omega)), ?_, ?_, c6, ?_⟩ (by omega)
      · rw [sF_o _ _ _ _ _ _ (by omega)]; exact c4
      · rw [sF_o _ _ _ _ _ _ (by omega)]; exact c5
      · rw [sF_e, upd_e, hs]
    · refine Or.inr ⟨V', M', c, a1, a2, a3, by rw [xst, a4], ?_⟩
      rw [mst, a5, pl_ob, if_pos (show nI 0 = 0 from rfl)]
end
end
