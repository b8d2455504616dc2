/-! feed: twenty bytes behind the tape -/
theorem sA_1 (V : Vt) (h j : Nat) (x : Int32) : (sA V h j x).1 = V.1 := rfl
theorem sF_2 (V : Vt) (h j : Nat) (x : Int32) : (sF V h j x).2 = V.2 := rfl
theorem nI_ng {a b : Nat} (h : b ≤ a) : nI a + -nI b = nI (a - b) := by rw [← Int32.sub_eq_add_neg, pk_sub h]
def Onl (V V' : Vt) : Prop := V'.2.2 = V.2.2 ∧ (∀ h, h ≠ 36 → V'.2.1 h = V.2.1 h) ∧ ∀ h j, ¬ (h = 0 ∧ j = 15) → V'.1 h j = V.1 h j
theorem Onl_t {V V' W : Vt} (a : Onl V V') (b : Onl V' W) : Onl V W := ⟨b.1.trans a.1, fun h hh => (b.2.1 h hh).trans (a.2.1 h hh), fun h j hh => (b.2.2 h j hh).trans (a.2.2 h j hh)⟩
theorem Onl_1 (V : Vt) (j : Nat) (x y : Int32) : Onl V (sF (sA V 36 j x) 0 15 y) := ⟨rfl, fun h hh => sA_n _ _ _ _ _ hh, fun h j hh => by
  show up2 V.1 0 15 y h j = _
  simp only [up2]
  rw [if_neg hh]⟩
def btX (a : Int32) (j : Nat) : Int32 := (a >>> (nI (24 - 8 * j) &&& nI 31)) &&& nI 255
theorem x_pbs (N : Nat) (S : St) (V : Vt) (n k p : Nat) (e : V.1 0 15 = nI n) (hn : n < 400) (hp : p ≤ 24) (a v : Int32) (hv : v = nI p + -nI 8) : f_X8_putBytes_3 N S 0 (k + 1) V a (nI p) = f_X8_putBytes_3 N S 0 k (sF (sA V 36 n ((a >>> (nI p &&& nI 31)) &&& nI 255)) 0 15 (nI (n + 1))) a v := by
  have h0 : ¬ p < 0 := by omega
  have e2 : (sA V 36 n ((a >>> (nI p &&& nI 31)) &&& nI 255)).1 0 15 = nI n := e
  rw [hv]
  simp (disch := omega) only [f_X8_putBytes_3, h0, e, e2, pl_bd, pl_ob, pl_ob1, pl_obv, pl_oa, pl_oav, pl_cg, pl_cb0, pl_cb1, pl_nl0, pl_nls, li, nI_cl, pl_ck, nI_E, nI_L, nI_T, nI_add, pk_mul, nI_s1, Nat.zero_add, Nat.add_zero, Nat.reduceAdd, Nat.reduceMul, Nat.reduceSub, Nat.reduceEqDiff, Nat.reduceLeDiff, Nat.reduceLT, ↓reduceIte]
theorem x_putBytes {N : Nat} (hN : 20000 ≤ N) (S : St) (V : Vt) (n : Nat) (e : V.1 0 15 = nI n) (hn : n + 4 ≤ 400) (a : Int32) : ∃ V', f_X8_putBytes N S V 0 a = some V' ∧ V'.1 0 15 = nI (n + 4) ∧ (∀ i, i < n → V'.2.1 36 i = V.2.1 36 i) ∧ (∀ j, j < 4 → V'.2.1 36 (n + j) = btX a j) ∧ Onl V V' := by
  obtain ⟨m, hm⟩ : ∃ m, N = m + 5 := ⟨N - 5, by omega⟩
  obtain ⟨V1, ev1⟩ : ∃ W, W = sF (sA V 36 n (btX a 0)) 0 15 (nI (n + 1)) := ⟨_, rfl⟩
  obtain ⟨V2, ev2⟩ : ∃ W, W = sF (sA V1 36 (n + 1) (btX a 1)) 0 15 (nI (n + 1 + 1)) := ⟨_, rfl⟩
  obtain ⟨V3, ev3⟩ : ∃ W, W = sF (sA V2 36 (n + 2) (btX a 2)) 0 15 (nI (n + 2 + 1)) := ⟨_, rfl⟩
  obtain ⟨V4, ev4⟩ : ∃ W, W = sF (sA V3 36 (n + 3) (btX a 3)) 0 15 (nI (n + 3 + 1)) := ⟨_, rfl⟩
  have l1 : V1.1 0 15 = nI (n + 1) := by rw [ev1, sF_e, upd_e]
  have l2 : V2.1 0 15 = nI (n + 2) := by rw [ev2, sF_e, upd_e]
  have l3 : V3.1 0 15 = nI (n + 3) := by rw [ev3, sF_e, upd_e]
  have l4 : V4.1 0 15 = nI (n + 4) := by rw [ev4, sF_e, upd_e]
  have t1 : V1.2.1 36 = upd (V.2.1 36) n (btX a 0) := by rw [ev1, sF_2, sA_e]
  have t2 : V2.2.1 36 = upd (V1.2.1 36) (n + 1) (btX a 1) := by rw [ev2, sF_2, sA_e]
  have t3 : V3.2.1 36 = upd (V2.2.1 36) (n + 2) (btX a 2) := by rw [ev3, sF_2, sA_e]
  have t4 : V4.2.1 36 = upd (V3.2.1 36) (n + 3) (btX a 3) := by rw [ev4, sF_2, sA_e]
  refine ⟨V4, ?_, l4, ?_, ?_, ?_⟩
  · have e0 : f_X8_putBytes N S V 0 a = f_X8_putBytes_3 N S 0 N V a (nI 24) := rfl
    have z : f_X8_putBytes_3 N S 0 (m + 1) V4 a (-nI 8) = some V4 := by
      have hz : (-nI 8 < (0 : Int32)) := by decide
      unfold f_X8_putBytes_3
      rw [if_pos hz]
    rw [e0]
    show f_X8_putBytes_3 N S 0 N V a (nI 24) = _
    conv => lhs; arg 4; rw [hm]
    rw [x_pbs N S V n (m + 4) 24 e (by omega) (by omega) a (nI 16) rfl, ← show btX a 0 = (a >>> (nI 24 &&& nI 31)) &&& nI 255 from rfl, ← ev1]
    rw [x_pbs N S V1 (n + 1) (m + 3) 16 l1 (by omega) (by omega) a (nI 8) rfl, ← show btX a 1 = (a >>> (nI 16 &&& nI 31)) &&& nI 255 from rfl, ← ev2]
    rw [x_pbs N S V2 (n + 2) (m + 2) 8 l2 (by omega) (by omega) a (nI 0) rfl, ← show btX a 2 = (a >>> (nI 8 &&& nI 31)) &&& nI 255 from rfl, ← ev3]
    rw [x_pbs N S V3 (n + 3) (m + 1) 0 l3 (by omega) (by omega) a (-nI 8) rfl, ← show btX a 3 = (a >>> (nI 0 &&& nI 31)) &&& nI 255 from rfl, ← ev4]
    exact z
  · intro i hi
    simp (disch := omega) only [t4, t3, t2, t1, upd_n]
  · intro j hj
    rcases (by omega : j = 0 ∨ j = 1 ∨ j = 2 ∨ j = 3) with rfl | rfl | rfl | rfl
    all_goals simp (disch := omega) only [t4, t3, t2, t1, upd_n, upd_e, Nat.add_zero]
  · rw [ev4, ev3, ev2, ev1]
    exact Onl_t (Onl_t (Onl_t (Onl_1 _ _ _ _) (Onl_1 _ _ _ _)) (Onl_1 _ _ _ _)) (Onl_1 _ _ _ _)
theorem bt_byte (x : Int32) : ∃ b : Nat, b < 256 ∧ x &&& nI 255 = nI b ∧ vp_nar .byte x.toInt8.toInt32 = sb_b b := by
  obtain ⟨b, hb, e⟩ := pk_andE x (m := 255) 8 rfl
  refine ⟨b, hb, e, ?_⟩
  rw [vp_nar_byte, fb_byte_twice]
  unfold sb_b
  rw [← e, fa_byte_low]
section OPS
variable {N b0 : Nat} {X : TxP}
theorem op_feed (hN : 20000 ≤ N) : Op_feed N b0 (Rel X b0) := by
  intro S V M hR a1 a2 a3 a4 a5
  obtain ⟨n, hn, e1, e2, h3⟩ := hR.2.2.2.2.2.1
  by_cases h400 : n + 20 ≤ 400
  · -- the class
    obtain ⟨V1, c1, l1, k1, v1, o1⟩ := x_putBytes hN S V n e1 (by omega) a1
    obtain ⟨V2, c2, l2, k2, v2, o2⟩ := x_putBytes hN S V1 (n + 4) l1 (by omega) a2
    obtain ⟨V3, c3, l3, k3, v3, o3⟩ := x_putBytes hN S V2 (n + 4 + 4) l2 (by omega) a3
    obtain ⟨V4, c4, l4, k4, v4, o4⟩ := x_putBytes hN S V3 (n + 4 + 4 + 4) l3 (by omega) a4
    obtain ⟨V5, c5, l5, k5, v5, o5⟩ := x_putBytes hN S V4 (n + 4 + 4 + 4 + 4) l4 (by omega) a5
    have oo : Onl V V5 := Onl_t (Onl_t (Onl_t (Onl_t o1 o2) o3) o4) o5
    let fv : Nat → Int32 := fun k => if k = 0 then a1 else if k = 1 then a2 else if k = 2 then a3 else if k = 3 then a4 else a5
    have hx : f_X8_feed N S V 0 a1 a2 a3 a4 a5 = some (nI (n + 20), V5) := by
      simp (disch := omega) only [f_X8_feed, e1, h400, c1, c2, c3, c4, c5, l5, Nat.add_assoc, pl_bd, pl_ob, pl_ob1, pl_obv, pl_oa, pl_oav, pl_cg, pl_cb0, pl_cb1, pl_nl0, pl_nls, li, nI_cl, pl_ck, nI_E, nI_L, nI_T, nI_add, pk_mul, nI_s1, Nat.zero_add, Nat.add_zero, Nat.reduceAdd, Nat.reduceMul, Nat.reduceSub, Nat.reduceEqDiff, Nat.reduceLeDiff, Nat.reduceLT, ↓reduceIte]
    have tx : ∀ j, j < 20 → V5.2.1 36 (n + j) = btX (fv (j / 4)) (j % 4) := by
      intro j hj
      rcases (by omega : j < 4 ∨ (4 ≤ j ∧ j < 8) ∨ (8 ≤ j ∧ j < 12) ∨ (12 ≤ j ∧ j < 16) ∨ (16 ≤ j ∧ j < 20)) with h | h | h | h | h
      · rw [k5 _ (by omega), k4 _ (by omega), k3 _ (by omega), k2 _ (by omega), v1 j h, show j / 4 = 0 by omega, show j % 4 = j by omega]; rfl
      · rw [k5 _ (by omega), k4 _ (by omega), k3 _ (by omega), show n + j = n + 4 + (j - 4) by omega, v2 (j - 4) (by omega), show j / 4 = 1 by omega, show j % 4 = j - 4 by omega]; rfl
      · rw [k5 _ (by omega), k4 _ (by omega), show n + j = n + 4 + 4 + (j - 8) by omega, v3 (j - 8) (by omega), show j / 4 = 2 by omega, show j % 4 = j - 8 by omega]; rfl
      · rw [k5 _ (by omega), show n + j = n + 4 + 4 + 4 + (j - 12) by omega, v4 (j - 12) (by omega), show j / 4 = 3 by omega, show j % 4 = j - 12 by omega]; rfl
      · rw [show n + j = n + 4 + 4 + 4 + 4 + (j - 16) by omega, v5 (j - 16) (by omega), show j / 4 = 4 by omega, show j % 4 = j - 16 by omega]; rfl
    have tk' : ∀ i, i < n → V5.2.1 36 i = V.2.1 36 i := by
      intro i hi
      rw [k5 _ (by omega), k4 _ (by omega), k3 _ (by omega), k2 _ (by omega), k1 _ hi]
    -- the reference
    let M0 : Vt := sA (sA (sA (sA (sA M 8 0 a1) 8 1 a2) 8 2 a3) 8 3 a4) 8 4 a5
    have f8 : ∀ k, k < 5 → M0.2.1 8 k = fv k := by
      intro k hk
      show (sA (sA (sA (sA (sA M 8 0 a1) 8 1 a2) 8 2 a3) 8 3 a4) 8 4 a5).2.1 8 k = _
      rcases (by omega : k = 0 ∨ k = 1 ∨ k = 2 ∨ k = 3 ∨ k = 4) with rfl | rfl | rfl | rfl | rfl
      all_goals (simp (disch := omega) only [sA_e, upd_n, upd_e]; rfl)
    have hm0 : f_X9_feed N M a1 a2 a3 a4 a5 = f_X9_feed_55 N N M0 (nI 0) := by
      simp (disch := omega) only [f_X9_feed, e2, h400, pl_bd, pl_ob, pl_ob1, pl_obv, pl_oa, pl_oav, pl_cg, pl_cb0, pl_cb1, pl_nl0, pl_nls, li, nI_cl, pl_ck, nI_E, nI_L, nI_T, nI_add, pk_mul, nI_s1, Nat.zero_add, Nat.add_zero, Nat.reduceAdd, Nat.reduceMul, Nat.reduceSub, Nat.reduceEqDiff, Nat.reduceLeDiff, Nat.reduceLT, ↓reduceIte]
      rfl
    have step := lpN N (fun k s i => f_X9_feed_55 N k s i) 20 (fun j s => s.1 = M0.1 ∧ s.2.2 = M0.2.2 ∧ (∀ h, h ≠ 7 → s.2.1 h = M0.2.1 h) ∧ (∀ i, i < n → s.2.1 7 i = M.2.1 7 i) ∧ ∀ i, i < j → s.2.1 7 (n + i) = vp_nar .byte (((fv (i / 4)) >>> (nI (24 - 8 * (i % 4)) &&& nI 31)).toInt8.toInt32)) (by
      intro i s hi ⟨q1, q2, q3, q4, q5⟩
      have s13 : s.1 0 13 = nI n := by rw [q1]; exact e2
      have s8 : s.2.1 8 (i / 4) = fv (i / 4) := by rw [q3 8 (by omega)]; exact f8 _ (by omega)
      refine ⟨sA s 7 (n + i) (vp_nar .byte (((fv (i / 4)) >>> (nI (24 - 8 * (i % 4)) &&& nI 31)).toInt8.toInt32)), ⟨q1, q2, fun h hh => by rw [sA_n _ _ _ _ _ hh]; exact q3 h hh, fun k hk => by rw [sA_e, upd_n _ _ _ _ (by omega)]; exact q4 k hk, fun k hk => ?_⟩, fun k => ?_⟩
      · rw [sA_e]
        by_cases hki : k = i
        · subst hki; rw [upd_e]
        · rw [upd_n _ _ _ _ (by omega)]; exact q5 k (by omega)
      · have h20 : ¬ 20 ≤ i := by omega
        have h24 : 8 * (i % 4) ≤ 24 := by omega
        have hr : i - i / 4 * 4 = i % 4 := by omega
        simp (disch := omega) only [f_X9_feed_55, h20, s13, pk_div, s8, pk_sub, hr, pl_bd, pl_ob, pl_ob1, pl_obv, pl_oa, pl_oav, pl_cg, pl_cb0, pl_cb1, pl_nl0, pl_nls, li, nI_cl, pl_ck, nI_E, nI_L, nI_T, nI_add, pk_mul, nI_s1, Nat.zero_add, Nat.add_zero, Nat.reduceAdd, Nat.reduceMul, Nat.reduceSub, Nat.reduceEqDiff, Nat.reduceLeDiff, Nat.reduceLT, ↓reduceIte]) M0 (by omega) ⟨rfl, rfl, fun _ _ => rfl, fun _ _ => rfl, fun i hi => absurd hi (Nat.not_lt_zero i)⟩
    obtain ⟨M1, ⟨q1, q2, q3, q4, q5⟩, k, ek⟩ := step
    have s13 : M1.1 0 13 = nI n := by rw [q1]; exact e2
    have hm : f_X9_feed N M a1 a2 a3 a4 a5 = some (nI (n + 20), sF M1 0 13 (nI (n + 20))) := by
      rw [hm0, ek]
      simp (disch := omega) only [f_X9_feed_55, s13, sF_e, upd_e, pl_bd, pl_ob, pl_ob1, pl_obv, pl_oa, pl_oav, pl_cg, pl_cb0, pl_cb1, pl_nl0, pl_nls, li, nI_cl, pl_ck, nI_E, nI_L, nI_T, nI_add, pk_mul, nI_s1, Nat.zero_add, Nat.add_zero, Nat.reduceAdd, Nat.reduceMul, Nat.reduceSub, Nat.reduceEqDiff, Nat.reduceLeDiff, Nat.reduceLT, ↓reduceIte]
    refine ⟨_, _, _, hx, hm, ?_⟩
    have mf : ∀ j, j ≠ 13 → (sF M1 0 13 (nI (n + 20))).1 0 j = M.1 0 j := by
      intro j hj
      rw [sF_e, upd_n _ _ _ _ hj, q1]; rfl
    have ma : ∀ h, h ≠ 7 → h ≠ 8 → (sF M1 0 13 (nI (n + 20))).2.1 h = M.2.1 h := by
      intro h h7 h8
      show M1.2.1 h = _
      rw [q3 h h7]
      show (sA (sA (sA (sA (sA M 8 0 a1) 8 1 a2) 8 2 a3) 8 3 a4) 8 4 a5).2.1 h = _
      simp (disch := omega) only [sA_n]
    have vf : ∀ h, h ≠ 0 → V5.1 h = V.1 h := fun h hh => funext fun j => oo.2.2 h j (by omega)
    have r4 : V5.2.2.2 = V.2.2.2 := congrArg Prod.snd oo.1
    refine Rel_of hR (fun h hh => ⟨vf h (by omega), oo.2.1 h (by omega), by rw [r4]⟩) (by rw [r4]) (by rw [r4]) (ma 3 (by omega) (by omega)) (ma 4 (by omega) (by omega)) (by rw [vf 1 (by omega)]) (by rw [vf 1 (by omega)]) (fun j _ _ => by rw [ma 2 (by omega) (by omega)]) (ma 6 (by omega) (by omega)) ?_ ?_ ?_ ?_ ?_ ?_
    · rw [vf 1 (by omega), oo.2.1 2 (by omega), oo.2.1 3 (by omega), oo.2.1 4 (by omega), oo.2.1 5 (by omega), oo.2.1 6 (by omega), oo.2.1 7 (by omega), oo.2.1 9 (by omega), oo.2.1 10 (by omega), ma 2 (by omega) (by omega)]; exact hR.2.1
    · rw [vf 32 (by omega), mf 31 (by omega), oo.2.1 33 (by omega), ma 13 (by omega) (by omega), ma 2 (by omega) (by omega)]; exact hR.2.2.2.2.1
    · refine ⟨n + 20, by omega, by rw [l5], by rw [sF_e, upd_e], fun i hi => ?_⟩
      by_cases hin : i < n
      · obtain ⟨b, hb, b1, b2⟩ := h3 i hin
        exact ⟨b, hb, (tk' i hin).trans b1, (q4 i hin).trans b2⟩
      · obtain ⟨j, rfl⟩ : ∃ j, i = n + j := ⟨i - n, by omega⟩
        obtain ⟨b, hb, b1, b2⟩ := bt_byte ((fv (j / 4)) >>> (nI (24 - 8 * (j % 4)) &&& nI 31))
        exact ⟨b, hb, (tx j (by omega)).trans b1, (q5 j (by omega)).trans b2⟩
    · rw [oo.2.2 0 18 (by omega), mf 0 (by omega), oo.2.1 63 (by omega), ma 1 (by omega) (by omega)]; exact hR.2.2.2.2.2.2.1
    · rw [vf 22 (by omega), mf 48 (by omega), oo.2.1 23 (by omega), oo.2.1 27 (by omega), ma 24 (by omega) (by omega)]; exact hR.2.2.2.2.2.2.2.1
    · rw [oo.2.2 0 16 (by omega), mf 6 (by omega), oo.2.2 0 17 (by omega), mf 40 (by omega), vf 37 (by omega), mf 14 (by omega)]; exact hR.2.2.2.2.2.2.2.2.1
  · refine ⟨-1, V, M, ?_, ?_, hR⟩
    · simp (disch := omega) only [f_X8_feed, e1, h400, pl_bd, pl_ob, pl_ob1, pl_obv, pl_oa, pl_oav, pl_cg, pl_cb0, pl_cb1, pl_nl0, pl_nls, li, nI_cl, pl_ck, nI_E, nI_L, nI_T, nI_add, pk_mul, nI_s1, Nat.zero_add, Nat.add_zero, Nat.reduceAdd, Nat.reduceMul, Nat.reduceSub, Nat.reduceEqDiff, Nat.reduceLeDiff, Nat.reduceLT, ↓reduceIte]
    · simp (disch := omega) only [f_X9_feed, e2, h400, pl_bd, pl_ob, pl_ob1, pl_obv, pl_oa, pl_oav, pl_cg, pl_cb0, pl_cb1, pl_nl0, pl_nls, li, nI_cl, pl_ck, nI_E, nI_L, nI_T, nI_add, pk_mul, nI_s1, Nat.zero_add, Nat.add_zero, Nat.reduceAdd, Nat.reduceMul, Nat.reduceSub, Nat.reduceEqDiff, Nat.reduceLeDiff, Nat.reduceLT, ↓reduceIte]
end OPS
