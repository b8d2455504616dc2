section
/-! casts: the call, but for the count of ones (hbc) -/
abbrev cstC (F R : Nat → Int32) (i : Nat) : Prop := (F i &&& (R i ^^^ (-1 : Int32))) = 0 ∧ (F i &&& (-(F i))) = (1 : Int32) <<< (nI i &&& 31)
def cstA (F R : Nat → Int32) : Nat → Int32
  | 0 => 0
  | i + 1 => if cstC F R i then cstA F R i ||| ((1 : Int32) <<< (nI i &&& 31)) else cstA F R i
theorem cstA_b {F R : Nat → Int32} : ∀ n, n ≤ 25 → ∀ i, i < 32 → n ≤ i → bt (cstA F R n) i = false
  | 0, _, i, _, _ => b_0 i
  | n + 1, hn, i, hi, h => by
    have ih := cstA_b (F := F) (R := R) n (by omega) i hi (by omega)
    rw [cstA]
    by_cases q : cstC F R n
    · rw [if_pos q, b_or, ih, bt_one (by omega) hi, Bool.false_or]
      exact decide_eq_false (by omega)
    · rw [if_neg q]; exact ih
theorem x_castB {N : Nat} (hN : 20000 ≤ N) {S : St} {V : Vt} {F R : Nat → Int32} (hR : V.2.1 54 = R) (hF : ∀ c, c < 25 → f_X3_sourceBits N S V 48 (nI c) = some (F c)) : f_X3_castBits N S V 48 = some (cstA F R 25) := by
  obtain ⟨m, g1, n, en⟩ := lpN N (fun n (m : Int32) i => f_X3_castBits_4 N S V 48 n m i) 25 (fun k m => m = cstA F R k) (by
    rintro k m hk rfl
    refine ⟨cstA F R (k + 1), rfl, fun n => ?_⟩
    show f_X3_castBits_4 N S V 48 (n + 1) (cstA F R k) (nI k) = f_X3_castBits_4 N S V 48 n (cstA F R (k + 1)) (nI (k + 1))
    have e45 : ∀ m, f_X3_castBits_45 N S V 48 (f_X3_castBits_4 N S V 48 n) m (nI k) = f_X3_castBits_4 N S V 48 n m (nI (k + 1)) := fun m => by
      unfold f_X3_castBits_45; rw [nI_1, pl_bd]
    have hR' : V.2.1 (48 + 6) = R := hR
    rw [f_X3_castBits_4, if_neg (show ¬ (25 : Int32) ≤ nI k by rw [lj 25, nI_L (by omega) (by omega)]; omega), hF k hk, pl_ob1, pl_ck (by omega) (by omega), nI_cl (by omega), hR']
    show _ = f_X3_castBits_4 N S V 48 n (if cstC F R k then cstA F R k ||| ((1 : Int32) <<< (nI k &&& 31)) else cstA F R k) (nI (k + 1))
    by_cases q1 : (F k &&& (R k ^^^ (-1 : Int32))) = 0
    · rw [if_pos q1]
      by_cases q2 : (F k &&& (-(F k))) = (1 : Int32) <<< (nI k &&& 31)
      · rw [if_pos q2, if_pos (show cstC F R k from ⟨q1, q2⟩), pl_bd, e45]
      · rw [if_neg q2, if_neg (show ¬ cstC F R k from fun h => q2 h.2), e45]
    · rw [if_neg q1, if_neg (show ¬ cstC F R k from fun h => q1 h.1), e45]) 0 (by omega) rfl
  have e1 : f_X3_castBits N S V 48 = f_X3_castBits_4 N S V 48 (n + 1) m (nI 25) := en
  rw [e1, f_X3_castBits_4, if_pos (show (25 : Int32) ≤ nI 25 by decide), g1]
theorem m_castB {N : Nat} (hN : 20000 ≤ N) {M : Vt} {F R : Nat → Int32} (v1 : Int32) (hC : ∀ c, c < 25 → f_X9_isCast N M (nI c) = some (if cstC F R c then 1 else 0)) : f_X9_casts_19 N N M v1 0 0 = (if v1 = 0 then ob1 (f_X9_ones N (cstA F R 25)) (fun r20 => some (r20, M)) else some (cstA F R 25, M)) := by
  obtain ⟨m, g1, n, en⟩ := lpN N (fun n (m : Int32) i => f_X9_casts_19 N n M v1 m i) 25 (fun k m => m = cstA F R k) (by
    rintro k m hk rfl
    refine ⟨cstA F R (k + 1), rfl, fun n => ?_⟩
    show f_X9_casts_19 N (n + 1) M v1 (cstA F R k) (nI k) = f_X9_casts_19 N n M v1 (if cstC F R k then cstA F R k ||| ((1 : Int32) <<< (nI k &&& 31)) else cstA F R k) (nI (k + 1))
    have e41 : ∀ s, f_X9_casts_41 N (f_X9_casts_19 N n) M v1 (nI k) s (cstA F R k) = f_X9_casts_19 N n M v1 (cstA F R k ||| s) (nI (k + 1)) := fun s => by
      unfold f_X9_casts_41; rw [pl_bd, nI_1, pl_bd]
    rw [f_X9_casts_19, if_neg (show ¬ (25 : Int32) ≤ nI k by rw [lj 25, nI_L (by omega) (by omega)]; omega), hC k hk, pl_ob1]
    by_cases q : cstC F R k
    · rw [if_pos q, if_pos q, if_neg (show ¬ (1 : Int32) = 0 by decide), e41]
    · have o0 : cstA F R k ||| 0 = cstA F R k := b_ext (fun i _ => by rw [b_or, b_0, Bool.or_false])
      rw [if_neg q, if_neg q, if_pos rfl, e41, o0]) 0 (by omega) rfl
  have e1 : f_X9_casts_19 N N M v1 0 0 = f_X9_casts_19 N (n + 1) M v1 m (nI 25) := en
  rw [e1, f_X9_casts_19, if_pos (show (25 : Int32) ≤ nI 25 by decide), g1]
section OPS
variable {N b0 : Nat}
theorem op_casts0 (hN : 20000 ≤ N) (hbc : ∀ x, (∀ i, i < 32 → 25 ≤ i → bt x i = false) → ∃ r, f_J6_bitCount_0f7a4 N x = some r ∧ f_X9_ones N x = some r) : Op_casts N b0 (Rel XL b0) := by
  intro S V M hR a1
  rcases lies_c N a1 0 1 (by omega) (by omega) with ⟨k, -, hk, rfl, el⟩ | ⟨-, el⟩
  · obtain ⟨lw, eF, hL⟩ := LQ_of (N := N) hR
    obtain ⟨st, V', M', h1, h2, ex, em, cx, cm, v53, m18⟩ := learnB hN hL
    obtain ⟨f, ef, hf⟩ := x_reach (N := N) hN (S := S) h1 h2 v53
    have hex : ∀ c, ∃ m, c < 25 → f_X3_sourceBits N S (pA V' 54 f) 48 (nI c) = some m ∧ ∀ i, i < 32 → (bt m i = true ↔ i < 25 ∧ bt (f i) c = true) := fun c => by
      by_cases hc : c < 25
      · obtain ⟨m, m1, m2⟩ := x_srcs (N := N) hN (S := S) (V := pA V' 54 f) (f := f) (pA_e _ _ _) hc
        exact ⟨m, fun _ => ⟨m1, m2⟩⟩
      · exact ⟨0, fun q => absurd q hc⟩
    obtain ⟨F, hF⟩ := Classical.skolem.mp hex
    have xc := x_castB (N := N) hN (S := S) (V := pA V' 54 f) (F := F) (R := f) (pA_e _ _ _) (fun c hc => (hF c hc).1)
    have mc := m_castB (N := N) hN (M := M') (F := F) (R := f) (nI k) (fun c hc => by
      have := m_isCast (N := N) hN h1 h2 m18 hc (Fc := F c) (Rc := f c) (fun i hi => by
        rw [(hF c hc).2 i hi]
        constructor
        · rintro ⟨i1, i2⟩
          obtain ⟨-, n, n1, n2⟩ := (hf i i1 c (by omega)).mp i2
          exact ⟨i1, n, n1, n2⟩
        · rintro ⟨i1, n, n1, n2⟩
          exact ⟨i1, (hf i i1 c (by omega)).mpr ⟨hc, n, n1, n2⟩⟩) (hf c hc)
      rw [this])
    obtain ⟨r, br, mr⟩ := hbc (cstA F f 25) (fun i hi h => cstA_b 25 (by omega) i hi h)
    refine ⟨(if nI k = 0 then r else cstA F f 25), pA V' 54 f, M', ?_, ?_, Rel_s hR (SX_t (SX_ln cx) ⟨fun g hg => ⟨rfl, pA_n _ _ _ _ (fun e => by rw [e] at hg; exact absurd hg (by decide)), rfl⟩, rfl⟩) (SM_ln cm)⟩
    · have el' : f_X8_isWithin N (nI k) 0 1 = some (nI 1) := by rw [within_lies]; exact el
      have eF' : f_X0_lawInForce N S V (0 + 1) = some lw := eF
      unfold f_X8_casts
      rw [el', pl_ob1, if_neg (by decide), eF', pl_ob1]
      refine (x_lrn hL ex (fun V25 => obv (f_X3_learnReach N S V25 48) (fun V28 => ob1 (f_X3_castBits N S V28 48) (fun r29 => if nI k = 0 then ob1 (f_J6_bitCount_0f7a4 N r29) (fun r32 => some (r32, V28)) else some (r29, V28))))).trans ?_
      rw [ef, pl_obv, xc, pl_ob1]
      by_cases q : nI k = 0
      · rw [if_pos q, if_pos q, br, pl_ob1]
      · rw [if_neg q, if_neg q]
    · have el' : f_X9_lies N (nI k) 0 1 = some (nI 1) := el
      unfold f_X9_casts
      rw [el', pl_ob1, if_neg (by decide), em, pl_obv, mc]
      by_cases q : nI k = 0
      · rw [if_pos q, if_pos q, mr, pl_ob1]
      · rw [if_neg q, if_neg q]
  · refine ⟨-1, V, M, ?_, ?_, hR⟩
    · simp (disch := omega) only [f_X8_casts, within_lies, el, pl_bd, pl_ob, pl_ob1, pl_obv, pl_oa, pl_oav, pl_cg, pl_cb0, pl_cb1, pl_nl0, pl_nls, li, nI_cl, pl_ck, nI_E, nI_L, nI_T, nI_add, pk_mul, nI_s1, Nat.zero_add, Nat.add_zero, Nat.reduceAdd, Nat.reduceMul, Nat.reduceSub, Nat.reduceEqDiff, Nat.reduceLeDiff, Nat.reduceLT, ↓reduceIte]
    · simp (disch := omega) only [f_X9_casts, el, pl_bd, pl_ob, pl_ob1, pl_obv, pl_oa, pl_oav, pl_cg, pl_cb0, pl_cb1, pl_nl0, pl_nls, li, nI_cl, pl_ck, nI_E, nI_L, nI_T, nI_add, pk_mul, nI_s1, Nat.zero_add, Nat.add_zero, Nat.reduceAdd, Nat.reduceMul, Nat.reduceSub, Nat.reduceEqDiff, Nat.reduceLeDiff, Nat.reduceLT, ↓reduceIte]
end OPS
end
