section
/-! more of the class's machine: operations, jumps, the end -/
theorem lg3 (x y : Int64) : (y < x ∧ lg_cmp x y = 1) ∨ (x = y ∧ lg_cmp x y = 0) ∨ (x < y ∧ lg_cmp x y = -1) := by
  unfold lg_cmp
  by_cases h : x > y
  · exact Or.inl ⟨h, if_pos h⟩
  · by_cases e : x = y
    · exact Or.inr (Or.inl ⟨e, by rw [if_neg h, if_pos e]⟩)
    · refine Or.inr (Or.inr ⟨?_, by rw [if_neg h, if_neg e]⟩)
      have h1 : ¬ y.toInt < x.toInt := fun q => h (Int64.lt_iff_toInt_lt.mpr q)
      have h2 : ¬ x.toInt = y.toInt := fun q => e (Int64.toInt_inj.mp q)
      exact Int64.lt_iff_toInt_lt.mpr (by omega)
theorem lg_gt (x y : Int64) : (0 < lg_cmp x y) = (y < x) := by
  rcases lg3 x y with ⟨h, e⟩ | ⟨h, e⟩ | ⟨h, e⟩ <;> rw [e] <;> refine propext ⟨fun q => ?_, fun q => ?_⟩
  · exact h
  · decide
  · exact absurd q (by decide)
  · rw [h] at q; exact absurd q (by rw [Int64.lt_iff_toInt_lt]; omega)
  · exact absurd q (by decide)
  · rw [Int64.lt_iff_toInt_lt] at h q; omega
theorem lg_ge (x y : Int64) : (0 ≤ lg_cmp x y) = (y ≤ x) := by
  rcases lg3 x y with ⟨h, e⟩ | ⟨h, e⟩ | ⟨h, e⟩ <;> rw [e] <;> refine propext ⟨fun q => ?_, fun q => ?_⟩
  · rw [Int64.lt_iff_toInt_lt] at h; rw [Int64.le_iff_toInt_le]; omega
  · decide
  · rw [h, Int64.le_iff_toInt_le]; omega
  · decide
  · exact absurd q (by decide)
  · rw [Int64.lt_iff_toInt_lt] at h; rw [Int64.le_iff_toInt_le] at q; omega
theorem lg_le (x y : Int64) : (lg_cmp x y ≤ 0) = (x ≤ y) := by
  rcases lg3 x y with ⟨h, e⟩ | ⟨h, e⟩ | ⟨h, e⟩ <;> rw [e] <;> refine propext ⟨fun q => ?_, fun q => ?_⟩
  · exact absurd q (by decide)
  · rw [Int64.lt_iff_toInt_lt] at h; rw [Int64.le_iff_toInt_le] at q; omega
  · rw [h, Int64.le_iff_toInt_le]; omega
  · decide
  · rw [Int64.lt_iff_toInt_lt] at h; rw [Int64.le_iff_toInt_le]; omega
  · decide
theorem lg_lt (x y : Int64) : (lg_cmp x y < 0) = (x < y) := by
  rcases lg3 x y with ⟨h, e⟩ | ⟨h, e⟩ | ⟨h, e⟩ <;> rw [e] <;> refine propext ⟨fun q => ?_, fun q => ?_⟩
  · exact absurd q (by decide)
  · rw [Int64.lt_iff_toInt_lt] at h q; omega
  · exact absurd q (by decide)
  · rw [h] at q; exact absurd q (by rw [Int64.lt_iff_toInt_lt]; omega)
  · exact h
  · decide
theorem lg_eq (x y : Int64) : (lg_cmp x y = 0) = (x = y) := by
  rcases lg3 x y with ⟨h, e⟩ | ⟨h, e⟩ | ⟨h, e⟩ <;> rw [e] <;> refine propext ⟨fun q => ?_, fun q => ?_⟩
  · exact absurd q (by decide)
  · rw [q] at h; exact absurd h (by rw [Int64.lt_iff_toInt_lt]; omega)
  · exact h
  · rfl
  · exact absurd q (by decide)
  · rw [q] at h; exact absurd h (by rw [Int64.lt_iff_toInt_lt]; omega)
theorem x_c199 {N : Nat} (S : St) (V : Vt) (o h : Nat) (e : V.1 o 1 = nI (h + 2)) (hh : h + 2 ≤ 40) (w : Int64) : f_X4_combine_199 N S o V w = (bdV w).elim (some (nI 0, V)) (fun z => some (nI 1, sA (sF V o 1 (nI (h + 1))) (o + 1) h z)) := by
  unfold f_X4_combine_199 bdV
  have s1 : nI (h + 2) - nI 1 = nI (h + 1) := pk_sub (by omega)
  have s2 : nI (h + 1) - nI 1 = nI h := pk_sub (by omega)
  have e2 : (sF V o 1 (nI (h + 1))).1 o 1 = nI (h + 1) := by rw [sF_e, upd_e]
  simp only [lg_gt, lg_ge]
  by_cases c1 : (1000000000 : Int64) < w
  · rw [if_pos c1, if_pos (Or.inl c1)]; rfl
  · rw [if_neg c1]
    by_cases c2 : w < -1000000000
    · rw [if_neg (by rw [Int64.le_iff_toInt_le]; rw [Int64.lt_iff_toInt_lt] at c2; omega), if_pos (Or.inr c2)]; rfl
    · rw [if_pos (Int64.not_lt.mp c2), if_neg (fun q => q.elim c1 c2)]
      simp (disch := omega) only [e, s1, e2, s2, ↓pl_bd, pl_ob, pl_ob1, pl_obv, pl_oa, pl_oav, pl_cg, pl_cb0, pl_cb1, pl_nl0, pl_nls, li, nI_cl, pl_ck, nI_E, nI_L, nI_T, nI_add, pk_mul, Nat.zero_add, Nat.add_zero, Nat.reduceAdd, Nat.reduceMul, Nat.reduceSub, Nat.reduceEqDiff, Nat.reduceLeDiff, Nat.reduceLT, ↓reduceIte]
      rfl
theorem x_comb {N : Nat} (S : St) (V : Vt) (o h : Nat) (e : V.1 o 1 = nI (h + 2)) (hh : h + 2 ≤ 40) (s : Nat) (hs : 3 ≤ s ∧ s ≤ 10) (x y : Int32) (ex : V.2.1 (o + 1) h = x) (ey : V.2.1 (o + 1) (h + 1) = y) : f_X4_combine N S V o (nI s) = (opS s x y).elim (some (nI 0, V)) (fun z => some (nI 1, sA (sF V o 1 (nI (h + 1))) (o + 1) h z)) := by
  have s1 : nI (h + 2) - nI 1 = nI (h + 1) := pk_sub (by omega)
  have s2 : nI (h + 2) - nI 2 = nI h := pk_sub (by omega)
  have g2 : 2 ≤ h + 2 := by omega
  have z1 : ∀ (a b : Int64), (lg_cmp a b = nI 0) = (a = b) := fun a b => lg_eq a b
  have z2 : ∀ (a b : Int64), (nI 0 ≤ lg_cmp a b) = (b ≤ a) := fun a b => lg_ge a b
  have z3 : ∀ (a b : Int64), (lg_cmp a b ≤ nI 0) = (a ≤ b) := fun a b => lg_le a b
  have hs2 : s = 3 ∨ s = 4 ∨ s = 5 ∨ s = 6 ∨ s = 7 ∨ s = 8 ∨ s = 9 ∨ s = 10 := by omega
  unfold f_X4_combine opS
  have K : ∀ w, f_X4_combine_199 N S o V w = (bdV w).elim (some (nI 0, V)) (fun z => some (nI 1, sA (sF V o 1 (nI (h + 1))) (o + 1) h z)) := x_c199 S V o h e hh
  unfold f_X4_combine_124 f_X4_combine_146 f_X4_combine_163 f_X4_combine_180 f_X4_combine_197
  simp only [K]
  rw [e, lj 2, lj 1, s1, s2, nI_cl (by omega), nI_cl (by omega), ex, ey, pl_ck (by omega) (by omega), pl_bd, pl_ck (by omega) (by omega), pl_bd, if_pos (by rw [nI_L (by omega) (by omega)]; omega)]
  rcases hs2 with rfl | rfl | rfl | rfl | rfl | rfl | rfl | rfl
  · rfl
  · rfl
  · rfl
  · show (if lg_cmp y.toInt64 0 = nI 0 then _ else czl y.toInt64 _) = _
    by_cases c : y.toInt64 = 0
    · rw [if_pos (by rw [z1]; exact c)]; simp only [opV, c, ↓reduceIte]; rfl
    · rw [if_neg (by rw [z1]; exact c), czl, if_neg c]; simp only [opV, c, ↓reduceIte]; rfl
  · show (if lg_cmp y.toInt64 0 = nI 0 then _ else czl y.toInt64 _) = _
    by_cases c : y.toInt64 = 0
    · rw [if_pos (by rw [z1]; exact c)]; simp only [opV, c, ↓reduceIte]; rfl
    · rw [if_neg (by rw [z1]; exact c), czl, if_neg c]; simp only [opV, c, ↓reduceIte]; rfl
  · show (if nI 0 ≤ lg_cmp x.toInt64 y.toInt64 then _ else _) = _
    by_cases c : x.toInt64 < y.toInt64
    · rw [if_neg (by rw [z2]; exact fun q => by rw [Int64.lt_iff_toInt_lt] at c; rw [Int64.le_iff_toInt_le] at q; omega)]; simp only [opV, c, ↓reduceIte]; rfl
    · rw [if_pos (by rw [z2]; exact Int64.not_lt.mp c)]; simp only [opV, c, ↓reduceIte]; rfl
  · show (if lg_cmp x.toInt64 y.toInt64 ≤ nI 0 then _ else _) = _
    by_cases c : y.toInt64 < x.toInt64
    · rw [if_neg (by rw [z3]; exact fun q => by rw [Int64.lt_iff_toInt_lt] at c; rw [Int64.le_iff_toInt_le] at q; omega)]; simp only [opV, c, ↓reduceIte]; rfl
    · rw [if_pos (by rw [z3]; exact Int64.not_lt.mp c)]; simp only [opV, c, ↓reduceIte]; rfl
  · show (if lg_cmp x.toInt64 y.toInt64 = nI 0 then _ else _) = _
    by_cases c : x.toInt64 = y.toInt64
    · rw [if_pos (by rw [z1]; exact c)]; simp only [opV, c, ↓reduceIte]; rfl
    · rw [if_neg (by rw [z1]; exact c)]; simp only [opV, c, ↓reduceIte]; rfl
theorem CE_c {C C' W : Nat → Int32} {Lw p q d : Nat} {v : Option Int32} (h : ∀ i, p ≤ i → i < q → C' i = C i) (c : CE C W Lw p q d v) : CE C' W Lw p q d v := by
  refine ⟨c.1, fun N S o a1 a3 V hh L cx hd => c.2 N S o a1 a3 V hh L ⟨cx.1, cx.2.1, fun i h1 h2 => (cx.2.2.1 i h1 h2).trans (h i h1 h2), cx.2.2.2⟩ hd⟩
theorem CE_d {C W : Nat → Int32} {Lw p q d d' : Nat} {v : Option Int32} (h : d ≤ d') (c : CE C W Lw p q d v) : CE C W Lw p q d' v := ⟨c.1, fun N S o a1 a3 V hh L cx hd => c.2 N S o a1 a3 V hh L cx (by omega)⟩
theorem cw0 {s : Nat} (hs : s < 256) : nI s &&& nI 255 = nI s ∧ nI s >>> (nI 8 &&& nI 31) = nI 0 := by
  have h1 := cw_lo (s := s) (w := 0) hs (by omega)
  have h2 := cw_hi (s := s) (w := 0) hs (by omega)
  rw [Nat.mul_zero, Nat.add_zero] at h1 h2
  exact ⟨h1, h2⟩
theorem CE_op {C W : Nat → Int32} {Lw p q r d d1 d2 s : Nat} {v1 v2 : Option Int32} (hs : 3 ≤ s ∧ s ≤ 10) (c1 : CE C W Lw p q d1 v1) (c2 : CE C W Lw q r d2 v2) (hc : C r = nI s) (hd1 : d1 ≤ d) (hd2 : d2 + 1 ≤ d) (hd3 : 2 ≤ d) : CE C W Lw p (r + 1) d (v1.bind fun x => v2.bind fun y => opS s x y) := by
  have k1 := c1.1
  have k2 := c2.1
  refine ⟨by omega, fun N S o a1 a3 V h L cx hd => ?_⟩
  obtain ⟨A1, B1⟩ := c1.2 N S o a1 a3 V h L (CX_m cx (MSt_r o V 0) (Nat.le_refl p) (by omega) cx.2.2.2.2) (by omega)
  cases v1 with
  | none =>
    obtain ⟨V', m, g⟩ := B1 rfl
    refine ⟨fun x hx => (by simp at hx), fun _ => ⟨V', m, fun n gg hg => ?_⟩⟩
    rw [show n + (r + 1 - p) = n + (r + 1 - q) + (q - p) by omega]
    exact g (n + (r + 1 - q)) gg hg
  | some x =>
    obtain ⟨V1, m1, t1, x1, G1⟩ := A1 x rfl
    obtain ⟨A2, B2⟩ := c2.2 N S o a1 a3 V1 (h + 1) L (CX_m cx (MSt_0 m1) k1 (by omega) t1) (by omega)
    cases v2 with
    | none =>
      obtain ⟨V', m, g⟩ := B2 rfl
      refine ⟨fun x hx => (by simp at hx), fun _ => ⟨V', MSt_t m1 m (by omega), fun n gg hg => ?_⟩⟩
      obtain ⟨g', hg', e⟩ := G1 (n + 1 + (r - q)) gg hg
      rw [show n + (r + 1 - p) = n + 1 + (r - q) + (q - p) by omega, e]
      exact g (n + 1) g' hg'
    | some y =>
      obtain ⟨V2, m2, t2, x2, G2⟩ := A2 y rfl
      have m12 := MSt_t m1 m2 (by omega)
      have ex : V2.2.1 (o + 1) h = x := (m2.2.2.2 h (by omega)).trans x1
      obtain ⟨⟨b1, b2, b3, b4⟩, ⟨b5, b6, b7⟩, b8, b9, b10⟩ := cx
      have hc' : V2.2.1 a1 r = nI s := by rw [m12.2.1 a1 b1, b8 r (by omega) (by omega), hc]
      obtain ⟨l1, l2⟩ := cw0 (s := s) (by omega)
      have g1 : ¬ L ≤ r := by omega
      have n0 : ¬ s = 0 := by omega
      have n1 : ¬ s = 1 := by omega
      have n2 : ¬ s = 2 := by omega
      have n11 : ¬ s = 11 := by omega
      have n12 : ¬ s = 12 := by omega
      have n13 : ¬ s = 13 := by omega
      have q0 : ¬ h + 1 + 1 = 0 := by omega
      have eL : ∀ k, Nat.toInt32 k = nI k := fun _ => rfl
      have cb := x_comb (N := N) S V2 o h t2 (by omega) s hs x y ex x2
      have step : ∀ n g, g ≤ r → f_X4_worthAt_19 N S o a1 a3 (n + 1) V2 (nI g) (nI r) = (opS s x y).elim (some (MNV, V2)) (fun z => f_X4_worthAt_19 N S o a1 a3 n (sA (sF V2 o 1 (nI (h + 1))) (o + 1) h z) (nI g) (nI (r + 1))) := by
        intro n g hg
        rw [f_X4_worthAt_19]
        simp (disch := omega) only [b3, eL, g1, hg, hc', l1, l2, n0, n1, n2, n11, n12, n13, t2, q0, cb, ↓pl_bd, pl_ob, pl_ob1, pl_obv, pl_oa, pl_oav, pl_cg, pl_cb0, pl_cb1, pl_nl0, pl_nls, li, nI_cl, pl_ck, nI_E, nI_L, nI_T, nI_add, pk_mul, Nat.zero_add, Nat.add_zero, Nat.reduceAdd, Nat.reduceMul, Nat.reduceSub, Nat.reduceEqDiff, Nat.reduceLeDiff, Nat.reduceLT, ↓reduceIte]
        cases opS s x y with
        | none => rfl
        | some z => simp (disch := omega) only [Option.elim, f_X4_worthAt_243, ↓pl_bd, pl_ob, pl_ob1, pl_obv, pl_oa, pl_oav, pl_cg, pl_cb0, pl_cb1, pl_nl0, pl_nls, li, nI_cl, pl_ck, nI_E, nI_L, nI_T, nI_add, pk_mul, Nat.zero_add, Nat.add_zero, Nat.reduceAdd, Nat.reduceMul, Nat.reduceSub, Nat.reduceEqDiff, Nat.reduceLeDiff, Nat.reduceLT, ↓reduceIte]
      have all : ∀ n g, g ≤ p → ∃ g', g' ≤ r + 1 ∧ f_X4_worthAt_19 N S o a1 a3 (n + (r + 1 - p)) V (nI g) (nI p) = (opS s x y).elim (some (MNV, V2)) (fun z => f_X4_worthAt_19 N S o a1 a3 n (sA (sF V2 o 1 (nI (h + 1))) (o + 1) h z) (nI g') (nI (r + 1))) := by
        intro n g hg
        obtain ⟨g1, hg1, e1⟩ := G1 (n + 1 + (r - q)) g hg
        obtain ⟨g2, hg2, e2⟩ := G2 (n + 1) g1 hg1
        refine ⟨g2, by omega, ?_⟩
        rw [show n + (r + 1 - p) = n + 1 + (r - q) + (q - p) by omega, e1, e2, step n g2 hg2]
      refine ⟨fun z hz => ?_, fun hz => ?_⟩
      · have hz' : opS s x y = some z := hz
        rw [hz'] at all
        exact ⟨sA (sF V2 o 1 (nI (h + 1))) (o + 1) h z, MSt_A (MSt_F m12 _) h (Nat.le_refl h) _, by rw [sA_1, sF_e, upd_e], by rw [sA_e, upd_e], all⟩
      · have hz' : opS s x y = none := hz
        rw [hz'] at all
        refine ⟨V2, m12, fun n g hg => ?_⟩
        obtain ⟨g', -, e⟩ := all n g hg
        exact e
def bI (b : Bool) : Int32 := if b then nI 1 else nI 0
theorem CE_not {C W : Nat → Int32} {Lw p q d : Nat} {v : Option Bool} (hd1 : 1 ≤ d) (c : CE C W Lw p q d (v.map bI)) (hc : C q = nI 11) : CE C W Lw p (q + 1) d ((v.map (fun b => !b)).map bI) := by
  have k1 := c.1
  refine ⟨by omega, fun N S o a1 a3 V h L cx hd => ?_⟩
  obtain ⟨A1, B1⟩ := c.2 N S o a1 a3 V h L (CX_m cx (MSt_r o V 0) (Nat.le_refl p) (by omega) cx.2.2.2.2) (by omega)
  cases v with
  | none =>
    obtain ⟨V', m, g⟩ := B1 rfl
    refine ⟨fun x hx => (by simp at hx), fun _ => ⟨V', m, fun n gg hg => ?_⟩⟩
    rw [show n + (q + 1 - p) = n + 1 + (q - p) by omega]
    exact g (n + 1) gg hg
  | some b =>
    obtain ⟨V1, m1, t1, x1, G1⟩ := A1 _ rfl
    refine ⟨fun x hx => ?_, fun hx => by cases hx⟩
    cases hx
    obtain ⟨⟨b1, b2, b3, b4⟩, ⟨b5, b6, b7⟩, b8, b9, b10⟩ := cx
    have hc' : V1.2.1 a1 q = nI 11 := by rw [m1.2.1 a1 b1, b8 q (by omega) (by omega), hc]
    obtain ⟨l1, l2⟩ := cw0 (s := 11) (by omega)
    have g1 : ¬ L ≤ q := by omega
    have q0 : ¬ h + 1 = 0 := by omega
    have hh : h < 40 := by omega
    have s1 : nI (h + 1) - nI 1 = nI h := pk_sub (by omega)
    have eL : ∀ k, Nat.toInt32 k = nI k := fun _ => rfl
    have nb : nI 1 - bI b = bI (!b) := by cases b <;> rfl
    refine ⟨sA V1 (o + 1) h (bI (!b)), MSt_A m1 h (Nat.le_refl h) _, t1, by rw [sA_e, upd_e], fun n g hg => ?_⟩
    obtain ⟨g1', hg1, e1⟩ := G1 (n + 1) g hg
    refine ⟨g1', by omega, ?_⟩
    rw [show n + (q + 1 - p) = n + 1 + (q - p) by omega, e1, f_X4_worthAt_19]
    simp (disch := omega) only [b3, eL, g1, hg1, hc', l1, l2, t1, q0, s1, x1, nb, f_X4_worthAt_243, ↓pl_bd, pl_ob, pl_ob1, pl_obv, pl_oa, pl_oav, pl_cg, pl_cb0, pl_cb1, pl_nl0, pl_nls, li, nI_cl, pl_ck, nI_E, nI_L, nI_T, nI_add, pk_mul, Nat.zero_add, Nat.add_zero, Nat.reduceAdd, Nat.reduceMul, Nat.reduceSub, Nat.reduceEqDiff, Nat.reduceLeDiff, Nat.reduceLT, ↓reduceIte]
/-- what is gone over -/
theorem x_skip {N : Nat} (S : St) (o a1 a3 : Nat) (V : Vt) (L r : Nat) (hL : S.2.2.1 a1 = L) (hr : r ≤ L) (hL2 : L < 20000) : ∀ k i n, i + k = r → f_X4_worthAt_19 N S o a1 a3 (n + k) V (nI r) (nI i) = f_X4_worthAt_19 N S o a1 a3 n V (nI r) (nI r) := by
  intro k
  induction k with
  | zero => intro i n e; rw [show i = r by omega]; rfl
  | succ k ih =>
    intro i n e
    have eL : ∀ k, Nat.toInt32 k = nI k := fun _ => rfl
    have g1 : ¬ L ≤ i := by omega
    have g2 : ¬ r ≤ i := by omega
    rw [← ih (i + 1) n (by omega), show n + (k + 1) = n + k + 1 by omega, f_X4_worthAt_19]
    simp (disch := omega) only [hL, eL, g1, g2, f_X4_worthAt_243, ↓pl_bd, pl_ob, pl_ob1, pl_obv, pl_oa, pl_oav, pl_cg, pl_cb0, pl_cb1, pl_nl0, pl_nls, li, nI_cl, pl_ck, nI_E, nI_L, nI_T, nI_add, pk_mul, Nat.zero_add, Nat.add_zero, Nat.reduceAdd, Nat.reduceMul, Nat.reduceSub, Nat.reduceEqDiff, Nat.reduceLeDiff, Nat.reduceLT, ↓reduceIte]
theorem CE_jump {C W : Nat → Int32} {Lw p q r d s : Nat} {v1 v2 : Option Bool} {z : Bool} (hd1 : 1 ≤ d) (hs : (s = 12 ∧ z = false) ∨ (s = 13 ∧ z = true)) (hr : r < 8000000) (c1 : CE C W Lw p q d (v1.map bI)) (c2 : CE C W Lw (q + 1) r d (v2.map bI)) (hc : C q = nI (s + 256 * r)) : CE C W Lw p r d ((v1.bind fun a => if a = z then some z else v2).map bI) := by
  have k1 := c1.1
  have k2 := c2.1
  refine ⟨by omega, fun N S o a1 a3 V h L cx hd => ?_⟩
  obtain ⟨A1, B1⟩ := c1.2 N S o a1 a3 V h L (CX_m cx (MSt_r o V 0) (Nat.le_refl p) (by omega) cx.2.2.2.2) (by omega)
  cases v1 with
  | none =>
    obtain ⟨V', m, g⟩ := B1 rfl
    refine ⟨fun x hx => (by simp at hx), fun _ => ⟨V', m, fun n gg hg => ?_⟩⟩
    rw [show n + (r - p) = n + (r - q) + (q - p) by omega]
    exact g (n + (r - q)) gg hg
  | some b =>
    obtain ⟨V1, m1, t1, x1, G1⟩ := A1 _ rfl
    have cx0 := cx
    obtain ⟨⟨b1, b2, b3, b4⟩, ⟨b5, b6, b7⟩, b8, b9, b10⟩ := cx
    have hc' : V1.2.1 a1 q = nI (s + 256 * r) := by rw [m1.2.1 a1 b1, b8 q (by omega) (by omega), hc]
    have l1 := cw_lo (s := s) (w := r) (by omega) hr
    have l2 := cw_hi (s := s) (w := r) (by omega) hr
    have g1 : ¬ L ≤ q := by omega
    have q0 : ¬ h + 1 = 0 := by omega
    have s1 : nI (h + 1) - nI 1 = nI h := pk_sub (by omega)
    have eL : ∀ k, Nat.toInt32 k = nI k := fun _ => rfl
    have n0 : ¬ s = 0 := by omega
    have n1 : ¬ s = 1 := by omega
    have n2 : ¬ s = 2 := by omega
    have n11 : ¬ s = 11 := by omega
    have step : ∀ n g, g ≤ q → f_X4_worthAt_19 N S o a1 a3 (n + 1) V1 (nI g) (nI q) = if b = z then f_X4_worthAt_19 N S o a1 a3 n V1 (nI r) (nI (q + 1)) else f_X4_worthAt_19 N S o a1 a3 n (sF V1 o 1 (nI h)) (nI g) (nI (q + 1)) := by
      intro n g hg
      rw [f_X4_worthAt_19]
      rcases hs with ⟨rfl, rfl⟩ | ⟨rfl, rfl⟩
      · simp (disch := omega) only [b3, eL, g1, hg, hc', l1, l2, t1, q0, s1, x1, f_X4_worthAt_185, f_X4_worthAt_208, f_X4_worthAt_243, ↓pl_bd, pl_ob, pl_ob1, pl_obv, pl_oa, pl_oav, pl_cg, pl_cb0, pl_cb1, pl_nl0, pl_nls, li, nI_cl, pl_ck, nI_E, nI_L, nI_T, nI_add, pk_mul, Nat.zero_add, Nat.add_zero, Nat.reduceAdd, Nat.reduceMul, Nat.reduceSub, Nat.reduceEqDiff, Nat.reduceLeDiff, Nat.reduceLT, ↓reduceIte]
        cases b <;> rfl
      · simp (disch := omega) only [b3, eL, g1, hg, hc', l1, l2, t1, q0, s1, x1, f_X4_worthAt_185, f_X4_worthAt_208, f_X4_worthAt_243, ↓pl_bd, pl_ob, pl_ob1, pl_obv, pl_oa, pl_oav, pl_cg, pl_cb0, pl_cb1, pl_nl0, pl_nls, li, nI_cl, pl_ck, nI_E, nI_L, nI_T, nI_add, pk_mul, Nat.zero_add, Nat.add_zero, Nat.reduceAdd, Nat.reduceMul, Nat.reduceSub, Nat.reduceEqDiff, Nat.reduceLeDiff, Nat.reduceLT, ↓reduceIte]
        cases b <;> rfl
    by_cases hb : b = z
    · subst hb
      refine ⟨fun x hx => ?_, fun hx => ?_⟩
      · simp only [Option.bind_some, ↓reduceIte, Option.map_some, Option.some.injEq] at hx
        subst hx
        refine ⟨V1, m1, t1, x1, fun n g hg => ⟨r, Nat.le_refl r, ?_⟩⟩
        obtain ⟨g', hg', e1⟩ := G1 (n + (r - (q + 1)) + 1) g hg
        rw [show n + (r - p) = n + (r - (q + 1)) + 1 + (q - p) by omega, e1, step _ g' hg', if_pos rfl]
        exact x_skip S o a1 a3 V1 L r b3 (by omega) b6 _ _ _ (by omega)
      · simp only [Option.bind_some, ↓reduceIte, Option.map_some, reduceCtorEq] at hx
    · have m1' : MSt o V (sF V1 o 1 (nI h)) h := MSt_F m1 _
      obtain ⟨A2, B2⟩ := c2.2 N S o a1 a3 (sF V1 o 1 (nI h)) h L (CX_m cx0 (MSt_0 m1') (by omega) (Nat.le_refl r) (by rw [sF_e, upd_e])) hd
      refine ⟨fun x hx => ?_, fun hx => ?_⟩
      · simp only [Option.bind_some, if_neg hb] at hx
        obtain ⟨V2, m2, t2, x2, G2⟩ := A2 x hx
        refine ⟨V2, MSt_t m1' m2 (Nat.le_refl h), t2, x2, fun n g hg => ?_⟩
        obtain ⟨g', hg', e1⟩ := G1 (n + (r - (q + 1)) + 1) g hg
        obtain ⟨g2, hg2, e2⟩ := G2 n g' (by omega)
        refine ⟨g2, hg2, ?_⟩
        rw [show n + (r - p) = n + (r - (q + 1)) + 1 + (q - p) by omega, e1, step _ g' hg', if_neg hb, e2]
      · simp only [Option.bind_some, if_neg hb] at hx
        obtain ⟨V2, m2, G2⟩ := B2 hx
        refine ⟨V2, MSt_t m1' m2 (Nat.le_refl h), fun n g hg => ?_⟩
        obtain ⟨g', hg', e1⟩ := G1 (n + (r - (q + 1)) + 1) g hg
        rw [show n + (r - p) = n + (r - (q + 1)) + 1 + (q - p) by omega, e1, step _ g' hg', if_neg hb]
        exact G2 n g' (by omega)
/-- a whole piece of code with its end -/
theorem CE_end {C W : Nat → Int32} {Lw p q d : Nat} {v : Option Int32} (c : CE C W Lw p q d v) (hd : d ≤ 40) (hc : C q = nI 0) (N : Nat) (hN : 20000 ≤ N) (S : St) (o a1 a3 : Nat) (V : Vt) (L : Nat) (h1 : a1 ≠ o + 1) (h2 : a3 ≠ o + 1) (h3 : S.2.2.1 a1 = L) (h4 : S.2.2.1 a3 = Lw) (hq : q < L) (hL : L < 20000) (hLw : Lw < 20000) (hC : ∀ i, i < L → V.2.1 a1 i = C i) (hW : ∀ i, i < Lw → V.2.1 a3 i = W i) (wo : Int32) : ∃ V', MSt o V V' 0 ∧ f_X4_worthAt N S V o a1 (nI p) a3 wo = some (v.getD MNV, V') := by
  have k1 := c.1
  have m0 : MSt o V (sF V o 1 (nI 0)) 0 := MSt_F (MSt_r o V 0) _
  have cx : CX S o a1 a3 (sF V o 1 (nI 0)) 0 C W L Lw p q := ⟨⟨h1, h2, h3, h4⟩, ⟨by omega, hL, hLw⟩, fun i _ hi => hC i (by omega), fun i hi => hW i hi, by rw [sF_e, upd_e]⟩
  obtain ⟨A, B⟩ := c.2 N S o a1 a3 _ 0 L cx (by omega)
  have np : ¬ nI p = (-1 : Int32) := fun q => by have := congrArg Int32.toInt q; rw [nI_tz (by omega)] at this; have e : (-1 : Int32).toInt = -1 := rfl; omega
  unfold f_X4_worthAt
  rw [if_neg np, pl_bd, show (0 : Int32) = nI 0 from rfl]
  cases v with
  | none =>
    obtain ⟨V', m, g⟩ := B rfl
    refine ⟨V', MSt_t m0 m (Nat.le_refl 0), ?_⟩
    have := g (N - (q - p)) p (Nat.le_refl p)
    rw [show N - (q - p) + (q - p) = N by omega] at this
    exact this
  | some x =>
    obtain ⟨V1, m1, t1, x1, G⟩ := A x rfl
    refine ⟨V1, MSt_t m0 m1 (Nat.le_refl 0), ?_⟩
    obtain ⟨g', hg', e⟩ := G (N - (q - p)) p (Nat.le_refl p)
    rw [show N - (q - p) + (q - p) = N by omega] at e
    obtain ⟨k, hk⟩ : ∃ k, N - (q - p) = k + 1 := ⟨N - (q - p) - 1, by omega⟩
    have hc' : V1.2.1 a1 q = nI 0 := by rw [m1.2.1 a1 h1, sF_2, hC q hq, hc]
    obtain ⟨l1, l2⟩ := cw0 (s := 0) (by omega)
    have g1 : ¬ L ≤ q := by omega
    have eL : ∀ k, Nat.toInt32 k = nI k := fun _ => rfl
    have t1' : V1.1 o 1 = nI 1 := t1
    have s1 : nI 1 - nI 1 = nI 0 := rfl
    rw [e, hk, f_X4_worthAt_19]
    simp (disch := omega) only [h3, eL, g1, hg', hc', l1, l2, t1', s1, x1, ↓pl_bd, pl_ob, pl_ob1, pl_obv, pl_oa, pl_oav, pl_cg, pl_cb0, pl_cb1, pl_nl0, pl_nls, li, nI_cl, pl_ck, nI_E, nI_L, nI_T, nI_add, pk_mul, Nat.zero_add, Nat.add_zero, Nat.reduceAdd, Nat.reduceMul, Nat.reduceSub, Nat.reduceEqDiff, Nat.reduceLeDiff, Nat.reduceLT, ↓reduceIte]
    rfl
end
