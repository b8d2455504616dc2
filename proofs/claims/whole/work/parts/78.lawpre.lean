section
/-! a law -/
theorem ME_T {mode lev : Nat} {T U T' U' : Nat → Int32} {n : Nat} {W : Nat → Int32} {t u D : Nat} {v : Option Int32} (h : ∀ i, i < n → T' i = T i ∧ U' i = U i) (c : ME mode lev T U n W t u D v) : ME mode lev T' U' n W t u D v :=
  ⟨c.1, fun N M base d hN X hd l b hl => c.2 N M base d hN ⟨X.1, fun j hj => (X.2.1 j hj).trans (h j hj).1, fun j hj => (X.2.2.1 j hj).trans (h j hj).2, X.2.2.2⟩ hd l b hl⟩
theorem MT_T {mode lev : Nat} {T U T' U' : Nat → Int32} {n : Nat} {W : Nat → Int32} {t u D : Nat} {v : Option Bool} (h : ∀ i, i < n → T' i = T i ∧ U' i = U i) (c : MT mode lev T U n W t u D v) : MT mode lev T' U' n W t u D v :=
  ⟨c.1, fun N M base d hN X hd l b hl => c.2 N M base d hN ⟨X.1, fun j hj => (X.2.1 j hj).trans (h j hj).1, fun j hj => (X.2.2.1 j hj).trans (h j hj).2, X.2.2.2⟩ hd l b hl⟩
theorem ctk_T {T T' : Nat → Int32} {n : Nat} (h : ∀ i, i < n → T' i = T i) (e : Nat) : ctk T' n e = ctk T n e := by
  unfold ctk
  by_cases c : e < n
  · rw [if_pos c, if_pos c, h e c]
  · rw [if_neg c, if_neg c]
theorem PS_T {mode : Nat} {C T U T' U' : Nat → Int32} {Lc n t u : Nat} {pl : Int32} (h : ∀ i, i < n → T' i = T i ∧ U' i = U i) (p : PS mode C Lc pl T U n t u) : PS mode C Lc pl T' U' n t u := by
  obtain ⟨a, b, h1, h2, h3⟩ := p
  refine ⟨a, b, h1, fun W hW => ?_, h3⟩
  obtain ⟨v, c1, c2, c3⟩ := h2 W hW
  exact ⟨v, c1, ME_T h c2, c3⟩
theorem PT_T {mode : Nat} {C T U T' U' : Nat → Int32} {Lc n t u : Nat} {pl : Int32} (h : ∀ i, i < n → T' i = T i ∧ U' i = U i) (p : PT mode C Lc pl T U n t u) : PT mode C Lc pl T' U' n t u := by
  rcases p with ⟨a1, a2, a3⟩ | ⟨a1, a2, a, b, h1, h2, h3⟩
  · exact Or.inl ⟨a1, by rw [ctk_T (fun i hi => (h i hi).1)]; exact a2, a3⟩
  · refine Or.inr ⟨a1, by rw [(h t a1).1]; exact a2, a, b, h1, fun W hW => ?_, h3⟩
    obtain ⟨v, c1, c2⟩ := h2 W hW
    exact ⟨v, c1, MT_T h c2⟩
theorem LC_T {C cl T U T' U' : Nat → Int32} {Lc n c t u : Nat} (h : ∀ i, i < n → T' i = T i ∧ U' i = U i) (o : LC C Lc cl T U n c t u) : LC C Lc cl T' U' n c t u := by
  obtain ⟨a1, kd, e, a2, a3, a4, a5, a6⟩ := o
  refine ⟨a1, kd, e, a2, by rw [(h t a1.1).1]; exact a3, a4, ?_, PT_T h a6⟩
  rcases a5 with ⟨b1, b2⟩ | b
  · exact Or.inl ⟨b1, PS_T h b2⟩
  · exact Or.inr b
/-- texts and images where cells were added -/
theorem tsh_lt {S : St} {q : Nat} (h : tshB S q = true) : q + 2 < S.1 := (tsh_of h).1.1
theorem tsh_old {S S' : St} {q : Nat} (o : Old S S') (h : tshB S q = true) : tshB S' q = true := by
  obtain ⟨⟨a1, a2⟩, ⟨a3, a4⟩, a5, a6⟩ := tsh_of h
  have o0 := o.2 q (by omega)
  have o1 := o.2 (q + 1) (by omega)
  have o2 := o.2 (q + 2) (by omega)
  have := o.1
  unfold tshB
  simp only [Bool.and_eq_true, beq_iff_eq]
  exact ⟨⟨Nat.ble_eq_true_of_le (by omega), o0.1.trans a2⟩, ⟨by rw [o0.2.2]; exact a3, by rw [o0.2.2]; exact a4⟩, o1.1.trans a5, o2.1.trans a6⟩
theorem TH_old {S S' : St} {im : Nat → Nat} {q : Nat} (o : Old S S') (h : TH S im q) : TH S' im q := ⟨h.1, tsh_old o h.2.1, h.2.2⟩
theorem TX_old {X : TxP} {S S' : St} {V V' : Vt} {q i : Nat} {K K' : Nat → Int32} (o : Old S S') (ov : RdX S.1 V V') (h64 : 64 ≤ q) (ht : tshB S q = true) (h4 : K' (108 + i) = K (108 + i)) (h5 : ∀ k, k < 400 → K' (115 + 400 * i + k) = K (115 + 400 * i + k)) (h6 : ∀ k, k < 400 → K' (2915 + 400 * i + k) = K (2915 + 400 * i + k)) (b : TX X S V q K i) : TX X S' V' q K' i := by
  have hl := tsh_lt ht
  unfold TX
  rw [(ov q (by omega) (by omega)).1, (ov (q + 1) (by omega) (by omega)).2.1, (ov (q + 2) (by omega) (by omega)).2.1, (o.2 (q + 1) (by omega)).2.1, (o.2 (q + 2) (by omega)).2.1, h4, tk_c h5, tk_c h6]
  exact b
theorem BkL_old {X : TxP} {S S' : St} {V V' : Vt} {im : Nat → Nat} {f f' : Nat → Int32} {la : Nat → Nat} {K : Nat → Int32} (o : Old S S') (ov : RdX S.1 V V') (hf : f' 10 = f 10) (hg : f' 11 = f 11) (b : BkL X S V im f la K) : BkL X S' V' im f' la K := by
  obtain ⟨e1, e2, n, hn, e3, e4, e5, e6⟩ := b
  refine ⟨hf.trans e1, hg.trans e2, n, hn, e3, e4, fun i hi => ?_, fun i hi => ?_⟩
  · rcases e5 i hi with h | ⟨q, h, ht⟩
    · exact Or.inl h
    · exact Or.inr ⟨q, h, TH_old o ht⟩
  · obtain ⟨q, hq, ht⟩ := e6 i hi
    have hq2 : TH S im q := by
      rcases e5 i (by omega) with h | ⟨q', h, ht⟩
      · rw [h] at hq; cases hq
      · rw [h] at hq; cases hq; exact ht
    exact ⟨q, hq, TX_old o ov hq2.1 hq2.2.1 rfl (fun _ _ => rfl) (fun _ _ => rfl) ht⟩
theorem shp_lt {S : St} {q : Nat} (h : shpB S q t0 = true) : q + 10 ≤ S.1 := (shp_of h 9 _ rfl).1
theorem IM_old {X : TxP} {S S' : St} {V V' : Vt} {im : Nat → Nat} {hi I : Nat → Int32} {k : Nat} (o : Old S S') (ov : RdX S.1 V V') (b : IM X S V im hi I k) : IM X S' V' im hi I k := by
  rcases b with h | ⟨q, e1, e2, h1, h2, h3, h4⟩
  · exact Or.inl h
  · have hl := shp_lt h2
    refine Or.inr ⟨q, e1, e2, h1, shpB_of (Old_shp o (shp_of h2)), ?_, ?_⟩
    · rw [(ov q (by omega) (by omega)).1, (ov (q + 1) (by omega) (by omega)).2.1, (ov (q + 2) (by omega) (by omega)).2.1, (ov (q + 3) (by omega) (by omega)).2.1, (ov (q + 4) (by omega) (by omega)).2.1, (ov (q + 5) (by omega) (by omega)).2.1, (ov (q + 6) (by omega) (by omega)).2.1, (ov (q + 8) (by omega) (by omega)).2.1, (ov (q + 9) (by omega) (by omega)).2.1]
      exact h3
    · rw [(ov q (by omega) (by omega)).1, (ov (q + 7) (by omega) (by omega)).2.2]
      exact BkL_old o ov rfl rfl h4
theorem Ims_old {X : TxP} {S S' : St} {V V' : Vt} {im : Nat → Nat} {hi I : Nat → Int32} (o : Old S S') (ov : RdX S.1 V V') (b : Ims X S V im hi I) : Ims X S' V' im hi I := ⟨IM_old o ov b.1, IM_old o ov b.2.1, b.2.2⟩
/-- how the reference lays a text -/
theorem m_laysT {N : Nat} (hN : 20000 ≤ N) (M : Vt) {n t : Nat} (hn : n ≤ 400) (ht : t ≤ 6) (h18 : M.1 0 18 = nI n) : ∃ f, f_X9_lays N M (nI t) = some (pA M 2 f) ∧ f (108 + t) = nI n ∧ (∀ j, j < n → f (115 + 400 * t + j) = M.2.1 9 j ∧ f (2915 + 400 * t + j) = M.2.1 10 j) ∧ ∀ j, j ≠ 108 + t → ¬ (115 + 400 * t ≤ j ∧ j < 115 + 400 * t + n) → ¬ (2915 + 400 * t ≤ j ∧ j < 2915 + 400 * t + n) → f j = M.2.1 2 j := by
  obtain ⟨g, ⟨g1, g2, g3⟩, m, em⟩ := lpN N (fun m (f : Nat → Int32) i => f_X9_lays_15 N m (pA M 2 f) (nI t) i) n (fun i f => f (108 + t) = nI n ∧ (∀ j, j < i → f (115 + 400 * t + j) = M.2.1 9 j ∧ f (2915 + 400 * t + j) = M.2.1 10 j) ∧ ∀ j, j ≠ 108 + t → ¬ (115 + 400 * t ≤ j ∧ j < 115 + 400 * t + n) → ¬ (2915 + 400 * t ≤ j ∧ j < 2915 + 400 * t + n) → f j = M.2.1 2 j) (by
    intro i f hi ⟨h1, h2, h3⟩
    refine ⟨upd (upd f (115 + 400 * t + i) (M.2.1 9 i)) (2915 + 400 * t + i) (M.2.1 10 i), ⟨by rw [upd_n _ _ _ _ (by omega), upd_n _ _ _ _ (by omega)]; exact h1, fun j hj => ?_, fun j q1 q2 q3 => by rw [upd_n _ _ _ _ (by omega), upd_n _ _ _ _ (by omega)]; exact h3 j q1 q2 q3⟩, fun m => ?_⟩
    · by_cases hji : j = i
      · subst hji
        exact ⟨by rw [upd_n _ _ _ _ (by omega), upd_e], upd_e _ _ _⟩
      · exact ⟨by rw [upd_n _ _ _ _ (by omega), upd_n _ _ _ _ (by omega)]; exact (h2 j (by omega)).1, by rw [upd_n _ _ _ _ (by omega), upd_n _ _ _ _ (by omega)]; exact (h2 j (by omega)).2⟩
    · have k9 : ∀ f, (pA M 2 f).2.1 9 = M.2.1 9 := fun f => pA_n _ _ _ _ (by omega)
      have k10 : ∀ f, (pA M 2 f).2.1 10 = M.2.1 10 := fun f => pA_n _ _ _ _ (by omega)
      have k18 : ∀ f, (pA M 2 f).1 0 18 = nI n := fun f => h18
      rw [f_X9_lays_15, k18, if_neg (by rw [nI_L (by omega) (by omega)]; omega), pl_ck (by omega) (by omega), lj 115, lj 400, pk_mul, nI_add, nI_add, pl_ck (by omega) (by omega), nI_cl (by omega), nI_cl (by omega), k9, sA_pAe, pl_bd, pl_ck (by omega) (by omega), lj 2915, nI_add, nI_add, pl_ck (by omega) (by omega), nI_cl (by omega), k10, sA_pAe, pl_bd, nI_1, pl_bd]) (upd (M.2.1 2) (108 + t) (nI n)) (by omega) ⟨upd_e _ _ _, fun j hj => absurd hj (Nat.not_lt_zero j), fun j q1 _ _ => upd_n _ _ _ _ q1⟩
  refine ⟨g, ?_, g1, g2, g3⟩
  unfold f_X9_lays
  have e0 : sA M 2 (108 + t) (nI n) = pA M 2 (upd (M.2.1 2) (108 + t) (nI n)) := sA_pA M _ _ _
  rw [lj 108, nI_add, pl_ck (by omega) (by omega), nI_cl (by omega), h18, e0, pl_bd]
  have em' : f_X9_lays_15 N N (pA M 2 (upd (M.2.1 2) (108 + t) (nI n))) (nI t) 0 = f_X9_lays_15 N (m + 1) (pA M 2 g) (nI t) (nI n) := em
  have k18 : (pA M 2 g).1 0 18 = nI n := h18
  rw [em', f_X9_lays_15, k18, if_pos (by rw [nI_L (by omega) (by omega)]; omega)]
end
