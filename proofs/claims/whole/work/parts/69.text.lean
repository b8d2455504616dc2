section
/-! a whole text: both -/
def CLs (mode : Nat) (C : Nat → Int32) (Lc : Nat) (cl T U : Nat → Int32) (n c t u : Nat) : Prop := (mode = 0 ∧ LC C Lc cl T U n c t u) ∨ (mode = 1 ∧ OC C Lc cl T U n c t u)
theorem CLs_c {mode : Nat} {C C' cl cl' T U : Nat → Int32} {Lc Lc' n c t u : Nat} (h : ∀ i, i < Lc → C' i = C i) (hl : Lc ≤ Lc') (hcl : ∀ i, i < 6 * c + 6 → cl' i = cl i) (o : CLs mode C Lc cl T U n c t u) : CLs mode C' Lc' cl' T U n c t u := by
  rcases o with ⟨hm, a1, kd, e, a2, a3, a4, a5, a6⟩ | ⟨hm, a1, kd, e, f, a2, a3, a4, a5, a6⟩
  · refine Or.inl ⟨hm, a1, kd, e, a2, a3, by rw [hcl _ (by omega)]; exact a4, ?_, by rw [hcl _ (by omega)]; exact PT_c h hl a6⟩
    rw [hcl _ (by omega)]
    rcases a5 with ⟨b1, b2⟩ | b
    · exact Or.inl ⟨b1, PS_c h hl b2⟩
    · exact Or.inr b
  · refine Or.inr ⟨hm, a1, kd, e, f, a2, by rw [hcl _ (by omega)]; exact a3, ?_, by rw [hcl _ (by omega)]; exact a5, by rw [hcl _ (by omega)]; exact PT_c h hl a6⟩
    unfold OSm
    rw [hcl (6 * c + 2) (by omega), hcl (6 * c + 3) (by omega), hcl (6 * c + 4) (by omega)]
    rcases a4 with ⟨a1, a2, a3, a, a4, a5, a6, a7⟩ | ⟨a1, a2, a, b, a3, a4, a5, a6, a7, a8, a9⟩ | ⟨a1, a2, a3, a4, a5⟩ | o
    · exact Or.inl ⟨a1, a2, a3, a, a4, PS_c h hl a5, a6, PS_c h hl a7⟩
    · exact Or.inr (Or.inl ⟨a1, a2, a, b, a3, a4, PS_c h hl a5, a6, PS_c h hl a7, a8, PS_c h hl a9⟩)
    · exact Or.inr (Or.inr (Or.inl ⟨a1, a2, a3, a4, PS_c h hl a5⟩))
    · exact Or.inr (Or.inr (Or.inr o))
def RTX (n mode : Nat) (V M : Vt) (tc tv P E : Nat → Nat) (fl : Int32) (N : Nat) (ad : Nat → Nat) (S : St) (a1 : Nat) (rc : Option (Nat × St × Vt)) (rm : Option (Int32 × Vt)) : Prop :=
  (∃ (pt sz : Nat) (C cl : Nat → Int32) (cnt : Nat) (st : Nat → Nat), (1 ≤ cnt ∧ cnt ≤ 12 ∧ sz ≤ 448 ∧ pt ≤ 50) ∧ rc = f_X5_readText_115 N ad S 37 a1 (fun _ _ => none) (rS (cS V cnt cl) (P n) (E n) pt sz fl C) 0 ∧ rm = some (nI 1, sF (qS M n pt NB) 0 14 NB) ∧ st 0 = 0 ∧ st cnt = n + 1 ∧ ∀ c, c < cnt → ∃ u, CLs mode C sz cl (fun i => nI (tc i)) (fun i => nI (tv i)) n c (st c) u ∧ st (c + 1) = u + 1) ∨
  (∃ (f s e pt sz : Nat) (C : Nat → Int32) (cnt : Nat) (cl : Nat → Int32) (t2 lv2 : Nat), f ≤ 400 ∧ rc = some (0, S, rS (cS V cnt cl) s e pt sz (nI f) C) ∧ rm = some (nI 0, sF (qS M t2 lv2 (nI f)) 0 14 (nI f)))
section P
variable {N : Nat} {S : St} {V M : Vt} {n mode : Nat} {tc tv P E : Nat → Nat}
theorem m_95 (M : Vt) (t lv : Nat) : f_X9_reads_95 N (qS M t lv NB) = some (nI 1, sF (qS M t lv NB) 0 14 NB) := by
  unfold f_X9_reads_95
  rw [qS_21, pl_bd]
  rfl
theorem m_95B (M : Vt) (t lv b : Nat) (hb : b < 2147483648) : f_X9_reads_95 N (qS M t lv (nI b)) = some (nI 0, sF (qS M t lv (nI b)) 0 14 (nI b)) := by
  unfold f_X9_reads_95 f_X9_fine
  rw [qS_21, pl_bd]
  have : (sF (qS M t lv (nI b)) 0 14 (nI b)).1 0 21 = nI b := by rw [sF_o _ _ _ _ _ _ (by omega)]; rfl
  rw [this, if_neg (nI_m1 hb), pl_ob1]; rfl
theorem m_34B (M : Vt) (m t lv b : Nat) (hb : b < 2147483648) (v : Int32) : f_X9_reads_34 N (m + 1) (qS M t lv (nI b)) v = some (nI 0, sF (qS M t lv (nI b)) 0 14 (nI b)) := by
  rw [f_X9_reads_34]
  unfold f_X9_sign
  rw [pl_ob1, q_takesB _ _ _ _ hb, pl_ob, if_pos (show nI 0 = 0 from rfl), q_fineB _ _ _ _ hb, pl_ob1, if_pos (show nI 0 = 0 from rfl), m_95B _ _ _ _ hb]
theorem p_text (HH : PEs N S V M n mode tc tv P E) {L : Nat} (hL : V.1 37 5 = nI L) (hL4 : L ≤ 400) (hPn : P n = L) (hPt : ∀ t, t < n → P t < L) (h18 : M.1 0 18 = nI n) (ad : Nat → Nat) (a1 : Nat) (fl : Int32) : ∀ k i t pt sz C cl (st : Nat → Nat), i + k = 12 → t ≤ n → pt ≤ 50 → sz ≤ t + 4 * i → st 0 = 0 → st i = t → (∀ c, c < i → ∃ u, CLs mode C sz cl (fun i => nI (tc i)) (fun i => nI (tv i)) n c (st c) u ∧ st (c + 1) = u + 1) → ∀ m m2, k < m → k + 2 < m2 → 1 ≤ k →
      RTX n mode V M tc tv P E fl N ad S a1 (f_X5_readText_82 N ad S 37 a1 m (rS (cS V i cl) (P t) (E t) pt sz fl C) (nI i)) (obv (f_X9_readOne N (qS M t pt NB)) (fun Z => f_X9_reads_34 N m2 Z (nI (i + 1)))) := by
  intro k
  induction k with
  | zero => intro i t pt sz C cl st _ _ _ _ _ _ _ m m2 _ _ h; omega
  | succ k ih =>
    intro i t pt sz C cl st hi ht hpt hsz st0 sti hcl m m2 hm hm2 _
    obtain ⟨m, rfl⟩ : ∃ m', m = m' + 1 := ⟨m - 1, by omega⟩
    obtain ⟨m2, rfl⟩ : ∃ m', m2 = m' + 1 := ⟨m2 - 1, by omega⟩
    have H := HH i cl
    have hn := H.1.1
    -- the clause, by mode
    have cla : RSC n V M P E i cl t sz fl C (if (V.1 37 4) = 0 then f_X5_readOrderClause N S (rS (cS V i cl) (P t) (E t) pt sz fl C) 37 else f_X5_readLawClause N S (rS (cS V i cl) (P t) (E t) pt sz fl C) 37) (f_X9_readOne N (qS M t pt NB)) (fun t' sz' C' cl' => CLs mode C' sz' cl' (fun i => nI (tc i)) (fun i => nI (tv i)) n i t t') := by
      have h4 : V.1 37 4 = nI (1 - mode) := H.2.1.1
      have h10 := H.2.2.1.2.2
      have idv : ∀ z : Option Vt, obv z (fun V => some V) = z := fun z => by cases z <;> rfl
      unfold f_X9_readOne
      rw [h4, qS_10, h10, idv, idv]
      rcases H.1.2.1 with rfl | rfl
      · rw [if_neg (show ¬ nI (1 - 0) = 0 by decide), if_pos (show nI 0 = 0 from rfl)]
        rcases p_law HH (by omega) cl fl C ht hpt hsz with ⟨t', pt', sz', C', cl', g, ex, em, g1, g2, g3⟩ | h
        · exact Or.inl ⟨t', pt', sz', C', cl', g, ex, em, g1, g2, Or.inl ⟨rfl, g3⟩⟩
        · exact Or.inr h
      · rw [if_pos (show nI (1 - 1) = 0 from rfl), if_neg (show ¬ nI 1 = 0 by decide)]
        rcases p_order HH (by omega) cl fl C ht hpt hsz with ⟨t', pt', sz', C', cl', g, ex, em, g1, g2, g3⟩ | h
        · exact Or.inl ⟨t', pt', sz', C', cl', g, ex, em, g1, g2, Or.inr ⟨rfl, g3⟩⟩
        · exact Or.inr h
    have xs : f_X5_readText_82 N ad S 37 a1 (m + 1) (rS (cS V i cl) (P t) (E t) pt sz fl C) (nI i) = ob (if (V.1 37 4) = 0 then f_X5_readOrderClause N S (rS (cS V i cl) (P t) (E t) pt sz fl C) 37 else f_X5_readLawClause N S (rS (cS V i cl) (P t) (E t) pt sz fl C) 37) (fun r72 V74 => if r72 = 0 then some (0, S, V74) else f_X5_readText_115 N ad S 37 a1 (f_X5_readText_82 N ad S 37 a1 m) V74 (nI i)) := by
      rw [f_X5_readText_82, if_neg (by rw [lj 12, nI_L (by omega) (by omega)]; omega)]
      show (if V.1 37 4 = 0 then _ else _) = _
      by_cases h : V.1 37 4 = 0
      · rw [if_pos h, if_pos h]
      · rw [if_neg h, if_neg h]
    rw [xs]
    rcases cla with ⟨t1, pt1, sz1, C1, cl1, ⟨g1, g2, g3, g4, g5⟩, ex, em, gC, gcl, gJ⟩ | ⟨f, s, e, pt1, sz1, C1, t2, lv2, cnt', cl1, f1, f2, ex, em⟩
    · rw [ex, em, pl_ob, pl_obv, if_neg (show ¬ nI 1 = 0 by decide)]
      have H1 := HH (i + 1) cl1
      have hp1 := (H1.2.2.2.1.2 t1 g2).2.2.1
      have c401 := (H1.2.2.2.1.2 t1 g2).1
      -- the clauses so far
      have hcl1 : ∀ c, c < i + 1 → ∃ u, CLs mode C1 sz1 cl1 (fun i => nI (tc i)) (fun i => nI (tv i)) n c ((fun c => if c = i + 1 then t1 + 1 else st c) c) u ∧ (fun c => if c = i + 1 then t1 + 1 else st c) (c + 1) = u + 1 := by
        intro c hc
        show ∃ u, CLs mode C1 sz1 cl1 _ _ n c (if c = i + 1 then t1 + 1 else st c) u ∧ (if c + 1 = i + 1 then t1 + 1 else st (c + 1)) = u + 1
        rw [if_neg (by omega)]
        by_cases hci : c = i
        · subst hci
          rw [sti, if_pos rfl]
          exact ⟨t1, gJ, rfl⟩
        · obtain ⟨u, h1, h2⟩ := hcl c (by omega)
          exact ⟨u, CLs_c gC g4 (fun j hj => gcl j (by omega)) h1, by rw [if_neg (by omega)]; exact h2⟩
      have sg : f_X9_sign N 59 = some (nI 159) := rfl
      have ms : f_X9_reads_34 N (m2 + 1) (qS M t1 pt1 NB) (nI (i + 1)) = if tc t1 = 159 then (if nI (i + 1) = (12 : Int32) then obv (f_X9_faults N (qS M (t1 + 1) pt1 NB)) (fun V70 => f_X9_reads_56 N (f_X9_reads_34 N m2) V70 (nI (i + 1))) else f_X9_reads_56 N (f_X9_reads_34 N m2) (qS M (t1 + 1) pt1 NB) (nI (i + 1))) else if n ≤ t1 then some (nI 1, sF (qS M t1 pt1 NB) 0 14 NB) else some (nI 0, sF (qS M t1 pt1 (nI (P t1))) 0 14 (nI (P t1))) := by
        rw [f_X9_reads_34, sg, pl_ob1, q_takes H1 g2 _ 159 (by omega)]
        by_cases h9 : tc t1 = 159
        · rw [if_pos h9, if_pos h9, pl_ob, if_neg (show ¬ nI 1 = 0 by decide)]
        · rw [if_neg h9, if_neg h9, pl_ob, if_pos (show nI 0 = 0 from rfl), q_fine, pl_ob1, if_neg (by decide), qS_18, qS_19, h18]
          by_cases h1 : n ≤ t1
          · rw [if_pos (by rw [nI_L (by omega) (by omega)]; exact h1), if_pos h1, m_95]
          · rw [if_neg (by rw [nI_L (by omega) (by omega)]; exact h1), if_neg h1, q_faults H1 g2, pl_obv, m_95B _ _ _ _ (by omega)]
      rw [ms]
      by_cases hend : t1 = n
      · subst hend
        rw [if_neg (by rw [H1.2.2.2.1.1]; omega), if_pos (Nat.le_refl _)]
        refine Or.inl ⟨pt1, sz1, C1, cl1, i + 1, fun c => if c = i + 1 then t1 + 1 else st c, ⟨by omega, by omega, by omega, g3⟩, ?_, rfl, by show (if 0 = i + 1 then t1 + 1 else st 0) = 0; rw [if_neg (by omega)]; exact st0, by show (if i + 1 = i + 1 then t1 + 1 else st (i + 1)) = t1 + 1; rw [if_pos rfl], hcl1⟩
        unfold f_X5_readText_115
        have q : (rS (cS V (i + 1) cl1) (P t1) (E t1) pt1 sz1 fl C1).1 37 6 = (rS (cS V (i + 1) cl1) (P t1) (E t1) pt1 sz1 fl C1).1 37 5 := by rw [rS_6, rS_5]; show nI (P t1) = V.1 37 5; rw [hL, hPn]
        rw [if_pos q, if_pos q]
      · have ht1 : t1 < n := by omega
        have hlt := hPt t1 ht1
        have q : ¬ (rS (cS V (i + 1) cl1) (P t1) (E t1) pt1 sz1 fl C1).1 37 6 = (rS (cS V (i + 1) cl1) (P t1) (E t1) pt1 sz1 fl C1).1 37 5 := by
          rw [rS_6, rS_5]; show ¬ nI (P t1) = V.1 37 5; rw [hL, nI_E (by omega) (by omega)]; omega
        unfold f_X5_readText_115
        rw [if_neg q, x_sign H1 g2 _ _ _ _ 19 159 (by omega) (fun x => rfl) (by omega)]
        by_cases h9 : tc t1 = 159
        · rw [if_pos h9, if_pos h9, pl_ob, if_neg (show ¬ nI 1 = 0 by decide), nI_1, pl_bd]
          have hp2 := (H1.2.2.2.1.2 (t1 + 1) ht1).2.2.1
          by_cases hk : k = 0
          · subst hk
            have e12 : i + 1 = 12 := by omega
            obtain ⟨m, rfl⟩ : ∃ m', m = m' + 1 := ⟨m - 1, by omega⟩
            obtain ⟨m2, rfl⟩ : ∃ m', m2 = m' + 1 := ⟨m2 - 1, by omega⟩
            rw [if_pos (by rw [e12]; rfl), q_faults H1 (show t1 + 1 ≤ n from ht1), pl_obv]
            unfold f_X9_reads_56 f_X9_reads_67
            rw [q_fineB _ _ _ _ (by omega), pl_ob1, if_pos (show nI 0 = 0 from rfl), nI_1, pl_bd, m_34B _ _ _ _ _ (by omega), f_X5_readText_82, if_pos (by rw [e12]; decide), r_fails, pl_ob]
            exact Or.inr ⟨P (t1 + 1), P (t1 + 1), E (t1 + 1), pt1, sz1, C1, i + 1, cl1, t1 + 1, pt1, hp2, rfl, rfl⟩
          · rw [if_neg (by rw [lj 12, nI_E (by omega) (by omega)]; omega)]
            unfold f_X9_reads_56 f_X9_reads_67
            rw [q_fine, pl_ob1, if_neg (show ¬ nI 1 = 0 by decide)]
            have := ih (i + 1) (t1 + 1) pt1 sz1 C1 cl1 (fun c => if c = i + 1 then t1 + 1 else st c) (by omega) ht1 g3 (by omega) (by show (if 0 = i + 1 then t1 + 1 else st 0) = 0; rw [if_neg (by omega)]; exact st0) (by show (if i + 1 = i + 1 then t1 + 1 else st (i + 1)) = t1 + 1; rw [if_pos rfl]) hcl1 m m2 (by omega) (by omega) (by omega)
            simp only [nI_1, pl_bd]
            exact this
        · rw [if_neg h9, if_neg h9, pl_ob, if_pos (show nI 0 = 0 from rfl), if_neg (by omega)]
          exact Or.inr ⟨P t1, P t1, E t1, pt1, sz1, C1, i + 1, cl1, t1, pt1, hp1, rfl, rfl⟩
    · rw [ex, em, pl_ob, pl_obv, if_pos (show nI 0 = 0 from rfl), m_34B _ _ _ _ _ (by omega)]
      exact Or.inr ⟨f, s, e, pt1, sz1, C1, cnt', cl1, t2, lv2, f1, rfl, rfl⟩
end P
end
