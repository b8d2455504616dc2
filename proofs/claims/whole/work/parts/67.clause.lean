section
/-! clauses: both -/
def RSC (n : Nat) (V M : Vt) (P E : Nat → Nat) (cnt : Nat) (cl : Nat → Int32) (t sz : Nat) (fl : Int32) (C : Nat → Int32) (rc : Option (Int32 × Vt)) (rm : Option Vt) (G : Nat → Nat → (Nat → Int32) → (Nat → Int32) → Prop) : Prop :=
  (∃ t' pt' sz' C' cl', (t < t' ∧ t' ≤ n ∧ pt' ≤ 50 ∧ sz ≤ sz' ∧ sz' + t ≤ sz + t' + 4) ∧ rc = some (nI 1, rS (cS V (cnt + 1) cl') (P t') (E t') pt' sz' fl C') ∧ rm = some (qS M t' pt' NB) ∧ (∀ i, i < sz → C' i = C i) ∧ (∀ i, i < 6 * cnt → cl' i = cl i) ∧ G t' sz' C' cl') ∨
  (∃ f s e pt' sz' C' t2 lv2 cnt' cl', f ≤ 400 ∧ sz' ≤ 448 ∧ rc = some (nI 0, rS (cS V cnt' cl') s e pt' sz' (nI f) C') ∧ rm = some (qS M t2 lv2 (nI f)))
section P
variable {N : Nat} {S : St} {V M : Vt} {n mode : Nat} {tc tv P E : Nat → Nat}
theorem wr_0 (c : Nat) : wr 0 c = if 1 = c then nI 0 else if 2 = c then nI 1 else if 3 = c then nI 2 else if 4 = c then nI 3 else -1 := rfl
theorem m_c37 (Z : Vt) : f_X9_readClause_37 N Z = mIf N Z := rfl
theorem p_law (HH : PEs N S V M n 0 tc tv P E) {cnt : Nat} (hc : cnt < 12) (cl : Nat → Int32) {t pt sz : Nat} (fl : Int32) (C : Nat → Int32) (ht : t ≤ n) (hpt : pt ≤ 50) (hsz : sz ≤ t + 4 * cnt) :
    RSC n V M P E cnt cl t sz fl C (f_X5_readLawClause N S (rS (cS V cnt cl) (P t) (E t) pt sz fl C) 37) (f_X9_readClause N (qS M t pt NB)) (fun t' sz' C' cl' => LC C' sz' cl' (fun i => nI (tc i)) (fun i => nI (tv i)) n cnt t t') := by
  have H := HH cnt cl
  have hn := H.1.1
  obtain ⟨c400, -, hp, -, -, -⟩ := H.2.2.2.1.2 t ht
  unfold f_X5_readLawClause
  rw [H.2.2.2.2.1 t ht _ _ _ _ 0 (by omega), wr_0, pl_ob1]
  by_cases hk : 1 ≤ tc t ∧ tc t ≤ 4
  · have htn := PE_lt H ht (by omega)
    obtain ⟨kd, hkd⟩ : ∃ kd, tc t = kd + 1 := ⟨tc t - 1, by omega⟩
    have wk : (if 1 = tc t then nI 0 else if 2 = tc t then nI 1 else if 3 = tc t then nI 2 else if 4 = tc t then nI 3 else -1) = nI kd := by
      rcases (by omega : kd = 0 ∨ kd = 1 ∨ kd = 2 ∨ kd = 3) with rfl | rfl | rfl | rfl <;> rw [hkd] <;> rfl
    obtain ⟨cl1, eo, o1, o2, o3, o4, o5, o6, o7⟩ := x_open HH hc cl (pt := pt) (sz := sz) fl C htn kd
    rw [wk, if_neg (m1_nI (by omega)), eo, pl_obv]
    -- the test behind it
    have tail : ∀ e pt1 sz1 C1 cl2, t < e → e ≤ n → pt1 ≤ 50 → sz ≤ sz1 → sz1 + t ≤ sz + e + 3 → (∀ i, i < sz → C1 i = C i) → (∀ i, i < 6 * cnt + 2 → cl2 i = cl1 i) → cl2 (6 * cnt + 5) = -1 → ((kd < 2 ∧ PS 0 C1 sz1 (cl2 (6 * cnt + 2)) (fun i => nI (tc i)) (fun i => nI (tv i)) n (t + 1) e) ∨ (2 ≤ kd ∧ cl2 (6 * cnt + 2) = -1 ∧ e = t + 1)) → RSC n V M P E cnt cl t sz fl C (f_X5_readLawClause_41 N S 37 (rS (cS V (cnt + 1) cl2) (P e) (E e) pt1 sz1 fl C1)) (mIf N (qS M e pt1 NB)) (fun t' sz' C' cl' => LC C' sz' cl' (fun i => nI (tc i)) (fun i => nI (tv i)) n cnt t t') := by
      intro e pt1 sz1 C1 cl2 h1 h2 h3 h4 h5 h6 h7 h8 h9
      unfold f_X5_readLawClause_41
      rcases p_cond HH hc cl2 h8 (pt := pt1) (sz := sz1) fl C1 h2 h3 (by omega) with ⟨t', pt', sz', C', pl, ⟨g1, g2, g3, g4, g5⟩, ex, em, gC, gP⟩ | ⟨f, s, e', pt', sz', C', t2, lv2, cl', f1, f2, ex, em⟩
      · rw [ex, em, pl_ob]
        refine Or.inl ⟨t', pt', sz', C', upd cl2 (6 * cnt + 5) pl, ⟨by omega, g2, g3, by omega, by omega⟩, rfl, rfl, fun i hi => by rw [gC i (by omega)]; exact h6 i hi, fun i hi => by rw [upd_n _ _ _ _ (by omega), h7 i (by omega)]; exact o1 i hi, ⟨htn, g2⟩, kd, e, ⟨by omega, h1, g1⟩, by show nI (tc t) = _; rw [hkd], by rw [upd_n _ _ _ _ (by omega), h7 _ (by omega)]; exact o2, ?_, by rw [upd_e]; exact gP⟩
        rw [upd_n _ _ _ _ (by omega)]
        rcases h9 with ⟨a, b⟩ | h
        · exact Or.inl ⟨a, PS_c gC g4 b⟩
        · exact Or.inr h
      · rw [ex, em, pl_ob]
        exact Or.inr ⟨f, s, e', pt', sz', C', t2, lv2, cnt + 1, cl', f1, f2, rfl, rfl⟩
    by_cases k2 : kd < 2
    · have xk : (if nI kd = 0 then f_X5_readLawClause_31 N S 37 (rS (cS V (cnt + 1) cl1) (P (t + 1)) (E (t + 1)) pt sz fl C) else if nI kd = (1 : Int32) then f_X5_readLawClause_31 N S 37 (rS (cS V (cnt + 1) cl1) (P (t + 1)) (E (t + 1)) pt sz fl C) else f_X5_readLawClause_41 N S 37 (rS (cS V (cnt + 1) cl1) (P (t + 1)) (E (t + 1)) pt sz fl C)) = f_X5_readLawClause_31 N S 37 (rS (cS V (cnt + 1) cl1) (P (t + 1)) (E (t + 1)) pt sz fl C) := by
        rcases (by omega : kd = 0 ∨ kd = 1) with rfl | rfl
        · rw [if_pos (show nI 0 = 0 from rfl)]
        · rw [if_neg (by decide), if_pos (show nI 1 = 1 from rfl)]
      have mk : f_X9_readClause N (qS M t pt NB) = obv (g_X9_readSum N 40 0 (qS M (t + 1) pt NB) (nI 0)) (fun Z => mIf N Z) := by
        unfold f_X9_readClause
        rw [show (1 : Int32) = nI 1 from rfl, q_takes H ht _ 1 (by omega)]
        rcases (by omega : kd = 0 ∨ kd = 1) with rfl | rfl
        · rw [if_pos hkd, pl_ob, if_neg (by decide)]; rfl
        · rw [if_neg (by omega), pl_ob, if_pos (show nI 0 = 0 from rfl), show (2 : Int32) = nI 2 from rfl, q_takes H ht _ 2 (by omega), if_pos hkd, pl_ob, if_neg (by decide)]; rfl
      rw [xk, mk]
      unfold f_X5_readLawClause_31
      rw [show (0 : Int32) = nI 0 from rfl]
      rcases p_piece HH hc (w := 0) (by omega) cl1 (pt := pt) (sz := sz) fl C (show t + 1 ≤ n from htn) hpt (by omega) with ⟨t', pt', sz', C', ⟨g1, g2, g3, g4, g5⟩, ex, em, gC, gP⟩ | ⟨f, s, e', pt', sz', C', t2, lv2, cl', f1, f2, ex, em⟩
      · rw [ex, em, pl_ob, pl_obv, if_neg (by decide)]
        exact tail t' pt' sz' C' _ (by omega) g2 g3 (by omega) (by omega) gC (fun i hi => upd_n _ _ _ _ (by omega)) (by rw [upd_n _ _ _ _ (by omega)]; exact o7) (Or.inl ⟨k2, by rw [upd_e]; exact gP⟩)
      · rw [ex, em, pl_ob, pl_obv, if_pos rfl, mIfB _ _ _ _ (by omega)]
        exact Or.inr ⟨f, s, e', pt', sz', C', t2, lv2, cnt + 1, cl', f1, f2, rfl, rfl⟩
    · have xk : (if nI kd = 0 then f_X5_readLawClause_31 N S 37 (rS (cS V (cnt + 1) cl1) (P (t + 1)) (E (t + 1)) pt sz fl C) else if nI kd = (1 : Int32) then f_X5_readLawClause_31 N S 37 (rS (cS V (cnt + 1) cl1) (P (t + 1)) (E (t + 1)) pt sz fl C) else f_X5_readLawClause_41 N S 37 (rS (cS V (cnt + 1) cl1) (P (t + 1)) (E (t + 1)) pt sz fl C)) = f_X5_readLawClause_41 N S 37 (rS (cS V (cnt + 1) cl1) (P (t + 1)) (E (t + 1)) pt sz fl C) := by
        rw [if_neg (by rw [lj 0, nI_E (by omega) (by omega)]; omega), if_neg (by rw [lj 1, nI_E (by omega) (by omega)]; omega)]
      have mk : f_X9_readClause N (qS M t pt NB) = mIf N (qS M (t + 1) pt NB) := by
        unfold f_X9_readClause
        rw [show (1 : Int32) = nI 1 from rfl, q_takes H ht _ 1 (by omega), if_neg (by omega), pl_ob, if_pos (show nI 0 = 0 from rfl), show (2 : Int32) = nI 2 from rfl, q_takes H ht _ 2 (by omega), if_neg (by omega), pl_ob, if_pos (show nI 0 = 0 from rfl), show (3 : Int32) = nI 3 from rfl, q_takes H ht _ 3 (by omega)]
        rcases (by omega : kd = 2 ∨ kd = 3) with rfl | rfl
        · rw [if_pos hkd, pl_ob, if_neg (by decide)]; rfl
        · rw [if_neg (by omega), pl_ob, if_pos (show nI 0 = 0 from rfl), show (4 : Int32) = nI 4 from rfl, q_must H ht _ 4 (by omega), if_pos hkd, pl_obv]; rfl
      rw [xk, mk]
      exact tail (t + 1) pt sz C cl1 (by omega) htn hpt (by omega) (by omega) (fun _ _ => rfl) (fun _ _ => rfl) o7 (Or.inr ⟨by omega, o4, rfl⟩)
  · have wk : (if 1 = tc t then nI 0 else if 2 = tc t then nI 1 else if 3 = tc t then nI 2 else if 4 = tc t then nI 3 else -1) = -1 := by
      rw [if_neg (by omega), if_neg (by omega), if_neg (by omega), if_neg (by omega)]
    rw [wk, if_pos rfl, r_fails, pl_ob]
    have mk : f_X9_readClause N (qS M t pt NB) = some (qS M t pt (nI (P t))) := by
      unfold f_X9_readClause
      rw [show (1 : Int32) = nI 1 from rfl, q_takes H ht _ 1 (by omega), if_neg (by omega), pl_ob, if_pos (show nI 0 = 0 from rfl), show (2 : Int32) = nI 2 from rfl, q_takes H ht _ 2 (by omega), if_neg (by omega), pl_ob, if_pos (show nI 0 = 0 from rfl), show (3 : Int32) = nI 3 from rfl, q_takes H ht _ 3 (by omega), if_neg (by omega), pl_ob, if_pos (show nI 0 = 0 from rfl), show (4 : Int32) = nI 4 from rfl, q_must H ht _ 4 (by omega), if_neg (by omega), pl_obv, m_c37, mIfB _ _ _ _ (by omega)]
    rw [mk]
    exact Or.inr ⟨P t, P t, E t, pt, sz, C, t, pt, cnt, cl, hp, by omega, rfl, rfl⟩
/-! orders -/
def TMo (x : Int32) (T U : Nat → Int32) (n e f : Nat) : Prop := (¬ ctk T n e = nI 29 ∧ f = e ∧ x = nI 1) ∨ (T e = nI 29 ∧ e + 1 < n ∧ f = e + 2 ∧ ∃ tm, U (e + 1) = nI tm ∧ 1 ≤ tm ∧ tm ≤ 20 ∧ x = nI tm)
theorem wr_18 (c : Nat) : wr 18 c = if 29 = c then nI 0 else -1 := rfl
theorem m_o106 (Z : Vt) : f_X9_readOrder_106 N Z = mIf N Z := rfl
theorem m_o90B (M : Vt) (t lv b : Nat) (hb : b < 2147483648) : f_X9_readOrder_90 N (qS M t lv (nI b)) = some (qS M t lv (nI b)) := by
  unfold f_X9_readOrder_90
  rw [q_takesB _ _ _ _ hb, pl_ob, if_pos (show nI 0 = 0 from rfl), m_o106, mIfB _ _ _ _ hb]
theorem p_tail (HH : PEs N S V M n 1 tc tv P E) {cnt : Nat} (hc : cnt < 12) (cl : Nat → Int32) (hcl : cl (6 * cnt + 5) = -1) (hc1 : cl (6 * cnt + 1) = nI 1) {t pt sz : Nat} (fl : Int32) (C : Nat → Int32) (ht : t ≤ n) (hpt : pt ≤ 50) (hsz : sz + n ≤ t + 447) :
    (∃ t' pt' sz' C' cl' f, (t ≤ f ∧ f ≤ t' ∧ t' ≤ n ∧ pt' ≤ 50 ∧ sz ≤ sz' ∧ sz' + t ≤ sz + t' + 1) ∧ f_X5_readOrderClause_101 N S 37 (rS (cS V (cnt + 1) cl) (P t) (E t) pt sz fl C) = some (nI 1, rS (cS V (cnt + 1) cl') (P t') (E t') pt' sz' fl C') ∧ f_X9_readOrder_90 N (qS M t pt NB) = some (qS M t' pt' NB) ∧ (∀ i, i < sz → C' i = C i) ∧ (∀ i, i ≠ 6 * cnt + 1 → i ≠ 6 * cnt + 5 → cl' i = cl i) ∧ TMo (cl' (6 * cnt + 1)) (fun i => nI (tc i)) (fun i => nI (tv i)) n t f ∧ PT 1 C' sz' (cl' (6 * cnt + 5)) (fun i => nI (tc i)) (fun i => nI (tv i)) n f t') ∨
    (∃ f s e pt' sz' C' t2 lv2 cl', f ≤ 400 ∧ sz' ≤ 448 ∧ f_X5_readOrderClause_101 N S 37 (rS (cS V (cnt + 1) cl) (P t) (E t) pt sz fl C) = some (nI 0, rS (cS V (cnt + 1) cl') s e pt' sz' (nI f) C') ∧ f_X9_readOrder_90 N (qS M t pt NB) = some (qS M t2 lv2 (nI f))) := by
  have H := HH (cnt + 1) cl
  have hn := H.1.1
  obtain ⟨c400, -, hp, -, -, -⟩ := H.2.2.2.1.2 t ht
  have ct : ctk (fun i => nI (tc i)) n t = nI (tc t) := by
    unfold ctk
    by_cases h : t < n
    · rw [if_pos h]
    · rw [if_neg h, show t = n by omega, H.2.2.2.1.1]
  have go : ∀ f cl1, t ≤ f → f ≤ n → cl1 (6 * cnt + 5) = -1 → (∀ i, i ≠ 6 * cnt + 1 → cl1 i = cl i) → TMo (cl1 (6 * cnt + 1)) (fun i => nI (tc i)) (fun i => nI (tv i)) n t f →
      (∃ t' pt' sz' C' cl' ff, (t ≤ ff ∧ ff ≤ t' ∧ t' ≤ n ∧ pt' ≤ 50 ∧ sz ≤ sz' ∧ sz' + t ≤ sz + t' + 1) ∧ ob (f_X5_readCondition N S (rS (cS V (cnt + 1) cl1) (P f) (E f) pt sz fl C) 37) (fun r49 V51 => if r49 = 0 then some ((0 : Int32), V51) else some ((1 : Int32), V51)) = some (nI 1, rS (cS V (cnt + 1) cl') (P t') (E t') pt' sz' fl C') ∧ mIf N (qS M f pt NB) = some (qS M t' pt' NB) ∧ (∀ i, i < sz → C' i = C i) ∧ (∀ i, i ≠ 6 * cnt + 1 → i ≠ 6 * cnt + 5 → cl' i = cl i) ∧ TMo (cl' (6 * cnt + 1)) (fun i => nI (tc i)) (fun i => nI (tv i)) n t ff ∧ PT 1 C' sz' (cl' (6 * cnt + 5)) (fun i => nI (tc i)) (fun i => nI (tv i)) n ff t') ∨
      (∃ f' s e pt' sz' C' t2 lv2 cl', f' ≤ 400 ∧ sz' ≤ 448 ∧ ob (f_X5_readCondition N S (rS (cS V (cnt + 1) cl1) (P f) (E f) pt sz fl C) 37) (fun r49 V51 => if r49 = 0 then some ((0 : Int32), V51) else some ((1 : Int32), V51)) = some (nI 0, rS (cS V (cnt + 1) cl') s e pt' sz' (nI f') C') ∧ mIf N (qS M f pt NB) = some (qS M t2 lv2 (nI f'))) := by
    intro f cl1 h1 h2 h3 h4 h5
    rcases p_cond HH hc cl1 h3 (pt := pt) (sz := sz) fl C h2 hpt (by omega) with ⟨t', pt', sz', C', pl, ⟨g1, g2, g3, g4, g5⟩, ex, em, gC, gP⟩ | ⟨f', s, e', pt', sz', C', t2, lv2, cl', f1, f2, ex, em⟩
    · refine Or.inl ⟨t', pt', sz', C', upd cl1 (6 * cnt + 5) pl, f, ⟨h1, g1, g2, g3, g4, by omega⟩, ?_, em, gC, fun i i1 i2 => by rw [upd_n _ _ _ _ i2]; exact h4 i i1, by rw [upd_n _ _ _ _ (by omega)]; exact h5, by rw [upd_e]; exact gP⟩
      rw [ex, pl_ob, if_neg (by decide)]; rfl
    · refine Or.inr ⟨f', s, e', pt', sz', C', t2, lv2, cl', f1, f2, ?_, em⟩
      rw [ex, pl_ob, if_pos (show nI 0 = 0 from rfl)]; rfl
  by_cases h29 : tc t = 29
  · have htn := PE_lt H ht (by omega)
    have ht1 : t + 1 ≤ n := htn
    obtain ⟨-, v31, hp1, -, -, -⟩ := H.2.2.2.1.2 (t + 1) ht1
    have hm0 : f_X9_readOrder_90 N (qS M t pt NB) = mIf N (if tc (t + 1) = 50 ∧ 1 ≤ tv (t + 1) ∧ tv (t + 1) ≤ 20 then qS M (t + 1 + 1) pt NB else qS M (t + 1) pt (nI (P (t + 1)))) := by
      unfold f_X9_readOrder_90
      rw [show (29 : Int32) = nI 29 from rfl, q_takes H ht _ 29 (by omega), if_pos h29, pl_ob, if_neg (show ¬ nI 1 = 0 by decide), show (1 : Int32) = nI 1 from rfl, show (20 : Int32) = nI 20 from rfl, q_num H ht1 _ 1 20 (by omega) (by omega), pl_obv, m_o106]
    have tm0 : f_X5_readTimes N S (rS (cS V (cnt + 1) cl) (P t) (E t) pt sz fl C) 37 = if (1 : Int32) ≤ (if tc (t + 1) = 50 ∧ tv (t + 1) ≤ 20 then nI (tv (t + 1)) else -1) then ck (((6 : Int32) * (nI (cnt + 1) - (1 : Int32))) + (1 : Int32)) 72 (bd (sA (rS (cS V (cnt + 1) cl) (P (t + 1)) (E (t + 1)) pt sz fl C) (37 + 4) (((6 : Int32) * (nI (cnt + 1) - (1 : Int32))) + (1 : Int32)).toNatClampNeg (if tc (t + 1) = 50 ∧ tv (t + 1) ≤ 20 then nI (tv (t + 1)) else -1)) (fun V26 => obv (f_X5_move N S V26 37) (fun V29 => some ((1 : Int32), V29)))) else ob (f_X5_fails N S (rS (cS V (cnt + 1) cl) (P (t + 1)) (E (t + 1)) pt sz fl C) 37) (fun r30 V32 => cb r30 (some (r30, V32))) := by
      unfold f_X5_readTimes
      rw [H.2.2.2.2.1 t ht _ _ _ _ 18 (by omega), wr_18, pl_ob1, if_pos (show 29 = tc t from h29.symm), if_neg (by decide), H.2.2.2.2.2.2 t htn, pl_obv, show (20 : Int32) = nI 20 from rfl, H.2.2.2.2.2.1 (t + 1) ht1 _ _ _ _ 20 (by omega), pl_ob1, cS_11]
    by_cases hnum : tc (t + 1) = 50 ∧ 1 ≤ tv (t + 1) ∧ tv (t + 1) ≤ 20
    · have ht2 := PE_lt H ht1 (by omega)
      have ix : ((6 : Int32) * (nI (cnt + 1) - (1 : Int32))) + (1 : Int32) = nI (6 * cnt + 1) := by
        rw [lj 6, lj 1, pk_sub (by omega), pk_mul, nI_add]; congr 1
      have sa : sA (rS (cS V (cnt + 1) cl) (P (t + 1)) (E (t + 1)) pt sz fl C) (37 + 4) (6 * cnt + 1) (nI (tv (t + 1))) = rS (cS V (cnt + 1) (upd cl (6 * cnt + 1) (nI (tv (t + 1))))) (P (t + 1)) (E (t + 1)) pt sz fl C := cS_a _ _ _ _ _ _ _ _ _ _ _
      have hx : f_X5_readOrderClause_101 N S 37 (rS (cS V (cnt + 1) cl) (P t) (E t) pt sz fl C) = ob (f_X5_readCondition N S (rS (cS V (cnt + 1) (upd cl (6 * cnt + 1) (nI (tv (t + 1))))) (P (t + 2)) (E (t + 2)) pt sz fl C) 37) (fun r49 V51 => if r49 = 0 then some ((0 : Int32), V51) else some ((1 : Int32), V51)) := by
        unfold f_X5_readOrderClause_101
        rw [tm0, if_pos (show tc (t + 1) = 50 ∧ tv (t + 1) ≤ 20 from ⟨hnum.1, hnum.2.2⟩), if_pos (show (1 : Int32) ≤ nI (tv (t + 1)) by rw [lj 1, nI_L (by omega) (by omega)]; exact hnum.2.1), ix, pl_ck (by omega) (by omega), nI_cl (by omega), sa, pl_bd, (HH (cnt + 1) _).2.2.2.2.2.2 (t + 1) ht2, pl_obv, pl_ob, if_neg (show ¬ (1 : Int32) = 0 by decide)]
      rw [hx, hm0, if_pos hnum]
      exact go (t + 2) (upd cl (6 * cnt + 1) (nI (tv (t + 1)))) (by omega) ht2 (by rw [upd_n _ _ _ _ (by omega)]; exact hcl) (fun i hi => upd_n _ _ _ _ hi) (Or.inr ⟨by show nI (tc t) = _; rw [h29], ht2, rfl, tv (t + 1), rfl, hnum.2.1, hnum.2.2, upd_e _ _ _⟩)
    · have no : ¬ (1 : Int32) ≤ (if tc (t + 1) = 50 ∧ tv (t + 1) ≤ 20 then nI (tv (t + 1)) else -1) := by
        by_cases c : tc (t + 1) = 50 ∧ tv (t + 1) ≤ 20
        · rw [if_pos c, lj 1, nI_L (by omega) (by omega)]; omega
        · rw [if_neg c]; decide
      have hx : f_X5_readOrderClause_101 N S 37 (rS (cS V (cnt + 1) cl) (P t) (E t) pt sz fl C) = some (nI 0, rS (cS V (cnt + 1) cl) (P (t + 1)) (E (t + 1)) pt sz (nI (P (t + 1))) C) := by
        unfold f_X5_readOrderClause_101
        rw [tm0, if_neg no, r_fails, pl_ob, pl_cb0, pl_ob, if_pos (show nI 0 = 0 from rfl)]; rfl
      rw [hx, hm0, if_neg hnum, mIfB _ _ _ _ (by omega)]
      exact Or.inr ⟨P (t + 1), P (t + 1), E (t + 1), pt, sz, C, t + 1, pt, cl, hp1, by omega, rfl, rfl⟩
  · have hm0 : f_X9_readOrder_90 N (qS M t pt NB) = mIf N (qS M t pt NB) := by
      unfold f_X9_readOrder_90
      rw [show (29 : Int32) = nI 29 from rfl, q_takes H ht _ 29 (by omega), if_neg h29, pl_ob, if_pos (show nI 0 = 0 from rfl), m_o106]
    have hx : f_X5_readOrderClause_101 N S 37 (rS (cS V (cnt + 1) cl) (P t) (E t) pt sz fl C) = ob (f_X5_readCondition N S (rS (cS V (cnt + 1) cl) (P t) (E t) pt sz fl C) 37) (fun r49 V51 => if r49 = 0 then some ((0 : Int32), V51) else some ((1 : Int32), V51)) := by
      unfold f_X5_readOrderClause_101 f_X5_readTimes
      rw [H.2.2.2.2.1 t ht _ _ _ _ 18 (by omega), wr_18, pl_ob1, if_neg (show ¬ 29 = tc t from fun q => h29 q.symm), if_pos rfl, pl_ob, if_neg (show ¬ (1 : Int32) = 0 by decide)]
    rw [hx, hm0]
    exact go t cl (by omega) ht hcl (fun _ _ => rfl) (Or.inl ⟨by rw [ct, nI_E (by omega) (by omega)]; exact h29, rfl, hc1⟩)
end P
end
