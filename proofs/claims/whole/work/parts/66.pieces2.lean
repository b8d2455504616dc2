section
/-! pieces of a clause: both -/
def cS (V : Vt) (cnt : Nat) (cl : Nat → Int32) : Vt := (fun h j => if h = 37 ∧ j = 11 then nI cnt else V.1 h j, fun h => if h = 41 then cl else V.2.1 h, V.2.2)
theorem cS_a (V : Vt) (cnt : Nat) (cl : Nat → Int32) (s e pt sz : Nat) (fl : Int32) (C : Nat → Int32) (k : Nat) (x : Int32) : sA (rS (cS V cnt cl) s e pt sz fl C) 41 k x = rS (cS V cnt (upd cl k x)) s e pt sz fl C := by
  unfold sA rS cS
  refine Prod.ext rfl (Prod.ext ?_ rfl)
  funext h j
  simp only [up2, upd]
  by_cases c : h = 41
  · subst c
    by_cases d : j = k
    · simp [d, upd]
    · simp [d, upd]
  · simp only [c, false_and, if_false]
theorem cS_f (V : Vt) (cnt cnt' : Nat) (cl : Nat → Int32) (s e pt sz : Nat) (fl : Int32) (C : Nat → Int32) : sF (rS (cS V cnt cl) s e pt sz fl C) 37 11 (nI cnt') = rS (cS V cnt' cl) s e pt sz fl C := by
  unfold sF rS cS
  refine Prod.ext ?_ rfl
  funext h j
  simp only [up2]
  by_cases c : h = 37 ∧ j = 11
  · simp only [if_pos c]; rw [if_neg (by omega), if_neg (by omega), if_neg (by omega), if_neg (by omega), if_neg (by omega)]
  · simp only [if_neg c]
theorem cS_11 (V : Vt) (cnt : Nat) (cl : Nat → Int32) (s e pt sz : Nat) (fl : Int32) (C : Nat → Int32) : (rS (cS V cnt cl) s e pt sz fl C).1 37 11 = nI cnt := rfl
def PEs (N : Nat) (S : St) (V M : Vt) (n mode : Nat) (tc tv P E : Nat → Nat) : Prop := ∀ cnt cl, PE N S (cS V cnt cl) M n mode tc tv P E
section P
variable {N : Nat} {S : St} {V M : Vt} {n mode : Nat} {tc tv P E : Nat → Nat}
theorem PS_c {mode : Nat} {C C' : Nat → Int32} {Lc Lc' : Nat} {pl : Int32} {T U : Nat → Int32} {n t u : Nat} (h : ∀ i, i < Lc → C' i = C i) (hl : Lc ≤ Lc') (p : PS mode C Lc pl T U n t u) : PS mode C' Lc' pl T U n t u := by
  obtain ⟨a, b, h1, h2, h3, h4⟩ := p
  exact ⟨a, b, h1, JS_c (fun i _ hi => h i (by omega)) h2, by rw [h b h4]; exact h3, by omega⟩
theorem PT_c {mode : Nat} {C C' : Nat → Int32} {Lc Lc' : Nat} {pl : Int32} {T U : Nat → Int32} {n t u : Nat} (h : ∀ i, i < Lc → C' i = C i) (hl : Lc ≤ Lc') (p : PT mode C Lc pl T U n t u) : PT mode C' Lc' pl T U n t u := by
  rcases p with p | ⟨e1, e2, a, b, h1, h2, h3, h4⟩
  · exact Or.inl p
  · exact Or.inr ⟨e1, e2, a, b, h1, JT_c (fun i _ hi => h i (by omega)) h2, by rw [h b h4]; exact h3, by omega⟩
/-- a sum of a clause -/
theorem p_piece (HH : PEs N S V M n mode tc tv P E) {cnt w : Nat} (hc : cnt < 12) (hw : w ≤ 2) (cl : Nat → Int32) {t pt sz : Nat} (fl : Int32) (C : Nat → Int32) (ht : t ≤ n) (hpt : pt ≤ 50) (hsz : sz + n ≤ t + 447) :
    (∃ t' pt' sz' C', (t < t' ∧ t' ≤ n ∧ pt' ≤ 50 ∧ sz < sz' ∧ sz' + t ≤ sz + t' + 1) ∧ f_X5_readPiece N S (rS (cS V (cnt + 1) cl) (P t) (E t) pt sz fl C) 37 (nI w) = some (nI 1, rS (cS V (cnt + 1) (upd cl (6 * cnt + 2 + w) (nI sz))) (P t') (E t') pt' sz' fl C') ∧ g_X9_readSum N 40 0 (qS M t pt NB) (nI 0) = some (qS M t' pt' NB) ∧ (∀ i, i < sz → C' i = C i) ∧ PS mode C' sz' (nI sz) (fun i => nI (tc i)) (fun i => nI (tv i)) n t t') ∨
    (∃ f s e pt' sz' C' t2 lv2 cl', f ≤ 400 ∧ sz' ≤ 448 ∧ f_X5_readPiece N S (rS (cS V (cnt + 1) cl) (P t) (E t) pt sz fl C) 37 (nI w) = some (nI 0, rS (cS V (cnt + 1) cl') s e pt' sz' (nI f) C') ∧ g_X9_readSum N 40 0 (qS M t pt NB) (nI 0) = some (qS M t2 lv2 (nI f))) := by
  have st : f_X5_readPiece N S (rS (cS V (cnt + 1) cl) (P t) (E t) pt sz fl C) 37 (nI w) = ob (g_X5_readSum N S 40 0 (rS (cS V (cnt + 1) (upd cl (6 * cnt + 2 + w) (nI sz))) (P t) (E t) pt sz fl C) 37 (nI 0)) (fun r11 V13 => ob (f_X5_put N S V13 37 (nI 0) (nI 0)) (fun r14 V16 => cb r11 (some (r11, V16)))) := by
    unfold f_X5_readPiece
    have ix : (((6 : Int32) * (nI (cnt + 1) - (1 : Int32))) + (2 : Int32)) + nI w = nI (6 * cnt + 2 + w) := by
      rw [lj 6, lj 1, lj 2, pk_sub (by omega), pk_mul, nI_add, nI_add]; congr 1
    rw [cS_11, ix, pl_ck (by omega) (by omega), nI_cl (by omega), rS_10]
    show bd (sA (rS (cS V (cnt + 1) cl) (P t) (E t) pt sz fl C) 41 _ _) _ = _
    rw [cS_a, pl_bd]; rfl
  have H := HH (cnt + 1) (upd cl (6 * cnt + 2 + w) (nI sz))
  have hn := H.1.1
  rw [st]
  rcases p_sum H 40 0 0 (by omega) (by omega) (by omega) t pt sz fl C ht hpt hsz with ⟨t1, pt1, sz1, C1, ⟨g1, g2, g3, g4, g5⟩, ex, em, gC, gJ⟩ | ⟨f, s, e, pt1, sz1, C1, t2, lv2, f1, f2, ex, em⟩
  · refine Or.inl ⟨t1, pt1, sz1 + 1, upd C1 sz1 (nI 0), ⟨g1, g2, g3, by omega, by omega⟩, ?_, em, fun i hi => by rw [upd_n _ _ _ _ (by omega)]; exact gC i hi, sz, sz1, rfl, JS_c (fun i _ hi => upd_n _ _ _ _ (by omega)) gJ, upd_e _ _ _, by omega⟩
    rw [ex, pl_ob, r_put S _ _ _ _ _ _ _ (by omega) (by omega) (by omega), pl_ob]; rfl
  · obtain ⟨sz2, C2, z1, -, ep⟩ := r_putA (N := N) S (cS V (cnt + 1) (upd cl (6 * cnt + 2 + w) (nI sz))) s e pt1 sz1 (nI f) C1 (nI 0) (nI 0) f2
    refine Or.inr ⟨f, s, e, pt1, sz2, C2, t2, lv2, upd cl (6 * cnt + 2 + w) (nI sz), f1, z1, ?_, em⟩
    rw [ex, pl_ob, ep, pl_ob]; rfl
def mIf (N : Nat) (Z : Vt) : Option Vt := ob (f_X9_takes0 N Z (5 : Int32)) (fun r29 V31 => if r29 = 0 then some V31 else obv (g_X9_readTest N 40 0 V31 (0 : Int32)) (fun V35 => some V35))
theorem mIfB (M : Vt) (t lv b : Nat) (hb : b < 2147483648) : mIf N (qS M t lv (nI b)) = some (qS M t lv (nI b)) := by
  unfold mIf
  rw [q_takesB _ _ _ _ hb, pl_ob, if_pos (show nI 0 = 0 from rfl)]
theorem wr_7 (c : Nat) : wr 7 c = if 5 = c then nI 0 else -1 := rfl
/-- the test of a clause, if it has one -/
theorem p_cond (HH : PEs N S V M n mode tc tv P E) {cnt : Nat} (hc : cnt < 12) (cl : Nat → Int32) (hcl : cl (6 * cnt + 5) = -1) {t pt sz : Nat} (fl : Int32) (C : Nat → Int32) (ht : t ≤ n) (hpt : pt ≤ 50) (hsz : sz + n ≤ t + 447) :
    (∃ t' pt' sz' C' pl, (t ≤ t' ∧ t' ≤ n ∧ pt' ≤ 50 ∧ sz ≤ sz' ∧ sz' + t ≤ sz + t' + 1) ∧ f_X5_readCondition N S (rS (cS V (cnt + 1) cl) (P t) (E t) pt sz fl C) 37 = some (nI 1, rS (cS V (cnt + 1) (upd cl (6 * cnt + 5) pl)) (P t') (E t') pt' sz' fl C') ∧ mIf N (qS M t pt NB) = some (qS M t' pt' NB) ∧ (∀ i, i < sz → C' i = C i) ∧ PT mode C' sz' pl (fun i => nI (tc i)) (fun i => nI (tv i)) n t t') ∨
    (∃ f s e pt' sz' C' t2 lv2 cl', f ≤ 400 ∧ sz' ≤ 448 ∧ f_X5_readCondition N S (rS (cS V (cnt + 1) cl) (P t) (E t) pt sz fl C) 37 = some (nI 0, rS (cS V (cnt + 1) cl') s e pt' sz' (nI f) C') ∧ mIf N (qS M t pt NB) = some (qS M t2 lv2 (nI f))) := by
  have H0 := HH (cnt + 1) cl
  have hn := H0.1.1
  have c400 := (H0.2.2.2.1.2 t ht).1
  have ct : ctk (fun i => nI (tc i)) n t = nI (tc t) := by
    unfold ctk
    by_cases h : t < n
    · rw [if_pos h]
    · rw [if_neg h, show t = n by omega, H0.2.2.2.1.1]
  unfold f_X5_readCondition mIf
  rw [H0.2.2.2.2.1 t ht _ _ _ _ 7 (by omega), wr_7, show (5 : Int32) = nI 5 from rfl, q_takes H0 ht _ 5 (by omega), pl_ob1]
  by_cases h5 : tc t = 5
  · have htn := PE_lt H0 ht (by omega)
    have ix : ((6 : Int32) * (nI (cnt + 1) - (1 : Int32))) + nI 5 = nI (6 * cnt + 5) := by
      rw [lj 6, lj 1, pk_sub (by omega), pk_mul, nI_add]; congr 1
    rw [if_pos (show 5 = tc t from h5.symm), if_neg (by decide), if_pos h5, pl_ob, if_neg (by decide), H0.2.2.2.2.2.2 t htn, pl_obv, cS_11, ix, pl_ck (by omega) (by omega), nI_cl (by omega), rS_10]
    have sa : sA (rS (cS V (cnt + 1) cl) (P (t + 1)) (E (t + 1)) pt sz fl C) (37 + 4) (6 * cnt + 5) (nI sz) = rS (cS V (cnt + 1) (upd cl (6 * cnt + 5) (nI sz))) (P (t + 1)) (E (t + 1)) pt sz fl C := cS_a _ _ _ _ _ _ _ _ _ _ _
    rw [sa, pl_bd, show (0 : Int32) = nI 0 from rfl]
    have H := HH (cnt + 1) (upd cl (6 * cnt + 5) (nI sz))
    rcases p_test H 40 0 0 (by omega) (by omega) (by omega) (t + 1) pt sz fl C htn hpt (by omega) with ⟨t1, pt1, sz1, C1, ⟨g1, g2, g3, g4, g5⟩, ex, em, gC, gJ⟩ | ⟨f, s, e, pt1, sz1, C1, t2, lv2, f1, f2, ex, em⟩
    · refine Or.inl ⟨t1, pt1, sz1 + 1, upd C1 sz1 (nI 0), nI sz, ⟨by omega, g2, g3, by omega, by omega⟩, ?_, by rw [em]; rfl, fun i hi => by rw [upd_n _ _ _ _ (by omega)]; exact gC i hi, Or.inr ⟨htn, by show nI (tc t) = _; rw [h5], sz, sz1, rfl, JT_c (fun i _ hi => upd_n _ _ _ _ (by omega)) gJ, upd_e _ _ _, by omega⟩⟩
      rw [ex, pl_ob, r_put S _ _ _ _ _ _ _ (by omega) (by omega) (by omega), pl_ob]; rfl
    · obtain ⟨sz2, C2, z1, -, ep⟩ := r_putA (N := N) S (cS V (cnt + 1) (upd cl (6 * cnt + 5) (nI sz))) s e pt1 sz1 (nI f) C1 (nI 0) (nI 0) f2
      refine Or.inr ⟨f, s, e, pt1, sz2, C2, t2, lv2, upd cl (6 * cnt + 5) (nI sz), f1, z1, ?_, by rw [em]; rfl⟩
      rw [ex, pl_ob, ep, pl_ob]; rfl
  · rw [if_neg (show ¬ 5 = tc t from fun q => h5 q.symm), if_pos rfl, if_neg h5, pl_ob, if_pos (show nI 0 = 0 from rfl)]
    refine Or.inl ⟨t, pt, sz, C, -1, ⟨by omega, ht, hpt, by omega, by omega⟩, ?_, rfl, fun _ _ => rfl, Or.inl ⟨rfl, by rw [ct, nI_E (by omega) (by omega)]; exact h5, rfl⟩⟩
    rw [← hcl, fa_upd_same rfl]; rfl
/-- a clause is opened -/
theorem x_open (HH : PEs N S V M n mode tc tv P E) {cnt : Nat} (hc : cnt < 12) (cl : Nat → Int32) {t pt sz : Nat} (fl : Int32) (C : Nat → Int32) (ht : t < n) (kd : Nat) : ∃ cl', f_X5_openClause N S (rS (cS V cnt cl) (P t) (E t) pt sz fl C) 37 (nI kd) = some (rS (cS V (cnt + 1) cl') (P (t + 1)) (E (t + 1)) pt sz fl C) ∧ (∀ i, i < 6 * cnt → cl' i = cl i) ∧ cl' (6 * cnt) = nI kd ∧ cl' (6 * cnt + 1) = nI 1 ∧ cl' (6 * cnt + 2) = -1 ∧ cl' (6 * cnt + 3) = -1 ∧ cl' (6 * cnt + 4) = -1 ∧ cl' (6 * cnt + 5) = -1 := by
  have hN := (HH 0 cl).1.2.2
  obtain ⟨g, ⟨g1, g2⟩, m, em⟩ := lpN N (fun m (f : Nat → Int32) i => f_X5_openClause_10 N S 37 m (rS (cS V cnt f) (P t) (E t) pt sz fl C) (nI kd) (nI (6 * cnt)) i) 6 (fun i f => (∀ j, j < 6 * cnt → f j = cl j) ∧ ∀ j, j < i → f (6 * cnt + j) = -1) (by
    intro i f hi ⟨h1, h2⟩
    refine ⟨upd f (6 * cnt + i) (-1), ⟨fun j hj => by rw [upd_n _ _ _ _ (by omega)]; exact h1 j hj, fun j hj => ?_⟩, fun m => ?_⟩
    · by_cases hji : j = i
      · subst hji; rw [upd_e]
      · rw [upd_n _ _ _ _ (by omega)]; exact h2 j (by omega)
    · rw [f_X5_openClause_10, if_neg (by rw [lj 6, nI_L (by omega) (by omega)]; omega), nI_add, pl_ck (by omega) (by omega), nI_cl (by omega)]
      show bd (sA (rS (cS V cnt f) (P t) (E t) pt sz fl C) 41 _ _) _ = _
      rw [cS_a, pl_bd, nI_1, pl_bd]) cl (by omega) ⟨fun _ _ => rfl, fun j hj => absurd hj (Nat.not_lt_zero j)⟩
  refine ⟨upd (upd g (6 * cnt) (nI kd)) (6 * cnt + 1) (nI 1), ?_, fun i hi => by rw [upd_n _ _ _ _ (by omega), upd_n _ _ _ _ (by omega)]; exact g1 i hi, by rw [upd_n _ _ _ _ (by omega), upd_e], upd_e _ _ _, by rw [upd_n _ _ _ _ (by omega), upd_n _ _ _ _ (by omega)]; exact g2 2 (by omega), by rw [upd_n _ _ _ _ (by omega), upd_n _ _ _ _ (by omega)]; exact g2 3 (by omega), by rw [upd_n _ _ _ _ (by omega), upd_n _ _ _ _ (by omega)]; exact g2 4 (by omega), by rw [upd_n _ _ _ _ (by omega), upd_n _ _ _ _ (by omega)]; exact g2 5 (by omega)⟩
  unfold f_X5_openClause
  rw [cS_11, lj 6, pk_mul, pl_bd, show (0 : Int32) = nI 0 from rfl]
  have e0 : f_X5_openClause_10 N S 37 N (rS (cS V cnt cl) (P t) (E t) pt sz fl C) (nI kd) (nI (6 * cnt)) (nI 0) = _ := em
  rw [e0, f_X5_openClause_10, if_pos (by decide), pl_ck (by omega) (by omega), nI_cl (by omega)]
  have sa : ∀ (f : Nat → Int32) k x, sA (rS (cS V cnt f) (P t) (E t) pt sz fl C) (37 + 4) k x = rS (cS V cnt (upd f k x)) (P t) (E t) pt sz fl C := fun f k x => cS_a _ _ _ _ _ _ _ _ _ _ _
  rw [sa, pl_bd, nI_1, pl_ck (by omega) (by omega), nI_cl (by omega), sa, pl_bd, cS_11, nI_1, cS_f, pl_bd, (HH (cnt + 1) _).2.2.2.2.2.2 t ht, pl_obv]
  rfl
end P
end
