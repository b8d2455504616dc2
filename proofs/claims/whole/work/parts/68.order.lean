section
/-! a clause of orders: both -/
def OSm (C : Nat → Int32) (Lc : Nat) (cl T U : Nat → Int32) (n c t e kd : Nat) : Prop :=
  (kd = 0 ∧ T t = nI 22 ∧ cl (6 * c + 4) = -1 ∧ ∃ a, a < n ∧ PS 1 C Lc (cl (6 * c + 2)) T U n (t + 1) a ∧ T a = nI 23 ∧ PS 1 C Lc (cl (6 * c + 3)) T U n (a + 1) e) ∨
  (kd = 1 ∧ T t = nI 24 ∧ ∃ a b, a < n ∧ b < n ∧ PS 1 C Lc (cl (6 * c + 2)) T U n (t + 1) a ∧ T a = nI 25 ∧ PS 1 C Lc (cl (6 * c + 3)) T U n (a + 1) b ∧ T b = nI 26 ∧ PS 1 C Lc (cl (6 * c + 4)) T U n (b + 1) e) ∨
  (kd = 2 ∧ T t = nI 27 ∧ cl (6 * c + 3) = -1 ∧ cl (6 * c + 4) = -1 ∧ PS 1 C Lc (cl (6 * c + 2)) T U n (t + 1) e) ∨
  (kd = 3 ∧ T t = nI 28 ∧ cl (6 * c + 2) = -1 ∧ cl (6 * c + 3) = -1 ∧ cl (6 * c + 4) = -1 ∧ e = t + 1)
def OC (C : Nat → Int32) (Lc : Nat) (cl : Nat → Int32) (T U : Nat → Int32) (n c t u : Nat) : Prop := (t < n ∧ u ≤ n) ∧ ∃ kd e f, (kd < 4 ∧ t < e ∧ e ≤ f ∧ f ≤ u) ∧ cl (6 * c) = nI kd ∧ OSm C Lc cl T U n c t e kd ∧ TMo (cl (6 * c + 1)) T U n e f ∧ PT 1 C Lc (cl (6 * c + 5)) T U n f u
theorem OSm_c {C C' cl cl' T U : Nat → Int32} {Lc Lc' n c t e kd : Nat} (h : ∀ i, i < Lc → C' i = C i) (hl : Lc ≤ Lc') (hcl : ∀ i, i ≠ 6 * c + 1 → i ≠ 6 * c + 5 → cl' i = cl i) (o : OSm C Lc cl T U n c t e kd) : OSm C' Lc' cl' T U n c t e kd := by
  unfold OSm
  rw [hcl (6 * c + 2) (by omega) (by omega), hcl (6 * c + 3) (by omega) (by omega), hcl (6 * c + 4) (by omega) (by omega)]
  rcases o with ⟨a1, a2, a3, a, a4, a5, a6, a7⟩ | ⟨a1, a2, a, b, a3, a4, a5, a6, a7, a8, a9⟩ | ⟨a1, a2, a3, a4, a5⟩ | o
  · exact Or.inl ⟨a1, a2, a3, a, a4, PS_c h hl a5, a6, PS_c h hl a7⟩
  · exact Or.inr (Or.inl ⟨a1, a2, a, b, a3, a4, PS_c h hl a5, a6, PS_c h hl a7, a8, PS_c h hl a9⟩)
  · exact Or.inr (Or.inr (Or.inl ⟨a1, a2, a3, a4, PS_c h hl a5⟩))
  · exact Or.inr (Or.inr (Or.inr o))
section P
variable {N : Nat} {S : St} {V M : Vt} {n : Nat} {tc tv P E : Nat → Nat}
theorem wr_14 (c : Nat) : wr 14 c = if 22 = c then nI 0 else if 24 = c then nI 1 else if 27 = c then nI 2 else if 28 = c then nI 3 else -1 := rfl
theorem p_order (HH : PEs N S V M n 1 tc tv P E) {cnt : Nat} (hc : cnt < 12) (cl : Nat → Int32) {t pt sz : Nat} (fl : Int32) (C : Nat → Int32) (ht : t ≤ n) (hpt : pt ≤ 50) (hsz : sz ≤ t + 4 * cnt) :
    RSC n V M P E cnt cl t sz fl C (f_X5_readOrderClause N S (rS (cS V cnt cl) (P t) (E t) pt sz fl C) 37) (f_X9_readOrder N (qS M t pt NB)) (fun t' sz' C' cl' => OC C' sz' cl' (fun i => nI (tc i)) (fun i => nI (tv i)) n cnt t t') := by
  have H := HH cnt cl
  have hn := H.1.1
  have hN : 1 ≤ N := by have := H.1.2.2; omega
  obtain ⟨c400, -, hp, -, -, -⟩ := H.2.2.2.1.2 t ht
  unfold f_X5_readOrderClause
  rw [H.2.2.2.2.1 t ht _ _ _ _ 14 (by omega), wr_14, pl_ob1]
  by_cases hk : tc t = 22 ∨ tc t = 24 ∨ tc t = 27 ∨ tc t = 28
  · have htn := PE_lt H ht (by omega)
    obtain ⟨kd, hkd4, hkd⟩ : ∃ kd, kd < 4 ∧ ((kd = 0 ∧ tc t = 22) ∨ (kd = 1 ∧ tc t = 24) ∨ (kd = 2 ∧ tc t = 27) ∨ (kd = 3 ∧ tc t = 28)) := by
      rcases hk with h | h | h | h
      · exact ⟨0, by omega, Or.inl ⟨rfl, h⟩⟩
      · exact ⟨1, by omega, Or.inr (Or.inl ⟨rfl, h⟩)⟩
      · exact ⟨2, by omega, Or.inr (Or.inr (Or.inl ⟨rfl, h⟩))⟩
      · exact ⟨3, by omega, Or.inr (Or.inr (Or.inr ⟨rfl, h⟩))⟩
    have wk : (if 22 = tc t then nI 0 else if 24 = tc t then nI 1 else if 27 = tc t then nI 2 else if 28 = tc t then nI 3 else -1) = nI kd := by
      rcases hkd with ⟨rfl, h⟩ | ⟨rfl, h⟩ | ⟨rfl, h⟩ | ⟨rfl, h⟩ <;> rw [h] <;> rfl
    obtain ⟨cl1, eo, o1, o2, o3, o4, o5, o6, o7⟩ := x_open HH hc cl (pt := pt) (sz := sz) fl C htn kd
    rw [wk, if_neg (m1_nI (by omega)), eo, pl_obv]
    have tail : ∀ e pt1 sz1 C1 cl2, t < e → e ≤ n → pt1 ≤ 50 → sz ≤ sz1 → sz1 + t ≤ sz + e + 3 → (∀ i, i < sz → C1 i = C i) → (∀ i, i < 6 * cnt + 2 → cl2 i = cl1 i) → cl2 (6 * cnt + 5) = -1 → OSm C1 sz1 cl2 (fun i => nI (tc i)) (fun i => nI (tv i)) n cnt t e kd → RSC n V M P E cnt cl t sz fl C (f_X5_readOrderClause_101 N S 37 (rS (cS V (cnt + 1) cl2) (P e) (E e) pt1 sz1 fl C1)) (f_X9_readOrder_90 N (qS M e pt1 NB)) (fun t' sz' C' cl' => OC C' sz' cl' (fun i => nI (tc i)) (fun i => nI (tv i)) n cnt t t') := by
      intro e pt1 sz1 C1 cl2 h1 h2 h3 h4 h5 h6 h7 h8 h9
      rcases p_tail HH hc cl2 h8 (by rw [h7 _ (by omega)]; exact o3) (pt := pt1) (sz := sz1) fl C1 h2 h3 (by omega) with ⟨t', pt', sz', C', cl', f, ⟨g0, g1, g2, g3, g4, g5⟩, ex, em, gC, gcl, gT, gP⟩ | ⟨f, s, e', pt', sz', C', t2, lv2, cl', f1, f2, ex, em⟩
      · rw [ex, em]
        exact Or.inl ⟨t', pt', sz', C', cl', ⟨by omega, g2, g3, by omega, by omega⟩, rfl, rfl, fun i hi => by rw [gC i (by omega)]; exact h6 i hi, fun i hi => by rw [gcl i (by omega) (by omega), h7 i (by omega)]; exact o1 i hi, ⟨htn, g2⟩, kd, e, f, ⟨hkd4, h1, g0, g1⟩, by rw [gcl _ (by omega) (by omega), h7 _ (by omega)]; exact o2, OSm_c gC g4 gcl h9, gT, gP⟩
      · rw [ex, em]
        exact Or.inr ⟨f, s, e', pt', sz', C', t2, lv2, cnt + 1, cl', f1, f2, rfl, rfl⟩
    -- how orders begin at the reference
    have s22 : tc t = 22 → f_X9_readOrder N (qS M t pt NB) = obv (g_X9_readSum N 40 0 (qS M (t + 1) pt NB) (nI 0)) (fun V101 => obv (f_X9_must N V101 (nI 23)) (fun V104 => obv (g_X9_readSum N 40 0 V104 (nI 0)) (fun V107 => f_X9_readOrder_90 N V107))) := by
      intro h
      unfold f_X9_readOrder
      rw [show (22 : Int32) = nI 22 from rfl, q_takes H ht _ 22 (by omega), if_pos h, pl_ob, if_neg (by decide)]; rfl
    have s24 : tc t = 24 → f_X9_readOrder N (qS M t pt NB) = obv (g_X9_readSum N 40 0 (qS M (t + 1) pt NB) (nI 0)) (fun V86 => obv (f_X9_must N V86 (nI 25)) (fun V89 => obv (g_X9_readSum N 40 0 V89 (nI 0)) (fun V92 => obv (f_X9_must N V92 (nI 26)) (fun V95 => obv (g_X9_readSum N 40 0 V95 (nI 0)) (fun V98 => f_X9_readOrder_90 N V98))))) := by
      intro h
      unfold f_X9_readOrder
      rw [show (22 : Int32) = nI 22 from rfl, q_takes H ht _ 22 (by omega), if_neg (by omega), pl_ob, if_pos (show nI 0 = 0 from rfl), show (24 : Int32) = nI 24 from rfl, q_takes H ht _ 24 (by omega), if_pos h, pl_ob, if_neg (by decide)]; rfl
    have s27 : tc t = 27 → f_X9_readOrder N (qS M t pt NB) = obv (g_X9_readSum N 40 0 (qS M (t + 1) pt NB) (nI 0)) (fun V83 => f_X9_readOrder_90 N V83) := by
      intro h
      unfold f_X9_readOrder
      rw [show (22 : Int32) = nI 22 from rfl, q_takes H ht _ 22 (by omega), if_neg (by omega), pl_ob, if_pos (show nI 0 = 0 from rfl), show (24 : Int32) = nI 24 from rfl, q_takes H ht _ 24 (by omega), if_neg (by omega), pl_ob, if_pos (show nI 0 = 0 from rfl), show (27 : Int32) = nI 27 from rfl, q_takes H ht _ 27 (by omega), if_pos h, pl_ob, if_neg (by decide)]; rfl
    have s28 : tc t = 28 → f_X9_readOrder N (qS M t pt NB) = f_X9_readOrder_90 N (qS M (t + 1) pt NB) := by
      intro h
      unfold f_X9_readOrder
      rw [show (22 : Int32) = nI 22 from rfl, q_takes H ht _ 22 (by omega), if_neg (by omega), pl_ob, if_pos (show nI 0 = 0 from rfl), show (24 : Int32) = nI 24 from rfl, q_takes H ht _ 24 (by omega), if_neg (by omega), pl_ob, if_pos (show nI 0 = 0 from rfl), show (27 : Int32) = nI 27 from rfl, q_takes H ht _ 27 (by omega), if_neg (by omega), pl_ob, if_pos (show nI 0 = 0 from rfl), show (28 : Int32) = nI 28 from rfl, q_must H ht _ 28 (by omega), if_pos h, pl_obv]
    have Bsum : ∀ t2 lv2 f, f ≤ 400 → g_X9_readSum N 40 0 (qS M t2 lv2 (nI f)) (nI 0) = some (qS M t2 lv2 (nI f)) := fun t2 lv2 f hf => p_sumB M 37 t2 lv2 f (by omega) hN (nI 0)
    have bad : ∀ f s e' pt' sz' (C' : Nat → Int32) t2 lv2 cl', f ≤ 400 → sz' ≤ 448 → RSC n V M P E cnt cl t sz fl C (some (nI 0, rS (cS V (cnt + 1) cl') s e' pt' sz' (nI f) C')) (some (qS M t2 lv2 (nI f))) (fun t' sz' C' cl' => OC C' sz' cl' (fun i => nI (tc i)) (fun i => nI (tv i)) n cnt t t') := fun f s e' pt' sz' C' t2 lv2 cl' f1 f2 => Or.inr ⟨f, s, e', pt', sz', C', t2, lv2, cnt + 1, cl', f1, f2, rfl, rfl⟩
    rcases hkd with ⟨rfl, hT⟩ | ⟨rfl, hT⟩ | ⟨rfl, hT⟩ | ⟨rfl, hT⟩
    · -- take
      rw [s22 hT, if_neg (show ¬ nI 0 = 3 by decide), show (0 : Int32) = nI 0 from rfl]
      rcases p_piece HH hc (w := 0) (by omega) cl1 (pt := pt) (sz := sz) fl C (show t + 1 ≤ n from htn) hpt (by omega) with ⟨a, pa, sa, Ca, ⟨g1, g2, g3, g4, g5⟩, ex, em, gC, gP⟩ | ⟨f, s, e', pt', sz', C', t2, lv2, cl', f1, f2, ex, em⟩
      · rw [ex, em, pl_ob, pl_obv, if_neg (show ¬ nI 1 = nI 0 by decide)]
        unfold f_X5_readOrderClause_37 f_X5_readOrderClause_60
        have Ha := HH (cnt + 1) (upd cl1 (6 * cnt + 2 + 0) (nI sz))
        have hpa := (Ha.2.2.2.1.2 a g2).2.2.1
        rw [if_pos (show nI 0 = 0 from rfl), x_sign Ha g2 _ _ _ _ 15 23 (by omega) (fun x => rfl) (by omega), q_must Ha g2 _ 23 (by omega)]
        by_cases h23 : tc a = 23
        · have han := PE_lt Ha g2 (by omega)
          rw [if_pos h23, if_pos h23, pl_ob, pl_obv, if_neg (show ¬ nI 1 = 0 by decide), show (1 : Int32) = nI 1 from rfl]
          rcases p_piece HH hc (w := 1) (by omega) (upd cl1 (6 * cnt + 2 + 0) (nI sz)) (pt := pa) (sz := sa) fl Ca (show a + 1 ≤ n from han) g3 (by omega) with ⟨b, pb, sb, Cb, ⟨k1, k2, k3, k4, k5⟩, ex2, em2, kC, kP⟩ | ⟨f, s, e', pt', sz', C', t2, lv2, cl', f1, f2, ex2, em2⟩
          · rw [ex2, em2, pl_ob, pl_obv, if_neg (show ¬ nI 1 = 0 by decide), if_neg (show ¬ nI 0 = nI 1 by decide)]
            refine tail b pb sb Cb _ (by omega) k2 k3 (by omega) (by omega) (fun i hi => by rw [kC i (by omega)]; exact gC i hi) (fun i hi => by rw [upd_n _ _ _ _ (by omega), upd_n _ _ _ _ (by omega)]) (by rw [upd_n _ _ _ _ (by omega), upd_n _ _ _ _ (by omega)]; exact o7) (Or.inl ⟨rfl, by show nI (tc t) = _; rw [hT], by rw [upd_n _ _ _ _ (by omega), upd_n _ _ _ _ (by omega)]; exact o6, a, han, ?_, by show nI (tc a) = _; rw [h23], ?_⟩)
            · rw [upd_n _ _ _ _ (by omega), show 6 * cnt + 2 = 6 * cnt + 2 + 0 from rfl, upd_e]; exact PS_c kC (by omega) gP
            · rw [show 6 * cnt + 3 = 6 * cnt + 2 + 1 from rfl, upd_e]; exact kP
          · rw [ex2, em2, pl_ob, pl_obv, if_pos (show nI 0 = 0 from rfl), m_o90B _ _ _ _ (by omega)]
            exact bad f s e' pt' sz' C' t2 lv2 cl' f1 f2
        · rw [if_neg h23, if_neg h23, pl_ob, pl_obv, if_pos (show nI 0 = 0 from rfl), Bsum _ _ _ hpa, pl_obv, m_o90B _ _ _ _ (by omega)]
          exact bad _ _ _ _ _ _ _ _ _ hpa (by omega)
      · rw [ex, em, pl_ob, pl_obv, if_pos rfl, q_mustB _ _ _ _ (by omega), pl_obv, Bsum _ _ _ f1, pl_obv, m_o90B _ _ _ _ (by omega)]
        exact bad f s e' pt' sz' C' t2 lv2 cl' f1 f2
    · -- shift
      rw [s24 hT, if_neg (show ¬ nI 1 = 3 by decide), show (0 : Int32) = nI 0 from rfl]
      rcases p_piece HH hc (w := 0) (by omega) cl1 (pt := pt) (sz := sz) fl C (show t + 1 ≤ n from htn) hpt (by omega) with ⟨a, pa, sa, Ca, ⟨g1, g2, g3, g4, g5⟩, ex, em, gC, gP⟩ | ⟨f, s, e', pt', sz', C', t2, lv2, cl', f1, f2, ex, em⟩
      · rw [ex, em, pl_ob, pl_obv, if_neg (show ¬ nI 1 = nI 0 by decide)]
        unfold f_X5_readOrderClause_37 f_X5_readOrderClause_60
        have Ha := HH (cnt + 1) (upd cl1 (6 * cnt + 2 + 0) (nI sz))
        have hpa := (Ha.2.2.2.1.2 a g2).2.2.1
        rw [if_neg (show ¬ nI 1 = 0 by decide), if_pos (show nI 1 = 1 from rfl), x_sign Ha g2 _ _ _ _ 16 25 (by omega) (fun x => rfl) (by omega), q_must Ha g2 _ 25 (by omega)]
        by_cases h25 : tc a = 25
        · have han := PE_lt Ha g2 (by omega)
          rw [if_pos h25, if_pos h25, pl_ob, pl_obv, if_neg (show ¬ nI 1 = 0 by decide), show (1 : Int32) = nI 1 from rfl]
          rcases p_piece HH hc (w := 1) (by omega) (upd cl1 (6 * cnt + 2 + 0) (nI sz)) (pt := pa) (sz := sa) fl Ca (show a + 1 ≤ n from han) g3 (by omega) with ⟨b, pb, sb, Cb, ⟨k1, k2, k3, k4, k5⟩, ex2, em2, kC, kP⟩ | ⟨f, s, e', pt', sz', C', t2, lv2, cl', f1, f2, ex2, em2⟩
          · rw [ex2, em2, pl_ob, pl_obv, if_neg (show ¬ nI 1 = 0 by decide)]
            have Hb := HH (cnt + 1) (upd (upd cl1 (6 * cnt + 2 + 0) (nI sz)) (6 * cnt + 2 + 1) (nI sa))
            have hpb := (Hb.2.2.2.1.2 b k2).2.2.1
            rw [x_sign Hb k2 _ _ _ _ 17 26 (by omega) (fun x => rfl) (by omega), q_must Hb k2 _ 26 (by omega)]
            by_cases h26 : tc b = 26
            · have hbn := PE_lt Hb k2 (by omega)
              rw [if_pos h26, if_pos h26, pl_ob, pl_obv, if_neg (show ¬ nI 1 = 0 by decide), show (2 : Int32) = nI 2 from rfl]
              rcases p_piece HH hc (w := 2) (by omega) (upd (upd cl1 (6 * cnt + 2 + 0) (nI sz)) (6 * cnt + 2 + 1) (nI sa)) (pt := pb) (sz := sb) fl Cb (show b + 1 ≤ n from hbn) k3 (by omega) with ⟨d, pd, sd, Cd, ⟨l1, l2, l3, l4, l5⟩, ex3, em3, lC, lP⟩ | ⟨f, s, e', pt', sz', C', t2, lv2, cl', f1, f2, ex3, em3⟩
              · rw [ex3, em3, pl_ob, pl_obv, if_neg (show ¬ nI 1 = 0 by decide)]
                refine tail d pd sd Cd _ (by omega) l2 l3 (by omega) (by omega) (fun i hi => by rw [lC i (by omega), kC i (by omega)]; exact gC i hi) (fun i hi => by rw [upd_n _ _ _ _ (by omega), upd_n _ _ _ _ (by omega), upd_n _ _ _ _ (by omega)]) (by rw [upd_n _ _ _ _ (by omega), upd_n _ _ _ _ (by omega), upd_n _ _ _ _ (by omega)]; exact o7) (Or.inr (Or.inl ⟨rfl, by show nI (tc t) = _; rw [hT], a, b, han, hbn, ?_, by show nI (tc a) = _; rw [h25], ?_, by show nI (tc b) = _; rw [h26], ?_⟩))
                · rw [upd_n _ _ _ _ (by omega), upd_n _ _ _ _ (by omega), show 6 * cnt + 2 = 6 * cnt + 2 + 0 from rfl, upd_e]; exact PS_c (fun i hi => by rw [lC i (by omega), kC i hi]) (by omega) gP
                · rw [upd_n _ _ _ _ (by omega), show 6 * cnt + 3 = 6 * cnt + 2 + 1 from rfl, upd_e]; exact PS_c lC (by omega) kP
                · rw [show 6 * cnt + 4 = 6 * cnt + 2 + 2 from rfl, upd_e]; exact lP
              · rw [ex3, em3, pl_ob, pl_obv, if_pos (show nI 0 = 0 from rfl), m_o90B _ _ _ _ (by omega)]
                exact bad f s e' pt' sz' C' t2 lv2 cl' f1 f2
            · rw [if_neg h26, if_neg h26, pl_ob, pl_obv, if_pos (show nI 0 = 0 from rfl), Bsum _ _ _ hpb, pl_obv, m_o90B _ _ _ _ (by omega)]
              exact bad _ _ _ _ _ _ _ _ _ hpb (by omega)
          · rw [ex2, em2, pl_ob, pl_obv, if_pos (show nI 0 = 0 from rfl), q_mustB _ _ _ _ (by omega), pl_obv, Bsum _ _ _ f1, pl_obv, m_o90B _ _ _ _ (by omega)]
            exact bad f s e' pt' sz' C' t2 lv2 cl' f1 f2
        · rw [if_neg h25, if_neg h25, pl_ob, pl_obv, if_pos (show nI 0 = 0 from rfl), Bsum _ _ _ hpa, pl_obv, q_mustB _ _ _ _ (by omega), pl_obv, Bsum _ _ _ hpa, pl_obv, m_o90B _ _ _ _ (by omega)]
          exact bad _ _ _ _ _ _ _ _ _ hpa (by omega)
      · rw [ex, em, pl_ob, pl_obv, if_pos rfl, q_mustB _ _ _ _ (by omega), pl_obv, Bsum _ _ _ f1, pl_obv, q_mustB _ _ _ _ (by omega), pl_obv, Bsum _ _ _ f1, pl_obv, m_o90B _ _ _ _ (by omega)]
        exact bad f s e' pt' sz' C' t2 lv2 cl' f1 f2
    · -- fence
      rw [s27 hT, if_neg (show ¬ nI 2 = 3 by decide), show (0 : Int32) = nI 0 from rfl]
      rcases p_piece HH hc (w := 0) (by omega) cl1 (pt := pt) (sz := sz) fl C (show t + 1 ≤ n from htn) hpt (by omega) with ⟨a, pa, sa, Ca, ⟨g1, g2, g3, g4, g5⟩, ex, em, gC, gP⟩ | ⟨f, s, e', pt', sz', C', t2, lv2, cl', f1, f2, ex, em⟩
      · rw [ex, em, pl_ob, pl_obv, if_neg (show ¬ nI 1 = nI 0 by decide)]
        unfold f_X5_readOrderClause_37 f_X5_readOrderClause_60
        rw [if_neg (show ¬ nI 2 = 0 by decide), if_neg (show ¬ nI 2 = 1 by decide)]
        refine tail a pa sa Ca _ (by omega) g2 g3 (by omega) (by omega) gC (fun i hi => upd_n _ _ _ _ (by omega)) (by rw [upd_n _ _ _ _ (by omega)]; exact o7) (Or.inr (Or.inr (Or.inl ⟨rfl, by show nI (tc t) = _; rw [hT], by rw [upd_n _ _ _ _ (by omega)]; exact o5, by rw [upd_n _ _ _ _ (by omega)]; exact o6, ?_⟩)))
        rw [show 6 * cnt + 2 = 6 * cnt + 2 + 0 from rfl, upd_e]; exact gP
      · rw [ex, em, pl_ob, pl_obv, if_pos rfl, m_o90B _ _ _ _ (by omega)]
        exact bad f s e' pt' sz' C' t2 lv2 cl' f1 f2
    · -- pass
      rw [s28 hT, if_pos (show nI 3 = 3 from rfl)]
      unfold f_X5_readOrderClause_37 f_X5_readOrderClause_60
      rw [if_neg (show ¬ nI 3 = 0 by decide), if_neg (show ¬ nI 3 = 1 by decide)]
      exact tail (t + 1) pt sz C cl1 (by omega) htn hpt (by omega) (by omega) (fun _ _ => rfl) (fun _ _ => rfl) o7 (Or.inr (Or.inr (Or.inr ⟨rfl, by show nI (tc t) = _; rw [hT], o4, o5, o6, rfl⟩)))
  · have wk : (if 22 = tc t then nI 0 else if 24 = tc t then nI 1 else if 27 = tc t then nI 2 else if 28 = tc t then nI 3 else -1) = -1 := by
      rw [if_neg (by omega), if_neg (by omega), if_neg (by omega), if_neg (by omega)]
    rw [wk, if_pos rfl, r_fails, pl_ob]
    have mk : f_X9_readOrder N (qS M t pt NB) = some (qS M t pt (nI (P t))) := by
      unfold f_X9_readOrder
      rw [show (22 : Int32) = nI 22 from rfl, q_takes H ht _ 22 (by omega), if_neg (by omega), pl_ob, if_pos (show nI 0 = 0 from rfl), show (24 : Int32) = nI 24 from rfl, q_takes H ht _ 24 (by omega), if_neg (by omega), pl_ob, if_pos (show nI 0 = 0 from rfl), show (27 : Int32) = nI 27 from rfl, q_takes H ht _ 27 (by omega), if_neg (by omega), pl_ob, if_pos (show nI 0 = 0 from rfl), show (28 : Int32) = nI 28 from rfl, q_must H ht _ 28 (by omega), if_neg (by omega), pl_obv, m_o90B _ _ _ _ (by omega)]
    rw [mk]
    exact Or.inr ⟨P t, P t, E t, pt, sz, C, t, pt, cnt, cl, hp, by omega, rfl, rfl⟩
end P
end
