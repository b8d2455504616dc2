section
/-! a plain test, a test: both -/
section P
variable {N : Nat} {S : St} {V M : Vt} {n mode : Nat} {tc tv P E : Nat → Nat}
theorem wr_8 (c : Nat) : wr 8 c = if 8 = c then nI 0 else -1 := rfl
theorem wr_9 (c : Nat) : wr 9 c = if 140 = c then nI 0 else -1 := rfl
theorem wr_11 (c : Nat) : wr 11 c = if 160 = c then nI 0 else if 162 = c then nI 1 else if 161 = c then nI 2 else -1 := rfl
/-- how far the row of "not" goes -/
theorem nots (H : PE N S V M n mode tc tv P E) : ∀ k t, n ≤ t + k → t ≤ n → ∃ u, t ≤ u ∧ u ≤ n ∧ (∀ j, t ≤ j → j < u → tc j = 8) ∧ ¬ tc u = 8 := by
  intro k
  induction k with
  | zero =>
    intro t hk ht
    exact ⟨t, by omega, ht, fun j h1 h2 => by omega, by rw [show t = n by omega, H.2.2.2.1.1]; omega⟩
  | succ k ih =>
    intro t hk ht
    by_cases h : tc t = 8
    · obtain ⟨u, h1, h2, h3, h4⟩ := ih (t + 1) (by omega) (PE_lt H ht (by omega))
      refine ⟨u, by omega, h2, fun j h5 h6 => ?_, h4⟩
      by_cases hj : j = t
      · rw [hj]; exact h
      · exact h3 j (by omega) h6
    · exact ⟨t, by omega, ht, fun j h1 h2 => by omega, h⟩
theorem x_nots (H : PE N S V M n mode tc tv P E) (KR : Nat → Vt → Nat → Int32 → Option (Int32 × Vt)) {t u : Nat} (hu : u ≤ n) (h8 : ∀ j, t ≤ j → j < u → tc j = 8) (h9 : ¬ tc u = 8) (pt sz : Nat) (fl : Int32) (C : Nat → Int32) (a : Int32) : ∀ k i m, i + k = u - t → t ≤ u → k < m → f_X5_readPlain_2 N S KR 37 m (rS V (P (t + i)) (E (t + i)) pt sz fl C) a (nI i) = f_X5_readPlain_30 N S KR 37 (rS V (P u) (E u) pt sz fl C) a (nI (u - t)) := by
  obtain ⟨h4, L, hL1, hL2, h5⟩ := H.2.1
  intro k
  induction k with
  | zero =>
    intro i m hi htu hm
    obtain ⟨m, rfl⟩ : ∃ m', m = m' + 1 := ⟨m - 1, by omega⟩
    have e : t + i = u := by omega
    rw [f_X5_readPlain_2, rS_5, h5, e, show i = u - t by omega]
    by_cases hl : nI L ≤ nI (u - t)
    · rw [if_pos hl]
    · rw [if_neg hl, H.2.2.2.2.1 u hu _ _ _ _ 8 (by omega), wr_8, if_neg (fun q => h9 q.symm), pl_ob1, if_pos rfl]
  | succ k ih =>
    intro i m hi htu hm
    obtain ⟨m, rfl⟩ : ∃ m', m = m' + 1 := ⟨m - 1, by omega⟩
    have hn := H.1.1
    have e8 := h8 (t + i) (by omega) (by omega)
    rw [f_X5_readPlain_2, rS_5, h5, if_neg (by rw [nI_L (by omega) (by omega)]; omega), H.2.2.2.2.1 (t + i) (by omega) _ _ _ _ 8 (by omega), wr_8, if_pos e8.symm, pl_ob1, if_neg (by decide), H.2.2.2.2.2.2 (t + i) (by omega), pl_obv, nI_1, pl_bd]
    exact ih (i + 1) m (by omega) htu (by omega)
theorem m_nots (H : PE N S V M n mode tc tv P E) (KM : Nat → Vt → Int32 → Option Vt) {t u : Nat} (hu : u ≤ n) (h8 : ∀ j, t ≤ j → j < u → tc j = 8) (h9 : ¬ tc u = 8) (lv : Nat) (a : Int32) : ∀ k i m, i + k = u - t → t ≤ u → k + 1 < m → ∃ m', f_X9_readPlain_2 N KM m (qS M (t + i) lv NB) a (nI 1) = f_X9_readPlain_2 N KM (m' + 1) (qS M u lv NB) a (nI 0) := by
  intro k
  induction k with
  | zero =>
    intro i m hi htu hm
    obtain ⟨m, rfl⟩ : ∃ m', m = m' + 2 := ⟨m - 2, by omega⟩
    have e : t + i = u := by omega
    refine ⟨m, ?_⟩
    rw [e, f_X9_readPlain_2, if_neg (by decide), show (8 : Int32) = nI 8 from rfl, q_takes H hu _ 8 (by omega), if_neg h9, pl_ob]
  | succ k ih =>
    intro i m hi htu hm
    obtain ⟨m, rfl⟩ : ∃ m', m = m' + 1 := ⟨m - 1, by omega⟩
    have e8 := h8 (t + i) (by omega) (by omega)
    obtain ⟨m', e⟩ := ih (i + 1) m (by omega) htu (by omega)
    refine ⟨m', ?_⟩
    rw [f_X9_readPlain_2, if_neg (by decide), show (8 : Int32) = nI 8 from rfl, q_takes H (by omega) _ 8 (by omega), if_pos e8, pl_ob]
    exact e
/-- what a row of "not" puts at the end -/
theorem x_127 (KR : Nat → Vt → Nat → Int32 → Option (Int32 × Vt)) (s e pt sz k : Nat) (fl : Int32) (C : Nat → Int32) (hk : k < 1000) (hz : sz < 448) : f_X5_readPlain_127 N S KR 37 (rS V s e pt sz fl C) (nI k) = if k % 2 = 1 then some (nI 1, rS V s e pt (sz + 1) fl (upd C sz (nI 11))) else some (nI 1, rS V s e pt sz fl C) := by
  unfold f_X5_readPlain_127
  rw [lj 2, pk_rem (by omega) (by omega) (by omega)]
  by_cases h : k % 2 = 1
  · rw [if_pos (by rw [h]; rfl), if_pos h, show (11 : Int32) = nI 11 from rfl, show (0 : Int32) = nI 0 from rfl, r_put S V _ _ _ _ _ _ (by omega) (by omega) hz, pl_ob]; rfl
  · rw [if_neg (by rw [lj 1, nI_E (by omega) (by omega)]; exact h), if_neg h]; rfl
theorem p_plain (H : PE N S V M n mode tc tv P E) {dep : Nat} (hd : dep ≤ 8) (KR : Nat → Vt → Nat → Int32 → Option (Int32 × Vt)) (KM : Nat → Vt → Int32 → Option Vt)
    (hK : dep < 8 → ∀ t pt sz fl C, t ≤ n → pt ≤ 50 → sz + n ≤ t + 447 → RES n V M P E t sz fl C (KR 0 (rS V (P t) (E t) pt sz fl C) 37 (nI (dep + 1))) (KM 0 (qS M t pt NB) (nI (dep + 1))) (fun t' sz' C' => JT mode 0 C' sz sz' (fun i => nI (tc i)) (fun i => nI (tv i)) n t t' (4 + 2 * (8 - (dep + 1))) (4 * (9 - (dep + 1)))))
    {t pt sz : Nat} (fl : Int32) (C : Nat → Int32) (ht : t ≤ n) (hpt : pt ≤ 50) (hsz : sz + n ≤ t + 447) :
    RES n V M P E t sz fl C (f_X5_readPlain N S KR (rS V (P t) (E t) pt sz fl C) 37 (nI dep)) (f_X9_readPlain N KM (qS M t pt NB) (nI dep)) (fun t' sz' C' => JT mode 2 C' sz sz' (fun i => nI (tc i)) (fun i => nI (tv i)) n t t' (4 + 2 * (8 - dep)) (4 * (9 - dep) - 2)) := by
  have hn := H.1.1
  have hN := H.1.2.2
  obtain ⟨u, htu, hu, h8, h9⟩ := nots H (n - t) t (by omega) ht
  obtain ⟨m', em⟩ := m_nots H KM hu h8 h9 pt (nI dep) (u - t) 0 N (by omega) htu (by omega)
  have ex := x_nots H KR hu h8 h9 pt sz fl C (nI dep) (u - t) 0 N (by omega) htu (by omega)
  unfold f_X5_readPlain f_X9_readPlain
  rw [Nat.add_zero] at em ex
  rw [show (0 : Int32) = nI 0 from rfl, show (1 : Int32) = nI 1 from rfl, ex, em]
  obtain ⟨c400, c31, hp, e9, e10, e11⟩ := H.2.2.2.1.2 u hu
  have T8 : ∀ j, t ≤ j → j < u → (fun i => nI (tc i)) j = nI 8 := fun j h1 h2 => by show nI (tc j) = nI 8; rw [h8 j h1 h2]
  have Tu : ¬ (fun i => nI (tc i)) u = nI 8 := by show ¬ nI (tc u) = nI 8; rw [nI_E (by omega) (by omega)]; exact h9
  -- how a read plain test ends
  have fin : ∀ w pw szw Cw, u < w → w ≤ n → pw ≤ 50 → sz ≤ szw → szw + u ≤ sz + w → (∀ i, i < sz → Cw i = C i) → JT mode 3 Cw sz szw (fun i => nI (tc i)) (fun i => nI (tv i)) n u w (4 + 2 * (8 - dep)) (4 * (9 - dep) - 3) → RES n V M P E t sz fl C (f_X5_readPlain_127 N S KR 37 (rS V (P w) (E w) pw szw fl Cw) (nI (u - t))) (some (qS M w pw NB)) (fun t' sz' C' => JT mode 2 C' sz sz' (fun i => nI (tc i)) (fun i => nI (tv i)) n t t' (4 + 2 * (8 - dep)) (4 * (9 - dep) - 2)) := by
    intro w pw szw Cw hw hwn hpw hz1 hz2 hC hJ
    rw [x_127 KR _ _ _ _ _ _ _ (by omega) (by omega)]
    by_cases hodd : (u - t) % 2 = 1
    · rw [if_pos hodd]
      refine Or.inl ⟨w, pw, szw + 1, upd Cw szw (nI 11), ⟨by omega, hwn, hpw, by omega, by omega⟩, rfl, rfl, fun i hi => by rw [upd_n _ _ _ _ (by omega)]; exact hC i hi, ?_⟩
      exact JT_not hd htu T8 Tu (JT_c (fun i h1 h2 => upd_n _ _ _ _ (by omega)) hJ) (Or.inl ⟨hodd, upd_e _ _ _, rfl⟩)
    · rw [if_neg hodd]
      exact Or.inl ⟨w, pw, szw, Cw, ⟨by omega, hwn, hpw, hz1, by omega⟩, rfl, rfl, hC, JT_not hd htu T8 Tu hJ (Or.inr ⟨hodd, rfl⟩)⟩
  rw [f_X9_readPlain_2, if_pos (show nI 0 = 0 from rfl), q_fine, pl_ob1, if_neg (by decide), qS_19, pl_ck (by omega) (by omega), nI_cl (by omega), qS_2, e9, pl_bd]
  unfold f_X5_readPlain_30
  rw [H.2.2.2.2.1 u hu _ _ _ _ 9 (by omega), wr_9]
  have sg : f_X9_sign N 40 = some (nI 140) := rfl
  rw [sg, pl_ob1, pl_ob1]
  by_cases hb : tc u = 140
  · have hun := PE_lt H hu (by omega)
    rw [if_pos (show 140 = tc u from hb.symm), if_neg (by decide), if_pos (show nI (tc u) = nI 140 by rw [hb])]
    by_cases h8' : dep = 8
    · subst h8'
      rw [if_neg (by decide), r_fails, pl_ob, if_pos (show nI 8 = 8 from rfl), q_faults H hu, pl_obv]
      unfold f_X9_readPlain_53
      rw [q_fineB _ _ _ _ (by omega)]
      exact Or.inr ⟨P u, P u, E u, pt, sz, C, u, pt, hp, by omega, rfl, rfl⟩
    · rw [if_pos (by rw [lj 8, nI_T (by omega) (by omega)]; omega), if_neg (by rw [lj 8, nI_E (by omega) (by omega)]; exact h8'), H.2.2.2.2.2.2 u hun, pl_obv]
      unfold f_X9_readPlain_53
      rw [q_fine, pl_ob1, if_neg (by decide), qS_19, nI_1 dep, nI_1 u, qS_f19, pl_bd]
      rcases hK (by omega) (u + 1) pt sz fl C hun hpt (by omega) with ⟨t1, pt1, sz1, C1, ⟨g1, g2, g3, g4, g5⟩, ex, em, gC, gJ⟩ | ⟨f, s, e, pt1, sz1, C1, t2, lv2, f1, f2, ex, em⟩
      · have hp1 := (H.2.2.2.1.2 t1 g2).2.2.1
        have sg2 : f_X9_sign N 41 = some (nI 141) := rfl
        rw [ex, em, pl_ob, pl_obv, if_neg (by decide), x_sign H g2 _ _ _ _ 10 141 (by omega) (fun x => rfl) (by omega), sg2, pl_ob1, q_must H g2 _ 141 (by omega), pl_obv]
        by_cases h93 : tc t1 = 141
        · have ht1 := PE_lt H g2 (by omega)
          rw [if_pos h93, if_pos h93, pl_ob, if_neg (by decide)]
          exact fin (t1 + 1) pt1 sz1 C1 (by omega) ht1 g3 g4 (by omega) gC (JT_br (by omega) gJ (by show nI (tc u) = _; rw [hb]) ht1)
        · rw [if_neg h93, if_neg h93, pl_ob, if_pos (show nI 0 = 0 from rfl)]
          exact Or.inr ⟨P t1, P t1, E t1, pt1, sz1, C1, t1, pt1, hp1, by omega, rfl, rfl⟩
      · have sg2 : f_X9_sign N 41 = some (nI 141) := rfl
        rw [ex, em, pl_ob, pl_obv, if_pos (show nI 0 = 0 from rfl), sg2, pl_ob1, q_mustB _ _ _ _ (by omega), pl_obv]
        exact Or.inr ⟨f, s, e, pt1, sz1, C1, t2, lv2, f1, f2, rfl, rfl⟩
  · rw [if_neg (show ¬ 140 = tc u from fun q => hb q.symm), if_pos rfl, if_neg (by rw [nI_E (by omega) (by omega)]; exact hb)]
    have s60 : f_X9_sign N 60 = some (nI 160) := rfl
    have s62 : f_X9_sign N 62 = some (nI 162) := rfl
    have s61 : f_X9_sign N 61 = some (nI 161) := rfl
    rw [s60, s62, s61]
    rcases p_sum H 40 0 dep (by omega) hd (by omega) u pt sz fl C hu hpt (by omega) with ⟨t1, pt1, sz1, C1, ⟨g1, g2, g3, g4, g5⟩, ex, em, gC, gJ⟩ | ⟨f, s, e, pt1, sz1, C1, t2, lv2, f1, f2, ex, em⟩
    · obtain ⟨c401, -, hp1, -, -, -⟩ := H.2.2.2.1.2 t1 g2
      rw [ex, em, pl_ob, pl_obv, if_neg (by decide), H.2.2.2.2.1 t1 g2 _ _ _ _ 11 (by omega), wr_11, pl_ob1, pl_ob1, q_takes H g2 _ 160 (by omega)]
      by_cases hop : tc t1 = 160 ∨ tc t1 = 162 ∨ tc t1 = 161
      · have ht1 := PE_lt H g2 (by omega)
        obtain ⟨k, hk, hs⟩ : ∃ k, k < 3 ∧ ((k = 0 ∧ tc t1 = 160) ∨ (k = 1 ∧ tc t1 = 162) ∨ (k = 2 ∧ tc t1 = 161)) := by
          rcases hop with h | h | h
          · exact ⟨0, by omega, Or.inl ⟨rfl, h⟩⟩
          · exact ⟨1, by omega, Or.inr (Or.inl ⟨rfl, h⟩)⟩
          · exact ⟨2, by omega, Or.inr (Or.inr ⟨rfl, h⟩)⟩
        have wk : (if 160 = tc t1 then nI 0 else if 162 = tc t1 then nI 1 else if 161 = tc t1 then nI 2 else -1) = nI k := by
          rcases hs with ⟨rfl, h⟩ | ⟨rfl, h⟩ | ⟨rfl, h⟩ <;> rw [h] <;> rfl
        have mk : (ob (some (if tc t1 = 160 then (nI 1, qS M (t1 + 1) pt1 NB) else (nI 0, qS M t1 pt1 NB))) fun r59 V61 => if r59 = 0 then ob1 (some (nI 162)) fun r66 => ob (f_X9_takes0 N V61 r66) fun r68 V70 => if r68 = 0 then ob1 (some (nI 161)) fun r72 => obv (f_X9_must N V70 r72) fun V76 => f_X9_readPlain_128 N KM V76 (nI dep) else f_X9_readPlain_128 N KM V70 (nI dep) else f_X9_readPlain_128 N KM V61 (nI dep)) = f_X9_readPlain_128 N KM (qS M (t1 + 1) pt1 NB) (nI dep) := by
          rcases hs with ⟨-, h⟩ | ⟨-, h⟩ | ⟨-, h⟩
          · rw [if_pos h, pl_ob, if_neg (by decide)]
          · rw [if_neg (by omega), pl_ob, if_pos (show nI 0 = 0 from rfl), pl_ob1, q_takes H g2 _ 162 (by omega), if_pos h, pl_ob, if_neg (by decide)]
          · rw [if_neg (by omega), pl_ob, if_pos (show nI 0 = 0 from rfl), pl_ob1, q_takes H g2 _ 162 (by omega), if_neg (by omega), pl_ob, if_pos (show nI 0 = 0 from rfl), pl_ob1, q_must H g2 _ 161 (by omega), if_pos h, pl_obv]
        rw [wk, mk, if_neg (m1_nI (by omega)), H.2.2.2.2.2.2 t1 ht1, pl_obv]
        unfold f_X9_readPlain_128
        rcases p_sum H 40 0 dep (by omega) hd (by omega) (t1 + 1) pt1 sz1 fl C1 ht1 g3 (by omega) with ⟨w, pw, szw, Cw, ⟨k1, k2, k3, k4, k5⟩, ex2, em2, kC, kJ⟩ | ⟨f, s, e, pt2, sz2, C2, t2, lv2, f1, f2, ex2, em2⟩
        · rw [ex2, em2, pl_ob, pl_obv, if_neg (by decide), show (8 : Int32) = nI 8 from rfl, nI_add, show (0 : Int32) = nI 0 from rfl, r_put S V _ _ _ _ _ _ (by omega) (by omega) (by omega), pl_ob]
          have cu : ∀ i, i < szw → upd Cw szw (nI (8 + k + 256 * 0)) i = Cw i := fun i hi => upd_n _ _ _ _ (by omega)
          refine fin w pw (szw + 1) (upd Cw szw (nI (8 + k + 256 * 0))) (by omega) k2 k3 (by omega) (by omega) (fun i hi => by rw [cu i (by omega), kC i (by omega), gC i hi]) ?_
          refine JT_cmp (s := 8 + k) hd (JS_c (fun i h1 h2 => by rw [cu i (by omega), kC i h2]) gJ) (JS_c (fun i h1 h2 => cu i h2) kJ) (by show ¬ nI (tc u) = nI 140; rw [nI_E (by omega) (by omega)]; exact hb) (upd_e _ _ _) ?_
          rcases hs with ⟨rfl, h⟩ | ⟨rfl, h⟩ | ⟨rfl, h⟩
          · exact Or.inl ⟨rfl, by show nI (tc t1) = _; rw [h]⟩
          · exact Or.inr (Or.inl ⟨rfl, by show nI (tc t1) = _; rw [h]⟩)
          · exact Or.inr (Or.inr ⟨rfl, by show nI (tc t1) = _; rw [h]⟩)
        · rw [ex2, em2, pl_ob, pl_obv, if_pos (show nI 0 = 0 from rfl)]
          exact Or.inr ⟨f, s, e, pt2, sz2, C2, t2, lv2, f1, f2, rfl, rfl⟩
      · rw [if_neg (show ¬ 160 = tc t1 by omega), if_neg (show ¬ 162 = tc t1 by omega), if_neg (show ¬ 161 = tc t1 by omega), if_pos rfl, r_fails, pl_ob, if_neg (show ¬ tc t1 = 160 by omega), pl_ob, if_pos (show nI 0 = 0 from rfl), pl_ob1, q_takes H g2 _ 162 (by omega), if_neg (show ¬ tc t1 = 162 by omega), pl_ob, if_pos (show nI 0 = 0 from rfl), pl_ob1, q_must H g2 _ 161 (by omega), if_neg (show ¬ tc t1 = 161 by omega), pl_obv]
        unfold f_X9_readPlain_128
        rw [p_sumB M 37 _ _ _ (by omega) (by omega)]
        exact Or.inr ⟨P t1, P t1, E t1, pt1, sz1, C1, t1, pt1, hp1, by omega, rfl, rfl⟩
    · rw [ex, em, pl_ob, pl_obv, if_pos (show nI 0 = 0 from rfl), pl_ob1, q_takesB _ _ _ _ (by omega), pl_ob, if_pos (show nI 0 = 0 from rfl), pl_ob1, q_takesB _ _ _ _ (by omega), pl_ob, if_pos (show nI 0 = 0 from rfl), pl_ob1, q_mustB _ _ _ _ (by omega), pl_obv]
      unfold f_X9_readPlain_128
      rw [p_sumB M 37 _ _ _ (by omega) (by omega)]
      exact Or.inr ⟨f, s, e, pt1, sz1, C1, t2, lv2, f1, f2, rfl, rfl⟩
theorem p_test (H : PE N S V M n mode tc tv P E) : ∀ d lev dep, lev ≤ 2 → dep ≤ 8 → 3 * (9 - dep) ≤ d + lev → ∀ t pt sz fl C, t ≤ n → pt ≤ 50 → sz + n ≤ t + 447 →
    RES n V M P E t sz fl C (g_X5_readTest N S d lev (rS V (P t) (E t) pt sz fl C) 37 (nI dep)) (g_X9_readTest N d lev (qS M t pt NB) (nI dep)) (fun t' sz' C' => JT mode lev C' sz sz' (fun i => nI (tc i)) (fun i => nI (tv i)) n t t' (4 + 2 * (8 - dep)) (4 * (9 - dep) - lev)) := by
  intro d
  induction d with
  | zero => intro lev dep hl hd h; omega
  | succ d ih =>
    intro lev dep hl hd hdd t pt sz fl C ht hpt hsz
    have hn := H.1.1
    have hN := H.1.2.2
    rcases (by omega : lev = 0 ∨ lev = 1 ∨ lev = 2) with rfl | rfl | rfl
    · have hK : ∀ t pt sz fl C, t ≤ n → pt ≤ 50 → sz + n ≤ t + 447 → RES n V M P E t sz fl C (g_X5_readTest N S d 1 (rS V (P t) (E t) pt sz fl C) 37 (nI dep)) (g_X9_readTest N d 1 (qS M t pt NB) (nI dep)) (fun t' sz' C' => JT mode 1 C' sz sz' (fun i => nI (tc i)) (fun i => nI (tv i)) n t t' (4 + 2 * (8 - dep)) (4 * (9 - dep) - 1)) := fun t pt sz fl C h1 h2 h3 => ih 1 dep (by omega) hd (by omega) t pt sz fl C h1 h2 h3
      show RES n V M P E t sz fl C (f_X5_readTest N S (g_X5_readTest N S d) (rS V (P t) (E t) pt sz fl C) 37 (nI dep)) (f_X9_readTest N (g_X9_readTest N d) (qS M t pt NB) (nI dep)) _
      unfold f_X5_readTest f_X9_readTest
      rcases hK t pt sz fl C ht hpt hsz with ⟨t1, pt1, sz1, C1, ⟨g1, g2, g3, g4, g5⟩, ex, em, gC, gJ⟩ | ⟨f, s, e, pt1, sz1, C1, t2, lv2, f1, f2, ex, em⟩
      · rw [ex, em, pl_ob, pl_obv, show (0 : Int32) = nI 0 from rfl]
        exact l_Test H hd _ _ hK t sz fl C (n - t1) t1 0 pt1 sz1 C1 (by omega) g2 (by omega) g1 g3 g4 g5 (by omega) gC (JTo_first gJ) N N (by omega) (by omega)
      · obtain ⟨m, hm⟩ : ∃ m, N = m + 1 := ⟨N - 1, by omega⟩
        rw [ex, em, pl_ob, pl_obv]
        have z1 : f_X5_readTest_8 N S (g_X5_readTest N S d) 37 N (rS V s e pt1 sz1 (nI f) C1) (nI dep) (nI 0) 0 = some (nI 0, rS V s e pt1 sz1 (nI f) C1) := by
          have := x_Test0 (N := N) (S := S) (g_X5_readTest N S d) m (rS V s e pt1 sz1 (nI f) C1) (nI dep) 0
          rw [← hm] at this; exact this
        have z2 : f_X9_readTest_5 N (g_X9_readTest N d) N (qS M t2 lv2 (nI f)) (nI dep) = some (qS M t2 lv2 (nI f)) := by
          have := m_TestB (N := N) (M := M) (g_X9_readTest N d) m t2 lv2 f (by omega) (nI dep)
          rw [← hm] at this; exact this
        rw [z1, z2]
        exact Or.inr ⟨f, s, e, pt1, sz1, C1, t2, lv2, f1, f2, rfl, rfl⟩
    · have hK : ∀ t pt sz fl C, t ≤ n → pt ≤ 50 → sz + n ≤ t + 447 → RES n V M P E t sz fl C (g_X5_readTest N S d 2 (rS V (P t) (E t) pt sz fl C) 37 (nI dep)) (g_X9_readTest N d 2 (qS M t pt NB) (nI dep)) (fun t' sz' C' => JT mode 2 C' sz sz' (fun i => nI (tc i)) (fun i => nI (tv i)) n t t' (4 + 2 * (8 - dep)) (4 * (9 - dep) - 2)) := fun t pt sz fl C h1 h2 h3 => ih 2 dep (by omega) hd (by omega) t pt sz fl C h1 h2 h3
      show RES n V M P E t sz fl C (f_X5_readBoth N S (g_X5_readTest N S d) (rS V (P t) (E t) pt sz fl C) 37 (nI dep)) (f_X9_readBoth N (g_X9_readTest N d) (qS M t pt NB) (nI dep)) _
      unfold f_X5_readBoth f_X9_readBoth
      rcases hK t pt sz fl C ht hpt hsz with ⟨t1, pt1, sz1, C1, ⟨g1, g2, g3, g4, g5⟩, ex, em, gC, gJ⟩ | ⟨f, s, e, pt1, sz1, C1, t2, lv2, f1, f2, ex, em⟩
      · rw [ex, em, pl_ob, pl_obv, show (0 : Int32) = nI 0 from rfl]
        exact l_Both H hd _ _ hK t sz fl C (n - t1) t1 0 pt1 sz1 C1 (by omega) g2 (by omega) g1 g3 g4 g5 (by omega) gC (JTa_first gJ) N N (by omega) (by omega)
      · obtain ⟨m, hm⟩ : ∃ m, N = m + 1 := ⟨N - 1, by omega⟩
        rw [ex, em, pl_ob, pl_obv]
        have z1 : f_X5_readBoth_8 N S (g_X5_readTest N S d) 37 N (rS V s e pt1 sz1 (nI f) C1) (nI dep) (nI 0) 0 = some (nI 0, rS V s e pt1 sz1 (nI f) C1) := by
          have := x_Both0 (N := N) (S := S) (g_X5_readTest N S d) m (rS V s e pt1 sz1 (nI f) C1) (nI dep) 0
          rw [← hm] at this; exact this
        have z2 : f_X9_readBoth_5 N (g_X9_readTest N d) N (qS M t2 lv2 (nI f)) (nI dep) = some (qS M t2 lv2 (nI f)) := by
          have := m_BothB (N := N) (M := M) (g_X9_readTest N d) m t2 lv2 f (by omega) (nI dep)
          rw [← hm] at this; exact this
        rw [z1, z2]
        exact Or.inr ⟨f, s, e, pt1, sz1, C1, t2, lv2, f1, f2, rfl, rfl⟩
    · show RES n V M P E t sz fl C (f_X5_readPlain N S (g_X5_readTest N S d) (rS V (P t) (E t) pt sz fl C) 37 (nI dep)) (f_X9_readPlain N (g_X9_readTest N d) (qS M t pt NB) (nI dep)) _
      exact p_plain H hd _ _ (fun h8 t pt sz fl C h1 h2 h3 => ih 0 (dep + 1) (by omega) (by omega) (by omega) t pt sz fl C h1 h2 h3) fl C ht hpt hsz
end P
end
