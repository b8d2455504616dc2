section
/-! rows of "or" and "and": both -/
section P
variable {N : Nat} {S : St} {V M : Vt} {n mode : Nat} {tc tv P E : Nat → Nat}
theorem wr_13 (c : Nat) : wr 13 c = if 6 = c then nI 0 else -1 := rfl
theorem m_TestB (KM : Nat → Vt → Int32 → Option Vt) (m t lv b : Nat) (hb : b < 2147483648) (a : Int32) : f_X9_readTest_5 N KM (m + 1) (qS M t lv (nI b)) a = some (qS M t lv (nI b)) := by
  rw [f_X9_readTest_5, q_takesB M t lv b hb, pl_ob, if_pos (show nI 0 = 0 from rfl)]
theorem x_Test0 (KR : Nat → Vt → Nat → Int32 → Option (Int32 × Vt)) (m : Nat) (Z : Vt) (a i : Int32) : f_X5_readTest_8 N S KR 37 (m + 1) Z a (nI 0) i = some (nI 0, Z) := by
  rw [f_X5_readTest_8]
  by_cases h : Z.1 37 5 ≤ i
  · rw [if_pos h]; rfl
  · rw [if_neg h]; rfl
theorem l_Test (H : PE N S V M n mode tc tv P E) {dep : Nat} (hd : dep ≤ 8) (KR : Nat → Vt → Nat → Int32 → Option (Int32 × Vt)) (KM : Nat → Vt → Int32 → Option Vt)
    (hK : ∀ t pt sz fl C, t ≤ n → pt ≤ 50 → sz + n ≤ t + 447 → RES n V M P E t sz fl C (KR 1 (rS V (P t) (E t) pt sz fl C) 37 (nI dep)) (KM 1 (qS M t pt NB) (nI dep)) (fun t' sz' C' => JT mode 1 C' sz sz' (fun i => nI (tc i)) (fun i => nI (tv i)) n t t' (4 + 2 * (8 - dep)) (4 * (9 - dep) - 1)))
    (t0 sz0 : Nat) (fl : Int32) (C0 : Nat → Int32) : ∀ k t i pt sz C, n ≤ t + k → t ≤ n → i < t → t0 < t → pt ≤ 50 → sz0 ≤ sz → sz + t0 ≤ sz0 + t → sz + n ≤ t + 447 → (∀ j, j < sz0 → C j = C0 j) → JTo mode C sz0 sz (fun i => nI (tc i)) (fun i => nI (tv i)) n t0 t dep → ∀ m m2, k < m → k < m2 →
      RES n V M P E t0 sz0 fl C0 (f_X5_readTest_8 N S KR 37 m (rS V (P t) (E t) pt sz fl C) (nI dep) (nI 1) (nI i)) (f_X9_readTest_5 N KM m2 (qS M t pt NB) (nI dep)) (fun t' sz' C' => JT mode 0 C' sz0 sz' (fun i => nI (tc i)) (fun i => nI (tv i)) n t0 t' (4 + 2 * (8 - dep)) (4 * (9 - dep))) := by
  intro k
  induction k with
  | zero =>
    intro t i pt sz C hk ht hi ht0 hpt hs0 hst hsz hC hJ m m2 hm hm2
    obtain ⟨m, rfl⟩ : ∃ m', m = m' + 1 := ⟨m - 1, by omega⟩
    obtain ⟨m2, rfl⟩ : ∃ m', m2 = m' + 1 := ⟨m2 - 1, by omega⟩
    have e : t = n := by omega
    have z : tc t = 0 := by rw [e]; exact H.2.2.2.1.1
    have ct : ctk (fun i => nI (tc i)) n t = nI 0 := by rw [ctk, if_neg (by omega)]
    obtain ⟨h4, L, hL1, hL2, h5⟩ := H.2.1
    refine Or.inl ⟨t, pt, sz, C, ⟨ht0, ht, hpt, hs0, hst⟩, ?_, ?_, hC, JTo_done hd hJ (by rw [ct]; decide)⟩
    · rw [f_X5_readTest_8, rS_5, h5]
      by_cases hl : nI L ≤ nI i
      · rw [if_pos hl]; rfl
      · rw [if_neg hl, if_neg (by decide), H.2.2.2.2.1 t ht _ _ _ _ 13 (by omega), z, pl_ob1, if_pos (by decide)]; rfl
    · rw [f_X9_readTest_5, show (6 : Int32) = nI 6 from rfl, q_takes H ht _ 6 (by omega), z, if_neg (by omega), pl_ob, if_pos (show nI 0 = 0 from rfl)]
  | succ k ih =>
    intro t i pt sz C hk ht hi ht0 hpt hs0 hst hsz hC hJ m m2 hm hm2
    obtain ⟨m, rfl⟩ : ∃ m', m = m' + 1 := ⟨m - 1, by omega⟩
    obtain ⟨m2, rfl⟩ : ∃ m', m2 = m' + 1 := ⟨m2 - 1, by omega⟩
    obtain ⟨h4, L, hL1, hL2, h5⟩ := H.2.1
    have hn := H.1.1
    have c400 := (H.2.2.2.1.2 t ht).1
    by_cases hop : tc t = 6
    · have htn : t < n := PE_lt H ht (by omega)
      have w : wr 13 (tc t) = nI 0 := by rw [hop]; rfl
      have mo : f_X9_readTest_5 N KM (m2 + 1) (qS M t pt NB) (nI dep) = obv (KM 1 (qS M (t + 1) pt NB) (nI dep)) (fun Z => f_X9_readTest_5 N KM m2 Z (nI dep)) := by
        rw [f_X9_readTest_5, show (6 : Int32) = nI 6 from rfl, q_takes H ht _ 6 (by omega), if_pos hop, pl_ob, if_neg (by decide)]
      have xo : f_X5_readTest_8 N S KR 37 (m + 1) (rS V (P t) (E t) pt sz fl C) (nI dep) (nI 1) (nI i) = ob (KR 1 (rS V (P (t + 1)) (E (t + 1)) pt (sz + 1) fl (upd C sz (nI 13))) 37 (nI dep)) (fun r36 V38 => obv (f_X5_land N S V38 37 (nI sz)) (fun V41 => f_X5_readTest_8 N S KR 37 m V41 (nI dep) r36 (nI (i + 1)))) := by
        rw [f_X5_readTest_8, rS_5, h5, if_neg (by rw [nI_L (by omega) (by omega)]; omega), if_neg (by decide), H.2.2.2.2.1 t ht _ _ _ _ 13 (by omega), w, pl_ob1, if_neg (m1_nI (by omega)), H.2.2.2.2.2.2 t htn, pl_obv, show (13 : Int32) = nI 13 from rfl, show (0 : Int32) = nI 0 from rfl, r_put S V _ _ _ _ _ _ (by omega) (by omega) (by omega), pl_ob]
        simp only [pl_bd, nI_1]
      rw [mo, xo]
      rcases hK (t + 1) pt (sz + 1) fl (upd C sz (nI 13)) htn hpt (by omega) with ⟨t1, pt1, sz1, C1, ⟨g1, g2, g3, g4, g5⟩, ex, em, gC, gJ⟩ | ⟨f, s, e, pt1, sz1, C1, t2, lv2, f1, f2, ex, em⟩
      · have c1 : C1 sz = nI 13 := by rw [gC sz (by omega), upd_e]
        rw [ex, em, pl_ob, pl_obv, r_land S V _ _ _ _ _ _ (by omega) (by omega) (by omega) c1, pl_obv]
        have cu : ∀ j, j ≠ sz → upd C1 sz (nI (13 + 256 * sz1)) j = C1 j := fun j hj => upd_n _ _ _ _ hj
        have cd : ∀ j, j < sz → C1 j = C j := fun j hj => by rw [gC j (by omega), upd_n _ _ _ _ (by omega)]
        refine ih t1 (i + 1) pt1 sz1 (upd C1 sz (nI (13 + 256 * sz1))) (by omega) g2 (by omega) (by omega) g3 (by omega) (by omega) (by omega) (fun j hj => ?_) ?_ m m2 (by omega) (by omega)
        · rw [cu j (by omega), cd j (by omega), hC j hj]
        · refine JTo_step (u := t) (q := sz) (r := sz1) (by omega) (JTo_c (fun j h1 h2 => ?_) hJ) (JT_c (fun j h1 h2 => cu j (by omega)) gJ) (upd_e _ _ _) (by rw [hop])
          rw [cu j (by omega), cd j (by omega)]
      · rw [ex, em, pl_ob, pl_obv]
        obtain ⟨m, rfl⟩ : ∃ m', m = m' + 1 := ⟨m - 1, by omega⟩
        obtain ⟨m2, rfl⟩ : ∃ m', m2 = m' + 1 := ⟨m2 - 1, by omega⟩
        obtain ⟨C2, ep⟩ := r_landA (N := N) S V s e pt1 sz1 (nI f) C1 sz f2 (by omega)
        rw [ep, pl_obv, x_Test0, m_TestB KM m2 t2 lv2 f (by omega)]
        exact Or.inr ⟨f, s, e, pt1, sz1, C2, t2, lv2, f1, f2, rfl, rfl⟩
    · have ct : ctk (fun i => nI (tc i)) n t = nI (tc t) := by
        unfold ctk
        by_cases h : t < n
        · rw [if_pos h]
        · rw [if_neg h, show t = n by omega, H.2.2.2.1.1]
      have w : wr 13 (tc t) = -1 := by
        rw [wr_13, if_neg (by omega)]
      refine Or.inl ⟨t, pt, sz, C, ⟨ht0, ht, hpt, hs0, hst⟩, ?_, ?_, hC, JTo_done hd hJ (by rw [ct, nI_E (by omega) (by omega)]; omega)⟩
      · rw [f_X5_readTest_8, rS_5, h5]
        by_cases hl : nI L ≤ nI i
        · rw [if_pos hl]; rfl
        · rw [if_neg hl, if_neg (by decide), H.2.2.2.2.1 t ht _ _ _ _ 13 (by omega), w, pl_ob1, if_pos rfl]; rfl
      · rw [f_X9_readTest_5, show (6 : Int32) = nI 6 from rfl, q_takes H ht _ 6 (by omega), if_neg hop, pl_ob, if_pos (show nI 0 = 0 from rfl)]
theorem wr_12 (c : Nat) : wr 12 c = if 7 = c then nI 0 else -1 := rfl
theorem m_BothB (KM : Nat → Vt → Int32 → Option Vt) (m t lv b : Nat) (hb : b < 2147483648) (a : Int32) : f_X9_readBoth_5 N KM (m + 1) (qS M t lv (nI b)) a = some (qS M t lv (nI b)) := by
  rw [f_X9_readBoth_5, q_takesB M t lv b hb, pl_ob, if_pos (show nI 0 = 0 from rfl)]
theorem x_Both0 (KR : Nat → Vt → Nat → Int32 → Option (Int32 × Vt)) (m : Nat) (Z : Vt) (a i : Int32) : f_X5_readBoth_8 N S KR 37 (m + 1) Z a (nI 0) i = some (nI 0, Z) := by
  rw [f_X5_readBoth_8]
  by_cases h : Z.1 37 5 ≤ i
  · rw [if_pos h]; rfl
  · rw [if_neg h]; rfl
theorem l_Both (H : PE N S V M n mode tc tv P E) {dep : Nat} (hd : dep ≤ 8) (KR : Nat → Vt → Nat → Int32 → Option (Int32 × Vt)) (KM : Nat → Vt → Int32 → Option Vt)
    (hK : ∀ t pt sz fl C, t ≤ n → pt ≤ 50 → sz + n ≤ t + 447 → RES n V M P E t sz fl C (KR 2 (rS V (P t) (E t) pt sz fl C) 37 (nI dep)) (KM 2 (qS M t pt NB) (nI dep)) (fun t' sz' C' => JT mode 2 C' sz sz' (fun i => nI (tc i)) (fun i => nI (tv i)) n t t' (4 + 2 * (8 - dep)) (4 * (9 - dep) - 2)))
    (t0 sz0 : Nat) (fl : Int32) (C0 : Nat → Int32) : ∀ k t i pt sz C, n ≤ t + k → t ≤ n → i < t → t0 < t → pt ≤ 50 → sz0 ≤ sz → sz + t0 ≤ sz0 + t → sz + n ≤ t + 447 → (∀ j, j < sz0 → C j = C0 j) → JTa mode C sz0 sz (fun i => nI (tc i)) (fun i => nI (tv i)) n t0 t dep → ∀ m m2, k < m → k < m2 →
      RES n V M P E t0 sz0 fl C0 (f_X5_readBoth_8 N S KR 37 m (rS V (P t) (E t) pt sz fl C) (nI dep) (nI 1) (nI i)) (f_X9_readBoth_5 N KM m2 (qS M t pt NB) (nI dep)) (fun t' sz' C' => JT mode 1 C' sz0 sz' (fun i => nI (tc i)) (fun i => nI (tv i)) n t0 t' (4 + 2 * (8 - dep)) (4 * (9 - dep) - 1)) := by
  intro k
  induction k with
  | zero =>
    intro t i pt sz C hk ht hi ht0 hpt hs0 hst hsz hC hJ m m2 hm hm2
    obtain ⟨m, rfl⟩ : ∃ m', m = m' + 1 := ⟨m - 1, by omega⟩
    obtain ⟨m2, rfl⟩ : ∃ m', m2 = m' + 1 := ⟨m2 - 1, by omega⟩
    have e : t = n := by omega
    have z : tc t = 0 := by rw [e]; exact H.2.2.2.1.1
    have ct : ctk (fun i => nI (tc i)) n t = nI 0 := by rw [ctk, if_neg (by omega)]
    obtain ⟨h4, L, hL1, hL2, h5⟩ := H.2.1
    refine Or.inl ⟨t, pt, sz, C, ⟨ht0, ht, hpt, hs0, hst⟩, ?_, ?_, hC, JTa_done hd hJ (by rw [ct]; decide)⟩
    · rw [f_X5_readBoth_8, rS_5, h5]
      by_cases hl : nI L ≤ nI i
      · rw [if_pos hl]; rfl
      · rw [if_neg hl, if_neg (by decide), H.2.2.2.2.1 t ht _ _ _ _ 12 (by omega), z, pl_ob1, if_pos (by decide)]; rfl
    · rw [f_X9_readBoth_5, show (7 : Int32) = nI 7 from rfl, q_takes H ht _ 7 (by omega), z, if_neg (by omega), pl_ob, if_pos (show nI 0 = 0 from rfl)]
  | succ k ih =>
    intro t i pt sz C hk ht hi ht0 hpt hs0 hst hsz hC hJ m m2 hm hm2
    obtain ⟨m, rfl⟩ : ∃ m', m = m' + 1 := ⟨m - 1, by omega⟩
    obtain ⟨m2, rfl⟩ : ∃ m', m2 = m' + 1 := ⟨m2 - 1, by omega⟩
    obtain ⟨h4, L, hL1, hL2, h5⟩ := H.2.1
    have hn := H.1.1
    have c400 := (H.2.2.2.1.2 t ht).1
    by_cases hop : tc t = 7
    · have htn : t < n := PE_lt H ht (by omega)
      have w : wr 12 (tc t) = nI 0 := by rw [hop]; rfl
      have mo : f_X9_readBoth_5 N KM (m2 + 1) (qS M t pt NB) (nI dep) = obv (KM 2 (qS M (t + 1) pt NB) (nI dep)) (fun Z => f_X9_readBoth_5 N KM m2 Z (nI dep)) := by
        rw [f_X9_readBoth_5, show (7 : Int32) = nI 7 from rfl, q_takes H ht _ 7 (by omega), if_pos hop, pl_ob, if_neg (by decide)]
      have xo : f_X5_readBoth_8 N S KR 37 (m + 1) (rS V (P t) (E t) pt sz fl C) (nI dep) (nI 1) (nI i) = ob (KR 2 (rS V (P (t + 1)) (E (t + 1)) pt (sz + 1) fl (upd C sz (nI 12))) 37 (nI dep)) (fun r36 V38 => obv (f_X5_land N S V38 37 (nI sz)) (fun V41 => f_X5_readBoth_8 N S KR 37 m V41 (nI dep) r36 (nI (i + 1)))) := by
        rw [f_X5_readBoth_8, rS_5, h5, if_neg (by rw [nI_L (by omega) (by omega)]; omega), if_neg (by decide), H.2.2.2.2.1 t ht _ _ _ _ 12 (by omega), w, pl_ob1, if_neg (m1_nI (by omega)), H.2.2.2.2.2.2 t htn, pl_obv, show (12 : Int32) = nI 12 from rfl, show (0 : Int32) = nI 0 from rfl, r_put S V _ _ _ _ _ _ (by omega) (by omega) (by omega), pl_ob]
        simp only [pl_bd, nI_1]
      rw [mo, xo]
      rcases hK (t + 1) pt (sz + 1) fl (upd C sz (nI 12)) htn hpt (by omega) with ⟨t1, pt1, sz1, C1, ⟨g1, g2, g3, g4, g5⟩, ex, em, gC, gJ⟩ | ⟨f, s, e, pt1, sz1, C1, t2, lv2, f1, f2, ex, em⟩
      · have c1 : C1 sz = nI 12 := by rw [gC sz (by omega), upd_e]
        rw [ex, em, pl_ob, pl_obv, r_land S V _ _ _ _ _ _ (by omega) (by omega) (by omega) c1, pl_obv]
        have cu : ∀ j, j ≠ sz → upd C1 sz (nI (12 + 256 * sz1)) j = C1 j := fun j hj => upd_n _ _ _ _ hj
        have cd : ∀ j, j < sz → C1 j = C j := fun j hj => by rw [gC j (by omega), upd_n _ _ _ _ (by omega)]
        refine ih t1 (i + 1) pt1 sz1 (upd C1 sz (nI (12 + 256 * sz1))) (by omega) g2 (by omega) (by omega) g3 (by omega) (by omega) (by omega) (fun j hj => ?_) ?_ m m2 (by omega) (by omega)
        · rw [cu j (by omega), cd j (by omega), hC j hj]
        · refine JTa_step (u := t) (q := sz) (r := sz1) (by omega) (JTa_c (fun j h1 h2 => ?_) hJ) (JT_c (fun j h1 h2 => cu j (by omega)) gJ) (upd_e _ _ _) (by rw [hop])
          rw [cu j (by omega), cd j (by omega)]
      · rw [ex, em, pl_ob, pl_obv]
        obtain ⟨m, rfl⟩ : ∃ m', m = m' + 1 := ⟨m - 1, by omega⟩
        obtain ⟨m2, rfl⟩ : ∃ m', m2 = m' + 1 := ⟨m2 - 1, by omega⟩
        obtain ⟨C2, ep⟩ := r_landA (N := N) S V s e pt1 sz1 (nI f) C1 sz f2 (by omega)
        rw [ep, pl_obv, x_Both0, m_BothB KM m2 t2 lv2 f (by omega)]
        exact Or.inr ⟨f, s, e, pt1, sz1, C2, t2, lv2, f1, f2, rfl, rfl⟩
    · have ct : ctk (fun i => nI (tc i)) n t = nI (tc t) := by
        unfold ctk
        by_cases h : t < n
        · rw [if_pos h]
        · rw [if_neg h, show t = n by omega, H.2.2.2.1.1]
      have w : wr 12 (tc t) = -1 := by
        rw [wr_12, if_neg (by omega)]
      refine Or.inl ⟨t, pt, sz, C, ⟨ht0, ht, hpt, hs0, hst⟩, ?_, ?_, hC, JTa_done hd hJ (by rw [ct, nI_E (by omega) (by omega)]; omega)⟩
      · rw [f_X5_readBoth_8, rS_5, h5]
        by_cases hl : nI L ≤ nI i
        · rw [if_pos hl]; rfl
        · rw [if_neg hl, if_neg (by decide), H.2.2.2.2.1 t ht _ _ _ _ 12 (by omega), w, pl_ob1, if_pos rfl]; rfl
      · rw [f_X9_readBoth_5, show (7 : Int32) = nI 7 from rfl, q_takes H ht _ 7 (by omega), if_neg hop, pl_ob, if_pos (show nI 0 = 0 from rfl)]
theorem p_sumB (M : Vt) (d t lv b : Nat) (hb : b < 2147483648) (hN : 1 ≤ N) (a : Int32) : g_X9_readSum N (d + 3) 0 (qS M t lv (nI b)) a = some (qS M t lv (nI b)) := by
  obtain ⟨m, hm⟩ : ∃ m, N = m + 1 := ⟨N - 1, by omega⟩
  have e2 : g_X9_readSum N (d + 1) 2 (qS M t lv (nI b)) a = some (qS M t lv (nI b)) := by
    show f_X9_readPart N (g_X9_readSum N d) (qS M t lv (nI b)) a = _
    unfold f_X9_readPart
    rw [q_fineB _ _ _ _ hb]; rfl
  have e1 : g_X9_readSum N (d + 2) 1 (qS M t lv (nI b)) a = some (qS M t lv (nI b)) := by
    show f_X9_readTerm N (g_X9_readSum N (d + 1)) (qS M t lv (nI b)) a = _
    unfold f_X9_readTerm
    rw [e2, pl_obv]
    have := m_TermB (N := N) (M := M) (g_X9_readSum N (d + 1)) m t lv b hb a
    rw [← hm] at this; exact this
  show f_X9_readSum N (g_X9_readSum N (d + 2)) (qS M t lv (nI b)) a = _
  unfold f_X9_readSum
  rw [e1, pl_obv]
  have := m_SumB (N := N) (M := M) (g_X9_readSum N (d + 2)) m t lv b hb a
  rw [← hm] at this; exact this
end P
end
