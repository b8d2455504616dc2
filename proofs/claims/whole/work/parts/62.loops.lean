section
/-! terms and sums: both -/
section P
variable {N : Nat} {S : St} {V M : Vt} {n mode : Nat} {tc tv P E : Nat → Nat}
theorem wr_5 (c : Nat) : wr 5 c = if 142 = c then nI 0 else if 147 = c then nI 1 else if 137 = c then nI 2 else -1 := rfl
theorem m_TermB (KM : Nat → Vt → Int32 → Option Vt) (m t lv b : Nat) (hb : b < 2147483648) (a : Int32) : f_X9_readTerm_5 N KM (m + 1) (qS M t lv (nI b)) a = some (qS M t lv (nI b)) := by
  rw [f_X9_readTerm_5]
  unfold f_X9_sign
  simp only [pl_ob1, pl_ob, q_takesB M t lv b hb]
  rfl
theorem x_Term0 (KR : Nat → Vt → Nat → Int32 → Option (Int32 × Vt)) (m : Nat) (Z : Vt) (a i : Int32) : f_X5_readTerm_8 N S KR 37 (m + 1) Z a (nI 0) i = some (nI 0, Z) := by
  rw [f_X5_readTerm_8]
  by_cases h : Z.1 37 5 ≤ i
  · rw [if_pos h]; rfl
  · rw [if_neg h]; rfl
theorem l_Term (H : PE N S V M n mode tc tv P E) {dep : Nat} (hd : dep ≤ 8) (KR : Nat → Vt → Nat → Int32 → Option (Int32 × Vt)) (KM : Nat → Vt → Int32 → Option Vt)
    (hK : ∀ t pt sz fl C, t ≤ n → pt ≤ 50 → sz + n ≤ t + 447 → RES n V M P E t sz fl C (KR 2 (rS V (P t) (E t) pt sz fl C) 37 (nI dep)) (KM 2 (qS M t pt NB) (nI dep)) (fun t' sz' C' => JS mode 2 C' sz sz' (fun i => nI (tc i)) (fun i => nI (tv i)) n t t' (1 + 2 * (8 - dep)) (3 * (9 - dep) - 2)))
    (t0 sz0 : Nat) (fl : Int32) (C0 : Nat → Int32) : ∀ k t i pt sz C, n ≤ t + k → t ≤ n → i < t → t0 < t → pt ≤ 50 → sz0 ≤ sz → sz + t0 ≤ sz0 + t → sz + n ≤ t + 447 → (∀ j, j < sz0 → C j = C0 j) → JSt mode C sz0 sz (fun i => nI (tc i)) (fun i => nI (tv i)) n t0 t dep → ∀ m m2, k < m → k < m2 →
      RES n V M P E t0 sz0 fl C0 (f_X5_readTerm_8 N S KR 37 m (rS V (P t) (E t) pt sz fl C) (nI dep) (nI 1) (nI i)) (f_X9_readTerm_5 N KM m2 (qS M t pt NB) (nI dep)) (fun t' sz' C' => JS mode 1 C' sz0 sz' (fun i => nI (tc i)) (fun i => nI (tv i)) n t0 t' (2 + 2 * (8 - dep)) (3 * (9 - dep) - 1)) := by
  intro k
  induction k with
  | zero =>
    intro t i pt sz C hk ht hi ht0 hpt hs0 hst hsz hC hJ m m2 hm hm2
    obtain ⟨m, rfl⟩ : ∃ m', m = m' + 1 := ⟨m - 1, by omega⟩
    obtain ⟨m2, rfl⟩ : ∃ m', m2 = m' + 1 := ⟨m2 - 1, by omega⟩
    have e : t = n := by omega
    have z : tc t = 0 := by rw [e]; exact H.2.2.2.1.1
    have ct : ctk (fun i => nI (tc i)) n t = nI 0 := by rw [ctk, if_neg (by omega)]
    obtain ⟨h4, L, hL1, hL2, h5⟩ := H.2.1
    refine Or.inl ⟨t, pt, sz, C, ⟨ht0, ht, hpt, hs0, hst⟩, ?_, ?_, hC, JSt_done hd hJ (by rw [ct]; decide) (by rw [ct]; decide) (by rw [ct]; decide)⟩
    · rw [f_X5_readTerm_8, rS_5, h5]
      by_cases hl : nI L ≤ nI i
      · rw [if_pos hl]; rfl
      · rw [if_neg hl, if_neg (by decide), H.2.2.2.2.1 t ht _ _ _ _ 5 (by omega), z, pl_ob1, if_pos (by decide)]; rfl
    · rw [f_X9_readTerm_5]
      unfold f_X9_sign
      rw [pl_ob1, show (100 : Int32) + 42 = nI 142 from rfl, q_takes H ht _ 142 (by omega), z, if_neg (by omega), pl_ob, if_pos (show nI 0 = 0 from rfl)]
      rw [pl_ob1, show (100 : Int32) + 47 = nI 147 from rfl, q_takes H ht _ 147 (by omega), z, if_neg (by omega), pl_ob, if_pos (show nI 0 = 0 from rfl)]
      rw [pl_ob1, show (100 : Int32) + 37 = nI 137 from rfl, q_takes H ht _ 137 (by omega), z, if_neg (by omega), pl_ob, if_pos (show nI 0 = 0 from rfl)]
  | succ k ih =>
    intro t i pt sz C hk ht hi ht0 hpt hs0 hst hsz hC hJ m m2 hm hm2
    obtain ⟨m, rfl⟩ : ∃ m', m = m' + 1 := ⟨m - 1, by omega⟩
    obtain ⟨m2, rfl⟩ : ∃ m', m2 = m' + 1 := ⟨m2 - 1, by omega⟩
    obtain ⟨h4, L, hL1, hL2, h5⟩ := H.2.1
    have hn := H.1.1
    have c400 := (H.2.2.2.1.2 t ht).1
    by_cases hop : tc t = 142 ∨ tc t = 147 ∨ tc t = 137
    · obtain ⟨k', hk'⟩ : ∃ k, (k = 0 ∧ tc t = 142) ∨ (k = 1 ∧ tc t = 147) ∨ (k = 2 ∧ tc t = 137) := by
        rcases hop with h | h | h
        · exact ⟨0, Or.inl ⟨rfl, h⟩⟩
        · exact ⟨1, Or.inr (Or.inl ⟨rfl, h⟩)⟩
        · exact ⟨2, Or.inr (Or.inr (⟨rfl, h⟩))⟩
      have htn : t < n := PE_lt H ht (by omega)
      have w : wr 5 (tc t) = nI k' := by
        rcases hk' with ⟨rfl, h⟩ | ⟨rfl, h⟩ | ⟨rfl, h⟩ <;> rw [h] <;> rfl
      have hk3 : k' < 3 := by omega
      have mo : f_X9_readTerm_5 N KM (m2 + 1) (qS M t pt NB) (nI dep) = obv (KM 2 (qS M (t + 1) pt NB) (nI dep)) (fun Z => f_X9_readTerm_5 N KM m2 Z (nI dep)) := by
        rw [f_X9_readTerm_5]
        unfold f_X9_sign f_X9_readTerm_41
        rcases hk' with ⟨-, h⟩ | ⟨-, h⟩ | ⟨-, h⟩
        · rw [pl_ob1, show (100 : Int32) + 42 = nI 142 from rfl, q_takes H ht _ 142 (by omega), h, if_pos rfl, pl_ob, if_neg (by decide)]
        · rw [pl_ob1, show (100 : Int32) + 42 = nI 142 from rfl, q_takes H ht _ 142 (by omega), h, if_neg (by omega), pl_ob, if_pos (show nI 0 = 0 from rfl)]
          rw [pl_ob1, show (100 : Int32) + 47 = nI 147 from rfl, q_takes H ht _ 147 (by omega), h, if_pos rfl, pl_ob, if_neg (by decide)]
        · rw [pl_ob1, show (100 : Int32) + 42 = nI 142 from rfl, q_takes H ht _ 142 (by omega), h, if_neg (by omega), pl_ob, if_pos (show nI 0 = 0 from rfl)]
          rw [pl_ob1, show (100 : Int32) + 47 = nI 147 from rfl, q_takes H ht _ 147 (by omega), h, if_neg (by omega), pl_ob, if_pos (show nI 0 = 0 from rfl)]
          rw [pl_ob1, show (100 : Int32) + 37 = nI 137 from rfl, q_takes H ht _ 137 (by omega), h, if_pos rfl, pl_ob, if_neg (by decide)]
      have xo : f_X5_readTerm_8 N S KR 37 (m + 1) (rS V (P t) (E t) pt sz fl C) (nI dep) (nI 1) (nI i) = ob (KR 2 (rS V (P (t + 1)) (E (t + 1)) pt sz fl C) 37 (nI dep)) (fun r29 V31 => ob (f_X5_put N S V31 37 (nI (5 + k')) (nI 0)) (fun r32 V34 => f_X5_readTerm_8 N S KR 37 m V34 (nI dep) r29 (nI (i + 1)))) := by
        rw [f_X5_readTerm_8, rS_5, h5, if_neg (by rw [nI_L (by omega) (by omega)]; omega), if_neg (by decide), H.2.2.2.2.1 t ht _ _ _ _ 5 (by omega), w, pl_ob1, if_neg (m1_nI (by omega)), H.2.2.2.2.2.2 t htn, pl_obv, show (5 : Int32) = nI 5 from rfl, nI_add, show (0 : Int32) = nI 0 from rfl]
        simp only [pl_bd, nI_1]
      rw [mo, xo]
      rcases hK (t + 1) pt sz fl C htn hpt (by omega) with ⟨t1, pt1, sz1, C1, ⟨g1, g2, g3, g4, g5⟩, ex, em, gC, gJ⟩ | ⟨f, s, e, pt1, sz1, C1, t2, lv2, f1, f2, ex, em⟩
      · rw [ex, em, pl_ob, pl_obv, r_put S V _ _ _ _ _ _ (by omega) (by omega) (by omega), pl_ob]
        have cu : ∀ j, j < sz1 → upd C1 sz1 (nI (5 + k' + 256 * 0)) j = C1 j := fun j hj => upd_n _ _ _ _ (by omega)
        refine ih t1 (i + 1) pt1 (sz1 + 1) (upd C1 sz1 (nI (5 + k' + 256 * 0))) (by omega) g2 (by omega) (by omega) g3 (by omega) (by omega) (by omega) (fun j hj => ?_) ?_ m m2 (by omega) (by omega)
        · rw [cu j (by omega), gC j (by omega), hC j hj]
        · refine JSt_step (u := t) (q := sz) (s := 5 + k') (JSt_c (fun j h1 h2 => ?_) hJ) (JS_c (fun j h1 h2 => cu j h2) gJ) (upd_e _ _ _) ?_
          · rw [cu j (by omega), gC j (by omega)]
          · rcases hk' with ⟨rfl, h⟩ | ⟨rfl, h⟩ | ⟨rfl, h⟩
            · exact Or.inl ⟨rfl, by rw [h]⟩
            · exact Or.inr (Or.inl ⟨rfl, by rw [h]⟩)
            · exact Or.inr (Or.inr (⟨rfl, by rw [h]⟩))
      · rw [ex, em, pl_ob, pl_obv]
        obtain ⟨m, rfl⟩ : ∃ m', m = m' + 1 := ⟨m - 1, by omega⟩
        obtain ⟨m2, rfl⟩ : ∃ m', m2 = m' + 1 := ⟨m2 - 1, by omega⟩
        obtain ⟨sz2, C2, z1, -, ep⟩ := r_putA (N := N) S V s e pt1 sz1 (nI f) C1 (nI (5 + k')) (nI 0) f2
        rw [ep, pl_ob, x_Term0, m_TermB KM m2 t2 lv2 f (by omega)]
        exact Or.inr ⟨f, s, e, pt1, sz2, C2, t2, lv2, f1, z1, rfl, rfl⟩
    · have ct : ctk (fun i => nI (tc i)) n t = nI (tc t) := by
        unfold ctk
        by_cases h : t < n
        · rw [if_pos h]
        · rw [if_neg h, show t = n by omega, H.2.2.2.1.1]
      have w : wr 5 (tc t) = -1 := by
        rw [wr_5, if_neg (by omega), if_neg (by omega), if_neg (by omega)]
      refine Or.inl ⟨t, pt, sz, C, ⟨ht0, ht, hpt, hs0, hst⟩, ?_, ?_, hC, JSt_done hd hJ (by rw [ct, nI_E (by omega) (by omega)]; omega) (by rw [ct, nI_E (by omega) (by omega)]; omega) (by rw [ct, nI_E (by omega) (by omega)]; omega)⟩
      · rw [f_X5_readTerm_8, rS_5, h5]
        by_cases hl : nI L ≤ nI i
        · rw [if_pos hl]; rfl
        · rw [if_neg hl, if_neg (by decide), H.2.2.2.2.1 t ht _ _ _ _ 5 (by omega), w, pl_ob1, if_pos rfl]; rfl
      · rw [f_X9_readTerm_5]
        unfold f_X9_sign
        rw [pl_ob1, show (100 : Int32) + 42 = nI 142 from rfl, q_takes H ht _ 142 (by omega), if_neg (by omega), pl_ob, if_pos (show nI 0 = 0 from rfl)]
        rw [pl_ob1, show (100 : Int32) + 47 = nI 147 from rfl, q_takes H ht _ 147 (by omega), if_neg (by omega), pl_ob, if_pos (show nI 0 = 0 from rfl)]
        rw [pl_ob1, show (100 : Int32) + 37 = nI 137 from rfl, q_takes H ht _ 137 (by omega), if_neg (by omega), pl_ob, if_pos (show nI 0 = 0 from rfl)]
theorem wr_6 (c : Nat) : wr 6 c = if 143 = c then nI 0 else if 145 = c then nI 1 else -1 := rfl
theorem m_SumB (KM : Nat → Vt → Int32 → Option Vt) (m t lv b : Nat) (hb : b < 2147483648) (a : Int32) : f_X9_readSum_5 N KM (m + 1) (qS M t lv (nI b)) a = some (qS M t lv (nI b)) := by
  rw [f_X9_readSum_5]
  unfold f_X9_sign
  simp only [pl_ob1, pl_ob, q_takesB M t lv b hb]
  rfl
theorem x_Sum0 (KR : Nat → Vt → Nat → Int32 → Option (Int32 × Vt)) (m : Nat) (Z : Vt) (a i : Int32) : f_X5_readSum_8 N S KR 37 (m + 1) Z a (nI 0) i = some (nI 0, Z) := by
  rw [f_X5_readSum_8]
  by_cases h : Z.1 37 5 ≤ i
  · rw [if_pos h]; rfl
  · rw [if_neg h]; rfl
theorem l_Sum (H : PE N S V M n mode tc tv P E) {dep : Nat} (hd : dep ≤ 8) (KR : Nat → Vt → Nat → Int32 → Option (Int32 × Vt)) (KM : Nat → Vt → Int32 → Option Vt)
    (hK : ∀ t pt sz fl C, t ≤ n → pt ≤ 50 → sz + n ≤ t + 447 → RES n V M P E t sz fl C (KR 1 (rS V (P t) (E t) pt sz fl C) 37 (nI dep)) (KM 1 (qS M t pt NB) (nI dep)) (fun t' sz' C' => JS mode 1 C' sz sz' (fun i => nI (tc i)) (fun i => nI (tv i)) n t t' (2 + 2 * (8 - dep)) (3 * (9 - dep) - 1)))
    (t0 sz0 : Nat) (fl : Int32) (C0 : Nat → Int32) : ∀ k t i pt sz C, n ≤ t + k → t ≤ n → i < t → t0 < t → pt ≤ 50 → sz0 ≤ sz → sz + t0 ≤ sz0 + t → sz + n ≤ t + 447 → (∀ j, j < sz0 → C j = C0 j) → JSs mode C sz0 sz (fun i => nI (tc i)) (fun i => nI (tv i)) n t0 t dep → ∀ m m2, k < m → k < m2 →
      RES n V M P E t0 sz0 fl C0 (f_X5_readSum_8 N S KR 37 m (rS V (P t) (E t) pt sz fl C) (nI dep) (nI 1) (nI i)) (f_X9_readSum_5 N KM m2 (qS M t pt NB) (nI dep)) (fun t' sz' C' => JS mode 0 C' sz0 sz' (fun i => nI (tc i)) (fun i => nI (tv i)) n t0 t' (3 + 2 * (8 - dep)) (3 * (9 - dep))) := by
  intro k
  induction k with
  | zero =>
    intro t i pt sz C hk ht hi ht0 hpt hs0 hst hsz hC hJ m m2 hm hm2
    obtain ⟨m, rfl⟩ : ∃ m', m = m' + 1 := ⟨m - 1, by omega⟩
    obtain ⟨m2, rfl⟩ : ∃ m', m2 = m' + 1 := ⟨m2 - 1, by omega⟩
    have e : t = n := by omega
    have z : tc t = 0 := by rw [e]; exact H.2.2.2.1.1
    have ct : ctk (fun i => nI (tc i)) n t = nI 0 := by rw [ctk, if_neg (by omega)]
    obtain ⟨h4, L, hL1, hL2, h5⟩ := H.2.1
    refine Or.inl ⟨t, pt, sz, C, ⟨ht0, ht, hpt, hs0, hst⟩, ?_, ?_, hC, JSs_done hd hJ (by rw [ct]; decide) (by rw [ct]; decide)⟩
    · rw [f_X5_readSum_8, rS_5, h5]
      by_cases hl : nI L ≤ nI i
      · rw [if_pos hl]; rfl
      · rw [if_neg hl, if_neg (by decide), H.2.2.2.2.1 t ht _ _ _ _ 6 (by omega), z, pl_ob1, if_pos (by decide)]; rfl
    · rw [f_X9_readSum_5]
      unfold f_X9_sign
      rw [pl_ob1, show (100 : Int32) + 43 = nI 143 from rfl, q_takes H ht _ 143 (by omega), z, if_neg (by omega), pl_ob, if_pos (show nI 0 = 0 from rfl)]
      rw [pl_ob1, show (100 : Int32) + 45 = nI 145 from rfl, q_takes H ht _ 145 (by omega), z, if_neg (by omega), pl_ob, if_pos (show nI 0 = 0 from rfl)]
  | succ k ih =>
    intro t i pt sz C hk ht hi ht0 hpt hs0 hst hsz hC hJ m m2 hm hm2
    obtain ⟨m, rfl⟩ : ∃ m', m = m' + 1 := ⟨m - 1, by omega⟩
    obtain ⟨m2, rfl⟩ : ∃ m', m2 = m' + 1 := ⟨m2 - 1, by omega⟩
    obtain ⟨h4, L, hL1, hL2, h5⟩ := H.2.1
    have hn := H.1.1
    have c400 := (H.2.2.2.1.2 t ht).1
    by_cases hop : tc t = 143 ∨ tc t = 145
    · obtain ⟨k', hk'⟩ : ∃ k, (k = 0 ∧ tc t = 143) ∨ (k = 1 ∧ tc t = 145) := by
        rcases hop with h | h
        · exact ⟨0, Or.inl ⟨rfl, h⟩⟩
        · exact ⟨1, Or.inr (⟨rfl, h⟩)⟩
      have htn : t < n := PE_lt H ht (by omega)
      have w : wr 6 (tc t) = nI k' := by
        rcases hk' with ⟨rfl, h⟩ | ⟨rfl, h⟩ <;> rw [h] <;> rfl
      have hk3 : k' < 2 := by omega
      have mo : f_X9_readSum_5 N KM (m2 + 1) (qS M t pt NB) (nI dep) = obv (KM 1 (qS M (t + 1) pt NB) (nI dep)) (fun Z => f_X9_readSum_5 N KM m2 Z (nI dep)) := by
        rw [f_X9_readSum_5]
        unfold f_X9_sign f_X9_readSum_29
        rcases hk' with ⟨-, h⟩ | ⟨-, h⟩
        · rw [pl_ob1, show (100 : Int32) + 43 = nI 143 from rfl, q_takes H ht _ 143 (by omega), h, if_pos rfl, pl_ob, if_neg (by decide)]
        · rw [pl_ob1, show (100 : Int32) + 43 = nI 143 from rfl, q_takes H ht _ 143 (by omega), h, if_neg (by omega), pl_ob, if_pos (show nI 0 = 0 from rfl)]
          rw [pl_ob1, show (100 : Int32) + 45 = nI 145 from rfl, q_takes H ht _ 145 (by omega), h, if_pos rfl, pl_ob, if_neg (by decide)]
      have xo : f_X5_readSum_8 N S KR 37 (m + 1) (rS V (P t) (E t) pt sz fl C) (nI dep) (nI 1) (nI i) = ob (KR 1 (rS V (P (t + 1)) (E (t + 1)) pt sz fl C) 37 (nI dep)) (fun r29 V31 => ob (f_X5_put N S V31 37 (nI (3 + k')) (nI 0)) (fun r32 V34 => f_X5_readSum_8 N S KR 37 m V34 (nI dep) r29 (nI (i + 1)))) := by
        rw [f_X5_readSum_8, rS_5, h5, if_neg (by rw [nI_L (by omega) (by omega)]; omega), if_neg (by decide), H.2.2.2.2.1 t ht _ _ _ _ 6 (by omega), w, pl_ob1, if_neg (m1_nI (by omega)), H.2.2.2.2.2.2 t htn, pl_obv, show (3 : Int32) = nI 3 from rfl, nI_add, show (0 : Int32) = nI 0 from rfl]
        simp only [pl_bd, nI_1]
      rw [mo, xo]
      rcases hK (t + 1) pt sz fl C htn hpt (by omega) with ⟨t1, pt1, sz1, C1, ⟨g1, g2, g3, g4, g5⟩, ex, em, gC, gJ⟩ | ⟨f, s, e, pt1, sz1, C1, t2, lv2, f1, f2, ex, em⟩
      · rw [ex, em, pl_ob, pl_obv, r_put S V _ _ _ _ _ _ (by omega) (by omega) (by omega), pl_ob]
        have cu : ∀ j, j < sz1 → upd C1 sz1 (nI (3 + k' + 256 * 0)) j = C1 j := fun j hj => upd_n _ _ _ _ (by omega)
        refine ih t1 (i + 1) pt1 (sz1 + 1) (upd C1 sz1 (nI (3 + k' + 256 * 0))) (by omega) g2 (by omega) (by omega) g3 (by omega) (by omega) (by omega) (fun j hj => ?_) ?_ m m2 (by omega) (by omega)
        · rw [cu j (by omega), gC j (by omega), hC j hj]
        · refine JSs_step (u := t) (q := sz) (s := 3 + k') (JSs_c (fun j h1 h2 => ?_) hJ) (JS_c (fun j h1 h2 => cu j h2) gJ) (upd_e _ _ _) ?_
          · rw [cu j (by omega), gC j (by omega)]
          · rcases hk' with ⟨rfl, h⟩ | ⟨rfl, h⟩
            · exact Or.inl ⟨rfl, by rw [h]⟩
            · exact Or.inr (⟨rfl, by rw [h]⟩)
      · rw [ex, em, pl_ob, pl_obv]
        obtain ⟨m, rfl⟩ : ∃ m', m = m' + 1 := ⟨m - 1, by omega⟩
        obtain ⟨m2, rfl⟩ : ∃ m', m2 = m' + 1 := ⟨m2 - 1, by omega⟩
        obtain ⟨sz2, C2, z1, -, ep⟩ := r_putA (N := N) S V s e pt1 sz1 (nI f) C1 (nI (3 + k')) (nI 0) f2
        rw [ep, pl_ob, x_Sum0, m_SumB KM m2 t2 lv2 f (by omega)]
        exact Or.inr ⟨f, s, e, pt1, sz2, C2, t2, lv2, f1, z1, rfl, rfl⟩
    · have ct : ctk (fun i => nI (tc i)) n t = nI (tc t) := by
        unfold ctk
        by_cases h : t < n
        · rw [if_pos h]
        · rw [if_neg h, show t = n by omega, H.2.2.2.1.1]
      have w : wr 6 (tc t) = -1 := by
        rw [wr_6, if_neg (by omega), if_neg (by omega)]
      refine Or.inl ⟨t, pt, sz, C, ⟨ht0, ht, hpt, hs0, hst⟩, ?_, ?_, hC, JSs_done hd hJ (by rw [ct, nI_E (by omega) (by omega)]; omega) (by rw [ct, nI_E (by omega) (by omega)]; omega)⟩
      · rw [f_X5_readSum_8, rS_5, h5]
        by_cases hl : nI L ≤ nI i
        · rw [if_pos hl]; rfl
        · rw [if_neg hl, if_neg (by decide), H.2.2.2.2.1 t ht _ _ _ _ 6 (by omega), w, pl_ob1, if_pos rfl]; rfl
      · rw [f_X9_readSum_5]
        unfold f_X9_sign
        rw [pl_ob1, show (100 : Int32) + 43 = nI 143 from rfl, q_takes H ht _ 143 (by omega), if_neg (by omega), pl_ob, if_pos (show nI 0 = 0 from rfl)]
        rw [pl_ob1, show (100 : Int32) + 45 = nI 145 from rfl, q_takes H ht _ 145 (by omega), if_neg (by omega), pl_ob, if_pos (show nI 0 = 0 from rfl)]
end P
end
