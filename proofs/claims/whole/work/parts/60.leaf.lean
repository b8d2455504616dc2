section
/-! sums read by both -/
def RES (n : Nat) (V M : Vt) (P E : Nat → Nat) (t sz : Nat) (fl : Int32) (C : Nat → Int32) (rc : Option (Int32 × Vt)) (rm : Option Vt) (G : Nat → Nat → (Nat → Int32) → Prop) : Prop :=
  (∃ t' pt' sz' C', (t < t' ∧ t' ≤ n ∧ pt' ≤ 50 ∧ sz ≤ sz' ∧ sz' + t ≤ sz + t') ∧ rc = some (nI 1, rS V (P t') (E t') pt' sz' fl C') ∧ rm = some (qS M t' pt' NB) ∧ (∀ i, i < sz → C' i = C i) ∧ G t' sz' C') ∨
  (∃ f s e pt' sz' C' t2 lv2, f ≤ 400 ∧ sz' ≤ 448 ∧ rc = some (nI 0, rS V s e pt' sz' (nI f) C') ∧ rm = some (qS M t2 lv2 (nI f)))
section P
variable {N : Nat} {S : St} {V M : Vt} {n mode : Nat} {tc tv P E : Nat → Nat}
theorem PE_lt (H : PE N S V M n mode tc tv P E) {t : Nat} (ht : t ≤ n) (h : tc t ≠ 0) : t < n := by
  rcases Nat.lt_or_ge t n with h1 | h1
  · exact h1
  · exact absurd (show tc t = 0 by rw [show t = n by omega]; exact H.2.2.2.1.1) h
theorem wr_1 (c : Nat) : wr 1 c = if 191 = c then nI 0 else -1 := rfl
theorem x_part (H : PE N S V M n mode tc tv P E) {t : Nat} (ht : t ≤ n) (hb : ¬ tc t = 191) (KR : Nat → Vt → Nat → Int32 → Option (Int32 × Vt)) (pt sz dep : Nat) (fl : Int32) (C : Nat → Int32) (r35 r38 : Int32) (e35 : (if tc t = 50 ∧ tv t ≤ 1000 then nI (tv t) else -1) = r35) (e38 : wr (3 + mode) (tc t) = r38) :
    f_X5_readPart N S KR (rS V (P t) (E t) pt sz fl C) 37 (nI dep) = if r35 = (-1 : Int32) then (if r38 = (-1 : Int32) then f_X5_readPart_96 N S KR 37 (rS V (P t) (E t) pt sz fl C) else f_X5_readPart_87 N S KR 37 (rS V (P t) (E t) pt sz fl C) r35 r38) else f_X5_readPart_87 N S KR 37 (rS V (P t) (E t) pt sz fl C) r35 r38 := by
  have w1 := H.2.2.2.2.1 t ht pt sz fl C 1 (by omega)
  have n1 := H.2.2.2.2.2.1 t ht pt sz fl C 1000 (by omega)
  rw [wr_1, if_neg (fun q => hb q.symm)] at w1
  rw [e35] at n1
  have w2 := H.2.2.2.2.1 t ht pt sz fl C (3 + mode) (by rcases H.1.2.1 with h | h <;> omega)
  rw [e38] at w2
  have h4 := H.2.1.1
  unfold f_X5_readPart
  rw [w1, pl_ob1, if_pos rfl, lj 1000, n1, pl_ob1, rS_4, h4]
  rcases H.1.2.1 with rfl | rfl
  · rw [if_neg (by decide)]
    unfold f_X5_readPart_73
    rw [show Nat.blt 3 20 = true from rfl, pl_cg, w2, pl_ob1]
  · rw [if_pos (by decide)]
    unfold f_X5_readPart_73
    rw [show Nat.blt 4 20 = true from rfl, pl_cg, w2, pl_ob1]
theorem x_part96 (KR : Nat → Vt → Nat → Int32 → Option (Int32 × Vt)) (s e pt sz : Nat) (fl : Int32) (C : Nat → Int32) : f_X5_readPart_96 N S KR 37 (rS V s e pt sz fl C) = some (nI 0, rS V s e pt sz (nI s) C) := by
  unfold f_X5_readPart_96
  rw [r_fails, pl_ob]; rfl
theorem x_part87 (H : PE N S V M n mode tc tv P E) {t : Nat} (ht : t < n) (KR : Nat → Vt → Nat → Int32 → Option (Int32 × Vt)) (pt sz : Nat) (hpt : pt ≤ 50) (fl : Int32) (C : Nat → Int32) (a b : Int32) : f_X5_readPart_87 N S KR 37 (rS V (P t) (E t) pt sz fl C) a b = if pt = 50 then some (nI 0, rS V (P t) (E t) pt sz (nI (P t)) C) else if a = (-1 : Int32) then ob (f_X5_readWord N S (rS V (P (t + 1)) (E (t + 1)) (pt + 1) sz fl C) 37 b) (fun r47 V49 => cb r47 (some (r47, V49))) else ob (f_X5_put N S (rS V (P (t + 1)) (E (t + 1)) (pt + 1) sz fl C) 37 1 a) (fun r51 V53 => some ((1 : Int32), V53)) := by
  unfold f_X5_readPart_87
  rw [rS_9]
  by_cases h : pt = 50
  · rw [if_neg (by rw [lj 50, nI_T (by omega) (by omega)]; omega), if_pos h, x_part96]
  · rw [if_pos (by rw [lj 50, nI_T (by omega) (by omega)]; omega), if_neg h, nI_1, rS_f9, pl_bd, H.2.2.2.2.2.2 t ht, pl_obv]
theorem m_part (H : PE N S V M n mode tc tv P E) {t : Nat} (ht : t ≤ n) (hb : ¬ tc t = 191) (KR : Nat → Vt → Int32 → Option Vt) (lv : Nat) (a : Int32) : f_X9_readPart N KR (qS M t lv NB) a = if (tc t = 50 ∧ tv t ≤ 1000) ∨ (9 + 6 * mode ≤ tc t ∧ tc t ≤ 18 + 3 * mode) then f_X9_readPart_111 N KR (qS M t lv NB) (nI (tc t)) else some (qS M t lv (nI (P t))) := by
  obtain ⟨h1, h2, hp, e9, e10, e11⟩ := H.2.2.2.1.2 t ht
  have h0 := H.1.1
  obtain ⟨g8, g9, g10⟩ := H.2.2.1
  have no : f_X9_readPart_169 N KR (qS M t lv NB) = some (qS M t lv (nI (P t))) := by
    unfold f_X9_readPart_169
    rw [q_faults H ht]; rfl
  have hm := H.1.2.1
  have st : f_X9_readPart_95 N KR (qS M t lv NB) (nI (tc t)) = if 9 + 6 * mode ≤ tc t ∧ tc t ≤ 18 + 3 * mode then f_X9_readPart_111 N KR (qS M t lv NB) (nI (tc t)) else some (qS M t lv (nI (P t))) := by
    unfold f_X9_readPart_95
    rw [qS_8, qS_9, g8, g9]
    by_cases c1 : tc t < 9 + 6 * mode
    · rw [if_pos (by rw [nI_T (by omega) (by omega)]; exact c1), if_neg (by omega), no]
    · by_cases c2 : 18 + 3 * mode < tc t
      · rw [if_neg (by rw [nI_T (by omega) (by omega)]; exact c1), if_pos (by rw [nI_T (by omega) (by omega)]; exact c2), if_neg (by omega), no]
      · rw [if_neg (by rw [nI_T (by omega) (by omega)]; exact c1), if_neg (by rw [nI_T (by omega) (by omega)]; exact c2), if_pos (by omega)]
  unfold f_X9_readPart
  rw [q_fine, pl_ob1, if_neg (by decide), qS_19, pl_ck (by omega) (by omega), nI_cl (by omega), qS_2, e9, e10, pl_bd]
  unfold f_X9_sign
  rw [pl_ob1, if_neg (by rw [lj 100, lj 91, nI_add, nI_E (by omega) (by omega)]; exact hb)]
  by_cases c5 : tc t = 50
  · rw [if_pos (by rw [c5]; rfl), pl_ck (by omega) (by omega)]
    by_cases c6 : tv t ≤ 1000
    · rw [if_pos (by rw [lj 1000, nI_L (by omega) (by omega)]; exact c6), if_pos (Or.inl ⟨c5, c6⟩)]
    · rw [if_neg (by rw [lj 1000, nI_L (by omega) (by omega)]; exact c6), st, if_neg (by omega), if_neg (by omega)]
  · rw [if_neg (by rw [lj 50, nI_E (by omega) (by omega)]; exact c5), st]
    by_cases c7 : 9 + 6 * mode ≤ tc t ∧ tc t ≤ 18 + 3 * mode
    · rw [if_pos c7, if_pos (Or.inr c7)]
    · rw [if_neg c7, if_neg (by omega)]
/-- what comes behind a leaf -/
theorem m_part111 (H : PE N S V M n mode tc tv P E) {t : Nat} (ht' : t < n) (KR : Nat → Vt → Int32 → Option Vt) (lv : Nat) (hl : lv ≤ 50) (c : Nat) (hc : c < 400) : f_X9_readPart_111 N KR (qS M t lv NB) (nI c) = if lv = 50 then some (qS M t 51 (nI (P t))) else if mode = 1 ∧ c = 15 then f_X9_mustNumber N (qS M (t + 1) (lv + 1) NB) (nI 0) (nI 24) else if mode = 1 ∧ (c = 16 ∨ c = 17 ∨ c = 21) then f_X9_mustNumber N (qS M (t + 1) (lv + 1) NB) (nI 0) (nI 4) else some (qS M (t + 1) (lv + 1) NB) := by
  have ht : t ≤ n := Nat.le_of_lt ht'
  have hp := (H.2.2.2.1.2 t ht).2.2.1
  obtain ⟨g8, g9, g10⟩ := H.2.2.1
  have idv : ∀ z : Option Vt, obv z (fun V => some V) = z := fun z => by cases z <;> rfl
  have b35 : ∀ (t lv : Nat) (b : Int32) (c : Nat), c < 400 → (∃ k : Nat, k < 500 ∧ b = nI k) → f_X9_readPart_135 N KR (qS M t lv b) (nI c) = some (qS M t lv b) := by
    intro t lv b c hc ⟨k, hk, hb⟩
    subst hb
    unfold f_X9_readPart_135 f_X9_readPart_160
    rw [qS_10, g10, show (0 : Int32) = nI 0 from rfl, show (4 : Int32) = nI 4 from rfl, q_numB _ _ _ _ (by omega), idv]
    rcases H.1.2.1 with rfl | rfl
    · rw [if_pos rfl]
    · rw [if_neg (by decide)]
      by_cases c1 : nI c = 16
      · rw [if_pos c1]
      · rw [if_neg c1]
        by_cases c2 : nI c = 17
        · rw [if_pos c2]
        · rw [if_neg c2]
          by_cases c3 : nI c = 21
          · rw [if_pos c3]
          · rw [if_neg c3]
  unfold f_X9_readPart_111
  rw [q_leaf H ht lv hl]
  by_cases h5 : lv = 50
  · rw [if_pos h5, if_pos h5, pl_obv, qS_10, g10, show (0 : Int32) = nI 0 from rfl, show (24 : Int32) = nI 24 from rfl, q_numB _ _ _ _ (by omega), pl_obv, b35 _ _ _ _ hc ⟨P t, by omega, rfl⟩]
    rcases H.1.2.1 with rfl | rfl
    · rw [if_pos rfl]
    · rw [if_neg (by decide)]
      by_cases c1 : nI c = 15
      · rw [if_pos c1]
      · rw [if_neg c1]
  · rw [if_neg h5, if_neg h5, pl_obv, qS_10, g10]
    rcases H.1.2.1 with rfl | rfl
    · rw [if_pos (show nI 0 = 0 from rfl), if_neg (by omega), if_neg (by omega)]
      unfold f_X9_readPart_135
      rw [qS_10, g10, if_pos (show nI 0 = 0 from rfl)]
    · rw [if_neg (by decide)]
      have b1 : f_X9_readPart_135 N KR (qS M (t + 1) (lv + 1) NB) (nI c) = if c = 16 ∨ c = 17 ∨ c = 21 then f_X9_mustNumber N (qS M (t + 1) (lv + 1) NB) (nI 0) (nI 4) else some (qS M (t + 1) (lv + 1) NB) := by
        unfold f_X9_readPart_135 f_X9_readPart_160
        rw [qS_10, g10, if_neg (by decide), show (0 : Int32) = nI 0 from rfl, show (4 : Int32) = nI 4 from rfl, idv]
        by_cases c1 : c = 16
        · rw [if_pos (by rw [c1]; rfl), if_pos (Or.inl c1)]
        · rw [if_neg (by rw [lj 16, nI_E (by omega) (by omega)]; exact c1)]
          by_cases c2 : c = 17
          · rw [if_pos (by rw [c2]; rfl), if_pos (Or.inr (Or.inl c2))]
          · rw [if_neg (by rw [lj 17, nI_E (by omega) (by omega)]; exact c2)]
            by_cases c3 : c = 21
            · rw [if_pos (by rw [c3]; rfl), if_pos (Or.inr (Or.inr c3))]
            · rw [if_neg (by rw [lj 21, nI_E (by omega) (by omega)]; exact c3), if_neg (by omega)]
      by_cases c0 : c = 15
      · rw [if_pos (show nI c = 15 by rw [c0]; rfl), if_pos ⟨rfl, c0⟩, show (0 : Int32) = nI 0 from rfl, show (24 : Int32) = nI 24 from rfl]
        -- behind its number nothing more is asked
        have fin : ∀ z : Vt, (∃ t2 lv2 b2, z = qS M t2 lv2 b2) → f_X9_readPart_135 N KR z (nI c) = some z := by
          intro z ⟨t2, lv2, b2, hz⟩
          subst hz
          unfold f_X9_readPart_135
          rw [qS_10, g10, if_neg (by decide), if_neg (by rw [c0]; decide), if_neg (by rw [c0]; decide), if_neg (by rw [c0]; decide)]
        rw [q_num H (show t + 1 ≤ n from ht') (lv + 1) 0 24 (by omega) (by omega), pl_obv]
        split
        · exact fin _ ⟨_, _, _, rfl⟩
        · exact fin _ ⟨_, _, _, rfl⟩
      · rw [if_neg (by rw [lj 15, nI_E (by omega) (by omega)]; exact c0), if_neg (by omega), b1]
        by_cases c1 : c = 16 ∨ c = 17 ∨ c = 21
        · rw [if_pos c1, if_pos ⟨rfl, c1⟩]
        · rw [if_neg c1, if_neg (by omega)]
end P
end
