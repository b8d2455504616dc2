section
/-! fits: one law against the sights -/
def ag (st ce dy po : Nat → Nat) : Nat → Nat → Nat
  | 0, _ => 1
  | d + 1, t => if pla st (dy t) (ce t) = po t then ag st ce dy po d (t + 1) else 0
theorem ag_1 (st ce dy po : Nat → Nat) : ∀ d t, ag st ce dy po d t = 0 ∨ ag st ce dy po d t = 1
  | 0, _ => Or.inr rfl
  | d + 1, t => by
    rw [ag]
    by_cases q : pla st (dy t) (ce t) = po t
    · rw [if_pos q]; exact ag_1 st ce dy po d (t + 1)
    · rw [if_neg q]; exact Or.inl rfl
theorem x_29 {N : Nat} (hN : 20000 ≤ N) {S : St} {V : Vt} {st ce dy po : Nat → Nat} {n : Nat} (hn : n ≤ 8) (hst : ∀ c, c ≤ 25 → st c ≤ 25) (hv : ∀ c, c ≤ 25 → V.2.1 53 c = nI (st c)) (h12 : V.1 1 12 = nI n) (hs : ∀ i, i < n → V.2.1 9 (3 * i) = nI (ce i) ∧ V.2.1 9 (3 * i + 1) = nI (dy i) ∧ V.2.1 9 (3 * i + 2) = nI (po i) ∧ ce i ≤ 24 ∧ dy i ≤ 99 ∧ po i ≤ 25) (K : Vt → Int32 → Int32 → Option (Int32 × Vt)) (v2 v3 : Int32) : f_X3_fitting_29 N S 48 1 K N V v2 v3 1 0 = f_X3_fitting_94 N S 48 1 K V v2 v3 (nI (ag st ce dy po n 0)) := by
  have key : ∀ d t m, t + d = n → f_X3_fitting_29 N S 48 1 K (m + d + 2) V v2 v3 (nI 1) (nI t) = f_X3_fitting_94 N S 48 1 K V v2 v3 (nI (ag st ce dy po d t)) := by
    intro d
    induction d with
    | zero =>
      intro t m ht
      rw [f_X3_fitting_29, h12, if_pos (by rw [nI_L (by omega) (by omega)]; omega)]
      rfl
    | succ d ih =>
      intro t m ht
      obtain ⟨s1, s2, s3, s4, s5, s6⟩ := hs t (by omega)
      have xa := x_after (N := N) hN (S := S) (V := V) (o := 48) hst hv (c := ce t) (k := dy t) (by omega) s5
      have s1' : V.2.1 (1 + 8) (3 * t) = nI (ce t) := s1
      have s2' : V.2.1 (1 + 8) (3 * t + 1) = nI (dy t) := s2
      have s3' : V.2.1 (1 + 8) (3 * t + 2) = nI (po t) := s3
      have pp := pla_le hst (dy t) (ce t) (by omega)
      rw [show m + (d + 1) + 2 = (m + d + 2) + 1 by omega, f_X3_fitting_29, h12, if_neg (show ¬ nI n ≤ nI t by rw [nI_L (by omega) (by omega)]; omega), if_neg (show ¬ nI 1 = 0 by decide), show (3 : Int32) = nI 3 from rfl, show (2 : Int32) = nI 2 from rfl, pk_mul, nI_1, nI_add, pl_ck (by omega) (by omega), pl_ck (by omega) (by omega), nI_cl (by omega), nI_cl (by omega), s1', s2', xa, pl_ob1, pl_ck (by omega) (by omega), nI_cl (by omega), s3', ag]
      by_cases q : pla st (dy t) (ce t) = po t
      · rw [if_pos (by rw [q]), if_pos q]
        unfold f_X3_fitting_86
        rw [nI_1, pl_bd]
        exact ih (t + 1) m (by omega)
      · rw [if_neg (by rw [nI_E (by omega) (by omega)]; exact q), if_neg q]
        unfold f_X3_fitting_86
        rw [nI_1, pl_bd, show m + d + 2 = (m + d + 1) + 1 by omega, f_X3_fitting_29, h12]
        by_cases q2 : nI n ≤ nI (t + 1)
        · rw [if_pos q2]; rfl
        · rw [if_neg q2, if_pos rfl]; rfl
  have := key n 0 (N - n - 2) (by omega)
  rw [show N - n - 2 + n + 2 = N by omega] at this
  exact this
theorem m_allSo {N : Nat} (hN : 20000 ≤ N) {M : Vt} {st ce dy po : Nat → Nat} {n : Nat} (hn : n ≤ 8) (hst : ∀ c, c ≤ 25 → st c ≤ 25) (hv : ∀ c, c ≤ 25 → M.2.1 18 c = nI (st c)) (h104 : M.2.1 2 104 = nI n) (hs : ∀ i, i < n → M.2.1 2 (47 + 3 * i) = nI (ce i) ∧ M.2.1 2 (47 + 3 * i + 1) = nI (dy i) ∧ M.2.1 2 (47 + 3 * i + 2) = nI (po i) ∧ ce i ≤ 24 ∧ dy i ≤ 99 ∧ po i ≤ 25) : f_X9_isAllSo N M = some (nI (ag st ce dy po n 0)) := by
  have key : ∀ d t m, t + d = n → f_X9_isAllSo_4 N M (m + d + 2) (nI 1) (nI t) = some (nI (ag st ce dy po d t)) := by
    intro d
    induction d with
    | zero =>
      intro t m ht
      rw [f_X9_isAllSo_4, lj 104, pl_ck (by omega) (by omega), nI_cl (by omega), h104, if_pos (by rw [nI_L (by omega) (by omega)]; omega), pl_cb1]
      rfl
    | succ d ih =>
      intro t m ht
      obtain ⟨s1, s2, s3, s4, s5, s6⟩ := hs t (by omega)
      have xa := m_behind (N := N) hN (M := M) hst hv (c := ce t) (k := dy t) (by omega) s5
      have pp := pla_le hst (dy t) (ce t) (by omega)
      rw [show m + (d + 1) + 2 = (m + d + 2) + 1 by omega, f_X9_isAllSo_4, lj 104, pl_ck (by omega) (by omega), nI_cl (by omega), h104, if_neg (show ¬ nI n ≤ nI t by rw [nI_L (by omega) (by omega)]; omega), if_neg (show ¬ nI 1 = 0 by decide), show (3 : Int32) = nI 3 from rfl, show (47 : Int32) = nI 47 from rfl, show (2 : Int32) = nI 2 from rfl, pk_mul, nI_add, nI_1, nI_add, pl_ck (by omega) (by omega), pl_ck (by omega) (by omega), nI_cl (by omega), nI_cl (by omega), s1, s2, xa, pl_ob1, pl_ck (by omega) (by omega), nI_cl (by omega), s3, ag]
      by_cases q : pla st (dy t) (ce t) = po t
      · rw [if_pos (by rw [q]), if_pos q]
        unfold f_X9_isAllSo_68
        rw [nI_1, pl_bd]
        exact ih (t + 1) m (by omega)
      · rw [if_neg (by rw [nI_E (by omega) (by omega)]; exact q), if_neg q]
        unfold f_X9_isAllSo_68
        rw [nI_1, pl_bd, show m + d + 2 = (m + d + 1) + 1 by omega, f_X9_isAllSo_4, lj 104, pl_ck (by omega) (by omega), nI_cl (by omega), h104]
        by_cases q2 : nI n ≤ nI (t + 1)
        · rw [if_pos q2]; rfl
        · rw [if_neg q2, if_pos rfl]; rfl
  have := key n 0 (N - n - 2) (by omega)
  rw [show N - n - 2 + n + 2 = N by omega] at this
  exact this
/-- the law j taken as the one in force -/
theorem LQ_j {b0 : Nat} {S : St} {V M : Vt} (hR : Rel XL b0 S V M) {V1 M1 : Vt} (a : SX V V1) (hk : ∀ i, i ≠ 107 → M1.2.1 2 i = M.2.1 2 i) {j n : Nat} (hn : n ≤ 6) (h106 : M.2.1 2 106 = nI n) (hj : j < n) (h107 : M1.2.1 2 107 = nI j) : ∃ q, V.2.2.2 8 j = q + 1 ∧ tshB S q = true ∧ LQ S V1 M1 (q + 1) := by
  have hB := hR.2.1
  have hs : S.2.2.1 52 = 10 := len_of hR.1.1 52 _ rfl
  obtain ⟨e1, e2, n', hn', e3, e4, e5, e6⟩ := hR.2.2.1
  have en : n' = n := by
    have : nI n' = nI n := e3.symm.trans h106
    rw [nI_E (by omega) (by omega)] at this; exact this
  subst en
  obtain ⟨q, hq, ht⟩ := e6 j hj
  have hT : TH S (V.2.2.2 11) q := by
    rcases e5 j (by omega) with h | ⟨q', h, hT⟩
    · rw [h] at hq; cases hq
    · rw [h] at hq; cases hq; exact hT
  have g := SX_64 a
  refine ⟨q, hq, hT.2.1, ?_, ?_, hs, Or.inr ⟨q, j, rfl, hT.1, hT.2.1, by omega, h107, ?_⟩⟩
  · obtain ⟨b1, b2, b3, b4, b5, b6, b7, b8, b9⟩ := hB
    refine ⟨?_, ?_, ?_, ?_, ?_⟩
    · rw [(a.1 (1 + 1) rfl).2.1]; exact bE_c (fun i hi => hk i (by omega)) b1
    · rw [(a.1 (1 + 3) rfl).2.1]; exact bS_c (fun i hi => hk _ (by omega)) b3
    · rw [(a.1 (1 + 4) rfl).2.1]; exact bK_c (fun i hi => hk _ (by omega)) b4
    · rw [(a.1 (1 + 6) rfl).2.1]; exact bT_c (hk _ (by omega)) (hk _ (by omega)) (hk _ (by omega)) b6
    · rw [(a.1 1 rfl).1]; exact bC_c (hk _ (by omega)) b9
  · rw [(a.1 3 rfl).2.1]; exact bF_c (hk _ (by omega)) hB.2.1
  · exact TX_c (g q (Or.inl hT.1)).1 (g (q + 1) (by have := hT.1; omega)).2.1 (g (q + 2) (by have := hT.1; omega)).2.1 (hk _ (by omega)) (fun k hk2 => hk _ (by omega)) (fun k hk2 => hk _ (by omega)) ht
end
