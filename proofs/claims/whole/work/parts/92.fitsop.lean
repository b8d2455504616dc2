section
/-! fits -/
def fM (M M1 : Vt) : Prop := (∀ i, i ≠ 107 → M1.2.1 2 i = M.2.1 2 i) ∧ (∀ g, g ≠ 2 → g ≠ 12 → g ≠ 18 → M1.2.1 g = M.2.1 g) ∧ ∀ g j, ¬ (g = 0 ∧ 22 ≤ j ∧ j ≤ 25) → M1.1 g j = M.1 g j
theorem fM_s {M M1 M2 : Vt} {x : Int32} (a : fM M M1) (b : lnM (sA M1 2 107 x) M2) : fM M M2 ∧ M2.2.1 2 107 = x := by
  have e2 : M2.2.1 2 = upd (M1.2.1 2) 107 x := by rw [b.2.1 2 (by omega) (by omega), sA_e]
  refine ⟨⟨fun i hi => ?_, fun g h1 h2 h3 => ?_, fun g j h => ?_⟩, ?_⟩
  · rw [e2, upd_n _ _ _ _ hi]; exact a.1 i hi
  · rw [b.2.1 g h2 h3, sA_n _ _ _ _ _ h1]; exact a.2.1 g h1 h2 h3
  · rw [b.2.2 g j h]; exact a.2.2 g j h
  · rw [e2, upd_e]
theorem fitsB {N b0 : Nat} (hN : 20000 ≤ N) {S : St} {V M : Vt} (hR : Rel XL b0 S V M) : ∃ (m : Int32) (V2 M2 : Vt), f_X3_fitting N S V 48 1 = some (m, V2) ∧ f_X9_fits N M = some (m, M2) ∧ lnX V V2 ∧ SM0 M M2 ∧ ∀ n : Nat, n ≤ 6 → M.2.1 2 106 = nI n → ∀ i, i < 32 → bt m i = true → i < n := by
  obtain ⟨e1, e2, n, hn, e3, e4, e5, e6⟩ := hR.2.2.1
  obtain ⟨z1, z2, ns, hns, z3, z4⟩ := hR.2.1.2.2.2.2.2.2.1
  have x10 : V.1 1 10 = nI n := e1.trans e3
  have hex : ∀ i, ∃ t : Nat × Nat × Nat, i < ns → M.2.1 2 (47 + 3 * i) = nI t.1 ∧ M.2.1 2 (48 + 3 * i) = nI t.2.1 ∧ M.2.1 2 (49 + 3 * i) = nI t.2.2 ∧ t.1 ≤ 24 ∧ t.2.1 ≤ 99 ∧ t.2.2 ≤ 25 := fun i => by
    by_cases hi : i < ns
    · obtain ⟨⟨a, a1, a2⟩, ⟨b, b1, b2⟩, c, c1, c2⟩ := z4 i hi
      exact ⟨(a, b, c), fun _ => ⟨a2, b2, c2, a1, b1, c1⟩⟩
    · exact ⟨(0, 0, 0), fun q => absurd q hi⟩
  obtain ⟨T, hT⟩ := Classical.skolem.mp hex
  obtain ⟨⟨V1, M1, m⟩, ⟨p1, p2, p3⟩, k, en⟩ := lpN N (fun k (s : Vt × Vt × Int32) i => some (f_X3_fitting_4 N S 48 1 k s.1 s.2.2 i, f_X9_fits_12 N k s.2.1 (M.2.1 2 107) s.2.2 i)) n (fun i s => lnX V s.1 ∧ fM M s.2.1 ∧ ∀ x, x < 32 → bt s.2.2 x = true → x < i) (by
    rintro j ⟨V1, M1, m⟩ hj ⟨p1, p2, p3⟩
    have p2s : fM M (sA M1 2 107 (nI j)) ∧ (sA M1 2 107 (nI j)).2.1 2 107 = nI j := fM_s p2 (lnM_r _)
    obtain ⟨q, hq, ht, hL⟩ := LQ_j hR (SX_ln p1) p2s.1.1 hn e3 hj p2s.2
    obtain ⟨st, V2, M2, h1, h2, ex, em, cx, cm, v53, m18⟩ := learnB hN hL
    obtain ⟨g1, g2⟩ := fM_s p2 cm
    have l2 := lnX_t p1 cx
    have v9 : V2.2.1 9 = V.2.1 9 := l2.2.1 9 (by omega)
    have xs : ∀ i, i < ns → V2.2.1 9 (3 * i) = nI (T i).1 ∧ V2.2.1 9 (3 * i + 1) = nI (T i).2.1 ∧ V2.2.1 9 (3 * i + 2) = nI (T i).2.2 ∧ (T i).1 ≤ 24 ∧ (T i).2.1 ≤ 99 ∧ (T i).2.2 ≤ 25 := fun i hi => by
      obtain ⟨t1, t2, t3, t4⟩ := hT i hi
      rw [v9, z1 (3 * i) (by omega), z1 (3 * i + 1) (by omega), z1 (3 * i + 2) (by omega), show 47 + (3 * i + 1) = 48 + 3 * i by omega, show 47 + (3 * i + 2) = 49 + 3 * i by omega]
      exact ⟨t1, t2, t3, t4⟩
    have ms : ∀ i, i < ns → M2.2.1 2 (47 + 3 * i) = nI (T i).1 ∧ M2.2.1 2 (47 + 3 * i + 1) = nI (T i).2.1 ∧ M2.2.1 2 (47 + 3 * i + 2) = nI (T i).2.2 ∧ (T i).1 ≤ 24 ∧ (T i).2.1 ≤ 99 ∧ (T i).2.2 ≤ 25 := fun i hi => by
      obtain ⟨t1, t2, t3, t4⟩ := hT i hi
      rw [g1.1 _ (by omega), g1.1 _ (by omega), g1.1 _ (by omega), show 47 + 3 * i + 1 = 48 + 3 * i by omega, show 47 + 3 * i + 2 = 49 + 3 * i by omega]
      exact ⟨t1, t2, t3, t4⟩
    have v12 : V2.1 1 12 = nI ns := by rw [l2.2.2 1 12 (by omega)]; exact z2.trans z3
    have m104 : M2.2.1 2 104 = nI ns := by rw [g1.1 _ (by omega)]; exact z3
    have mso := m_allSo (N := N) hN (M := M2) (ce := fun i => (T i).1) (dy := fun i => (T i).2.1) (po := fun i => (T i).2.2) hns h1 m18 m104 ms
    obtain ⟨b, hb⟩ : ∃ b, b = ag st (fun i => (T i).1) (fun i => (T i).2.1) (fun i => (T i).2.2) ns 0 := ⟨_, rfl⟩
    have b01 : b = 0 ∨ b = 1 := by rw [hb]; exact ag_1 _ _ _ _ _ _
    rw [← hb] at mso
    refine ⟨(V2, M2, if b = 0 then m else m ||| ((1 : Int32) <<< (nI j &&& 31))), ⟨l2, g1, fun x hx h => ?_⟩, fun k => ?_⟩
    · have h' : bt (if b = 0 then m else m ||| ((1 : Int32) <<< (nI j &&& 31))) x = true := h
      by_cases q0 : b = 0
      · rw [if_pos q0] at h'
        have := p3 x hx h'
        omega
      · rw [if_neg q0, b_or, bt_one (by omega) hx, Bool.or_eq_true, decide_eq_true_iff] at h'
        rcases h' with h' | h'
        · have := p3 x hx h'
          omega
        · omega
    have x29 := x_29 (N := N) hN (S := S) (V := V2) (ce := fun i => (T i).1) (dy := fun i => (T i).2.1) (po := fun i => (T i).2.2) hns h1 v53 v12 xs (f_X3_fitting_4 N S 48 1 k) m (nI j)
    rw [← hb] at x29
    congr 2
    · show f_X3_fitting_4 N S 48 1 (k + 1) V1 m (nI j) = f_X3_fitting_4 N S 48 1 k V2 (if b = 0 then m else m ||| ((1 : Int32) <<< (nI j &&& 31))) (nI (j + 1))
      have y10 : V1.1 1 10 = nI n := by rw [p1.2.2 1 10 (by omega)]; exact x10
      have y8 : V1.2.2.2 (1 + 7) j = q + 1 := by rw [p1.1]; exact hq
      have ex' : f_X3_learn_t N S V1 48 1 q = some V2 := ex
      rw [f_X3_fitting_4, y10, if_neg (show ¬ nI n ≤ nI j by rw [nI_L (by omega) (by omega)]; omega), pl_ck (by omega) (by omega), nI_cl (by omega), pl_bd, y8, pl_nls, cgT ht, ex', pl_obv, x29]
      unfold f_X3_fitting_94 f_X3_fitting_105
      rcases b01 with rfl | rfl
      · rw [if_pos (show nI 0 = 0 from rfl), if_pos rfl, nI_1, pl_bd]
      · rw [if_neg (show ¬ nI 1 = 0 by decide), if_neg (by omega), pl_bd, nI_1, pl_bd]
    · show f_X9_fits_12 N (k + 1) M1 (M.2.1 2 107) m (nI j) = f_X9_fits_12 N k M2 (M.2.1 2 107) (if b = 0 then m else m ||| ((1 : Int32) <<< (nI j &&& 31))) (nI (j + 1))
      have y106 : M1.2.1 2 106 = nI n := by rw [p2.1 106 (by omega)]; exact e3
      have o0 : m ||| 0 = m := b_ext (fun i _ => by rw [b_or, b_0, Bool.or_false])
      rw [f_X9_fits_12, lj 106, pl_ck (by omega) (by omega), nI_cl (by omega), y106, if_neg (show ¬ nI n ≤ nI j by rw [nI_L (by omega) (by omega)]; omega), lj 107, pl_ck (by omega) (by omega), nI_cl (by omega), pl_bd, em, pl_obv, mso, pl_ob1]
      unfold f_X9_fits_50
      rcases b01 with rfl | rfl
      · rw [if_pos (show nI 0 = 0 from rfl), if_pos rfl, pl_bd, o0, nI_1, pl_bd]
      · rw [if_neg (show ¬ nI 1 = 0 by decide), if_neg (by omega), pl_bd, nI_1, pl_bd]) (V, M, 0) (by omega) ⟨lnX_r V, ⟨fun _ _ => rfl, fun _ _ _ _ => rfl, fun _ _ _ => rfl⟩, fun x _ h => by
    have h' : bt 0 x = true := h
    rw [b_0] at h'; cases h'⟩
  have en' : (f_X3_fitting_4 N S 48 1 N V 0 (nI 0), f_X9_fits_12 N N M (M.2.1 2 107) 0 (nI 0)) = (f_X3_fitting_4 N S 48 1 (k + 1) V1 m (nI n), f_X9_fits_12 N (k + 1) M1 (M.2.1 2 107) m (nI n)) := Option.some.inj en
  refine ⟨m, V1, sA M1 2 107 (M.2.1 2 107), ?_, ?_, p1, ?_, fun n' hn' e' x hx h => ?_⟩
  · have e1 : f_X3_fitting N S V 48 1 = f_X3_fitting_4 N S 48 1 (k + 1) V1 m (nI n) := congrArg Prod.fst en'
    have y10 : V1.1 1 10 = nI n := by rw [p1.2.2 1 10 (by omega)]; exact x10
    rw [e1, f_X3_fitting_4, y10, if_pos (by rw [nI_L (by omega) (by omega)]; omega)]
  · have e1 : f_X9_fits_12 N N M (M.2.1 2 107) 0 0 = f_X9_fits_12 N (k + 1) M1 (M.2.1 2 107) m (nI n) := congrArg Prod.snd en'
    have y106 : M1.2.1 2 106 = nI n := by rw [p2.1 106 (by omega)]; exact e3
    unfold f_X9_fits
    rw [lj 107, pl_ck (by omega) (by omega), nI_cl (by omega), pl_bd, e1, f_X9_fits_12, lj 106, pl_ck (by omega) (by omega), nI_cl (by omega), y106, if_pos (by rw [nI_L (by omega) (by omega)]; omega), lj 107, pl_ck (by omega) (by omega), nI_cl (by omega), pl_bd]
  · refine ⟨fun g hg => ?_, fun j hj => ?_⟩
    · by_cases g2 : g = 2
      · subst g2
        rw [sA_e]
        funext i
        by_cases hi : i = 107
        · subst hi; rw [upd_e]
        · rw [upd_n _ _ _ _ hi]; exact p2.1 i hi
      · rw [sA_n _ _ _ _ _ g2]
        exact p2.2.1 g g2 (fun q => by rw [q] at hg; exact absurd hg (by decide)) (fun q => by rw [q] at hg; exact absurd hg (by decide))
    · refine p2.2.2 0 j (fun q => ?_)
      have : j = 22 ∨ j = 23 ∨ j = 24 ∨ j = 25 := by omega
      rcases this with rfl | rfl | rfl | rfl <;> exact absurd hj (by decide)
  · have en2 : nI n = nI n' := e3.symm.trans e'
    rw [nI_E (by omega) (by omega)] at en2
    have := p3 x hx h
    omega
section OPS
variable {N b0 : Nat}
theorem op_fits (hN : 20000 ≤ N) : Op_fits N b0 (Rel XL b0) := by
  intro S V M hR _
  obtain ⟨m, V2, M2, h1, h2, h3, h4, -⟩ := fitsB hN hR
  refine ⟨m, V2, M2, ?_, h2, Rel_s hR (SX_ln h3) h4⟩
  have h1' : f_X3_fitting N S V (0 + 48) (0 + 1) = some (m, V2) := h1
  unfold f_X8_fits
  rw [h1', pl_ob]
end OPS
end
