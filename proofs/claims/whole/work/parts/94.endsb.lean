section
def fN (M M1 : Vt) : Prop := (∀ i, i ≠ 107 → M1.2.1 2 i = M.2.1 2 i) ∧ (∀ g, kpm g = true → g ≠ 2 → M1.2.1 g = M.2.1 g) ∧ ∀ j, kpf j = true → M1.1 0 j = M.1 0 j
theorem fN_s {M M1 M2 : Vt} {x : Int32} (a : fN M M1) (b : lnM (sA M1 2 107 x) M2) : fN M M2 ∧ M2.2.1 2 107 = x ∧ M2.2.1 19 = M1.2.1 19 := by
  have s := SM_ln b
  have e2 : M2.2.1 2 = upd (M1.2.1 2) 107 x := by rw [b.2.1 2 (by omega) (by omega), sA_e]
  refine ⟨⟨fun i hi => ?_, fun g h1 h2 => ?_, fun j h => ?_⟩, ?_, ?_⟩
  · rw [e2, upd_n _ _ _ _ hi]; exact a.1 i hi
  · rw [s.1 g h1, sA_n _ _ _ _ _ h2]; exact a.2.1 g h1 h2
  · rw [s.2 j h]; exact a.2.2 j h
  · rw [e2, upd_e]
  · rw [b.2.1 19 (by omega) (by omega), sA_n _ _ _ _ _ (by omega)]
theorem fN_p {M M1 : Vt} {f : Nat → Int32} (a : fN M M1) : fN M (pA M1 19 f) := ⟨fun i hi => by rw [pA_n _ _ _ _ (by omega)]; exact a.1 i hi, fun g h1 h2 => by rw [pA_n _ _ _ _ (fun q => by rw [q] at h1; exact absurd h1 (by decide))]; exact a.2.1 g h1 h2, a.2.2⟩
theorem endsB {N b0 : Nat} (hN : 20000 ≤ N) {S : St} {V M : Vt} (hR : Rel XL b0 S V M) (mask : Int32) {k : Nat} (hk : k ≤ 99) {n : Nat} (hn : n ≤ 6) (e3 : M.2.1 2 106 = nI n) : ∃ (E : Nat → Nat → Nat) (V2 M2 : Vt), f_X3_learnPlaces N S V 48 1 mask (nI k) = some V2 ∧ f_X9_laysEnds N M (nI k) = some M2 ∧ SX V V2 ∧ SM0 M M2 ∧ ∀ j, j < n → ∀ c, c < 25 → E j c ≤ 25 ∧ ((mask >>> (nI j &&& 31)) &&& 1 = 1 → V2.2.1 56 (j * 25 + c) = nI (E j c)) ∧ M2.2.1 19 (25 * j + c) = nI (E j c) := by
  have x10 : V.1 1 10 = nI n := hR.2.2.1.1.trans e3
  obtain ⟨⟨V1, M1, E⟩, ⟨p1, p2, p3⟩, k2, en⟩ := lpN N (fun k2 (s : Vt × Vt × (Nat → Nat → Nat)) i => some (f_X3_learnPlaces_3 N S 48 1 k2 s.1 mask (nI k) i, f_X9_laysEnds_10 N k2 s.2.1 (nI k) (M.2.1 2 107) i)) n (fun i s => SX V s.1 ∧ fN M s.2.1 ∧ ∀ j, j < i → ∀ c, c < 25 → s.2.2 j c ≤ 25 ∧ ((mask >>> (nI j &&& 31)) &&& 1 = 1 → s.1.2.1 56 (j * 25 + c) = nI (s.2.2 j c)) ∧ s.2.1.2.1 19 (25 * j + c) = nI (s.2.2 j c)) (by
    rintro j ⟨V1, M1, E⟩ hj ⟨p1, p2, p3⟩
    obtain ⟨s1, s2, -⟩ := fN_s (x := nI j) p2 (lnM_r _)
    obtain ⟨q, hq, ht, hL⟩ := LQ_j hR p1 s1.1 hn e3 hj s2
    obtain ⟨st, V2, M2, h1, h2, ex, em, cx, cm, v53, m18⟩ := learnB hN hL
    obtain ⟨g1, g2, g3⟩ := fN_s p2 cm
    obtain ⟨fm, m1, m2, m3⟩ := m_36 (N := N) hN (M := M2) h1 m18 hk (show j < 6 by omega) (M.2.1 2 107)
    have ple : ∀ c, c < 25 → pla st k c ≤ 25 := fun c hc => pla_le h1 k c (by omega)
    have y106 : M1.2.1 2 106 = nI n := by rw [p2.1 106 (by omega)]; exact e3
    have mstep : ∀ k2, f_X9_laysEnds_10 N (k2 + 1) M1 (nI k) (M.2.1 2 107) (nI j) = f_X9_laysEnds_10 N k2 (pA M2 19 fm) (nI k) (M.2.1 2 107) (nI (j + 1)) := fun k2 => by
      rw [f_X9_laysEnds_10, lj 106, pl_ck (by omega) (by omega), nI_cl (by omega), y106, if_neg (show ¬ nI n ≤ nI j by rw [nI_L (by omega) (by omega)]; omega), lj 107, pl_ck (by omega) (by omega), nI_cl (by omega), pl_bd, em, pl_obv, m1]
    have m19 : ∀ i c, i < j → c < 25 → (pA M2 19 fm).2.1 19 (25 * i + c) = M1.2.1 19 (25 * i + c) := fun i c hi hc => by rw [pA_e, m3 _ (by omega), g3]
    have y10 : V1.1 1 10 = nI n := by rw [(p1.1 1 rfl).1]; exact x10
    have y8 : V1.2.2.2 (1 + 7) j = q + 1 := by rw [(p1.1 (1 + 7) rfl).2.2]; exact hq
    by_cases hb : (mask >>> (nI j &&& 31)) &&& 1 = 1
    · obtain ⟨fx, x1, x2, x3⟩ := x_37 (N := N) hN (S := S) (V := V2) h1 v53 hk (show j < 6 by omega) mask
      have l56 : V2.2.1 56 = V1.2.1 56 := cx.2.1 56 (by omega)
      refine ⟨(pA V2 56 fx, pA M2 19 fm, fun i c => if i = j then pla st k c else E i c), ⟨SX_t (SX_t p1 (SX_ln cx)) ⟨fun g hg => ⟨rfl, pA_n _ _ _ _ (fun e => by rw [e] at hg; exact absurd hg (by decide)), rfl⟩, rfl⟩, fN_p g1, fun i hi c hc => ?_⟩, fun k2 => ?_⟩
      · show (if i = j then pla st k c else E i c) ≤ 25 ∧ (_ → (pA V2 56 fx).2.1 56 (i * 25 + c) = nI (if i = j then pla st k c else E i c)) ∧ (pA M2 19 fm).2.1 19 (25 * i + c) = nI (if i = j then pla st k c else E i c)
        by_cases e : i = j
        · subst e
          rw [if_pos rfl, pA_e, pA_e]
          exact ⟨ple c hc, fun _ => x2 c hc, m2 c hc⟩
        · obtain ⟨a, b, d⟩ := p3 i (by omega) c hc
          rw [if_neg e, m19 i c (by omega) hc, pA_e, x3 _ (by omega), l56]
          exact ⟨a, b, d⟩
      · have ex' : f_X3_learn_t N S V1 48 1 q = some V2 := ex
        congr 2
        · show f_X3_learnPlaces_3 N S 48 1 (k2 + 1) V1 mask (nI k) (nI j) = f_X3_learnPlaces_3 N S 48 1 k2 (pA V2 56 fx) mask (nI k) (nI (j + 1))
          rw [f_X3_learnPlaces_3, y10, if_neg (show ¬ nI n ≤ nI j by rw [nI_L (by omega) (by omega)]; omega), if_pos hb, pl_ck (by omega) (by omega), nI_cl (by omega), pl_bd, y8, pl_nls, cgT ht, ex', pl_obv, x1]
          unfold f_X3_learnPlaces_70
          rw [nI_1, pl_bd]
        · exact mstep k2
    · refine ⟨(V1, pA M2 19 fm, fun i c => if i = j then pla st k c else E i c), ⟨p1, fN_p g1, fun i hi c hc => ?_⟩, fun k2 => ?_⟩
      · show (if i = j then pla st k c else E i c) ≤ 25 ∧ (_ → V1.2.1 56 (i * 25 + c) = nI (if i = j then pla st k c else E i c)) ∧ (pA M2 19 fm).2.1 19 (25 * i + c) = nI (if i = j then pla st k c else E i c)
        by_cases e : i = j
        · subst e
          rw [if_pos rfl, pA_e]
          exact ⟨ple c hc, fun h => absurd h hb, m2 c hc⟩
        · obtain ⟨a, b, d⟩ := p3 i (by omega) c hc
          rw [if_neg e, m19 i c (by omega) hc]
          exact ⟨a, b, d⟩
      · congr 2
        · show f_X3_learnPlaces_3 N S 48 1 (k2 + 1) V1 mask (nI k) (nI j) = f_X3_learnPlaces_3 N S 48 1 k2 V1 mask (nI k) (nI (j + 1))
          rw [f_X3_learnPlaces_3, y10, if_neg (show ¬ nI n ≤ nI j by rw [nI_L (by omega) (by omega)]; omega), if_neg hb]
          unfold f_X3_learnPlaces_70
          rw [nI_1, pl_bd]
        · exact mstep k2) (V, M, fun _ _ => 0) (by omega) ⟨SX_r V, ⟨fun _ _ => rfl, fun _ _ _ => rfl, fun _ _ => rfl⟩, fun j hj => absurd hj (Nat.not_lt_zero j)⟩
  have en' : (f_X3_learnPlaces_3 N S 48 1 N V mask (nI k) (nI 0), f_X9_laysEnds_10 N N M (nI k) (M.2.1 2 107) (nI 0)) = (f_X3_learnPlaces_3 N S 48 1 (k2 + 1) V1 mask (nI k) (nI n), f_X9_laysEnds_10 N (k2 + 1) M1 (nI k) (M.2.1 2 107) (nI n)) := Option.some.inj en
  refine ⟨E, V1, sA M1 2 107 (M.2.1 2 107), ?_, ?_, p1, ?_, fun j hj c hc => ?_⟩
  · have e1 : f_X3_learnPlaces N S V 48 1 mask (nI k) = f_X3_learnPlaces_3 N S 48 1 (k2 + 1) V1 mask (nI k) (nI n) := congrArg Prod.fst en'
    have y10 : V1.1 1 10 = nI n := by rw [(p1.1 1 rfl).1]; exact x10
    rw [e1, f_X3_learnPlaces_3, y10, if_pos (by rw [nI_L (by omega) (by omega)]; omega)]
  · have e1 : f_X9_laysEnds_10 N N M (nI k) (M.2.1 2 107) 0 = f_X9_laysEnds_10 N (k2 + 1) M1 (nI k) (M.2.1 2 107) (nI n) := congrArg Prod.snd en'
    have y106 : M1.2.1 2 106 = nI n := by rw [p2.1 106 (by omega)]; exact e3
    unfold f_X9_laysEnds
    rw [lj 107, pl_ck (by omega) (by omega), nI_cl (by omega), pl_bd, e1, f_X9_laysEnds_10, lj 106, pl_ck (by omega) (by omega), nI_cl (by omega), y106, if_pos (by rw [nI_L (by omega) (by omega)]; omega), lj 107, pl_ck (by omega) (by omega), nI_cl (by omega), pl_bd]
  · refine ⟨fun g hg => ?_, fun j hj => p2.2.2 j hj⟩
    by_cases g2 : g = 2
    · subst g2
      rw [sA_e]
      funext i
      by_cases hi : i = 107
      · subst hi; rw [upd_e]
      · rw [upd_n _ _ _ _ hi]; exact p2.1 i hi
    · rw [sA_n _ _ _ _ _ g2]; exact p2.2.1 g hg g2
  · obtain ⟨a, b, d⟩ := p3 j hj c hc
    rw [sA_n _ _ _ _ _ (by omega)]
    exact ⟨a, b, d⟩
end
