section
/-! a sum read by both -/
section P
variable {N : Nat} {S : St} {V M : Vt} {n mode : Nat} {tc tv P E : Nat → Nat}
theorem x_sign (H : PE N S V M n mode tc tv P E) {t : Nat} (ht : t ≤ n) (pt sz : Nat) (fl : Int32) (C : Nat → Int32) (ls c : Nat) (hls : ls < 20) (hw : ∀ x, wr ls x = if c = x then nI 0 else -1) (hc : c ≠ 0) : f_X5_readSign N S (rS V (P t) (E t) pt sz fl C) 37 ls = if tc t = c then some (nI 1, rS V (P (t + 1)) (E (t + 1)) pt sz fl C) else some (nI 0, rS V (P t) (E t) pt sz (nI (P t)) C) := by
  unfold f_X5_readSign
  rw [H.2.2.2.2.1 t ht _ _ _ _ ls hls, hw, pl_ob1]
  by_cases h : tc t = c
  · rw [if_pos (show c = tc t from h.symm), if_neg (by decide), if_pos h, H.2.2.2.2.2.2 t (PE_lt H ht (by omega)), pl_obv]; rfl
  · rw [if_neg (show ¬ c = tc t from fun q => h q.symm), if_pos rfl, if_neg h, r_fails, pl_ob]; rfl
theorem p_sum (H : PE N S V M n mode tc tv P E) : ∀ d lev dep, lev ≤ 2 → dep ≤ 8 → 3 * (9 - dep) ≤ d + lev → ∀ t pt sz fl C, t ≤ n → pt ≤ 50 → sz + n ≤ t + 447 →
    RES n V M P E t sz fl C (g_X5_readSum N S d lev (rS V (P t) (E t) pt sz fl C) 37 (nI dep)) (g_X9_readSum N d lev (qS M t pt NB) (nI dep)) (fun t' sz' C' => JS mode lev C' sz sz' (fun i => nI (tc i)) (fun i => nI (tv i)) n t t' (3 - lev + 2 * (8 - dep)) (3 * (9 - dep) - lev)) := by
  intro d
  induction d with
  | zero => intro lev dep hl hd h; omega
  | succ d ih =>
    intro lev dep hl hd hdd t pt sz fl C ht hpt hsz
    have hn := H.1.1
    have hN := H.1.2.2
    rcases (by omega : lev = 0 ∨ lev = 1 ∨ lev = 2) with rfl | rfl | rfl
    · -- a sum
      have hK : ∀ t pt sz fl C, t ≤ n → pt ≤ 50 → sz + n ≤ t + 447 → RES n V M P E t sz fl C (g_X5_readSum N S d 1 (rS V (P t) (E t) pt sz fl C) 37 (nI dep)) (g_X9_readSum N d 1 (qS M t pt NB) (nI dep)) (fun t' sz' C' => JS mode 1 C' sz sz' (fun i => nI (tc i)) (fun i => nI (tv i)) n t t' (2 + 2 * (8 - dep)) (3 * (9 - dep) - 1)) := fun t pt sz fl C h1 h2 h3 => ih 1 dep (by omega) hd (by omega) t pt sz fl C h1 h2 h3
      show RES n V M P E t sz fl C (f_X5_readSum N S (g_X5_readSum N S d) (rS V (P t) (E t) pt sz fl C) 37 (nI dep)) (f_X9_readSum N (g_X9_readSum N d) (qS M t pt NB) (nI dep)) _
      unfold f_X5_readSum f_X9_readSum
      rcases hK t pt sz fl C ht hpt hsz with ⟨t1, pt1, sz1, C1, ⟨g1, g2, g3, g4, g5⟩, ex, em, gC, gJ⟩ | ⟨f, s, e, pt1, sz1, C1, t2, lv2, f1, f2, ex, em⟩
      · rw [ex, em, pl_ob, pl_obv, show (0 : Int32) = nI 0 from rfl]
        exact l_Sum H hd _ _ hK t sz fl C (n - t1) t1 0 pt1 sz1 C1 (by omega) g2 (by omega) g1 g3 g4 g5 (by omega) gC (JSs_first gJ) N N (by omega) (by omega)
      · obtain ⟨m, hm⟩ : ∃ m, N = m + 1 := ⟨N - 1, by omega⟩
        rw [ex, em, pl_ob, pl_obv]
        have z1 : f_X5_readSum_8 N S (g_X5_readSum N S d) 37 N (rS V s e pt1 sz1 (nI f) C1) (nI dep) (nI 0) 0 = some (nI 0, rS V s e pt1 sz1 (nI f) C1) := by
          have := x_Sum0 (N := N) (S := S) (g_X5_readSum N S d) m (rS V s e pt1 sz1 (nI f) C1) (nI dep) 0
          rw [← hm] at this; exact this
        have z2 : f_X9_readSum_5 N (g_X9_readSum N d) N (qS M t2 lv2 (nI f)) (nI dep) = some (qS M t2 lv2 (nI f)) := by
          have := m_SumB (N := N) (M := M) (g_X9_readSum N d) m t2 lv2 f (by omega) (nI dep)
          rw [← hm] at this; exact this
        rw [z1, z2]
        exact Or.inr ⟨f, s, e, pt1, sz1, C1, t2, lv2, f1, f2, rfl, rfl⟩
    · -- a term
      have hK : ∀ t pt sz fl C, t ≤ n → pt ≤ 50 → sz + n ≤ t + 447 → RES n V M P E t sz fl C (g_X5_readSum N S d 2 (rS V (P t) (E t) pt sz fl C) 37 (nI dep)) (g_X9_readSum N d 2 (qS M t pt NB) (nI dep)) (fun t' sz' C' => JS mode 2 C' sz sz' (fun i => nI (tc i)) (fun i => nI (tv i)) n t t' (1 + 2 * (8 - dep)) (3 * (9 - dep) - 2)) := fun t pt sz fl C h1 h2 h3 => ih 2 dep (by omega) hd (by omega) t pt sz fl C h1 h2 h3
      show RES n V M P E t sz fl C (f_X5_readTerm N S (g_X5_readSum N S d) (rS V (P t) (E t) pt sz fl C) 37 (nI dep)) (f_X9_readTerm N (g_X9_readSum N d) (qS M t pt NB) (nI dep)) _
      unfold f_X5_readTerm f_X9_readTerm
      rcases hK t pt sz fl C ht hpt hsz with ⟨t1, pt1, sz1, C1, ⟨g1, g2, g3, g4, g5⟩, ex, em, gC, gJ⟩ | ⟨f, s, e, pt1, sz1, C1, t2, lv2, f1, f2, ex, em⟩
      · rw [ex, em, pl_ob, pl_obv, show (0 : Int32) = nI 0 from rfl]
        exact l_Term H hd _ _ hK t sz fl C (n - t1) t1 0 pt1 sz1 C1 (by omega) g2 (by omega) g1 g3 g4 g5 (by omega) gC (JSt_first gJ) N N (by omega) (by omega)
      · obtain ⟨m, hm⟩ : ∃ m, N = m + 1 := ⟨N - 1, by omega⟩
        rw [ex, em, pl_ob, pl_obv]
        have z1 : f_X5_readTerm_8 N S (g_X5_readSum N S d) 37 N (rS V s e pt1 sz1 (nI f) C1) (nI dep) (nI 0) 0 = some (nI 0, rS V s e pt1 sz1 (nI f) C1) := by
          have := x_Term0 (N := N) (S := S) (g_X5_readSum N S d) m (rS V s e pt1 sz1 (nI f) C1) (nI dep) 0
          rw [← hm] at this; exact this
        have z2 : f_X9_readTerm_5 N (g_X9_readSum N d) N (qS M t2 lv2 (nI f)) (nI dep) = some (qS M t2 lv2 (nI f)) := by
          have := m_TermB (N := N) (M := M) (g_X9_readSum N d) m t2 lv2 f (by omega) (nI dep)
          rw [← hm] at this; exact this
        rw [z1, z2]
        exact Or.inr ⟨f, s, e, pt1, sz1, C1, t2, lv2, f1, f2, rfl, rfl⟩
    · -- a part
      show RES n V M P E t sz fl C (f_X5_readPart N S (g_X5_readSum N S d) (rS V (P t) (E t) pt sz fl C) 37 (nI dep)) (f_X9_readPart N (g_X9_readSum N d) (qS M t pt NB) (nI dep)) _
      by_cases hb : tc t = 191
      · have htn := PE_lt H ht (by omega)
        obtain ⟨c400, c31, hp, e9, e10, e11⟩ := H.2.2.2.1.2 t ht
        have ms : f_X9_readPart N (g_X9_readSum N d) (qS M t pt NB) (nI dep) = if nI dep = (8 : Int32) then obv (f_X9_faults N (qS M t pt NB)) (fun V80 => f_X9_readPart_37 N (g_X9_readSum N d) V80 (nI dep)) else f_X9_readPart_37 N (g_X9_readSum N d) (qS M t pt NB) (nI dep) := by
          unfold f_X9_readPart
          rw [q_fine, pl_ob1, if_neg (by decide), qS_19, pl_ck (by omega) (by omega), nI_cl (by omega), qS_2, e9, hb, pl_bd]
          unfold f_X9_sign
          rw [pl_ob1, if_pos (by decide)]
        have w1 : f_X5_wordIn N S (rS V (P t) (E t) pt sz fl C) 37 1 = some (nI 0) := by rw [H.2.2.2.2.1 t ht _ _ _ _ 1 (by omega), hb]; rfl
        unfold f_X5_readPart
        rw [w1, pl_ob1, if_neg (by decide), ms]
        by_cases h8 : dep = 8
        · subst h8
          rw [if_neg (by decide), r_fails, pl_ob, if_pos (show nI 8 = 8 from rfl), q_faults H ht, pl_obv]
          unfold f_X9_readPart_37
          rw [q_fineB _ _ _ _ (by omega)]
          exact Or.inr ⟨P t, P t, E t, pt, sz, C, t, pt, hp, by omega, rfl, rfl⟩
        · rw [if_pos (by rw [lj 8, nI_T (by omega) (by omega)]; omega), if_neg (by rw [lj 8, nI_E (by omega) (by omega)]; exact h8), H.2.2.2.2.2.2 t htn, pl_obv]
          unfold f_X9_readPart_37
          rw [q_fine, pl_ob1, if_neg (by decide), qS_19, nI_1 dep, nI_1 t, qS_f19, pl_bd]
          rcases ih 0 (dep + 1) (by omega) (by omega) (by omega) (t + 1) pt sz fl C htn hpt (by omega) with ⟨t1, pt1, sz1, C1, ⟨g1, g2, g3, g4, g5⟩, ex, em, gC, gJ⟩ | ⟨f, s, e, pt1, sz1, C1, t2, lv2, f1, f2, ex, em⟩
          · have hp1 := (H.2.2.2.1.2 t1 g2).2.2.1
            rw [ex, em, pl_ob, pl_obv, if_neg (by decide), x_sign H g2 _ _ _ _ 2 193 (by omega) (fun x => rfl) (by omega)]
            unfold f_X9_sign
            rw [pl_ob1, show (100 : Int32) + 93 = nI 193 from rfl, q_must H g2 _ 193 (by omega), pl_obv]
            by_cases h93 : tc t1 = 193
            · have ht1 := PE_lt H g2 (by omega)
              rw [if_pos h93, if_pos h93, pl_ob, if_neg (by decide)]
              exact Or.inl ⟨t1 + 1, pt1, sz1, C1, ⟨by omega, ht1, g3, g4, by omega⟩, rfl, rfl, gC, J_br (by omega) gJ (by rw [hb]) ht1⟩
            · rw [if_neg h93, if_neg h93, pl_ob, if_pos (show nI 0 = 0 from rfl)]
              exact Or.inr ⟨P t1, P t1, E t1, pt1, sz1, C1, t1, pt1, hp1, by omega, rfl, rfl⟩
          · rw [ex, em, pl_ob, pl_obv, if_pos (show nI 0 = 0 from rfl)]
            unfold f_X9_sign
            rw [pl_ob1, q_mustB _ _ _ _ (by omega), pl_obv]
            exact Or.inr ⟨f, s, e, pt1, sz1, C1, t2, lv2, f1, f2, rfl, rfl⟩
      · exact p_leaf H ht hb _ _ hd hpt hsz fl C
end P
end
