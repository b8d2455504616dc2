section
/-! leaves: both; sums: both -/
theorem wr3_no {c : Nat} (h : c < 9 ∨ 18 < c) : wr 3 c = -1 := by
  show (if 9 = c then nI 0 else if 10 = c then nI 1 else if 11 = c then nI 2 else if 15 = c then nI 3 else if 16 = c then nI 4 else if 17 = c then nI 5 else if 12 = c then nI 6 else if 13 = c then nI 7 else if 18 = c then nI 8 else if 14 = c then nI 9 else -1) = -1
  rw [if_neg (by omega), if_neg (by omega), if_neg (by omega), if_neg (by omega), if_neg (by omega), if_neg (by omega), if_neg (by omega), if_neg (by omega), if_neg (by omega), if_neg (by omega)]
theorem wr4_no {c : Nat} (h : c < 15 ∨ 21 < c) : wr 4 c = -1 := by
  show (if 18 = c then nI 0 else if 19 = c then nI 1 else if 20 = c then nI 2 else if 15 = c then nI 3 else if 16 = c then nI 4 else if 17 = c then nI 5 else if 21 = c then nI 6 else -1) = -1
  rw [if_neg (by omega), if_neg (by omega), if_neg (by omega), if_neg (by omega), if_neg (by omega), if_neg (by omega), if_neg (by omega)]
theorem wr3_k {k : Nat} (h : k < 10) : wr 3 (9 + k) = nI (wl k) ∧ wl k < 10 := by
  rcases (by omega : k = 0 ∨ k = 1 ∨ k = 2 ∨ k = 3 ∨ k = 4 ∨ k = 5 ∨ k = 6 ∨ k = 7 ∨ k = 8 ∨ k = 9) with rfl | rfl | rfl | rfl | rfl | rfl | rfl | rfl | rfl | rfl <;> exact ⟨rfl, by decide⟩
section P
variable {N : Nat} {S : St} {V M : Vt} {n mode : Nat} {tc tv P E : Nat → Nat}
theorem p_leaf (H : PE N S V M n mode tc tv P E) {t : Nat} (ht : t ≤ n) (hb : ¬ tc t = 191) (KR : Nat → Vt → Nat → Int32 → Option (Int32 × Vt)) (KM : Nat → Vt → Int32 → Option Vt) {pt sz dep : Nat} (hd : dep ≤ 8) (hpt : pt ≤ 50) (hsz : sz + n ≤ t + 447) (fl : Int32) (C : Nat → Int32) :
    RES n V M P E t sz fl C (f_X5_readPart N S KR (rS V (P t) (E t) pt sz fl C) 37 (nI dep)) (f_X9_readPart N KM (qS M t pt NB) (nI dep)) (fun t' sz' C' => JS mode 2 C' sz sz' (fun i => nI (tc i)) (fun i => nI (tv i)) n t t' (1 + 2 * (8 - dep)) (3 * (9 - dep) - 2)) := by
  obtain ⟨c400, c31, hp, e9, e10, e11⟩ := H.2.2.2.1.2 t ht
  have hn := H.1.1
  rw [m_part H ht hb]
  by_cases hnum : tc t = 50 ∧ tv t ≤ 1000
  · have htn := PE_lt H ht (by omega)
    rw [x_part H ht hb KR pt sz dep fl C (nI (tv t)) _ (if_pos hnum) rfl, if_neg (m1_nI c31), x_part87 H htn KR pt sz hpt fl C, if_pos (Or.inl hnum), m_part111 H htn KM pt hpt _ c400]
    by_cases h5 : pt = 50
    · rw [if_pos h5, if_pos h5]
      exact Or.inr ⟨P t, P t, E t, pt, sz, C, t, 51, hp, by omega, rfl, rfl⟩
    · rw [if_neg h5, if_neg h5, if_neg (m1_nI c31), if_neg (by omega), if_neg (by omega)]
      refine Or.inl ⟨t + 1, pt + 1, sz + 1, upd C sz (nI (1 + 256 * tv t)), ⟨by omega, htn, by omega, by omega, by omega⟩, ?_, rfl, fun i hi => upd_n _ _ _ _ (by omega), J_num htn (by rw [hnum.1]) rfl hnum.2 (upd_e _ _ _) hd⟩
      rw [show (1 : Int32) = nI 1 from rfl, r_put S V _ _ _ _ _ _ (by omega) (by omega) (by omega), pl_ob]
  · have n35 : (if tc t = 50 ∧ tv t ≤ 1000 then nI (tv t) else -1) = (-1 : Int32) := if_neg hnum
    by_cases hw : 9 + 6 * mode ≤ tc t ∧ tc t ≤ 18 + 3 * mode
    · have htn := PE_lt H ht (by omega)
      rw [if_pos (Or.inr hw), m_part111 H htn KM pt hpt _ c400]
      have h4 := H.2.1.1
      rcases H.1.2.1 with rfl | rfl
      · -- a law's word
        obtain ⟨k, hk⟩ : ∃ k, tc t = 9 + k := ⟨tc t - 9, by omega⟩
        have hk10 : k < 10 := by omega
        obtain ⟨w1, w2⟩ := wr3_k hk10
        rw [x_part H ht hb KR pt sz dep fl C (-1) (nI (wl k)) n35 (by rw [hk]; exact w1), if_pos rfl, if_neg (m1_nI (by omega)), x_part87 H htn KR pt sz hpt fl C]
        by_cases h5 : pt = 50
        · rw [if_pos h5, if_pos h5]
          exact Or.inr ⟨P t, P t, E t, pt, sz, C, t, 51, hp, by omega, rfl, rfl⟩
        · rw [if_neg h5, if_neg h5, if_pos rfl, if_neg (by omega), if_neg (by omega)]
          refine Or.inl ⟨t + 1, pt + 1, sz + 1, upd C sz (nI (2 + 256 * wl k)), ⟨by omega, htn, by omega, by omega, by omega⟩, ?_, rfl, fun i hi => upd_n _ _ _ _ (by omega), J_lw htn (by rw [hk]) hk10 rfl w2 (upd_e _ _ _) hd⟩
          unfold f_X5_readWord f_X5_readWord_12
          rw [rS_4, h4, if_neg (by decide), show (2 : Int32) = nI 2 from rfl, r_put S V _ _ _ _ _ _ (by omega) (by omega) (by omega), pl_ob, pl_ob]
          rfl
      · -- a word of orders
        have fin5 : pt = 50 → RES n V M P E t sz fl C (some (nI 0, rS V (P t) (E t) pt sz (nI (P t)) C)) (some (qS M t 51 (nI (P t)))) (fun t' sz' C' => JS 1 2 C' sz sz' (fun i => nI (tc i)) (fun i => nI (tv i)) n t t' (1 + 2 * (8 - dep)) (3 * (9 - dep) - 2)) := fun _ => Or.inr ⟨P t, P t, E t, pt, sz, C, t, 51, hp, by omega, rfl, rfl⟩
        have plain : ∀ a, a < 3 → tc t = 18 + a → wr 4 (tc t) = nI a → RES n V M P E t sz fl C (f_X5_readPart N S KR (rS V (P t) (E t) pt sz fl C) 37 (nI dep)) (if pt = 50 then some (qS M t 51 (nI (P t))) else if 1 = 1 ∧ tc t = 15 then f_X9_mustNumber N (qS M (t + 1) (pt + 1) NB) (nI 0) (nI 24) else if 1 = 1 ∧ (tc t = 16 ∨ tc t = 17 ∨ tc t = 21) then f_X9_mustNumber N (qS M (t + 1) (pt + 1) NB) (nI 0) (nI 4) else some (qS M (t + 1) (pt + 1) NB)) (fun t' sz' C' => JS 1 2 C' sz sz' (fun i => nI (tc i)) (fun i => nI (tv i)) n t t' (1 + 2 * (8 - dep)) (3 * (9 - dep) - 2)) := by
          intro a ha hta hwa
          rw [x_part H ht hb KR pt sz dep fl C (-1) (nI a) n35 hwa, if_pos rfl, if_neg (m1_nI (by omega)), x_part87 H htn KR pt sz hpt fl C]
          by_cases h5 : pt = 50
          · rw [if_pos h5, if_pos h5]; exact fin5 h5
          · rw [if_neg h5, if_neg h5, if_pos rfl, if_neg (by omega), if_neg (by omega)]
            refine Or.inl ⟨t + 1, pt + 1, sz + 1, upd C sz (nI (2 + 256 * a)), ⟨by omega, htn, by omega, by omega, by omega⟩, ?_, rfl, fun i hi => upd_n _ _ _ _ (by omega), J_o1 (c := tc t) htn rfl (by omega) (by omega) (upd_e _ _ _) hd⟩
            unfold f_X5_readWord f_X5_readWord_12
            rw [rS_4, h4, if_pos (by decide), if_neg (by rw [lj 3, nI_L (by omega) (by omega)]; omega), show (2 : Int32) = nI 2 from rfl, r_put S V _ _ _ _ _ _ (by omega) (by omega) (by omega), pl_ob, pl_ob]
            rfl
        have withN : ∀ a m first, 3 ≤ a → a ≤ 6 → m ≤ 24 → first + m < 1000 → wr 4 (tc t) = nI a → ((tc t = 15 ∧ m = 24 ∧ first = 3 ∧ a = 3) ∨ ((tc t = 16 ∨ tc t = 17 ∨ tc t = 21) ∧ m = 4 ∧ ¬ a = 3 ∧ first = 28 + 5 * (a - 4))) → (∀ k, k ≤ m → wo (tc t) k = first + k) → RES n V M P E t sz fl C (f_X5_readPart N S KR (rS V (P t) (E t) pt sz fl C) 37 (nI dep)) (if pt = 50 then some (qS M t 51 (nI (P t))) else if 1 = 1 ∧ tc t = 15 then f_X9_mustNumber N (qS M (t + 1) (pt + 1) NB) (nI 0) (nI 24) else if 1 = 1 ∧ (tc t = 16 ∨ tc t = 17 ∨ tc t = 21) then f_X9_mustNumber N (qS M (t + 1) (pt + 1) NB) (nI 0) (nI 4) else some (qS M (t + 1) (pt + 1) NB)) (fun t' sz' C' => JS 1 2 C' sz sz' (fun i => nI (tc i)) (fun i => nI (tv i)) n t t' (1 + 2 * (8 - dep)) (3 * (9 - dep) - 2)) := by
          intro a m first ha3 ha6 hm hfm hwa hcase hwo
          rw [x_part H ht hb KR pt sz dep fl C (-1) (nI a) n35 hwa, if_pos rfl, if_neg (m1_nI (by omega)), x_part87 H htn KR pt sz hpt fl C]
          by_cases h5 : pt = 50
          · rw [if_pos h5, if_pos h5]; exact fin5 h5
          · rw [if_neg h5, if_neg h5, if_pos rfl]
            have hp1 := (H.2.2.2.1.2 (t + 1) htn).2.2.1
            have c1 := (H.2.2.2.1.2 (t + 1) htn).2.1
            have mm : (if 1 = 1 ∧ tc t = 15 then f_X9_mustNumber N (qS M (t + 1) (pt + 1) NB) (nI 0) (nI 24) else if 1 = 1 ∧ (tc t = 16 ∨ tc t = 17 ∨ tc t = 21) then f_X9_mustNumber N (qS M (t + 1) (pt + 1) NB) (nI 0) (nI 4) else some (qS M (t + 1) (pt + 1) NB)) = some (if tc (t + 1) = 50 ∧ tv (t + 1) ≤ m then qS M (t + 1 + 1) (pt + 1) NB else qS M (t + 1) (pt + 1) (nI (P (t + 1)))) := by
              rcases hcase with ⟨h1, rfl, -, -⟩ | ⟨h1, rfl, -, -⟩
              · rw [if_pos ⟨rfl, h1⟩, q_num H (show t + 1 ≤ n from htn) _ 0 24 (by omega) (by omega)]
                congr 1
                by_cases c : tc (t + 1) = 50 ∧ tv (t + 1) ≤ 24
                · rw [if_pos c, if_pos ⟨c.1, by omega, c.2⟩]
                · rw [if_neg c, if_neg (by omega)]
              · rw [if_neg (by omega), if_pos ⟨rfl, h1⟩, q_num H (show t + 1 ≤ n from htn) _ 0 4 (by omega) (by omega)]
                congr 1
                by_cases c : tc (t + 1) = 50 ∧ tv (t + 1) ≤ 4
                · rw [if_pos c, if_pos ⟨c.1, by omega, c.2⟩]
                · rw [if_neg c, if_neg (by omega)]
            rw [mm]
            have nt := H.2.2.2.2.2.1 (t + 1) htn (pt + 1) sz fl C m (by omega)
            have xw : f_X5_readWord N S (rS V (P (t + 1)) (E (t + 1)) (pt + 1) sz fl C) 37 (nI a) = ob1 (f_X5_numberTo N S (rS V (P (t + 1)) (E (t + 1)) (pt + 1) sz fl C) 37 (nI m)) (fun r22 => if r22 = (-1 : Int32) then ob (f_X5_fails N S (rS V (P (t + 1)) (E (t + 1)) (pt + 1) sz fl C) 37) (fun r32 V34 => cb r32 (some (r32, V34))) else f_X5_readWord_75 N S 37 (rS V (P (t + 1)) (E (t + 1)) (pt + 1) sz fl C) r22 (nI first)) := by
              unfold f_X5_readWord f_X5_readWord_31 f_X5_readWord_43
              rw [rS_4, h4, if_pos (by decide), if_pos (by rw [lj 3, nI_L (by omega) (by omega)]; omega)]
              rcases hcase with ⟨h1, rfl, rfl, rfl⟩ | ⟨h1, rfl, h3, hf⟩
              · rw [if_pos (show nI 3 = 3 from rfl), if_neg (show ¬ (1 : Int32) = 0 by decide)]
                congr 1
              · rw [if_neg (by rw [lj 3, nI_E (by omega) (by omega)]; exact h3), if_pos (show (0 : Int32) = 0 from rfl)]
                have e : ((28 : Int32) + ((5 : Int32) * ((nI a - (3 : Int32)) - (1 : Int32)))) = nI first := by
                  rw [lj 28, lj 5, lj 3, lj 1, pk_sub (by omega), pk_sub (by omega), pk_mul, nI_add]; congr 1; omega
                simp only [e]
                congr 1
            rw [xw, nt]
            by_cases c : tc (t + 1) = 50 ∧ tv (t + 1) ≤ m
            · have ht2 := PE_lt H (show t + 1 ≤ n from htn) (by omega)
              rw [if_pos c, if_pos c, pl_ob1, if_neg (m1_nI c1)]
              unfold f_X5_readWord_75
              rw [nI_add, show (2 : Int32) = nI 2 from rfl, r_put S V _ _ _ _ _ _ (by omega) (by omega) (by omega), pl_ob, H.2.2.2.2.2.2 (t + 1) ht2, pl_obv, pl_ob]
              exact Or.inl ⟨t + 1 + 1, pt + 1, sz + 1, upd C sz (nI (2 + 256 * (first + tv (t + 1)))), ⟨by omega, ht2, by omega, by omega, by omega⟩, rfl, rfl, fun i hi => upd_n _ _ _ _ (by omega), J_o2 (c := tc t) (k := tv (t + 1)) ht2 rfl rfl (by omega) (hwo _ c.2) (upd_e _ _ _) hd⟩
            · rw [if_neg c, if_neg c, pl_ob1, if_pos rfl, r_fails, pl_ob, pl_cb0, pl_ob]
              exact Or.inr ⟨P (t + 1), P (t + 1), E (t + 1), pt + 1, sz, C, t + 1, pt + 1, hp1, by omega, rfl, rfl⟩
        rcases (by omega : tc t = 15 ∨ tc t = 16 ∨ tc t = 17 ∨ tc t = 18 ∨ tc t = 19 ∨ tc t = 20 ∨ tc t = 21) with h | h | h | h | h | h | h
        · exact withN 3 24 3 (by omega) (by omega) (by omega) (by omega) (by rw [h]; rfl) (Or.inl ⟨h, rfl, rfl, rfl⟩) (fun k hk => by rw [h]; rfl)
        · exact withN 4 4 28 (by omega) (by omega) (by omega) (by omega) (by rw [h]; rfl) (Or.inr ⟨Or.inl h, rfl, by omega, rfl⟩) (fun k hk => by rw [h]; rfl)
        · exact withN 5 4 33 (by omega) (by omega) (by omega) (by omega) (by rw [h]; rfl) (Or.inr ⟨Or.inr (Or.inl h), rfl, by omega, rfl⟩) (fun k hk => by rw [h]; rfl)
        · exact plain 0 (by omega) h (by rw [h]; rfl)
        · exact plain 1 (by omega) h (by rw [h]; rfl)
        · exact plain 2 (by omega) h (by rw [h]; rfl)
        · exact withN 6 4 38 (by omega) (by omega) (by omega) (by omega) (by rw [h]; rfl) (Or.inr ⟨Or.inr (Or.inr h), rfl, by omega, rfl⟩) (fun k hk => by rw [h]; rfl)
    · have no : wr (3 + mode) (tc t) = -1 := by
        rcases H.1.2.1 with rfl | rfl
        · exact wr3_no (by omega)
        · exact wr4_no (by omega)
      rw [x_part H ht hb KR pt sz dep fl C (-1) (-1) n35 no, if_pos rfl, if_pos rfl, x_part96, if_neg (fun q => q.elim hnum hw)]
      exact Or.inr ⟨P t, P t, E t, pt, sz, C, t, pt, hp, by omega, rfl, rfl⟩
end P
end
