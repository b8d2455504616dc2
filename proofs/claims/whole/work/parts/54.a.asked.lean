section
/-! what a law tells of a cell, a clerk: both sides -/
def wcF (e su te : Nat → Int32) (c : Nat) (p kn : Int32) (i : Nat) : Int32 := if i = 0 then nI c else if i = 1 then nI (c / 5) else if i = 2 then nI (c % 5) else if i = 3 then e c else if i = 4 then ofS e su (c / 5) else if i = 5 then ofS e su (5 + c % 5) else if i = 6 then p else if i = 7 then kn else if i = 8 then te 0 else te 2
theorem x_fillW {N : Nat} (hN : 20000 ≤ N) (S : St) (V : Vt) (o a1 c : Nat) (ha : a1 + 9 < o) (hc : c < 25) (p kn : Int32) (hp : (f_X0_hasClerk N S V a1 p = some (nI 0) ∧ kn = -1) ∨ ∃ k, k < 5 ∧ p = nI k ∧ f_X0_hasClerk N S V a1 p = some (nI 1) ∧ kn = V.2.1 (a1 + 4) k) : ∃ f, f_X6_fillWorths N S V o a1 (nI c) p = some (pA V (o + 3) f) ∧ ∀ i, i < 10 → f i = wcF (V.2.1 (a1 + 1)) (V.2.1 (a1 + 3)) (V.2.1 (a1 + 6)) c p kn i := by
  have v1 : ∀ f, (pA V (o + 3) f).2.1 (a1 + 1) = V.2.1 (a1 + 1) := fun f => pA_n _ _ _ _ (by omega)
  have v3 : ∀ f, (pA V (o + 3) f).2.1 (a1 + 3) = V.2.1 (a1 + 3) := fun f => pA_n _ _ _ _ (by omega)
  have v4 : ∀ f, (pA V (o + 3) f).2.1 (a1 + 4) = V.2.1 (a1 + 4) := fun f => pA_n _ _ _ _ (by omega)
  have v6 : ∀ f, (pA V (o + 3) f).2.1 (a1 + 6) = V.2.1 (a1 + 6) := fun f => pA_n _ _ _ _ (by omega)
  have c5 : c / 5 < 5 := by omega
  have c6 : c % 5 < 5 := by omega
  have rm5 : nI c - nI (c / 5 * 5) = nI (c % 5) := by rw [pk_sub (by omega)]; congr 1; omega
  have g0 : ∀ f, f_X0_gap N S (pA V (o + 3) f) a1 (nI 0) (nI (c / 5)) = some (ofS (V.2.1 (a1 + 1)) (V.2.1 (a1 + 3)) (c / 5)) := fun f => by
    rw [x_gap hN S _ a1 0 (c / 5) (by omega) c5, v1, v3, Nat.mul_zero, Nat.zero_add]
  have g1 : ∀ f, f_X0_gap N S (pA V (o + 3) f) a1 (nI 1) (nI (c % 5)) = some (ofS (V.2.1 (a1 + 1)) (V.2.1 (a1 + 3)) (5 + c % 5)) := fun f => by
    rw [x_gap hN S _ a1 1 (c % 5) (by omega) c6, v1, v3]
  have hh : ∀ f, f_X0_hasClerk N S (pA V (o + 3) f) a1 p = f_X0_hasClerk N S V a1 p := fun f => rfl
  have fin : ∀ (f : Nat → Int32) (x : Int32), ∃ f', f_X6_fillWorths_97 N S o a1 (pA V (o + 3) f) x (nI 7) = some (pA V (o + 3) f') ∧ f' = upd (upd (upd f 7 x) 8 (V.2.1 (a1 + 6) 0)) 9 (V.2.1 (a1 + 6) 2) := by
    intro f x
    refine ⟨_, ?_, rfl⟩
    unfold f_X6_fillWorths_97
    simp (disch := omega) only [sA_pAe, v6, ↓pl_bd, pl_ob, pl_ob1, pl_obv, pl_oa, pl_oav, pl_cg, pl_cb0, pl_cb1, pl_nl0, pl_nls, li, nI_cl, pl_ck, nI_E, nI_L, nI_T, nI_add, pk_mul, Nat.zero_add, Nat.add_zero, Nat.reduceAdd, Nat.reduceMul, Nat.reduceSub, Nat.reduceEqDiff, Nat.reduceLeDiff, Nat.reduceLT, ↓reduceIte]
  have main : ∃ f0, (∀ i, i < 7 → f0 i = wcF (V.2.1 (a1 + 1)) (V.2.1 (a1 + 3)) (V.2.1 (a1 + 6)) c p kn i) ∧ f_X6_fillWorths N S V o a1 (nI c) p = ob1 (f_X0_hasClerk N S V a1 p) (fun r50 => if r50 = 0 then f_X6_fillWorths_97 N S o a1 (pA V (o + 3) f0) (-1) (nI 7) else ck p 5 (f_X6_fillWorths_97 N S o a1 (pA V (o + 3) f0) (V.2.1 (a1 + 4) p.toNatClampNeg) (nI 7))) := by
    refine ⟨upd (upd (upd (upd (upd (upd (upd (V.2.1 (o + 3)) 0 (nI c)) 1 (nI (c / 5))) 2 (nI (c % 5))) 3 (V.2.1 (a1 + 1) c)) 4 (ofS (V.2.1 (a1 + 1)) (V.2.1 (a1 + 3)) (c / 5))) 5 (ofS (V.2.1 (a1 + 1)) (V.2.1 (a1 + 3)) (5 + c % 5))) 6 p, fun i hi => ?_, ?_⟩
    · rcases (by omega : i = 0 ∨ i = 1 ∨ i = 2 ∨ i = 3 ∨ i = 4 ∨ i = 5 ∨ i = 6) with rfl | rfl | rfl | rfl | rfl | rfl | rfl <;> rfl
    · have e0 : sA V (o + 3) 0 (nI c) = pA V (o + 3) (upd (V.2.1 (o + 3)) 0 (nI c)) := sA_pA V _ _ _
      unfold f_X6_fillWorths
      simp (disch := omega) only [e0, sA_pAe, v1, v4, g0, g1, hh, pk_div, rm5, ↓pl_bd, pl_ob, pl_ob1, pl_obv, pl_oa, pl_oav, pl_cg, pl_cb0, pl_cb1, pl_nl0, pl_nls, li, nI_cl, pl_ck, nI_E, nI_L, nI_T, nI_add, pk_mul, Nat.zero_add, Nat.add_zero, Nat.reduceAdd, Nat.reduceMul, Nat.reduceSub, Nat.reduceEqDiff, Nat.reduceLeDiff, Nat.reduceLT, ↓reduceIte]
      rfl
  obtain ⟨f0, h0, e0⟩ := main
  have done : ∀ (x : Int32), x = kn → ∀ i, i < 10 → (upd (upd (upd f0 7 x) 8 (V.2.1 (a1 + 6) 0)) 9 (V.2.1 (a1 + 6) 2)) i = wcF (V.2.1 (a1 + 1)) (V.2.1 (a1 + 3)) (V.2.1 (a1 + 6)) c p kn i := by
    intro x hx i hi
    by_cases h9 : i = 9
    · subst h9; rfl
    · rw [upd_n _ _ _ _ h9]
      by_cases h8 : i = 8
      · subst h8; rfl
      · rw [upd_n _ _ _ _ h8]
        by_cases h7 : i = 7
        · subst h7; rw [upd_e, hx]; rfl
        · rw [upd_n _ _ _ _ h7]; exact h0 i (by omega)
  rcases hp with ⟨h, hk⟩ | ⟨k, hk5, rfl, h, hk⟩
  · obtain ⟨f', e', d'⟩ := fin f0 (-1)
    refine ⟨f', ?_, ?_⟩
    · rw [e0, h, pl_ob1, if_pos (show nI 0 = 0 from rfl), e']
    · rw [d']; exact done _ hk.symm
  · obtain ⟨f', e', d'⟩ := fin f0 (V.2.1 (a1 + 4) k)
    refine ⟨f', ?_, ?_⟩
    · rw [e0, h, pl_ob1, if_neg (by decide), pl_ck hk5 (by omega), nI_cl (by omega), e']
    · rw [d']; exact done _ hk.symm
theorem rm5 {c : Nat} (hc : c < 25) : nI c - nI (c / 5 * 5) = nI (c % 5) := by rw [pk_sub (by omega)]; congr 1; omega
theorem m_asked55 {N : Nat} (hN : 20000 ≤ N) (M : Vt) (c : Nat) (hc : c < 25) (f : Nat → Int32) (x : Int32) : f_X9_setsAsked_55 N (pA M 12 f) (nI c) x (nI 4) = some (pA M 12 (upd (upd (upd (upd (upd (upd f 4 x) 5 (M.2.1 2 102)) 6 (M.2.1 2 c)) 7 (ofS (M.2.1 2) (fun i => M.2.1 2 (32 + i)) (c / 5))) 8 (ofS (M.2.1 2) (fun i => M.2.1 2 (32 + i)) (5 + c % 5))) 9 (M.2.1 2 31))) := by
  have v2 : ∀ f, (pA M 12 f).2.1 2 = M.2.1 2 := fun f => pA_n _ _ _ _ (by omega)
  have c5 : c / 5 < 5 := by omega
  have c6 : c % 5 < 5 := by omega
  have r5 := rm5 hc
  have g0 : ∀ f, f_X9_offBy N (pA M 12 f) (nI (c / 5)) = some (ofS (M.2.1 2) (fun i => M.2.1 2 (32 + i)) (c / 5)) := fun f => by
    rw [m_offBy hN _ (c / 5) (by omega), v2]
  have g1 : ∀ f, f_X9_offBy N (pA M 12 f) (nI (5 + c % 5)) = some (ofS (M.2.1 2) (fun i => M.2.1 2 (32 + i)) (5 + c % 5)) := fun f => by
    rw [m_offBy hN _ (5 + c % 5) (by omega), v2]
  unfold f_X9_setsAsked_55
  simp (disch := omega) only [sA_pAe, v2, g0, g1, pk_div, r5, ↓pl_bd, pl_ob, pl_ob1, pl_obv, pl_oa, pl_oav, pl_cg, pl_cb0, pl_cb1, pl_nl0, pl_nls, li, nI_cl, pl_ck, nI_E, nI_L, nI_T, nI_add, pk_mul, Nat.zero_add, Nat.add_zero, Nat.reduceAdd, Nat.reduceMul, Nat.reduceSub, Nat.reduceEqDiff, Nat.reduceLeDiff, Nat.reduceLT, ↓reduceIte]
theorem m_askedS {N : Nat} (M : Vt) (c : Nat) (hc : c < 25) (p : Int32) : f_X9_setsAsked N M p (nI c) = if p = (-1 : Int32) then f_X9_setsAsked_55 N (pA M 12 (upd (upd (upd (upd (M.2.1 12) 0 (nI c)) 1 (nI (c / 5))) 2 (nI (c % 5))) 3 p)) (nI c) (-1 : Int32) (nI 4) else ck (nI 42 + p) 5715 (f_X9_setsAsked_55 N (pA M 12 (upd (upd (upd (upd (M.2.1 12) 0 (nI c)) 1 (nI (c / 5))) 2 (nI (c % 5))) 3 p)) (nI c) (M.2.1 2 (nI 42 + p).toNatClampNeg) (nI 4)) := by
  have v2 : ∀ f, (pA M 12 f).2.1 2 = M.2.1 2 := fun f => pA_n _ _ _ _ (by omega)
  have r5 := rm5 hc
  have d5 : nI c / nI 5 = nI (c / 5) := pk_div (by omega) (by omega) (by omega)
  have m5 : nI (c / 5) * nI 5 = nI (c / 5 * 5) := pk_mul _ _
  unfold f_X9_setsAsked
  generalize (-1 : Int32) = mm
  rw [lj 0, pl_ck (by omega) (by omega), pl_bd, lj 1, pl_ck (by omega) (by omega), pl_bd, lj 2, pl_ck (by omega) (by omega), pl_bd, lj 3, pl_ck (by omega) (by omega), pl_bd, lj 5, d5, m5, r5, nI_cl (by omega), nI_cl (by omega), nI_cl (by omega), nI_cl (by omega), sA_pA M, sA_pAe, sA_pAe, sA_pAe, v2]
  rfl
def askF (M : Vt) (c : Nat) (p x : Int32) : Nat → Int32 := upd (upd (upd (upd (upd (upd (upd (upd (upd (upd (M.2.1 12) 0 (nI c)) 1 (nI (c / 5))) 2 (nI (c % 5))) 3 p) 4 x) 5 (M.2.1 2 102)) 6 (M.2.1 2 c)) 7 (ofS (M.2.1 2) (fun i => M.2.1 2 (32 + i)) (c / 5))) 8 (ofS (M.2.1 2) (fun i => M.2.1 2 (32 + i)) (5 + c % 5))) 9 (M.2.1 2 31)
theorem m_askedA (M : Vt) (c : Nat) (p kn : Int32) (i : Nat) (hi : i < 10) : askF M c p kn i = wcF (M.2.1 2) (fun j => M.2.1 2 (32 + j)) (fun j => if j = 0 then M.2.1 2 31 else M.2.1 2 102) c p kn (wl i) := by
  unfold askF
  rcases (by omega : i = 0 ∨ i = 1 ∨ i = 2 ∨ i = 3 ∨ i = 4 ∨ i = 5 ∨ i = 6 ∨ i = 7 ∨ i = 8 ∨ i = 9) with rfl | rfl | rfl | rfl | rfl | rfl | rfl | rfl | rfl | rfl
  all_goals simp (disch := omega) only [upd_n, upd_e]
  all_goals rfl
theorem m_asked {N : Nat} (hN : 20000 ≤ N) (M : Vt) (c : Nat) (hc : c < 25) (p kn : Int32) (hp : (p = -1 ∧ kn = -1) ∨ ∃ k, k < 5 ∧ p = nI k ∧ kn = M.2.1 2 (42 + k)) : ∃ f, f_X9_setsAsked N M p (nI c) = some (pA M 12 f) ∧ ∀ i, i < 10 → f i = wcF (M.2.1 2) (fun j => M.2.1 2 (32 + j)) (fun j => if j = 0 then M.2.1 2 31 else M.2.1 2 102) c p kn (wl i) := by
  refine ⟨askF M c p kn, ?_, fun i hi => m_askedA M c p kn i hi⟩
  rw [m_askedS M c hc p]
  rcases hp with ⟨hp, hk⟩ | ⟨k, hk5, hp, hk⟩
  · rw [if_pos hp, ← hk, m_asked55 hN M c hc]
    rfl
  · have np : ¬ p = (-1 : Int32) := fun q => by have := congrArg Int32.toInt (hp.symm.trans q); rw [nI_tz (by omega)] at this; have e : (-1 : Int32).toInt = -1 := rfl; omega
    have ix : (nI 42 + p).toNatClampNeg = 42 + k := by rw [hp, nI_add, nI_cl (by omega)]
    have ck' : ∀ z : Option Vt, ck (nI 42 + p) 5715 z = z := fun z => by rw [hp, nI_add, pl_ck (by omega) (by omega)]
    rw [if_neg np, ck', ix, ← hk, m_asked55 hN M c hc]
    rfl
end
