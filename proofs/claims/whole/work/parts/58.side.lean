section
def NB : Int32 := -1
/-! both readers side by side: their memory, their small steps -/
def rS (V : Vt) (s e pt sz : Nat) (fl : Int32) (C : Nat → Int32) : Vt := (fun h j => if h = 37 ∧ j = 6 then nI s else if h = 37 ∧ j = 7 then nI e else if h = 37 ∧ j = 8 then fl else if h = 37 ∧ j = 9 then nI pt else if h = 37 ∧ j = 10 then nI sz else V.1 h j, fun h => if h = 40 then C else V.2.1 h, V.2.2)
theorem rS_6 (V : Vt) (s e pt sz : Nat) (fl : Int32) (C : Nat → Int32) : (rS V s e pt sz fl C).1 37 6 = nI s := rfl
theorem rS_7 (V : Vt) (s e pt sz : Nat) (fl : Int32) (C : Nat → Int32) : (rS V s e pt sz fl C).1 37 7 = nI e := rfl
theorem rS_8 (V : Vt) (s e pt sz : Nat) (fl : Int32) (C : Nat → Int32) : (rS V s e pt sz fl C).1 37 8 = fl := rfl
theorem rS_9 (V : Vt) (s e pt sz : Nat) (fl : Int32) (C : Nat → Int32) : (rS V s e pt sz fl C).1 37 9 = nI pt := rfl
theorem rS_10 (V : Vt) (s e pt sz : Nat) (fl : Int32) (C : Nat → Int32) : (rS V s e pt sz fl C).1 37 10 = nI sz := rfl
theorem rS_4 (V : Vt) (s e pt sz : Nat) (fl : Int32) (C : Nat → Int32) : (rS V s e pt sz fl C).1 37 4 = V.1 37 4 := rfl
theorem rS_5 (V : Vt) (s e pt sz : Nat) (fl : Int32) (C : Nat → Int32) : (rS V s e pt sz fl C).1 37 5 = V.1 37 5 := rfl
theorem rS_11 (V : Vt) (s e pt sz : Nat) (fl : Int32) (C : Nat → Int32) : (rS V s e pt sz fl C).1 37 11 = V.1 37 11 := rfl
theorem rS_C (V : Vt) (s e pt sz : Nat) (fl : Int32) (C : Nat → Int32) : (rS V s e pt sz fl C).2.1 40 = C := rfl
theorem rS_f8 (V : Vt) (s e pt sz : Nat) (fl fl' : Int32) (C : Nat → Int32) : sF (rS V s e pt sz fl C) 37 8 fl' = rS V s e pt sz fl' C := by
  unfold sF rS
  refine Prod.ext ?_ rfl
  funext h j
  simp only [up2]
  by_cases c : h = 37 ∧ j = 8
  · simp only [if_pos c]; rw [if_neg (by omega), if_neg (by omega)]
  · simp only [if_neg c]
theorem rS_f9 (V : Vt) (s e pt pt' sz : Nat) (fl : Int32) (C : Nat → Int32) : sF (rS V s e pt sz fl C) 37 9 (nI pt') = rS V s e pt' sz fl C := by
  unfold sF rS
  refine Prod.ext ?_ rfl
  funext h j
  simp only [up2]
  by_cases c : h = 37 ∧ j = 9
  · simp only [if_pos c]; rw [if_neg (by omega), if_neg (by omega), if_neg (by omega)]
  · simp only [if_neg c]
theorem rS_f10 (V : Vt) (s e pt sz sz' : Nat) (fl : Int32) (C : Nat → Int32) : sF (rS V s e pt sz fl C) 37 10 (nI sz') = rS V s e pt sz' fl C := by
  unfold sF rS
  refine Prod.ext ?_ rfl
  funext h j
  simp only [up2]
  by_cases c : h = 37 ∧ j = 10
  · simp only [if_pos c]; rw [if_neg (by omega), if_neg (by omega), if_neg (by omega), if_neg (by omega)]
  · simp only [if_neg c]
theorem rS_a (V : Vt) (s e pt sz : Nat) (fl : Int32) (C : Nat → Int32) (k : Nat) (x : Int32) : sA (rS V s e pt sz fl C) 40 k x = rS V s e pt sz fl (upd C k x) := by
  unfold sA rS
  refine Prod.ext rfl (Prod.ext ?_ rfl)
  funext h j
  simp only [up2, upd]
  by_cases c : h = 40
  · by_cases d : j = k
    · simp only [c, d, and_self, if_true]; exact (upd_e _ _ _).symm
    · simp only [c, d, and_false, if_true, if_false]; exact (upd_n _ _ _ _ d).symm
  · simp only [c, false_and, if_false]
def qS (M : Vt) (t lv : Nat) (bad : Int32) : Vt := (fun h j => if h = 0 ∧ j = 19 then nI t else if h = 0 ∧ j = 20 then nI lv else if h = 0 ∧ j = 21 then bad else M.1 h j, M.2)
theorem qS_19 (M : Vt) (t lv : Nat) (bad : Int32) : (qS M t lv bad).1 0 19 = nI t := rfl
theorem qS_20 (M : Vt) (t lv : Nat) (bad : Int32) : (qS M t lv bad).1 0 20 = nI lv := rfl
theorem qS_21 (M : Vt) (t lv : Nat) (bad : Int32) : (qS M t lv bad).1 0 21 = bad := rfl
theorem qS_8 (M : Vt) (t lv : Nat) (bad : Int32) : (qS M t lv bad).1 0 8 = M.1 0 8 := rfl
theorem qS_9 (M : Vt) (t lv : Nat) (bad : Int32) : (qS M t lv bad).1 0 9 = M.1 0 9 := rfl
theorem qS_10 (M : Vt) (t lv : Nat) (bad : Int32) : (qS M t lv bad).1 0 10 = M.1 0 10 := rfl
theorem qS_18 (M : Vt) (t lv : Nat) (bad : Int32) : (qS M t lv bad).1 0 18 = M.1 0 18 := rfl
theorem qS_2 (M : Vt) (t lv : Nat) (bad : Int32) : (qS M t lv bad).2 = M.2 := rfl
theorem qS_f19 (M : Vt) (t t' lv : Nat) (bad : Int32) : sF (qS M t lv bad) 0 19 (nI t') = qS M t' lv bad := by
  unfold sF qS
  refine Prod.ext ?_ rfl
  funext h j
  simp only [up2]
  by_cases c : h = 0 ∧ j = 19
  · simp only [if_pos c]
  · simp only [if_neg c]
theorem qS_f20 (M : Vt) (t lv lv' : Nat) (bad : Int32) : sF (qS M t lv bad) 0 20 (nI lv') = qS M t lv' bad := by
  unfold sF qS
  refine Prod.ext ?_ rfl
  funext h j
  simp only [up2]
  by_cases c : h = 0 ∧ j = 20
  · simp only [if_pos c]; rw [if_neg (by omega)]
  · simp only [if_neg c]
theorem qS_f21 (M : Vt) (t lv : Nat) (bad bad' : Int32) : sF (qS M t lv bad) 0 21 bad' = qS M t lv bad' := by
  unfold sF qS
  refine Prod.ext ?_ rfl
  funext h j
  simp only [up2]
  by_cases c : h = 0 ∧ j = 21
  · simp only [if_pos c]; rw [if_neg (by omega), if_neg (by omega)]
  · simp only [if_neg c]
/-- which words stand in a list of the class -/
def wtab : List (List Nat) := [[1, 2, 3, 4], [191], [193], [9, 10, 11, 15, 16, 17, 12, 13, 18, 14], [18, 19, 20, 15, 16, 17, 21], [142, 147, 137], [143, 145], [5], [8], [140], [141], [160, 162, 161], [7], [6], [22, 24, 27, 28], [23], [25], [26], [29], [159]]
def wix (l : List Nat) (c k : Nat) : Int32 := match l with
  | [] => -1
  | a :: r => if a = c then nI k else wix r c (k + 1)
def wr (ls c : Nat) : Int32 := wix (wtab.getD ls []) c 0
def PE (N : Nat) (S : St) (V M : Vt) (n mode : Nat) (tc tv P E : Nat → Nat) : Prop :=
  (n ≤ 400 ∧ (mode = 0 ∨ mode = 1) ∧ 20000 ≤ N) ∧ (V.1 37 4 = nI (1 - mode) ∧ ∃ L, n ≤ L ∧ L ≤ 400 ∧ V.1 37 5 = nI L) ∧ (M.1 0 8 = nI (9 + 6 * mode) ∧ M.1 0 9 = nI (18 + 3 * mode) ∧ M.1 0 10 = nI mode) ∧
  (tc n = 0 ∧ ∀ t, t ≤ n → tc t < 400 ∧ tv t < 2147483648 ∧ P t ≤ 400 ∧ M.2.1 9 t = nI (tc t) ∧ M.2.1 10 t = nI (tv t) ∧ M.2.1 11 t = nI (P t)) ∧
  (∀ t, t ≤ n → ∀ pt sz fl C ls, ls < 20 → f_X5_wordIn N S (rS V (P t) (E t) pt sz fl C) 37 ls = some (wr ls (tc t))) ∧
  (∀ t, t ≤ n → ∀ pt sz fl C m, m ≤ 1000 → f_X5_numberTo N S (rS V (P t) (E t) pt sz fl C) 37 (nI m) = some (if tc t = 50 ∧ tv t ≤ m then nI (tv t) else -1)) ∧
  ∀ t, t < n → ∀ pt sz fl C, f_X5_move N S (rS V (P t) (E t) pt sz fl C) 37 = some (rS V (P (t + 1)) (E (t + 1)) pt sz fl C)
theorem m1_nI {k : Nat} (h : k < 2147483648) : ¬ nI k = (-1 : Int32) := nI_m1 h
/-! the reference's small steps -/
section Q
variable {N : Nat} {S : St} {V M : Vt} {n mode : Nat} {tc tv P E : Nat → Nat}
theorem q_fine (M : Vt) (t lv : Nat) : f_X9_fine N (qS M t lv NB) = some (nI 1) := rfl
theorem q_fineB (M : Vt) (t lv b : Nat) (hb : b < 2147483648) : f_X9_fine N (qS M t lv (nI b)) = some (nI 0) := by
  unfold f_X9_fine; rw [qS_21, if_neg (nI_m1 hb)]; rfl
theorem q_takes (H : PE N S V M n mode tc tv P E) {t : Nat} (ht : t ≤ n) (lv c : Nat) (hc : c < 400) : f_X9_takes0 N (qS M t lv NB) (nI c) = some (if tc t = c then (nI 1, qS M (t + 1) lv NB) else (nI 0, qS M t lv NB)) := by
  obtain ⟨h1, h2, h3, h4, h5, h6, e9, h7, h8⟩ := (⟨(H.2.2.2.1.2 t ht).1, (H.2.2.2.1.2 t ht).2.1, (H.2.2.2.1.2 t ht).2.2.1, H.1.1, H.1.2.1, H.1.2.2, (H.2.2.2.1.2 t ht).2.2.2.1, trivial, trivial⟩ : tc t < 400 ∧ tv t < 2147483648 ∧ P t ≤ 400 ∧ n ≤ 400 ∧ (mode = 0 ∨ mode = 1) ∧ 20000 ≤ N ∧ M.2.1 9 t = nI (tc t) ∧ True ∧ True)
  unfold f_X9_takes0
  rw [q_fine, pl_ob1, if_neg (by decide), qS_19, pl_ck (by omega) (by omega), nI_cl (by omega), qS_2, e9]
  by_cases hc2 : tc t = c
  · rw [if_pos (by rw [hc2]), if_pos hc2]
    unfold f_X9_takes0_25
    rw [if_neg (by decide), qS_19, nI_1, qS_f19]; rfl
  · rw [if_neg (by rw [nI_E (by omega) (by omega)]; exact hc2), if_neg hc2]; rfl
theorem q_takesB (M : Vt) (t lv b : Nat) (hb : b < 2147483648) (c : Int32) : f_X9_takes0 N (qS M t lv (nI b)) c = some (nI 0, qS M t lv (nI b)) := by
  unfold f_X9_takes0
  rw [q_fineB M t lv b hb]; rfl
theorem q_faults (H : PE N S V M n mode tc tv P E) {t : Nat} (ht : t ≤ n) (lv : Nat) : f_X9_faults N (qS M t lv NB) = some (qS M t lv (nI (P t))) := by
  have h0 := H.1.1
  have e := (H.2.2.2.1.2 t ht).2.2.2.2.2
  unfold f_X9_faults
  rw [q_fine, pl_ob1, if_neg (by decide), qS_19, pl_ck (by omega) (by omega), nI_cl (by omega), qS_2, e, qS_f21]; rfl
theorem q_faultsB (M : Vt) (t lv b : Nat) (hb : b < 2147483648) : f_X9_faults N (qS M t lv (nI b)) = some (qS M t lv (nI b)) := by
  unfold f_X9_faults
  rw [q_fineB M t lv b hb]; rfl
theorem q_must (H : PE N S V M n mode tc tv P E) {t : Nat} (ht : t ≤ n) (lv c : Nat) (hc : c < 400) : f_X9_must N (qS M t lv NB) (nI c) = some (if tc t = c then qS M (t + 1) lv NB else qS M t lv (nI (P t))) := by
  unfold f_X9_must
  rw [q_takes H ht lv c hc]
  by_cases h : tc t = c
  · rw [if_pos h, if_pos h, pl_ob, if_neg (by decide)]
  · rw [if_neg h, if_neg h, pl_ob, if_pos (show nI 0 = 0 from rfl), q_faults H ht]; rfl
theorem q_mustB (M : Vt) (t lv b : Nat) (hb : b < 2147483648) (c : Int32) : f_X9_must N (qS M t lv (nI b)) c = some (qS M t lv (nI b)) := by
  unfold f_X9_must
  rw [q_takesB M t lv b hb, pl_ob, if_pos (show nI 0 = 0 from rfl), q_faultsB M t lv b hb]; rfl
theorem q_leaf (H : PE N S V M n mode tc tv P E) {t : Nat} (ht : t ≤ n) (lv : Nat) (hl : lv ≤ 50) : f_X9_leaf N (qS M t lv NB) = some (if lv = 50 then qS M t 51 (nI (P t)) else qS M (t + 1) (lv + 1) NB) := by
  have hp := (H.2.2.2.1.2 t ht).2.2.1
  unfold f_X9_leaf f_X9_leaf_13
  rw [qS_20]
  by_cases h : lv = 50
  · subst h
    rw [if_pos (show nI 50 = 50 from rfl), if_pos rfl, q_faults H ht, pl_obv, qS_20, nI_1, qS_f20, pl_bd, q_fineB _ _ _ _ (by omega), pl_ob1, if_pos (show nI 0 = 0 from rfl)]
  · rw [if_neg (by rw [lj 50, nI_E (by omega) (by omega)]; exact h), if_neg h, nI_1, qS_f20, pl_bd, q_fine, pl_ob1, if_neg (by decide), qS_19, nI_1, qS_f19]; rfl
theorem q_num (H : PE N S V M n mode tc tv P E) {t : Nat} (ht : t ≤ n) (lv lo hi : Nat) (hlo : lo < 1000) (hh : hi < 1000) : f_X9_mustNumber N (qS M t lv NB) (nI lo) (nI hi) = some (if tc t = 50 ∧ lo ≤ tv t ∧ tv t ≤ hi then qS M (t + 1) lv NB else qS M t lv (nI (P t))) := by
  obtain ⟨h1, h2, hp, e9, e10, e11⟩ := H.2.2.2.1.2 t ht
  have h0 := H.1.1
  have ok : f_X9_mustNumber_42 N (qS M t lv NB) = some (qS M (t + 1) lv NB) := by
    unfold f_X9_mustNumber_42
    rw [q_fine, pl_ob1, if_neg (by decide), qS_19, nI_1, qS_f19]; rfl
  have no : f_X9_mustNumber_38 N (qS M t lv NB) = some (qS M t lv (nI (P t))) := by
    unfold f_X9_mustNumber_38 f_X9_mustNumber_42
    rw [q_faults H ht, pl_obv, q_fineB _ _ _ _ (by omega)]; rfl
  unfold f_X9_mustNumber
  rw [q_fine, pl_ob1, if_neg (by decide), qS_19, pl_ck (by omega) (by omega), nI_cl (by omega), qS_2, e9, e10]
  by_cases hc : tc t = 50
  · rw [if_pos (by rw [hc]; rfl), pl_ck (by omega) (by omega)]
    unfold f_X9_lies
    by_cases hl : tv t < lo
    · rw [if_pos (by rw [nI_T (by omega) (by omega)]; exact hl), if_neg (by omega)]; exact no
    · by_cases hg : hi < tv t
      · rw [if_neg (by rw [nI_T (by omega) (by omega)]; exact hl), if_pos (by rw [nI_T (by omega) (by omega)]; exact hg), if_neg (by omega)]; exact no
      · rw [if_neg (by rw [nI_T (by omega) (by omega)]; exact hl), if_neg (by rw [nI_T (by omega) (by omega)]; exact hg), if_pos ⟨hc, by omega, by omega⟩]; exact ok
  · rw [if_neg (by rw [lj 50, nI_E (by omega) (by omega)]; exact hc), if_neg (by omega)]; exact no
theorem q_numB (M : Vt) (t lv b : Nat) (hb : b < 2147483648) (x y : Int32) : f_X9_mustNumber N (qS M t lv (nI b)) x y = some (qS M t lv (nI b)) := by
  unfold f_X9_mustNumber f_X9_mustNumber_42
  rw [q_fineB M t lv b hb]; rfl
/-! the class's small steps -/
theorem r_fails (S : St) (V : Vt) (s e pt sz : Nat) (fl : Int32) (C : Nat → Int32) : f_X5_fails N S (rS V s e pt sz fl C) 37 = some (nI 0, rS V s e pt sz (nI s) C) := by
  unfold f_X5_fails
  rw [rS_6, rS_f8]; rfl
theorem or_sh {a b : Nat} (ha : a < 256) (hb : b < 8000000) : nI a ||| (nI b <<< ((8 : Int32) &&& 31)) = nI (a + 256 * b) := by
  have h1 : nI b <<< ((8 : Int32) &&& 31) = nI (b * 2 ^ 8) := pk_shlN _ 8 (s_l 8 (by omega)) (by omega)
  rw [h1]
  apply Int32.toBitVec_inj.mp
  apply BitVec.eq_of_toNat_eq
  have t : ∀ x : Nat, x < 4294967296 → (nI x).toBitVec.toNat = x := fun x hx => by
    show (BitVec.ofNat 32 x).toNat = x
    rw [BitVec.toNat_ofNat]; exact Nat.mod_eq_of_lt hx
  rw [Int32.toBitVec_or, BitVec.toNat_or, t a (by omega), t _ (by omega), t _ (by omega), Nat.or_comm, ← Nat.shiftLeft_eq, ← Nat.shiftLeft_add_eq_or_of_lt (by omega : a < 2 ^ 8), Nat.shiftLeft_eq]
  omega
theorem r_put (S : St) (V : Vt) (s e pt sz : Nat) (fl : Int32) (C : Nat → Int32) {a b : Nat} (ha : a < 256) (hb : b < 8000000) (hz : sz < 448) : f_X5_put N S (rS V s e pt sz fl C) 37 (nI a) (nI b) = some (nI sz, rS V s e pt (sz + 1) fl (upd C sz (nI (a + 256 * b)))) := by
  unfold f_X5_put
  rw [rS_10, pl_bd, if_neg (by rw [lj 448, nI_L (by omega) (by omega)]; omega), pl_ck (by omega) (by omega), nI_cl (by omega), or_sh ha hb]
  show bd (sA (rS V s e pt sz fl C) 40 sz _) _ = _
  rw [rS_a, pl_bd, rS_10, nI_1, rS_f10]; rfl
theorem r_putA (S : St) (V : Vt) (s e pt sz : Nat) (fl : Int32) (C : Nat → Int32) (a b : Int32) (hz : sz ≤ 448) : ∃ sz' C', sz' ≤ 448 ∧ sz ≤ sz' ∧ f_X5_put N S (rS V s e pt sz fl C) 37 a b = some (nI sz, rS V s e pt sz' fl C') := by
  unfold f_X5_put
  rw [rS_10, pl_bd]
  by_cases h : sz = 448
  · subst h
    exact ⟨448, C, by omega, by omega, by rw [if_pos (by decide)]⟩
  · refine ⟨sz + 1, upd C sz (a ||| (b <<< ((8 : Int32) &&& 31))), by omega, by omega, ?_⟩
    rw [if_neg (by rw [lj 448, nI_L (by omega) (by omega)]; omega), pl_ck (by omega) (by omega), nI_cl (by omega)]
    show bd (sA (rS V s e pt sz fl C) 40 sz _) _ = _
    rw [rS_a, pl_bd, rS_10, nI_1, rS_f10]; rfl
theorem r_landA (S : St) (V : Vt) (s e pt sz : Nat) (fl : Int32) (C : Nat → Int32) (j : Nat) (hz : sz ≤ 448) (hj : j < 1000) : ∃ C', f_X5_land N S (rS V s e pt sz fl C) 37 (nI j) = some (rS V s e pt sz fl C') := by
  unfold f_X5_land
  rw [rS_10]
  by_cases h : sz ≤ j
  · exact ⟨C, by rw [if_pos (by rw [nI_L (by omega) (by omega)]; exact h)]⟩
  · refine ⟨upd C j (C j ||| (nI sz <<< ((8 : Int32) &&& 31))), ?_⟩
    rw [if_neg (by rw [nI_L (by omega) (by omega)]; exact h), pl_ck (by omega) (by omega), pl_ck (by omega) (by omega), nI_cl (by omega)]
    show bd (sA (rS V s e pt sz fl C) 40 j _) _ = _
    rw [rS_a]; rfl
theorem r_land (S : St) (V : Vt) (s e pt sz : Nat) (fl : Int32) (C : Nat → Int32) {j a : Nat} (hz : sz ≤ 448) (hj : j < sz) (ha : a < 256) (hC : C j = nI a) : f_X5_land N S (rS V s e pt sz fl C) 37 (nI j) = some (rS V s e pt sz fl (upd C j (nI (a + 256 * sz)))) := by
  unfold f_X5_land
  rw [rS_10, if_neg (by rw [nI_L (by omega) (by omega)]; omega), pl_ck (by omega) (by omega), pl_ck (by omega) (by omega), nI_cl (by omega)]
  show bd (sA (rS V s e pt sz fl C) 40 j (C j ||| (nI sz <<< ((8 : Int32) &&& 31)))) _ = _
  rw [hC, or_sh ha (by omega), rS_a]; rfl
end Q
end
