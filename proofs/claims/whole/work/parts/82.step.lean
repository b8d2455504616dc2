section
/-! hounds: both learn the same steps -/
def bs (c y : Nat) : Nat := if y = 1 then (if c / 5 = 4 then 25 else c + 5) else if y = 2 then (if c % 5 = 4 then 25 else c + 1) else if y = 3 then (if c / 5 = 0 then 25 else c - 5) else if y = 4 then (if c % 5 = 0 then 25 else c - 1) else c
def mvR (c y : Nat) : Int32 := if y = 1 then nI c / 5 + 1 else if y = 3 then nI c / 5 + (-1) else nI c / 5
def mvC (c y : Nat) : Int32 := if y = 2 then (nI c - nI c / 5 * 5) + 1 else if y = 4 then (nI c - nI c / 5 * 5) + (-1) else nI c - nI c / 5 * 5
theorem bs_m : ∀ c : Fin 25, ∀ y : Fin 5, f_X9_beside 0 (nI c.1) (nI y.1) = some (nI (bs c.1 y.1)) := by decide +kernel
theorem bs_x : ∀ c : Fin 25, ∀ y : Fin 5, (bs c.1 y.1 = 25 ∧ (mvR c.1 y.1 < 0 ∨ 5 ≤ mvR c.1 y.1 ∨ mvC c.1 y.1 < 0 ∨ ¬ mvC c.1 y.1 < 5)) ∨ (bs c.1 y.1 < 25 ∧ ¬ mvR c.1 y.1 < 0 ∧ ¬ 5 ≤ mvR c.1 y.1 ∧ ¬ mvC c.1 y.1 < 0 ∧ mvC c.1 y.1 < 5 ∧ mvR c.1 y.1 * 5 + mvC c.1 y.1 = nI (bs c.1 y.1)) := by decide +kernel
theorem beside_N {N c y : Nat} (hc : c < 25) (hy : y < 5) : f_X9_beside N (nI c) (nI y) = some (nI (bs c y)) := bs_m ⟨c, hc⟩ ⟨y, hy⟩
def tlX (N : Nat) (S : St) (o a1 a2 : Nat) (V : Vt) (c r26 : Int32) : Option (Int32 × Vt) := if r26 = (1 : Int32) then f_X3_stepFrom_t_102 N S o a1 a2 V c (c / 5 + 1) (c - c / 5 * 5) else if r26 = (2 : Int32) then f_X3_stepFrom_t_102 N S o a1 a2 V c (c / 5) ((c - c / 5 * 5) + 1) else if r26 = (3 : Int32) then f_X3_stepFrom_t_102 N S o a1 a2 V c (c / 5 + (-1)) (c - c / 5 * 5) else if r26 = (4 : Int32) then f_X3_stepFrom_t_102 N S o a1 a2 V c (c / 5) ((c - c / 5 * 5) + (-1)) else some (c, V)
theorem x_102 {N : Nat} (S : St) (o a2 : Nat) {V M : Vt} (hF : bF (V.2.1 3) (M.2.1 2)) {c y : Nat} (hc : c < 25) (hy : y < 5) (h0 : y ≠ 0) : ∃ d, d ≤ 25 ∧ f_X3_stepFrom_t_102 N S o 1 a2 V (nI c) (mvR c y) (mvC c y) = some (nI d, V) ∧ f_X9_stepFrom_17 N M (nI c) (nI y) = some (nI d, M) := by
  obtain ⟨F, hF1, hF2, hF3⟩ := hF
  have y0 : ¬ nI y = 0 := by rw [lj 0, nI_E (by omega) (by omega)]; exact h0
  have b := bs_x ⟨c, hc⟩ ⟨y, hy⟩
  rcases b with ⟨b1, b2⟩ | ⟨b1, b2, b3, b4, b5, b6⟩
  · have b1' : bs c y = 25 := b1
    refine ⟨25, by omega, ?_, ?_⟩
    · unfold f_X3_stepFrom_t_102
      by_cases q1 : mvR c y < 0
      · rw [if_pos q1]; rfl
      · rw [if_neg q1]
        by_cases q2 : 5 ≤ mvR c y
        · rw [if_pos q2]; rfl
        · rw [if_neg q2]
          by_cases q3 : mvC c y < 0
          · rw [if_pos q3]; rfl
          · rw [if_neg q3]
            have q4 : ¬ mvC c y < 5 := by
              rcases b2 with h | h | h | h
              · exact absurd h q1
              · exact absurd h q2
              · exact absurd h q3
              · exact h
            rw [if_neg q4]; rfl
    · unfold f_X9_stepFrom_17
      rw [if_neg y0, beside_N hc hy, pl_ob1, b1', if_pos (show nI 25 = 25 from rfl)]
  · have b1' : bs c y < 25 := b1
    have b6' : mvR c y * 5 + mvC c y = nI (bs c y) := b6
    obtain ⟨e, he⟩ : ∃ e, e = bs c y := ⟨_, rfl⟩
    have ex : f_X3_stepFrom_t_102 N S o 1 a2 V (nI c) (mvR c y) (mvC c y) = if nI (F / 2 ^ e % 2) = (1 : Int32) then some (nI c, V) else some (nI e, V) := by
      unfold f_X3_stepFrom_t_102
      rw [if_neg b2, if_neg b3, if_neg b4, if_pos b5, pl_bd, b6', ← he, pl_ck (by omega) (by omega), nI_cl (by omega), ← hF3 e (by omega)]
    have em : f_X9_stepFrom_17 N M (nI c) (nI y) = if nI (F / 2 ^ e % 2) = (1 : Int32) then some (nI c, M) else some (nI e, M) := by
      have sh := pk_shrN (n := F) (by omega) (nI e &&& 31) e (s_l e (by omega))
      have an : nI (F / 2 ^ e) &&& 1 = nI (F / 2 ^ e % 2) := by
        have := pk_andN (n := F / 2 ^ e) (Nat.lt_of_le_of_lt (Nat.div_le_self _ _) (by omega)) (m := nI 1) 1 rfl
        exact this
      unfold f_X9_stepFrom_17
      rw [if_neg y0, beside_N hc hy, pl_ob1, ← he, if_neg (show ¬ nI e = 25 by rw [lj 25, nI_E (by omega) (by omega)]; omega), lj 30, pl_ck (by omega) (by omega), nI_cl (by omega), hF2]
      unfold f_X9_isIn
      rw [sh, an]
      by_cases q : nI (F / 2 ^ e % 2) = 1
      · rw [if_pos q, if_pos q, pl_ob1, if_neg (by decide)]
      · rw [if_neg q, if_neg q, pl_ob1, if_pos rfl]
    by_cases q : nI (F / 2 ^ e % 2) = (1 : Int32)
    · exact ⟨c, by omega, by rw [ex, if_pos q], by rw [em, if_pos q]⟩
    · exact ⟨e, by omega, by rw [ex, if_neg q], by rw [em, if_neg q]⟩
theorem x_tl {N : Nat} (S : St) (o a2 : Nat) {V M : Vt} (hF : bF (V.2.1 3) (M.2.1 2)) {c y : Nat} (hc : c < 25) (hy : y < 5) : ∃ d, d ≤ 25 ∧ tlX N S o 1 a2 V (nI c) (nI y) = some (nI d, V) ∧ f_X9_stepFrom_17 N M (nI c) (nI y) = some (nI d, M) := by
  by_cases h0 : y = 0
  · subst h0
    exact ⟨c, by omega, rfl, rfl⟩
  · obtain ⟨d, h1, h2, h3⟩ := x_102 (N := N) S o a2 hF hc hy h0
    refine ⟨d, h1, ?_, h3⟩
    rw [← h2]
    rcases (by omega : y = 1 ∨ y = 2 ∨ y = 3 ∨ y = 4) with rfl | rfl | rfl | rfl
    · have r1 : mvR c 1 = nI c / 5 + 1 := by unfold mvR; rw [if_pos rfl]
      have r2 : mvC c 1 = nI c - nI c / 5 * 5 := by unfold mvC; rw [if_neg (by omega), if_neg (by omega)]
      rw [r1, r2, tlX, if_pos (show nI 1 = 1 from rfl)]
    · have r1 : mvR c 2 = nI c / 5 := by unfold mvR; rw [if_neg (by omega), if_neg (by omega)]
      have r2 : mvC c 2 = nI c - nI c / 5 * 5 + 1 := by unfold mvC; rw [if_pos rfl]
      rw [r1, r2, tlX, if_neg (show ¬ nI 2 = 1 by decide), if_pos (show nI 2 = 2 from rfl)]
    · have r1 : mvR c 3 = nI c / 5 + (-1) := by unfold mvR; rw [if_neg (by omega), if_pos rfl]
      have r2 : mvC c 3 = nI c - nI c / 5 * 5 := by unfold mvC; rw [if_neg (by omega), if_neg (by omega)]
      rw [r1, r2, tlX, if_neg (show ¬ nI 3 = 1 by decide), if_neg (show ¬ nI 3 = 2 by decide), if_pos (show nI 3 = 3 from rfl)]
    · have r1 : mvR c 4 = nI c / 5 := by unfold mvR; rw [if_neg (by omega), if_neg (by omega)]
      have r2 : mvC c 4 = nI c - nI c / 5 * 5 + (-1) := by unfold mvC; rw [if_neg (by omega), if_pos rfl]
      rw [r1, r2, tlX, if_neg (show ¬ nI 4 = 1 by decide), if_neg (show ¬ nI 4 = 2 by decide), if_neg (show ¬ nI 4 = 3 by decide), if_pos (show nI 4 = 4 from rfl)]
def LQ (S : St) (V M : Vt) (lw : Nat) : Prop := BkR V 1 (M.2.1 2) ∧ bF (V.2.1 3) (M.2.1 2) ∧ S.2.2.1 52 = 10 ∧ ((lw = 0 ∧ M.2.1 2 107 = -1) ∨ ∃ q j, lw = q + 1 ∧ 64 ≤ q ∧ tshB S q = true ∧ j < 6 ∧ M.2.1 2 107 = nI j ∧ TX XL S V q (M.2.1 2) j)
theorem LQ_s {S : St} {V M V' M' : Vt} {lw : Nat} (a : SX V V') (b : M'.2.1 2 = M.2.1 2) (h : LQ S V M lw) : LQ S V' M' lw := by
  obtain ⟨h1, h2, h3, h4⟩ := h
  have g := SX_64 a
  refine ⟨?_, ?_, h3, ?_⟩
  · unfold BkR
    rw [(a.1 (1 + 1) rfl).2.1, (a.1 (1 + 3) rfl).2.1, (a.1 (1 + 4) rfl).2.1, (a.1 (1 + 6) rfl).2.1, (a.1 1 rfl).1, b]; exact h1
  · rw [(a.1 3 rfl).2.1, b]; exact h2
  · rw [b]
    rcases h4 with h | ⟨q, j, e1, e2, e3, e4, e5, e6⟩
    · exact Or.inl h
    · exact Or.inr ⟨q, j, e1, e2, e3, e4, e5, TX_c (g q (Or.inl e2)).1 (g (q + 1) (by omega)).2.1 (g (q + 2) (by omega)).2.1 rfl (fun _ _ => rfl) (fun _ _ => rfl) e6⟩
theorem LQ_of {N b0 : Nat} {S : St} {V M : Vt} (hR : Rel XL b0 S V M) : ∃ lw, f_X0_lawInForce N S V 1 = some lw ∧ LQ S V M lw := by
  have hB := hR.2.1
  have hBR : BkR V 1 (M.2.1 2) := BkR_of hB rfl rfl rfl rfl rfl
  have hs : S.2.2.1 52 = 10 := len_of hR.1.1 52 _ rfl
  obtain ⟨e1, e2, n, hn, e3, e4, e5, e6⟩ := hR.2.2.1
  rcases e4 with e4 | ⟨j, hj, e4⟩
  · refine ⟨0, ?_, hBR, hB.2.1, hs, Or.inl ⟨rfl, e4⟩⟩
    unfold f_X0_lawInForce
    rw [e2, e4, if_pos (by decide)]
  · obtain ⟨q, hq, ht⟩ := e6 j hj
    obtain ⟨q', hq', hT⟩ : ∃ q', V.2.2.2 8 j = q' + 1 ∧ TH S (V.2.2.2 11) q' := by
      rcases e5 j (by omega) with h | h
      · rw [h] at hq; cases hq
      · exact h
    have : q' = q := by rw [hq] at hq'; omega
    subst this
    refine ⟨q' + 1, ?_, hBR, hB.2.1, hs, Or.inr ⟨q', j, rfl, hT.1, hT.2.1, by omega, e4, ht⟩⟩
    have h1 : ¬ n ≤ j := by omega
    have np : ¬ nI j < nI 0 := by rw [nI_T (by omega) (by omega)]; omega
    have hq2 : V.2.2.2 (1 + 7) j = q' + 1 := hq
    unfold f_X0_lawInForce
    simp (disch := omega) only [e1, e2, e3, e4, h1, np, hq2, hT.2.1, ↓pl_bd, pl_ob, pl_ob1, pl_obv, pl_oa, pl_oav, pl_cg, pl_cb0, pl_cb1, pl_nl0, pl_nls, li, nI_cl, pl_ck, nI_E, nI_L, nI_T, nI_add, pk_mul, Nat.zero_add, Nat.add_zero, Nat.reduceAdd, Nat.reduceMul, Nat.reduceSub, Nat.reduceEqDiff, Nat.reduceLeDiff, Nat.reduceLT, ↓reduceIte]
def stX (N : Nat) (S : St) (V : Vt) (lw : Nat) (c : Int32) : Option (Int32 × Vt) := match lw with
  | 0 => f_X3_stepFrom_n N S V 48 1 c
  | q + 1 => f_X3_stepFrom_t N S V 48 1 q c
theorem st_xn {N : Nat} {S : St} {V : Vt} {c d : Nat} (d2 : tlX N S 48 1 0 V (nI c) 2 = some (nI d, V)) : f_X3_stepFrom_n N S V 48 1 (nI c) = some (nI d, V) := by
  have e102 : ∀ W a b e, f_X3_stepFrom_n_102 N S 48 1 W a b e = f_X3_stepFrom_t_102 N S 48 1 0 W a b e := fun W a b e => by unfold f_X3_stepFrom_n_102 f_X3_stepFrom_t_102; rfl
  have ne0 : f_X8_nearest N (-2000000000) 4 2 = some 2 := by unfold f_X8_nearest; rw [if_pos rfl]
  unfold tlX at d2
  unfold f_X3_stepFrom_n f_X6_lastTold_n
  rw [pl_ob, if_pos rfl, pl_bd, pl_bd, pl_ob, ne0, pl_ob1, pl_bd, pl_bd, pl_bd, pl_bd, e102, e102, e102, e102]
  exact d2
theorem st_mn {N : Nat} {M : Vt} {c d : Nat} (tl : ∀ (a b : Int32) (e f g : Int32), f_X9_tells N M a b e f g = some (g, M)) (d3 : f_X9_stepFrom_17 N M (nI c) 2 = some (nI d, M)) : f_X9_stepFrom N M (nI c) = some (nI d, M) := by
  unfold f_X9_stepFrom f_X9_bites f_X9_ledFrom
  rw [tl, pl_ob, if_neg (show ¬ (0 : Int32) = 1 by decide), pl_ob, if_pos rfl, tl, pl_ob, pl_ob]
  exact d3
theorem st_x1 {N : Nat} {S : St} {V V1 : Vt} {q c : Nat} {x : Int32} (hx : ¬ x = -2000000000) (f1 : f_X6_lastTold_t N S V (48 + 1) 1 q 2 (nI c) (-1) = some (x, V1)) : f_X3_stepFrom_t N S V 48 1 q (nI c) = some (nI c, V1) := by
  unfold f_X3_stepFrom_t
  rw [f1, pl_ob, if_neg hx]
theorem st_m1 {N : Nat} {M M1 : Vt} {c : Nat} (f2 : f_X9_tells N M 3 (-1) (nI c) 1 0 = some (1, M1)) : f_X9_stepFrom N M (nI c) = some (nI c, M1) := by
  unfold f_X9_stepFrom f_X9_bites
  rw [f2, pl_ob, if_pos rfl, pl_ob, if_neg (by decide)]
  unfold f_X9_stepFrom_17
  rw [if_pos rfl]
theorem st_x2 {N : Nat} {S : St} {V V1 V2 : Vt} {q c d : Nat} {x y : Int32} (f1 : f_X6_lastTold_t N S V (48 + 1) 1 q 2 (nI c) (-1) = some (-2000000000, V1)) (g1 : f_X6_lastTold_t N S V1 (48 + 1) 1 q 0 (nI c) (-1) = some (x, V2)) (n1 : f_X8_nearest N x 4 2 = some y) (d2 : tlX N S 48 1 q V2 (nI c) y = some (nI d, V2)) : f_X3_stepFrom_t N S V 48 1 q (nI c) = some (nI d, V2) := by
  unfold tlX at d2
  unfold f_X3_stepFrom_t
  rw [f1, pl_ob, if_pos rfl, pl_bd, pl_bd, g1, pl_ob, n1, pl_ob1, pl_bd, pl_bd, pl_bd, pl_bd]
  exact d2
theorem st_m2 {N : Nat} {M M1 M2 : Vt} {c d : Nat} {y : Int32} (f2 : f_X9_tells N M 3 (-1) (nI c) 1 0 = some (0, M1)) (g2 : f_X9_tells N M1 1 (-1) (nI c) 4 2 = some (y, M2)) (d3 : f_X9_stepFrom_17 N M2 (nI c) y = some (nI d, M2)) : f_X9_stepFrom N M (nI c) = some (nI d, M2) := by
  unfold f_X9_stepFrom f_X9_bites f_X9_ledFrom
  rw [f2, pl_ob, if_neg (show ¬ (0 : Int32) = 1 by decide), pl_ob, if_pos rfl, g2, pl_ob, pl_ob]
  exact d3
theorem stepB {N : Nat} (hN : 20000 ≤ N) {S : St} {V M : Vt} {lw c : Nat} (h : LQ S V M lw) (hc : c < 25) : ∃ d V' M', d ≤ 25 ∧ stX N S V lw (nI c) = some (nI d, V') ∧ f_X9_stepFrom N M (nI c) = some (nI d, M') ∧ chX 49 V V' ∧ chM M M' := by
  obtain ⟨h1, h2, h3, h4⟩ := h
  rcases h4 with ⟨rfl, k⟩ | ⟨q, j, rfl, e2, e3, e4, e5, e6⟩
  · obtain ⟨d, d1, d2, d3⟩ := x_tl (N := N) S 48 0 h2 hc (show 2 < 5 by omega)
    refine ⟨d, V, M, d1, st_xn d2, st_mn (fun a b e f g => ?_) d3, chX_r 49 V, chM_r M⟩
    unfold f_X9_tells
    rw [lj 107, pl_ck (by omega) (by omega), nI_cl (by omega), k, if_pos rfl]
  · obtain ⟨v, V1, M1, ne, f1, f2, cx, cm⟩ := tell hN (o := 49) (a1 := 1) (by omega) (by omega) e2 h3 h1 e4 e5 e6 hc (p := -1) (Or.inl rfl) (hd := 2) (by omega) 1 0
    rw [oneY (by omega)] at f2
    cases v with
    | some x =>
      rw [if_neg (show ¬ (some x : Option Int32) = none by simp)] at f2
      exact ⟨c, V1, M1, by omega, st_x1 (ne x rfl) f1, st_m1 f2, cx, cm⟩
    | none =>
      rw [if_pos rfl] at f2
      have b1 : M1.2.1 2 = M.2.1 2 := cm.2.1 2 (by omega)
      obtain ⟨v2, V2, M2, ne2, g1, g2, cx2, cm2⟩ := tell hN (o := 49) (a1 := 1) (V := V1) (M := M1) (S := S) (q := q) (by omega) (by omega) e2 h3 (BkR_m (by omega) cx cm h1) e4 (by rw [b1]; exact e5) (by rw [b1]; exact TX_m (o := 49) (by omega) e2 cx e6) hc (p := -1) (Or.inl rfl) (hd := 0) (by omega) 4 2
      obtain ⟨y, hy, n1, n2⟩ := nearY (N := N) (hd := 0) (high := 4) (wo := 2) (by omega) (by omega) (by omega) ne2
      rw [n2] at g2
      have cx3 := chX_t cx cx2
      have cm3 := chM_t cm cm2
      have hF : bF (V2.2.1 3) (M2.2.1 2) := by rw [cx3.2.1 3 (by omega) (by omega), cm3.2.1 2 (by omega)]; exact h2
      obtain ⟨d, d1, d2, d3⟩ := x_tl (N := N) S 48 q hF hc (show y < 5 by omega)
      exact ⟨d, V2, M2, d1, st_x2 f1 g1 n1 d2, st_m2 f2 g2 d3, cx3, cm3⟩
end
