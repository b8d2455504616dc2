section
/-! learning, hound -/
def lrL (N : Nat) (S : St) (lw n : Nat) (V : Vt) (i : Int32) : Option Vt := match lw with
  | 0 => f_X3_learn_n_2 N S 48 1 n V i
  | q + 1 => f_X3_learn_t_2 N S 48 1 q n V i
theorem lrL_s {N : Nat} {S : St} {lw : Nat} (n : Nat) (V : Vt) (i : Int32) : lrL N S lw (n + 1) V i = if (25 : Int32) ≤ i then ck (25 : Int32) 26 (bd (sA V (48 + 5) (25 : Int32).toNatClampNeg (25 : Int32)) (fun V11 => some V11)) else ob (stX N S V lw i) (fun r12 V14 => ck i 26 (bd (sA V14 (48 + 5) i.toNatClampNeg r12) (fun V16 => bd (i + (1 : Int32)) (fun x17 => (lrL N S lw n) V16 x17)))) := by
  cases lw with
  | zero => show f_X3_learn_n_2 N S 48 1 (n + 1) V i = _; rw [f_X3_learn_n_2]; rfl
  | succ q => show f_X3_learn_t_2 N S 48 1 q (n + 1) V i = _; rw [f_X3_learn_t_2]; rfl
/-- what learning leaves alone -/
def lnX (V V' : Vt) : Prop := V'.2.2 = V.2.2 ∧ (∀ g, ¬ (51 ≤ g ∧ g ≤ 53) → V'.2.1 g = V.2.1 g) ∧ ∀ g j, ¬ (g = 50 ∧ j = 1) → V'.1 g j = V.1 g j
def lnM (M M' : Vt) : Prop := M'.2.2 = M.2.2 ∧ (∀ g, g ≠ 12 → g ≠ 18 → M'.2.1 g = M.2.1 g) ∧ ∀ g j, ¬ (g = 0 ∧ 22 ≤ j ∧ j ≤ 25) → M'.1 g j = M.1 g j
theorem lnX_t {V V1 V2 : Vt} (a : lnX V V1) (b : lnX V1 V2) : lnX V V2 := ⟨b.1.trans a.1, fun g h1 => (b.2.1 g h1).trans (a.2.1 g h1), fun g j h => (b.2.2 g j h).trans (a.2.2 g j h)⟩
theorem lnM_t {V V1 V2 : Vt} (a : lnM V V1) (b : lnM V1 V2) : lnM V V2 := ⟨b.1.trans a.1, fun g h1 h2 => (b.2.1 g h1 h2).trans (a.2.1 g h1 h2), fun g j h => (b.2.2 g j h).trans (a.2.2 g j h)⟩
theorem lnX_r (V : Vt) : lnX V V := ⟨rfl, fun _ _ => rfl, fun _ _ _ => rfl⟩
theorem lnM_r (V : Vt) : lnM V V := ⟨rfl, fun _ _ _ => rfl, fun _ _ _ => rfl⟩
theorem lnX_c {V V' : Vt} (h : chX 49 V V') : lnX V V' := ⟨h.1, fun g hg => h.2.1 g (by omega) (by omega), fun g j hg => h.2.2 g j hg⟩
theorem lnM_c {V V' : Vt} (h : chM V V') : lnM V V' := ⟨h.1, fun g hg _ => h.2.1 g hg, h.2.2⟩
theorem lnX_A (V : Vt) (j : Nat) (x : Int32) : lnX V (sA V 53 j x) := ⟨rfl, fun g hg => sA_n _ _ _ _ _ (by omega), fun _ _ _ => rfl⟩
theorem lnM_A (V : Vt) (j : Nat) (x : Int32) : lnM V (sA V 18 j x) := ⟨rfl, fun g _ hg => sA_n _ _ _ _ _ hg, fun _ _ _ => rfl⟩
theorem SX_ln {V V' : Vt} (h : lnX V V') : SX V V' := by
  refine ⟨fun g hg => ⟨funext fun j => h.2.2 g j ?_, h.2.1 g ?_, by rw [h.1]⟩, h.2.2 37 8 (by omega)⟩
  · rintro ⟨rfl, -⟩; exact absurd hg (by decide)
  · intro q
    rcases (by omega : g = 51 ∨ g = 52 ∨ g = 53) with rfl | rfl | rfl <;> exact absurd hg (by decide)
theorem SM_ln {M M' : Vt} (h : lnM M M') : SM0 M M' := by
  refine ⟨fun g hg => h.2.1 g (fun q => by rw [q] at hg; exact absurd hg (by decide)) (fun q => by rw [q] at hg; exact absurd hg (by decide)), fun j hj => h.2.2 0 j (fun q => ?_)⟩
  have : j = 22 ∨ j = 23 ∨ j = 24 ∨ j = 25 := by omega
  rcases this with rfl | rfl | rfl | rfl <;> exact absurd hj (by decide)
theorem learnB {N : Nat} (hN : 20000 ≤ N) {S : St} {V M : Vt} {lw : Nat} (h : LQ S V M lw) : ∃ (st : Nat → Nat) (V' M' : Vt), (∀ c, c ≤ 25 → st c ≤ 25) ∧ st 25 = 25 ∧ lrL N S lw N V 0 = some V' ∧ f_X9_laysSteps N M = some M' ∧ lnX V V' ∧ lnM M M' ∧ (∀ c, c ≤ 25 → V'.2.1 53 c = nI (st c)) ∧ ∀ c, c ≤ 25 → M'.2.1 18 c = nI (st c) := by
  obtain ⟨⟨V1, M1⟩, ⟨p1, p2, p3⟩, n, en⟩ := lpN N (fun n (s : Vt × Vt) i => some (lrL N S lw n s.1 i, f_X9_laysSteps_2 N n s.2 i)) 25 (fun i s => lnX V s.1 ∧ lnM M s.2 ∧ ∀ c, c < i → ∃ d, d ≤ 25 ∧ s.1.2.1 53 c = nI d ∧ s.2.2.1 18 c = nI d) (by
    rintro i ⟨V1, M1⟩ hi ⟨p1, p2, p3⟩
    have hL : LQ S V1 M1 lw := LQ_s (SX_ln p1) (p2.2.1 2 (by omega) (by omega)) h
    obtain ⟨d, V2, M2, hd, ex, em, cx, cm⟩ := stepB hN hL hi
    refine ⟨(sA V2 53 i (nI d), sA M2 18 i (nI d)), ⟨lnX_t p1 (lnX_t (lnX_c cx) (lnX_A V2 i (nI d))), lnM_t p2 (lnM_t (lnM_c cm) (lnM_A M2 i (nI d))), fun c hc => ?_⟩, fun n => ?_⟩
    · by_cases hci : c = i
      · subst hci
        exact ⟨d, hd, by rw [sA_e, upd_e], by rw [sA_e, upd_e]⟩
      · obtain ⟨d', h1, h2, h3⟩ := p3 c (by omega)
        refine ⟨d', h1, ?_, ?_⟩
        · rw [sA_e, upd_n _ _ _ _ hci, cx.2.1 53 (by omega) (by omega)]; exact h2
        · rw [sA_e, upd_n _ _ _ _ hci, cm.2.1 18 (by omega)]; exact h3
    · have n25 : ¬ (25 : Int32) ≤ nI i := by rw [lj 25, nI_L (by omega) (by omega)]; omega
      congr 2
      · show lrL N S lw (n + 1) V1 (nI i) = lrL N S lw n (sA V2 53 i (nI d)) (nI (i + 1))
        rw [lrL_s, if_neg n25, ex, pl_ob, pl_ck (by omega) (by omega), pl_bd, nI_cl (by omega), nI_1, pl_bd]
      · show f_X9_laysSteps_2 N (n + 1) M1 (nI i) = f_X9_laysSteps_2 N n (sA M2 18 i (nI d)) (nI (i + 1))
        rw [f_X9_laysSteps_2, if_neg n25, em, pl_ob, pl_ck (by omega) (by omega), pl_bd, nI_cl (by omega), nI_1, pl_bd]) (V, M) (by omega) ⟨lnX_r V, lnM_r M, fun c hc => absurd hc (Nat.not_lt_zero c)⟩
  have hex : ∀ c, ∃ d, c < 25 → d ≤ 25 ∧ V1.2.1 53 c = nI d ∧ M1.2.1 18 c = nI d := fun c => by
    by_cases hc : c < 25
    · obtain ⟨d, hd⟩ := p3 c hc; exact ⟨d, fun _ => hd⟩
    · exact ⟨0, fun q => absurd q hc⟩
  obtain ⟨sf, hsf⟩ := Classical.skolem.mp hex
  have c25 : ∀ k : Option Vt, ck (25 : Int32) 26 k = k := fun k => pl_ck (i := 25) (n := 26) (by omega) (by omega) k
  have le25 : (25 : Int32) ≤ nI 25 := by decide
  have en' : (lrL N S lw N V (nI 0), f_X9_laysSteps_2 N N M (nI 0)) = (lrL N S lw (n + 1) V1 (nI 25), f_X9_laysSteps_2 N (n + 1) M1 (nI 25)) := Option.some.inj en
  refine ⟨fun c => if c = 25 then 25 else sf c, sA V1 53 25 (nI 25), sA M1 18 25 (nI 25), fun c hc => ?_, if_pos rfl, ?_, ?_, lnX_t p1 (lnX_A _ _ _), lnM_t p2 (lnM_A _ _ _), fun c hc => ?_, fun c hc => ?_⟩
  · show (if c = 25 then 25 else sf c) ≤ 25
    by_cases h25 : c = 25
    · rw [if_pos h25]; omega
    · rw [if_neg h25]; exact (hsf c (by omega)).1
  · have e1 : lrL N S lw N V (nI 0) = lrL N S lw (n + 1) V1 (nI 25) := congrArg Prod.fst en'
    have e2 : lrL N S lw N V 0 = lrL N S lw (n + 1) V1 (nI 25) := e1
    rw [e2, lrL_s, if_pos le25, c25, pl_bd]
    rfl
  · have e1 : f_X9_laysSteps_2 N N M (nI 0) = f_X9_laysSteps_2 N (n + 1) M1 (nI 25) := congrArg Prod.snd en'
    have e2 : f_X9_laysSteps N M = f_X9_laysSteps_2 N (n + 1) M1 (nI 25) := e1
    rw [e2, f_X9_laysSteps_2, if_pos le25, c25, pl_bd]
    rfl
  · show _ = nI (if c = 25 then 25 else sf c)
    rw [sA_e]
    by_cases h25 : c = 25
    · rw [if_pos h25, h25, upd_e]
    · rw [if_neg h25, upd_n _ _ _ _ h25]; exact (hsf c (by omega)).2.1
  · show _ = nI (if c = 25 then 25 else sf c)
    rw [sA_e]
    by_cases h25 : c = 25
    · rw [if_pos h25, h25, upd_e]
    · rw [if_neg h25, upd_n _ _ _ _ h25]; exact (hsf c (by omega)).2.2
/-- the n-th place -/
def pla (st : Nat → Nat) : Nat → Nat → Nat
  | 0, c => c
  | n + 1, c => pla st n (st c)
theorem pla_le {st : Nat → Nat} (h : ∀ c, c ≤ 25 → st c ≤ 25) : ∀ n c, c ≤ 25 → pla st n c ≤ 25
  | 0, _, hc => hc
  | n + 1, c, hc => pla_le h n (st c) (h c hc)
theorem x_after {N : Nat} (hN : 20000 ≤ N) {S : St} {V : Vt} {o : Nat} {st : Nat → Nat} (hst : ∀ c, c ≤ 25 → st c ≤ 25) (hv : ∀ c, c ≤ 25 → V.2.1 (o + 5) c = nI (st c)) {c k : Nat} (hc : c ≤ 25) (hk : k ≤ 99) : f_X3_placeAfter N S V o (nI c) (nI k) = some (nI (pla st k c)) := by
  have key : ∀ m i c n, i + m = k → c ≤ 25 → f_X3_placeAfter_5 N S V o (n + m + 1) (nI k) (nI c) (nI i) = some (nI (pla st m c)) := by
    intro m
    induction m with
    | zero =>
      intro i c n hi hc
      rw [f_X3_placeAfter_5, if_pos (by rw [nI_L (by omega) (by omega)]; omega)]
      rfl
    | succ m ih =>
      intro i c n hi hc
      have := ih (i + 1) (st c) n (by omega) (hst c hc)
      rw [f_X3_placeAfter_5, if_neg (by rw [nI_L (by omega) (by omega)]; omega), pl_ck (by omega) (by omega), nI_cl (by omega), hv c hc, pl_bd, nI_1, pl_bd]
      exact this
  have := key k 0 c (N - k - 1) (by omega) hc
  rw [show N - k - 1 + k + 1 = N by omega] at this
  exact this
theorem m_behind {N : Nat} (hN : 20000 ≤ N) {M : Vt} {st : Nat → Nat} (hst : ∀ c, c ≤ 25 → st c ≤ 25) (hv : ∀ c, c ≤ 25 → M.2.1 18 c = nI (st c)) {c k : Nat} (hc : c ≤ 25) (hk : k ≤ 99) : f_X9_behind N M (nI c) (nI k) = some (nI (pla st k c)) := by
  have key : ∀ m i c n, i + m = k → c ≤ 25 → f_X9_behind_5 N M (n + m + 1) (nI k) (nI c) (nI i) = some (nI (pla st m c)) := by
    intro m
    induction m with
    | zero =>
      intro i c n hi hc
      rw [f_X9_behind_5, if_pos (by rw [nI_L (by omega) (by omega)]; omega)]
      rfl
    | succ m ih =>
      intro i c n hi hc
      have := ih (i + 1) (st c) n (by omega) (hst c hc)
      rw [f_X9_behind_5, if_neg (by rw [nI_L (by omega) (by omega)]; omega), pl_ck (by omega) (by omega), nI_cl (by omega), hv c hc, pl_bd, nI_1, pl_bd]
      exact this
  have := key k 0 c (N - k - 1) (by omega) hc
  rw [show N - k - 1 + k + 1 = N by omega] at this
  exact this
/-- class: learn by the law in force -/
theorem x_lrn {α : Type} {N : Nat} {S : St} {V V' : Vt} {lw : Nat} {M : Vt} (hL : LQ S V M lw) (e : lrL N S lw N V 0 = some V') (K : Vt → Option α) : nl lw (obv (f_X3_learn_n N S V 48 1) K) (fun q => cg (tshB S q) (obv (f_X3_learn_t N S V 48 1 q) K)) = K V' := by
  rcases hL.2.2.2 with ⟨rfl, -⟩ | ⟨q, j, rfl, -, e3, -⟩
  · have e' : f_X3_learn_n N S V 48 1 = some V' := e
    rw [pl_nl0, e', pl_obv]
  · have e' : f_X3_learn_t N S V 48 1 q = some V' := e
    rw [pl_nls, cgT e3, e', pl_obv]
section OPS
variable {N b0 : Nat}
theorem op_hound (hN : 20000 ≤ N) : Op_hound N b0 (Rel XL b0) := by
  intro S V M hR a1 a2
  rcases cell_c N a1 with ⟨c, hc, rfl, e8, e9⟩ | ⟨e8, e9⟩
  · rcases lies_c N a2 0 99 (by omega) (by omega) with ⟨k, -, hk, rfl, el⟩ | ⟨-, el⟩
    · obtain ⟨lw, eF, hL⟩ := LQ_of (N := N) hR
      obtain ⟨st, V', M', h1, h2, ex, em, cx, cm, v53, m18⟩ := learnB hN hL
      have xa := x_after (N := N) hN (S := S) (V := V') (o := 48) h1 v53 (c := c) (k := k) (by omega) hk
      have mb := m_behind (N := N) hN (M := M') h1 m18 (c := c) (k := k) (by omega) hk
      refine ⟨nI (pla st k c), V', M', ?_, ?_, Rel_s hR (SX_ln cx) (SM_ln cm)⟩
      · have el' : f_X8_isWithin N (nI k) 0 99 = some (nI 1) := by rw [within_lies]; exact el
        have eF' : f_X0_lawInForce N S V (0 + 1) = some lw := eF
        unfold f_X8_hound
        rw [e8, pl_ob1, if_neg (by decide), el', pl_ob1, if_neg (by decide), eF', pl_ob1]
        refine (x_lrn hL ex (fun V25 => ob1 (f_X3_placeAfter N S V25 48 (nI c) (nI k)) (fun r26 => some (r26, V25)))).trans ?_
        rw [xa, pl_ob1]
      · have el' : f_X9_lies N (nI k) 0 99 = some (nI 1) := el
        unfold f_X9_hound
        rw [e9, pl_ob1, if_neg (by decide), el', pl_ob1, if_neg (by decide), em, pl_obv, mb, pl_ob1]
    · refine ⟨-1, V, M, ?_, ?_, hR⟩
      · simp (disch := omega) only [f_X8_hound, e8, within_lies, el, pl_bd, pl_ob, pl_ob1, pl_obv, pl_oa, pl_oav, pl_cg, pl_cb0, pl_cb1, pl_nl0, pl_nls, li, nI_cl, pl_ck, nI_E, nI_L, nI_T, nI_add, pk_mul, nI_s1, Nat.zero_add, Nat.add_zero, Nat.reduceAdd, Nat.reduceMul, Nat.reduceSub, Nat.reduceEqDiff, Nat.reduceLeDiff, Nat.reduceLT, ↓reduceIte]
      · simp (disch := omega) only [f_X9_hound, e9, el, pl_bd, pl_ob, pl_ob1, pl_obv, pl_oa, pl_oav, pl_cg, pl_cb0, pl_cb1, pl_nl0, pl_nls, li, nI_cl, pl_ck, nI_E, nI_L, nI_T, nI_add, pk_mul, nI_s1, Nat.zero_add, Nat.add_zero, Nat.reduceAdd, Nat.reduceMul, Nat.reduceSub, Nat.reduceEqDiff, Nat.reduceLeDiff, Nat.reduceLT, ↓reduceIte]
  · refine ⟨-1, V, M, ?_, ?_, hR⟩
    · unfold f_X8_hound; rw [e8]; rfl
    · unfold f_X9_hound; rw [e9]; rfl
end OPS
end
