section
/-! sources -/
theorem b_one : ∀ i, i < 32 → bt 1 i = decide (i = 0) := by decide +kernel
theorem bt_one {v i : Nat} (hv : v < 32) (hi : i < 32) : bt ((1 : Int32) <<< (nI v &&& 31)) i = decide (i = v) := by
  rw [b_shl v hv _ hi]
  by_cases h : v ≤ i
  · rw [b_one _ (by omega)]
    by_cases e : i = v
    · subst e; simp
    · simp [h, e]; omega
  · simp [h]; omega
theorem bt_put {x : Int32} {a v i : Nat} (ha : a < 32) (hv : v < 32) (hi : i < 32) : bt (((x >>> (nI a &&& 31)) &&& 1) <<< (nI v &&& 31)) i = (decide (i = v) && bt x a) := by
  rw [b_shl v hv _ hi]
  by_cases h : v ≤ i
  · rw [b_and, b_sshr a ha _ (by omega), b_one _ (by omega)]
    by_cases e : i = v
    · subst e
      rw [Nat.sub_self, Nat.add_zero, if_pos ha]
      simp
    · have : ¬ i - v = 0 := by omega
      simp [h, e, this]
  · have : ¬ i = v := by omega
    simp [h, this]
theorem pla_25 {st : Nat → Nat} (h25 : st 25 = 25) : ∀ n, pla st n 25 = 25
  | 0 => rfl
  | n + 1 => by show pla st n (st 25) = 25; rw [h25]; exact pla_25 h25 n
def RB (st : Nat → Nat) (c : Nat) (m : Int32) : Prop := ∀ a, a < 32 → (bt m a = true ↔ a < 25 ∧ ∃ n, n ≤ 24 ∧ pla st n c = a)
theorem x_r15 {N : Nat} (hN : 20000 ≤ N) {S : St} {V : Vt} {st : Nat → Nat} (hst : ∀ c, c ≤ 25 → st c ≤ 25) (h25 : st 25 = 25) (hv : ∀ c, c ≤ 25 → V.2.1 53 c = nI (st c)) {c : Nat} (hc : c < 25) : ∃ m, RB st c m ∧ ∀ K, f_X3_learnReach_15 N S 48 K N V (nI c) (nI c) 0 0 = f_X3_learnReach_47 N S 48 K V (nI c) m := by
  have pl : ∀ n, pla st n c ≤ 25 := fun n => pla_le hst n c (by omega)
  have key : ∀ k t mask, t + k = 25 → (∀ j, j < t → pla st j c < 25) → (∀ a, a < 32 → (bt mask a = true ↔ ∃ j, j < t ∧ pla st j c = a)) → ∃ m, RB st c m ∧ ∀ K n, f_X3_learnReach_15 N S 48 K (n + k + 1) V (nI c) (nI (pla st t c)) mask (nI t) = f_X3_learnReach_47 N S 48 K V (nI c) m := by
    intro k
    induction k with
    | zero =>
      intro t mask ht h1 h2
      have e : t = 25 := by omega
      subst e
      refine ⟨mask, fun a ha => ?_, fun K n => ?_⟩
      · rw [h2 a ha]
        constructor
        · rintro ⟨j, j1, j2⟩; exact ⟨by rw [← j2]; exact h1 j j1, j, by omega, j2⟩
        · rintro ⟨-, j, j1, j2⟩; exact ⟨j, by omega, j2⟩
      · rw [f_X3_learnReach_15, if_pos (by decide)]
    | succ k ih =>
      intro t mask ht h1 h2
      by_cases q : pla st t c = 25
      · refine ⟨mask, fun a ha => ?_, fun K n => ?_⟩
        · rw [h2 a ha]
          constructor
          · rintro ⟨j, j1, j2⟩; exact ⟨by rw [← j2]; exact h1 j j1, j, by omega, j2⟩
          · rintro ⟨a25, j, j1, j2⟩
            refine ⟨j, ?_, j2⟩
            rcases Nat.lt_or_ge j t with l | l
            · exact l
            · have e1 := pla_a st t (j - t) c
              rw [show t + (j - t) = j by omega, q, pla_25 h25] at e1
              omega
        · rw [f_X3_learnReach_15, lj 25, if_neg (by rw [nI_L (by omega) (by omega)]; omega), q, if_pos rfl]
      · have p1 := pl t
        obtain ⟨m, m1, m2⟩ := ih (t + 1) (mask ||| ((1 : Int32) <<< (nI (pla st t c) &&& 31))) (by omega) (fun j hj => by
          by_cases e : j = t
          · rw [e]; omega
          · exact h1 j (by omega)) (fun a ha => by
          rw [b_or, bt_one (by omega) ha, Bool.or_eq_true, h2 a ha, decide_eq_true_iff]
          constructor
          · rintro (⟨j, j1, j2⟩ | e)
            · exact ⟨j, by omega, j2⟩
            · exact ⟨t, by omega, e.symm⟩
          · rintro ⟨j, j1, j2⟩
            by_cases e : j = t
            · exact Or.inr (by rw [← j2, e])
            · exact Or.inl ⟨j, by omega, j2⟩)
        refine ⟨m, m1, fun K n => ?_⟩
        rw [show n + (k + 1) + 1 = (n + k + 1) + 1 by omega, f_X3_learnReach_15, lj 25, if_neg (by rw [nI_L (by omega) (by omega)]; omega), if_neg (by rw [nI_E (by omega) (by omega)]; exact q), pl_bd, pl_ck (by omega) (by omega), nI_cl (by omega)]
        show bd (V.2.1 53 (pla st t c)) _ = _
        rw [hv _ p1, pl_bd, nI_1, pl_bd, ← pla_s st]
        exact m2 K n
  obtain ⟨m, m1, m2⟩ := key 25 0 0 rfl (fun j hj => absurd hj (Nat.not_lt_zero j)) (fun a ha => by
    rw [b_0]
    constructor
    · intro h; cases h
    · rintro ⟨j, j1, -⟩; exact absurd j1 (Nat.not_lt_zero j))
  refine ⟨m, m1, fun K => ?_⟩
  have := m2 K (N - 26)
  rw [show N - 26 + 25 + 1 = N by omega] at this
  exact this
theorem x_reach {N : Nat} (hN : 20000 ≤ N) {S : St} {V : Vt} {st : Nat → Nat} (hst : ∀ c, c ≤ 25 → st c ≤ 25) (h25 : st 25 = 25) (hv : ∀ c, c ≤ 25 → V.2.1 53 c = nI (st c)) : ∃ f, f_X3_learnReach N S V 48 = some (pA V 54 f) ∧ ∀ c, c < 25 → RB st c (f c) := by
  obtain ⟨g, g1, n, en⟩ := lpN N (fun n (f : Nat → Int32) i => f_X3_learnReach_2 N S 48 n (pA V 54 f) i) 25 (fun i f => ∀ c, c < i → RB st c (f c)) (by
    intro i f hi h1
    obtain ⟨m, m1, m2⟩ := x_r15 (N := N) hN (S := S) (V := pA V 54 f) hst h25 (fun c hc => by rw [pA_n _ _ _ _ (by omega)]; exact hv c hc) hi
    refine ⟨upd f i m, fun c hc => ?_, fun n => ?_⟩
    · by_cases e : c = i
      · subst e; rw [upd_e]; exact m1
      · rw [upd_n _ _ _ _ e]; exact h1 c (by omega)
    · show f_X3_learnReach_2 N S 48 (n + 1) (pA V 54 f) (nI i) = _
      rw [f_X3_learnReach_2, lj 25, if_neg (by rw [nI_L (by omega) (by omega)]; omega), m2]
      unfold f_X3_learnReach_47
      rw [pl_ck (by omega) (by omega), nI_cl (by omega)]
      show bd (sA (pA V 54 f) 54 i m) _ = _
      rw [sA_pAe, pl_bd, nI_1, pl_bd]) (V.2.1 54) (by omega) (fun k hk => absurd hk (Nat.not_lt_zero k))
  refine ⟨g, ?_, g1⟩
  have e0 : f_X3_learnReach N S V 48 = f_X3_learnReach_2 N S 48 N (pA V 54 (V.2.1 54)) (nI 0) := by rw [pA_self]; rfl
  have e1 : f_X3_learnReach_2 N S 48 N (pA V 54 (V.2.1 54)) (nI 0) = f_X3_learnReach_2 N S 48 (n + 1) (pA V 54 g) (nI 25) := en
  rw [e0, e1, f_X3_learnReach_2, if_pos (by decide)]
theorem x_srcs {N : Nat} (hN : 20000 ≤ N) {S : St} {V : Vt} {f : Nat → Int32} (hf : V.2.1 54 = f) {a : Nat} (ha : a < 25) : ∃ m, f_X3_sourceBits N S V 48 (nI a) = some m ∧ ∀ i, i < 32 → (bt m i = true ↔ i < 25 ∧ bt (f i) a = true) := by
  obtain ⟨m, g1, n, en⟩ := lpN N (fun n (m : Int32) i => f_X3_sourceBits_4 N S V 48 n (nI a) m i) 25 (fun k m => ∀ i, i < 32 → (bt m i = true ↔ i < k ∧ bt (f i) a = true)) (by
    intro k m hk h1
    refine ⟨m ||| (((f k >>> (nI a &&& 31)) &&& 1) <<< (nI k &&& 31)), fun i hi => ?_, fun n => ?_⟩
    · rw [b_or, bt_put (by omega) (by omega) hi, Bool.or_eq_true, h1 i hi, Bool.and_eq_true, decide_eq_true_iff]
      constructor
      · rintro (⟨h, h'⟩ | ⟨h, h'⟩)
        · exact ⟨by omega, h'⟩
        · rw [h]; exact ⟨by omega, h'⟩
      · rintro ⟨h, h'⟩
        by_cases e : i = k
        · exact Or.inr ⟨e, by rw [← e]; exact h'⟩
        · exact Or.inl ⟨by omega, h'⟩
    · show f_X3_sourceBits_4 N S V 48 (n + 1) (nI a) m (nI k) = _
      rw [f_X3_sourceBits_4, if_neg (show ¬ (25 : Int32) ≤ nI k by rw [lj 25, nI_L (by omega) (by omega)]; omega), pl_ck (by omega) (by omega), nI_cl (by omega)]
      show bd (m ||| (((V.2.1 54 k >>> (nI a &&& 31)) &&& 1) <<< (nI k &&& 31))) _ = _
      rw [hf, pl_bd, nI_1, pl_bd]) 0 (by omega) (fun i hi => by
    rw [b_0]
    constructor
    · intro h; cases h
    · rintro ⟨h, -⟩; exact absurd h (Nat.not_lt_zero i))
  refine ⟨m, ?_, g1⟩
  have e1 : f_X3_sourceBits N S V 48 (nI a) = f_X3_sourceBits_4 N S V 48 (n + 1) (nI a) m (nI 25) := en
  rw [e1, f_X3_sourceBits_4, if_pos (by decide)]
theorem m_s29 {N : Nat} (hN : 20000 ≤ N) {M : Vt} {st : Nat → Nat} (hst : ∀ c, c ≤ 25 → st c ≤ 25) (hv : ∀ c, c ≤ 25 → M.2.1 18 c = nI (st c)) {a c : Nat} (ha : a < 25) (hc : c < 25) (K : Vt → Int32 → Int32 → Int32 → Option (Int32 × Vt)) (v2 s0 : Int32) (y : (∃ n, n ≤ 25 ∧ pla st n c = a) → s0 = (1 : Int32) <<< (nI c &&& 31)) (z : ¬ (∃ n, n ≤ 25 ∧ pla st n c = a) → s0 = 0) : f_X9_sources_29 N K N M (nI a) v2 (nI c) (nI c) 0 = f_X9_sources_71 N K M (nI a) (nI c) s0 v2 := by
  have pl : ∀ n, pla st n c ≤ 25 := fun n => pla_le hst n c (by omega)
  have s57 : ∀ t, t ≤ 25 → pla st t c = a → f_X9_sources_57 N K M (nI a) v2 (nI c) (nI (pla st t c)) = f_X9_sources_71 N K M (nI a) (nI c) s0 v2 := fun t ht e => by
    unfold f_X9_sources_57
    rw [if_pos (by rw [e]), y ⟨t, ht, e⟩]
  have key : ∀ k t n, t + k = 25 → (∀ j, j < t → pla st j c ≠ a) → f_X9_sources_29 N K (n + k + 1) M (nI a) v2 (nI c) (nI (pla st t c)) (nI t) = f_X9_sources_71 N K M (nI a) (nI c) s0 v2 := by
    intro k
    induction k with
    | zero =>
      intro t n ht h1
      have e : t = 25 := by omega
      subst e
      rw [f_X9_sources_29, if_pos (by decide)]
      by_cases q : pla st 25 c = a
      · exact s57 25 (by omega) q
      · have p1 := pl 25
        unfold f_X9_sources_57
        rw [if_neg (by rw [nI_E (by omega) (by omega)]; exact q), z (fun ⟨j, j1, j2⟩ => by
          by_cases e : j = 25
          · exact q (by rw [← e]; exact j2)
          · exact h1 j (by omega) j2)]
    | succ k ih =>
      intro t n ht h1
      have p1 := pl t
      rw [show n + (k + 1) + 1 = (n + k + 1) + 1 by omega, f_X9_sources_29, if_neg (show ¬ (25 : Int32) ≤ nI t by rw [lj 25, nI_L (by omega) (by omega)]; omega)]
      by_cases q : pla st t c = a
      · rw [if_pos (by rw [q])]
        exact s57 t (by omega) q
      · rw [if_neg (by rw [nI_E (by omega) (by omega)]; exact q), pl_ck (by omega) (by omega), nI_cl (by omega), hv _ p1, pl_bd, nI_1, pl_bd, ← pla_s st]
        exact ih (t + 1) n (by omega) (fun j hj => by
          by_cases e : j = t
          · rw [e]; exact q
          · exact h1 j (by omega))
  have := key 25 0 (N - 26) rfl (fun j hj => absurd hj (Nat.not_lt_zero j))
  rw [show N - 26 + 25 + 1 = N by omega] at this
  exact this
theorem m_srcs {N : Nat} (hN : 20000 ≤ N) {M : Vt} {st : Nat → Nat} (hst : ∀ c, c ≤ 25 → st c ≤ 25) (hv : ∀ c, c ≤ 25 → M.2.1 18 c = nI (st c)) {a : Nat} (ha : a < 25) : ∃ m, f_X9_sources_17 N N M (nI a) 0 0 = some (m, M) ∧ ∀ i, i < 32 → (bt m i = true ↔ i < 25 ∧ ∃ n, n ≤ 25 ∧ pla st n i = a) := by
  obtain ⟨m, g1, n, en⟩ := lpN N (fun n (m : Int32) i => f_X9_sources_17 N n M (nI a) m i) 25 (fun k m => ∀ i, i < 32 → (bt m i = true ↔ i < k ∧ ∃ n, n ≤ 25 ∧ pla st n i = a)) (by
    intro k m hk h1
    by_cases q : ∃ n, n ≤ 25 ∧ pla st n k = a
    · refine ⟨m ||| ((1 : Int32) <<< (nI k &&& 31)), fun i hi => ?_, fun n => ?_⟩
      · rw [b_or, bt_one (by omega) hi, Bool.or_eq_true, h1 i hi, decide_eq_true_iff]
        constructor
        · rintro (⟨h, h'⟩ | h)
          · exact ⟨by omega, h'⟩
          · rw [h]; exact ⟨by omega, q⟩
        · rintro ⟨h, h'⟩
          by_cases e : i = k
          · exact Or.inr e
          · exact Or.inl ⟨by omega, h'⟩
      · show f_X9_sources_17 N (n + 1) M (nI a) m (nI k) = _
        rw [f_X9_sources_17, if_neg (show ¬ (25 : Int32) ≤ nI k by rw [lj 25, nI_L (by omega) (by omega)]; omega), m_s29 hN hst hv ha hk _ m _ (fun _ => rfl) (fun h => absurd q h)]
        unfold f_X9_sources_71
        rw [pl_bd, nI_1, pl_bd]
    · refine ⟨m ||| 0, fun i hi => ?_, fun n => ?_⟩
      · rw [b_or, b_0, Bool.or_false, h1 i hi]
        constructor
        · rintro ⟨h, h'⟩; exact ⟨by omega, h'⟩
        · rintro ⟨h, h'⟩
          by_cases e : i = k
          · rw [e] at h'; exact absurd h' q
          · exact ⟨by omega, h'⟩
      · show f_X9_sources_17 N (n + 1) M (nI a) m (nI k) = _
        rw [f_X9_sources_17, if_neg (show ¬ (25 : Int32) ≤ nI k by rw [lj 25, nI_L (by omega) (by omega)]; omega), m_s29 hN hst hv ha hk _ m _ (fun h => absurd h q) (fun _ => rfl)]
        unfold f_X9_sources_71
        rw [pl_bd, nI_1, pl_bd]) 0 (by omega) (fun i hi => by
    rw [b_0]
    constructor
    · intro h; cases h
    · rintro ⟨h, -⟩; exact absurd h (Nat.not_lt_zero i))
  refine ⟨m, ?_, g1⟩
  have e1 : f_X9_sources_17 N N M (nI a) 0 0 = f_X9_sources_17 N (n + 1) M (nI a) m (nI 25) := en
  rw [e1, f_X9_sources_17, if_pos (by decide)]
/-- what is reached in 25 is reached in 24 -/
theorem r25 {st : Nat → Nat} (hst : ∀ c, c ≤ 25 → st c ≤ 25) (h25 : st 25 = 25) {a c : Nat} (ha : a < 25) (hc : c < 25) (h : ∃ n, n ≤ 25 ∧ pla st n c = a) : ∃ n, n ≤ 24 ∧ pla st n c = a := by
  obtain ⟨n, hn, e⟩ := h
  by_cases q : n ≤ 24
  · exact ⟨n, q, e⟩
  · have en : n = 25 := by omega
    subst en
    have lt : ∀ j, j ≤ 25 → pla st j c < 25 := fun j hj => by
      have l := pla_le hst j c (by omega)
      rcases Nat.lt_or_ge (pla st j c) 25 with g | g
      · exact g
      · have e1 := pla_a st j (25 - j) c
        rw [show j + (25 - j) = 25 by omega, show pla st j c = 25 by omega, pla_25 h25] at e1
        omega
    obtain ⟨i, j, h1, h2, h3⟩ := pg 25 (fun n => pla st n c) lt
    have h3' : pla st i c = pla st j c := h3
    refine ⟨i + (25 - j), by omega, ?_⟩
    rw [pla_a, h3', ← pla_a, show j + (25 - j) = 25 by omega]
    exact e
section OPS
variable {N b0 : Nat}
theorem op_sources (hN : 20000 ≤ N) : Op_sources N b0 (Rel XL b0) := by
  intro S V M hR a1
  rcases cell_c N a1 with ⟨a, ha, rfl, e8, e9⟩ | ⟨e8, e9⟩
  · obtain ⟨lw, eF, hL⟩ := LQ_of (N := N) hR
    obtain ⟨st, V', M', h1, h2, ex, em, cx, cm, v53, m18⟩ := learnB hN hL
    obtain ⟨f, ef, hf⟩ := x_reach (N := N) hN (S := S) h1 h2 v53
    obtain ⟨m, em1, hm⟩ := x_srcs (N := N) hN (S := S) (V := pA V' 54 f) (f := f) (pA_e _ _ _) ha
    obtain ⟨m', em2, hm'⟩ := m_srcs (N := N) hN h1 m18 ha
    have eq : m' = m := b_ext (fun i hi => by
      have A := hm i hi
      have B := hm' i hi
      have C : bt m i = true ↔ bt m' i = true := by
        rw [A, B]
        constructor
        · rintro ⟨i1, i2⟩
          obtain ⟨-, n, n1, n2⟩ := (hf i i1 a (by omega)).mp i2
          exact ⟨i1, n, by omega, n2⟩
        · rintro ⟨i1, i2⟩
          exact ⟨i1, (hf i i1 a (by omega)).mpr ⟨ha, r25 h1 h2 ha i1 i2⟩⟩
      cases p : bt m i <;> cases q : bt m' i
      · rfl
      · rw [C.mpr q] at p; cases p
      · rw [C.mp p] at q; cases q
      · rfl)
    refine ⟨m, pA V' 54 f, M', ?_, ?_, Rel_s hR (SX_t (SX_ln cx) ⟨fun g hg => ⟨rfl, pA_n _ _ _ _ (fun e => by rw [e] at hg; exact absurd hg (by decide)), rfl⟩, rfl⟩) (SM_ln cm)⟩
    · have eF' : f_X0_lawInForce N S V (0 + 1) = some lw := eF
      unfold f_X8_sources
      rw [e8, pl_ob1, if_neg (by decide), eF', pl_ob1]
      refine (x_lrn hL ex (fun V23 => obv (f_X3_learnReach N S V23 48) (fun V26 => ob1 (f_X3_sourceBits N S V26 48 (nI a)) (fun r27 => some (r27, V26))))).trans ?_
      rw [ef, pl_obv, em1, pl_ob1]
    · unfold f_X9_sources
      rw [e9, pl_ob1, if_neg (by decide), em, pl_obv, em2, eq]
  · refine ⟨-1, V, M, ?_, ?_, hR⟩
    · unfold f_X8_sources; rw [e8]; rfl
    · unfold f_X9_sources; rw [e9]; rfl
end OPS
end
