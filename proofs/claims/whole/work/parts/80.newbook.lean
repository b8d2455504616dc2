section
/-! a new book -/
def arS (S : St) (o j k n : Nat) : St := stP (nwA S k n) o j (S.1 + 1)
theorem ar_step {α : Type} {ad : Nat → Nat} {S : St} {V : Vt} {o j k n : Nat} {K : St → Vt → Option α} (ha : ad S.1 = S.2.2.2.2) (ho : o < S.1) (hk : S.2.1 o = 0) : cg (ad S.1 == S.2.2.2.2) (bd S.1 (fun q => bd (nwA S k n) (fun S1 => bd (zV V q) (fun V1 => cg (ooB S1 o 0) (bd (stP S1 o j (q + 1)) (fun S2 => K S2 V1)))))) = K (arS S o j k n) (zV V S.1) := by
  rw [cgT (by rw [ha]; exact beq_self_eq_true _), pl_bd, pl_bd, pl_bd, cgT (ooT (by rw [nwA_n]; omega) (by rw [nwA_k, if_neg (by omega)]; exact hk)), pl_bd]
  rfl
def ShN (S : St) (o n : Nat) : Prop := S.1 = o + 1 + n ∧ S.2.1 o = 0 ∧ S.2.2.1 o = 0 ∧ (∀ j, S.2.2.2.1 o j = if j < n then o + 2 + j else 0) ∧ ∀ i, i < n → ∃ k l, t0[i + 1]? = some (k, l, []) ∧ S.2.1 (o + 1 + i) = k ∧ S.2.2.1 (o + 1 + i) = l
theorem ShN_s {S : St} {o n k l : Nat} (h : ShN S o n) (ht : t0[n + 1]? = some (k, l, [])) : ShN (arS S o n k l) o (n + 1) := by
  obtain ⟨h1, h2, h3, h4, h5⟩ := h
  refine ⟨?_, ?_, ?_, fun j => ?_, fun i hi => ?_⟩
  · show S.1 + 1 = _; omega
  · show (nwA S k l).2.1 o = 0; rw [nwA_k, if_neg (by omega)]; exact h2
  · show (nwA S k l).2.2.1 o = 0; rw [nwA_l, if_neg (by omega)]; exact h3
  · unfold arS
    rw [stP_p, nwA_p, h4 j]
    by_cases c : j = n
    · subst c; rw [if_pos ⟨rfl, rfl⟩, if_pos (by omega)]; omega
    · rw [if_neg (by omega)]
      by_cases c2 : j < n
      · rw [if_pos c2, if_pos (by omega)]
      · rw [if_neg c2, if_neg (by omega)]
  · by_cases c : i = n
    · subst c
      refine ⟨k, l, ht, ?_, ?_⟩
      · show (nwA S k l).2.1 _ = k; rw [nwA_k, if_pos (by omega)]
      · show (nwA S k l).2.2.1 _ = l; rw [nwA_l, if_pos (by omega)]
    · obtain ⟨k', l', a1, a2, a3⟩ := h5 i (by omega)
      refine ⟨k', l', a1, ?_, ?_⟩
      · show (nwA S k l).2.1 _ = k'; rw [nwA_k, if_neg (by omega)]; exact a2
      · show (nwA S k l).2.2.1 _ = l'; rw [nwA_l, if_neg (by omega)]; exact a3
theorem ShN_shp {S : St} {o : Nat} (h : ShN S o 9) : shp S o t0 := by
  obtain ⟨h1, h2, h3, h4, h5⟩ := h
  intro i x hx
  cases i with
  | zero =>
    cases hx
    refine ⟨by omega, h2, h3, fun j q hq => ?_⟩
    rw [Nat.add_zero, h4 j]
    rcases (by omega : j = 0 ∨ j = 1 ∨ j = 2 ∨ j = 3 ∨ j = 4 ∨ j = 5 ∨ j = 6 ∨ j = 7 ∨ j = 8 ∨ j = 9 ∨ j = 10 ∨ j = 11 ∨ j = 12 ∨ j = 13 ∨ 14 ≤ j) with rfl | rfl | rfl | rfl | rfl | rfl | rfl | rfl | rfl | rfl | rfl | rfl | rfl | rfl | c <;> first | (cases hq; rfl) | (rw [List.getElem?_eq_none (by simpa using c)] at hq; cases hq)
  | succ i =>
    have hi : i < 9 := by
      rcases Nat.lt_or_ge i 9 with c | c
      · exact c
      · rw [List.getElem?_eq_none (show t0.length ≤ i + 1 by show 10 ≤ i + 1; omega)] at hx; cases hx
    obtain ⟨k, l, a1, a2, a3⟩ := h5 i hi
    rw [a1] at hx
    cases hx
    refine ⟨by omega, by rw [show o + (i + 1) = o + 1 + i by omega]; exact a2, by rw [show o + (i + 1) = o + 1 + i by omega]; exact a3, fun j q hq => by cases hq⟩
theorem Old_ar {S S1 : St} {o j k n : Nat} (ho : S.1 ≤ o) (a : Old S S1) : Old S (arS S1 o j k n) := Old_P o j _ ho (Old_t a (Old_A S1 k n))
/-- what a new book holds -/
def bkZ (V : Vt) (o : Nat) : Vt := sF (zV (zV (zV (sA (sA (sA (zV (zV (zV (zV (zV (zV V (o + 1)) (o + 2)) (o + 3)) (o + 4)) (o + 5)) (o + 6)) (o + 6) 0 0) (o + 6) 1 1) (o + 6) 2 0) (o + 7)) (o + 8)) (o + 9)) o 11 (-1)
theorem e_X0_init {N : Nat} {ad : Nat → Nat} {S : St} (V : Vt) {o : Nat} (hn : S.1 = o + 1) (h2 : S.2.1 o = 0) (h3 : S.2.2.1 o = 0) (h4 : ∀ j, S.2.2.2.1 o j = 0) (had : ∀ i, i < 9 → ad (o + 1 + i) = S.2.2.2.2 + i) : ∃ S', f_X0_init N ad S V o = some (S', bkZ V o) ∧ S'.1 = o + 10 ∧ S'.2.2.2.2 = S.2.2.2.2 + 9 ∧ shp S' o t0 ∧ (∀ g, g < o → S'.2.1 g = S.2.1 g ∧ S'.2.2.1 g = S.2.2.1 g ∧ S'.2.2.2.1 g = S.2.2.2.1 g) ∧ ∀ g, o + 10 ≤ g → S'.2.2.1 g = S.2.2.1 g := by
  have s0 : ShN S o 0 := ⟨hn, h2, h3, fun j => by rw [if_neg (Nat.not_lt_zero j)]; exact h4 j, fun i hi => absurd hi (Nat.not_lt_zero i)⟩
  obtain ⟨S1, q1⟩ : ∃ S1, S1 = arS S o 0 11 25 := ⟨_, rfl⟩
  have s1 : ShN S1 o 1 := by rw [q1]; exact ShN_s s0 rfl
  obtain ⟨S2, q2⟩ : ∃ S2, S2 = arS S1 o 1 11 25 := ⟨_, rfl⟩
  have s2 : ShN S2 o 2 := by rw [q2]; exact ShN_s s1 rfl
  obtain ⟨S3, q3⟩ : ∃ S3, S3 = arS S2 o 2 11 10 := ⟨_, rfl⟩
  have s3 : ShN S3 o 3 := by rw [q3]; exact ShN_s s2 rfl
  obtain ⟨S4, q4⟩ : ∃ S4, S4 = arS S3 o 3 11 5 := ⟨_, rfl⟩
  have s4 : ShN S4 o 4 := by rw [q4]; exact ShN_s s3 rfl
  obtain ⟨S5, q5⟩ : ∃ S5, S5 = arS S4 o 4 11 5 := ⟨_, rfl⟩
  have s5 : ShN S5 o 5 := by rw [q5]; exact ShN_s s4 rfl
  obtain ⟨S6, q6⟩ : ∃ S6, S6 = arS S5 o 5 11 3 := ⟨_, rfl⟩
  have s6 : ShN S6 o 6 := by rw [q6]; exact ShN_s s5 rfl
  obtain ⟨S7, q7⟩ : ∃ S7, S7 = arS S6 o 6 15 6 := ⟨_, rfl⟩
  have s7 : ShN S7 o 7 := by rw [q7]; exact ShN_s s6 rfl
  obtain ⟨S8, q8⟩ : ∃ S8, S8 = arS S7 o 7 11 24 := ⟨_, rfl⟩
  have s8 : ShN S8 o 8 := by rw [q8]; exact ShN_s s7 rfl
  obtain ⟨S9, q9⟩ : ∃ S9, S9 = arS S8 o 8 11 30 := ⟨_, rfl⟩
  have s9 : ShN S9 o 9 := by rw [q9]; exact ShN_s s8 rfl
  have z1 : S1.2.2.2.2 = S.2.2.2.2 + 1 := by rw [q1]; rfl
  have z2 : S2.2.2.2.2 = S.2.2.2.2 + 2 := by rw [q2]; show S1.2.2.2.2 + 1 = _; rw [z1]
  have z3 : S3.2.2.2.2 = S.2.2.2.2 + 3 := by rw [q3]; show S2.2.2.2.2 + 1 = _; rw [z2]
  have z4 : S4.2.2.2.2 = S.2.2.2.2 + 4 := by rw [q4]; show S3.2.2.2.2 + 1 = _; rw [z3]
  have z5 : S5.2.2.2.2 = S.2.2.2.2 + 5 := by rw [q5]; show S4.2.2.2.2 + 1 = _; rw [z4]
  have z6 : S6.2.2.2.2 = S.2.2.2.2 + 6 := by rw [q6]; show S5.2.2.2.2 + 1 = _; rw [z5]
  have z7 : S7.2.2.2.2 = S.2.2.2.2 + 7 := by rw [q7]; show S6.2.2.2.2 + 1 = _; rw [z6]
  have z8 : S8.2.2.2.2 = S.2.2.2.2 + 8 := by rw [q8]; show S7.2.2.2.2 + 1 = _; rw [z7]
  have z9 : S9.2.2.2.2 = S.2.2.2.2 + 9 := by rw [q9]; show S8.2.2.2.2 + 1 = _; rw [z8]
  have ar_l : ∀ (T : St) (j k n g : Nat), g ≠ T.1 → (arS T o j k n).2.2.1 g = T.2.2.1 g := fun T j k n g hg => by show (nwA T k n).2.2.1 g = _; rw [nwA_l, if_neg hg]
  have ar_o : ∀ (T : St) (j k n g : Nat), g < o → o < T.1 → (arS T o j k n).2.1 g = T.2.1 g ∧ (arS T o j k n).2.2.1 g = T.2.2.1 g ∧ (arS T o j k n).2.2.2.1 g = T.2.2.2.1 g := fun T j k n g hg hT => by
    refine ⟨?_, ?_, ?_⟩
    · show (nwA T k n).2.1 g = _; rw [nwA_k, if_neg (by omega)]
    · show (nwA T k n).2.2.1 g = _; rw [nwA_l, if_neg (by omega)]
    · funext i; unfold arS; rw [stP_p, if_neg (by omega), nwA_p]
  refine ⟨S9, ?_, ?_, z9, ShN_shp s9, fun g hg => ?_, fun g hg => ?_⟩
  · unfold f_X0_init
    rw [ar_step (by rw [hn]; exact had 0 (by omega)) (by omega) h2, ← q1, hn]
    rw [ar_step (by rw [s1.1, z1]; exact had 1 (by omega)) (by rw [s1.1]; omega) s1.2.1, ← q2, s1.1]
    rw [ar_step (by rw [s2.1, z2]; exact had 2 (by omega)) (by rw [s2.1]; omega) s2.2.1, ← q3, s2.1]
    rw [ar_step (by rw [s3.1, z3]; exact had 3 (by omega)) (by rw [s3.1]; omega) s3.2.1, ← q4, s3.1]
    rw [ar_step (by rw [s4.1, z4]; exact had 4 (by omega)) (by rw [s4.1]; omega) s4.2.1, ← q5, s4.1]
    have a5 : ad S5.1 = S5.2.2.2.2 := by rw [s5.1, z5]; exact had 5 (by omega)
    have aaT : aaB (nwA S5 11 3) S5.1 11 3 = true := by
      simp only [aaB, Bool.and_eq_true, beq_iff_eq]
      exact ⟨Nat.ble_eq_true_of_le (by rw [nwA_n]; omega), by rw [nwA_k, if_pos rfl], by rw [nwA_l, if_pos rfl]⟩
    have c0 : ∀ k : Option (St × Vt), ck (0 : Int32) 3 k = k := fun k => pl_ck (i := 0) (n := 3) (by omega) (by omega) k
    have c1 : ∀ k : Option (St × Vt), ck (1 : Int32) 3 k = k := fun k => pl_ck (i := 1) (n := 3) (by omega) (by omega) k
    have c2 : ∀ k : Option (St × Vt), ck (2 : Int32) 3 k = k := fun k => pl_ck (i := 2) (n := 3) (by omega) (by omega) k
    rw [cgT (by rw [a5]; exact beq_self_eq_true _), pl_bd, pl_bd, pl_bd, cgT aaT, c0, pl_bd, cgT aaT, c1, pl_bd, cgT aaT, c2, pl_bd, cgT (ooT (by rw [nwA_n, s5.1]; omega) (by rw [nwA_k, if_neg (by rw [s5.1]; omega)]; exact s5.2.1)), pl_bd]
    have e6 : stP (nwA S5 11 3) o 5 (S5.1 + 1) = S6 := q6.symm
    rw [e6, s5.1]
    rw [ar_step (by rw [s6.1, z6]; exact had 6 (by omega)) (by rw [s6.1]; omega) s6.2.1, ← q7, s6.1]
    rw [ar_step (by rw [s7.1, z7]; exact had 7 (by omega)) (by rw [s7.1]; omega) s7.2.1, ← q8, s7.1]
    rw [ar_step (by rw [s8.1, z8]; exact had 8 (by omega)) (by rw [s8.1]; omega) s8.2.1, ← q9, s8.1]
    rw [cgT (ooT (by rw [s9.1]; omega) s9.2.1), pl_bd]
    rfl
  · rw [s9.1]
  · have e1 := ar_o S 0 11 25 g hg (by omega)
    have e2 := ar_o S1 1 11 25 g hg (by rw [s1.1]; omega)
    have e3 := ar_o S2 2 11 10 g hg (by rw [s2.1]; omega)
    have e4 := ar_o S3 3 11 5 g hg (by rw [s3.1]; omega)
    have e5 := ar_o S4 4 11 5 g hg (by rw [s4.1]; omega)
    have e6 := ar_o S5 5 11 3 g hg (by rw [s5.1]; omega)
    have e7 := ar_o S6 6 15 6 g hg (by rw [s6.1]; omega)
    have e8 := ar_o S7 7 11 24 g hg (by rw [s7.1]; omega)
    have e9 := ar_o S8 8 11 30 g hg (by rw [s8.1]; omega)
    rw [← q1] at e1; rw [← q2] at e2; rw [← q3] at e3; rw [← q4] at e4; rw [← q5] at e5; rw [← q6] at e6; rw [← q7] at e7; rw [← q8] at e8; rw [← q9] at e9
    exact ⟨by rw [e9.1, e8.1, e7.1, e6.1, e5.1, e4.1, e3.1, e2.1, e1.1], by rw [e9.2.1, e8.2.1, e7.2.1, e6.2.1, e5.2.1, e4.2.1, e3.2.1, e2.2.1, e1.2.1], by rw [e9.2.2, e8.2.2, e7.2.2, e6.2.2, e5.2.2, e4.2.2, e3.2.2, e2.2.2, e1.2.2]⟩
  · rw [q9, ar_l _ _ _ _ _ (by rw [s8.1]; omega), q8, ar_l _ _ _ _ _ (by rw [s7.1]; omega), q7, ar_l _ _ _ _ _ (by rw [s6.1]; omega), q6, ar_l _ _ _ _ _ (by rw [s5.1]; omega), q5, ar_l _ _ _ _ _ (by rw [s4.1]; omega), q4, ar_l _ _ _ _ _ (by rw [s3.1]; omega), q3, ar_l _ _ _ _ _ (by rw [s2.1]; omega), q2, ar_l _ _ _ _ _ (by rw [s1.1]; omega), q1, ar_l _ _ _ _ _ (by omega)]
end
