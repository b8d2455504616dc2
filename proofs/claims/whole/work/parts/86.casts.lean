section
/-! casts -/
theorem rAny {st : Nat → Nat} (hst : ∀ c, c ≤ 25 → st c ≤ 25) (h25 : st 25 = 25) {a c : Nat} (ha : a < 25) (hc : c < 25) : ∀ n, pla st n c = a → ∃ n, n ≤ 24 ∧ pla st n c = a := by
  intro n
  induction n using Nat.strongRecOn with
  | _ n ih =>
    intro e
    by_cases q : n ≤ 25
    · exact r25 hst h25 ha hc ⟨n, q, e⟩
    · have lt : ∀ j, j ≤ 25 → pla st j c < 25 := fun j hj => by
        have l := pla_le hst j c (by omega)
        rcases Nat.lt_or_ge (pla st j c) 25 with g | g
        · exact g
        · have e1 := pla_a st j (n - j) c
          rw [show j + (n - j) = n by omega, show pla st j c = 25 by omega, pla_25 h25] at e1
          omega
      obtain ⟨i, j, h1, h2, h3⟩ := pg 25 (fun n => pla st n c) lt
      have h3' : pla st i c = pla st j c := h3
      refine ih (i + (n - j)) (by omega) ?_
      rw [pla_a, h3', ← pla_a, show j + (n - j) = n by omega]
      exact e
theorem bz {x : Int32} : x = 0 ↔ ∀ i, i < 32 → bt x i = false := ⟨fun h i _ => by rw [h]; exact b_0 i, fun h => b_ext (fun i hi => by rw [h i hi, b_0])⟩
theorem m_isInB {N : Nat} (r : Int32) {v : Nat} (hv : v < 32) : f_X9_isIn N r (nI v) = some (if bt r v = true then 1 else 0) := by
  have bits : ∀ i, i < 32 → bt ((r >>> (nI v &&& 31)) &&& 1) i = (decide (i = 0) && bt r v) := fun i hi => by
    rw [b_and, b_sshr v hv _ hi, b_one i hi]
    by_cases e : i = 0
    · subst e; rw [Nat.add_zero, if_pos hv]; simp
    · simp [e]
  unfold f_X9_isIn
  cases q : bt r v with
  | true =>
    have : (r >>> (nI v &&& 31)) &&& 1 = 1 := b_ext (fun i hi => by rw [bits i hi, q, b_one i hi, Bool.and_true])
    rw [if_pos this]; rfl
  | false =>
    have : ¬ (r >>> (nI v &&& 31)) &&& 1 = 1 := fun e => by
      have := bits 0 (by omega)
      rw [e, q, b_one 0 (by omega)] at this
      cases this
    rw [if_neg this]; rfl
theorem m_ringSet {N : Nat} (hN : 20000 ≤ N) {M : Vt} {st : Nat → Nat} (hst : ∀ c, c ≤ 25 → st c ≤ 25) (h25 : st 25 = 25) (hv : ∀ c, c ≤ 25 → M.2.1 18 c = nI (st c)) {c k : Nat} (hc : c < 25) (hk : lwb st c k) (hk2 : k ≤ 25) : ∃ m, f_X9_ringSet N M (nI c) = some m ∧ ∀ a, a < 32 → (bt m a = true ↔ ∃ n, n < k ∧ pla st n c = a) := by
  obtain ⟨k1, k3, k4⟩ := hk
  have pl : ∀ n, pla st n c ≤ 25 := fun n => pla_le hst n c (by omega)
  have key : ∀ d t mask n, t + d = k → 1 ≤ t → (∀ a, a < 32 → (bt mask a = true ↔ ∃ j, j < t ∧ pla st j c = a)) → ∃ m, f_X9_ringSet_11 N M (n + d + 1) (nI c) mask (nI (pla st t c)) = some m ∧ ∀ a, a < 32 → (bt m a = true ↔ ∃ j, j < k ∧ pla st j c = a) := by
    intro d
    induction d with
    | zero =>
      intro t mask n ht h1 h2
      have e : t = k := by omega
      subst e
      exact ⟨mask, by rw [f_X9_ringSet_11, k3, if_pos rfl], h2⟩
    | succ d ih =>
      intro t mask n ht h1 h2
      have p1 := pl t
      have q := k4 t h1 (by omega)
      obtain ⟨m, m1, m2⟩ := ih (t + 1) (mask ||| ((1 : Int32) <<< (nI (pla st t c) &&& 31))) n (by omega) (by omega) (fun a ha => by
        rw [b_or, bt_one (by omega) ha, Bool.or_eq_true, h2 a ha, decide_eq_true_iff]
        constructor
        · rintro (⟨j, j1, j2⟩ | e)
          · exact ⟨j, by omega, j2⟩
          · exact ⟨t, by omega, e.symm⟩
        · rintro ⟨j, j1, j2⟩
          by_cases e : j = t
          · exact Or.inr (by rw [← j2, e])
          · exact Or.inl ⟨j, by omega, j2⟩)
      refine ⟨m, ?_, m2⟩
      rw [show n + (d + 1) + 1 = (n + d + 1) + 1 by omega, f_X9_ringSet_11, if_neg (by rw [nI_E (by omega) (by omega)]; exact q), pl_bd, pl_ck (by omega) (by omega), nI_cl (by omega), hv _ p1, pl_bd, ← pla_s st]
      exact m1
  obtain ⟨m, m1, m2⟩ := key (k - 1) 1 ((1 : Int32) <<< (nI c &&& 31)) (N - k) (by omega) (by omega) (fun a ha => by
    rw [bt_one (by omega) ha, decide_eq_true_iff]
    constructor
    · intro e; exact ⟨0, by omega, e.symm⟩
    · rintro ⟨j, j1, j2⟩
      rw [show j = 0 by omega] at j2
      exact j2.symm)
  refine ⟨m, ?_, m2⟩
  rw [show N - k + (k - 1) + 1 = N by omega] at m1
  unfold f_X9_ringSet
  rw [pl_bd, pl_ck (by omega) (by omega), nI_cl (by omega), hv c (by omega), pl_bd]
  exact m1
def okv (st : Nat → Nat) (r : Int32) (v : Nat) : Prop := bt r v = true ∨ st v = 25 ∨ bt r (st v) = false
theorem m_73 {N : Nat} (hN : 20000 ≤ N) {M : Vt} {st : Nat → Nat} (hst : ∀ c, c ≤ 25 → st c ≤ 25) (hv : ∀ c, c ≤ 25 → M.2.1 18 c = nI (st c)) (r : Int32) : ((∀ v, v < 25 → okv st r v) → f_X9_isCast_73 N M N r 0 = some 1) ∧ ((∃ v, v < 25 ∧ ¬ okv st r v) → f_X9_isCast_73 N M N r 0 = some 0) := by
  have one : ∀ n t, t < 25 → okv st r t → f_X9_isCast_73 N M (n + 1) r (nI t) = f_X9_isCast_73 N M n r (nI (t + 1)) := by
    intro n t ht ok
    have p1 := hst t (by omega)
    rw [f_X9_isCast_73, if_neg (show ¬ (25 : Int32) ≤ nI t by rw [lj 25, nI_L (by omega) (by omega)]; omega), m_isInB r (by omega), pl_ob1]
    have e117 : f_X9_isCast_117 N M (f_X9_isCast_73 N M n) r (nI t) = f_X9_isCast_73 N M n r (nI (t + 1)) := by
      unfold f_X9_isCast_117; rw [nI_1, pl_bd]
    by_cases q : bt r t = true
    · rw [if_pos q, if_neg (by decide)]; exact e117
    · rw [if_neg q, if_pos rfl, pl_ck (by omega) (by omega), nI_cl (by omega), hv t (by omega)]
      by_cases q2 : st t = 25
      · rw [if_pos (show nI (st t) = 25 by rw [q2]; rfl)]; exact e117
      · have q3 : bt r (st t) = false := by
          rcases ok with h | h | h
          · exact absurd h q
          · exact absurd h q2
          · exact h
        rw [if_neg (show ¬ nI (st t) = 25 by rw [lj 25, nI_E (by omega) (by omega)]; exact q2), pl_ck (by omega) (by omega), m_isInB r (by omega), pl_ob1, q3, if_pos (show (if false = true then (1 : Int32) else 0) = 0 from rfl)]
        exact e117
  have bad : ∀ n t, t < 25 → ¬ okv st r t → f_X9_isCast_73 N M (n + 1) r (nI t) = some 0 := by
    intro n t ht nok
    have p1 := hst t (by omega)
    have q : ¬ bt r t = true := fun h => nok (Or.inl h)
    have q2 : ¬ st t = 25 := fun h => nok (Or.inr (Or.inl h))
    have q3 : bt r (st t) = true := by
      cases e : bt r (st t) with
      | true => rfl
      | false => exact absurd (Or.inr (Or.inr e)) nok
    rw [f_X9_isCast_73, if_neg (show ¬ (25 : Int32) ≤ nI t by rw [lj 25, nI_L (by omega) (by omega)]; omega), m_isInB r (by omega), pl_ob1, if_neg q, if_pos rfl, pl_ck (by omega) (by omega), nI_cl (by omega), hv t (by omega), if_neg (show ¬ nI (st t) = 25 by rw [lj 25, nI_E (by omega) (by omega)]; exact q2), pl_ck (by omega) (by omega), m_isInB r (by omega), pl_ob1, if_pos q3, if_neg (by decide)]
  constructor
  · intro h
    have key : ∀ d t n, t + d = 25 → f_X9_isCast_73 N M (n + d + 1) r (nI t) = some 1 := by
      intro d
      induction d with
      | zero => intro t n ht; rw [show t = 25 by omega, f_X9_isCast_73, if_pos (by decide)]
      | succ d ih =>
        intro t n ht
        rw [show n + (d + 1) + 1 = (n + d + 1) + 1 by omega, one _ t (by omega) (h t (by omega))]
        exact ih (t + 1) n (by omega)
    have := key 25 0 (N - 26) rfl
    rw [show N - 26 + 25 + 1 = N by omega] at this
    exact this
  · rintro ⟨v, hv1, hv2⟩
    have key : ∀ d t n, t + d = v → f_X9_isCast_73 N M (n + d + 1) r (nI t) = some 0 := by
      intro d
      induction d with
      | zero => intro t n ht; rw [show t = v by omega]; exact bad n v hv1 hv2
      | succ d ih =>
        intro t n ht
        rw [show n + (d + 1) + 1 = (n + d + 1) + 1 by omega]
        by_cases ok : okv st r t
        · rw [one _ t (by omega) ok]; exact ih (t + 1) n (by omega)
        · exact bad _ t (by omega) ok
    have := key v 0 (N - v - 1) (by omega)
    rw [show N - v - 1 + v + 1 = N by omega] at this
    exact this
end
