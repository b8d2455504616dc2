section
/-! rings -/
theorem pg : ∀ (n : Nat) (f : Nat → Nat), (∀ i, i ≤ n → f i < n) → ∃ i j, i < j ∧ j ≤ n ∧ f i = f j := by
  intro n
  induction n with
  | zero => intro f h; exact absurd (h 0 (Nat.le_refl 0)) (Nat.not_lt_zero _)
  | succ n ih =>
    intro f h
    by_cases hex : ∃ i, i ≤ n ∧ f i = f (n + 1)
    · obtain ⟨i, hi, e⟩ := hex; exact ⟨i, n + 1, by omega, by omega, e⟩
    · have hne : ∀ i, i ≤ n → f i ≠ f (n + 1) := fun i hi e => hex ⟨i, hi, e⟩
      have hv := h (n + 1) (by omega)
      obtain ⟨i, j, h1, h2, h3⟩ := ih (fun i => if f i = n then f (n + 1) else f i) (fun i hi => by
        show (if f i = n then f (n + 1) else f i) < n
        have a := h i (by omega)
        have b := hne i hi
        by_cases c : f i = n
        · rw [if_pos c]; omega
        · rw [if_neg c]; omega)
      have h3' : (if f i = n then f (n + 1) else f i) = (if f j = n then f (n + 1) else f j) := h3
      have bi := hne i (by omega)
      have bj := hne j h2
      refine ⟨i, j, h1, by omega, ?_⟩
      by_cases ci : f i = n <;> by_cases cj : f j = n
      · omega
      · rw [if_pos ci, if_neg cj] at h3'; exact absurd h3'.symm bj
      · rw [if_neg ci, if_pos cj] at h3'; exact absurd h3' bi
      · rw [if_neg ci, if_neg cj] at h3'; exact h3'
theorem pla_s (st : Nat → Nat) : ∀ n c, pla st (n + 1) c = st (pla st n c)
  | 0, _ => rfl
  | n + 1, c => pla_s st n (st c)
theorem pla_a (st : Nat → Nat) : ∀ a b c, pla st (a + b) c = pla st b (pla st a c)
  | 0, b, c => by rw [Nat.zero_add]; rfl
  | a + 1, b, c => by rw [show a + 1 + b = (a + b) + 1 by omega]; exact pla_a st a b (st c)
/-- the first that comes again -/
theorem frep {st : Nat → Nat} (hst : ∀ c, c ≤ 25 → st c ≤ 25) {c : Nat} (hc : c ≤ 25) : ∃ T i, i < T ∧ T ≤ 26 ∧ pla st T c = pla st i c ∧ ∀ a b, a < b → b < T → pla st a c ≠ pla st b c := by
  have key : ∀ n, (∀ a b, a < b → b ≤ n → pla st a c ≠ pla st b c) ∨ ∃ T i, i < T ∧ T ≤ n ∧ pla st T c = pla st i c ∧ ∀ a b, a < b → b < T → pla st a c ≠ pla st b c := by
    intro n
    induction n with
    | zero => exact Or.inl (fun a b h1 h2 => by omega)
    | succ n ih =>
      rcases ih with h | ⟨T, i, h1, h2, h3, h4⟩
      · by_cases hex : ∃ i, i ≤ n ∧ pla st (n + 1) c = pla st i c
        · obtain ⟨i, hi, e⟩ := hex
          exact Or.inr ⟨n + 1, i, by omega, Nat.le_refl _, e, fun a b h1 h2 => h a b h1 (by omega)⟩
        · refine Or.inl (fun a b h1 h2 => ?_)
          by_cases hb : b = n + 1
          · subst hb; exact fun e => hex ⟨a, by omega, e.symm⟩
          · exact h a b h1 (by omega)
      · exact Or.inr ⟨T, i, h1, by omega, h3, h4⟩
  rcases key 26 with h | h
  · obtain ⟨i, j, h1, h2, h3⟩ := pg 26 (fun n => pla st n c) (fun i _ => by have := pla_le hst i c hc; show pla st i c < 26; omega)
    exact absurd h3 (h i j h1 h2)
  · exact h
/-- least way back to itself -/
def lwb (st : Nat → Nat) (x k : Nat) : Prop := 1 ≤ k ∧ pla st k x = x ∧ ∀ j, 1 ≤ j → j < k → pla st j x ≠ x
theorem m_ringOf {N : Nat} (hN : 20000 ≤ N) {M : Vt} {st : Nat → Nat} (hst : ∀ c, c ≤ 25 → st c ≤ 25) (hv : ∀ c, c ≤ 25 → M.2.1 18 c = nI (st c)) {x : Nat} (hx : x ≤ 25) : ∃ k, 1 ≤ k ∧ k ≤ 26 ∧ f_X9_ringOf N M (nI x) = some (nI k) ∧ (∀ j, 1 ≤ j → j < k → pla st j x ≠ x) ∧ (k ≤ 25 → pla st k x = x) := by
  have key : ∀ m v n, v + m = 26 → 1 ≤ v → (∀ j, 1 ≤ j → j < v → pla st j x ≠ x) → ∃ k, 1 ≤ k ∧ k ≤ 26 ∧ f_X9_ringOf_9 N M (n + m + 1) (nI x) (nI v) (nI (pla st v x)) = some (nI k) ∧ (∀ j, 1 ≤ j → j < k → pla st j x ≠ x) ∧ (k ≤ 25 → pla st k x = x) := by
    intro m
    induction m with
    | zero =>
      intro v n hv2 h1 h2
      have e : v = 26 := by omega
      subst e
      have hle := pla_le hst 26 x hx
      refine ⟨26, by omega, by omega, ?_, h2, fun q => by omega⟩
      rw [f_X9_ringOf_9]
      by_cases q : nI (pla st 26 x) = nI x
      · rw [if_pos q]
      · rw [if_neg q, if_pos (by decide)]
    | succ m ih =>
      intro v n hv2 h1 h2
      have hle := pla_le hst v x hx
      by_cases q : pla st v x = x
      · refine ⟨v, h1, by omega, ?_, h2, fun _ => q⟩
        rw [f_X9_ringOf_9, q, if_pos rfl]
      · obtain ⟨k, k1, k2, k3, k4⟩ := ih (v + 1) n (by omega) (by omega) (fun j j1 j2 => by
          by_cases hj : j = v
          · rw [hj]; exact q
          · exact h2 j j1 (by omega))
        refine ⟨k, k1, k2, ?_, k4⟩
        rw [show n + (m + 1) + 1 = (n + m + 1) + 1 by omega, f_X9_ringOf_9, if_neg (by rw [nI_E (by omega) (by omega)]; exact q), lj 25, if_neg (by rw [nI_T (by omega) (by omega)]; omega), nI_1, pl_bd, pl_ck (by omega) (by omega), nI_cl (by omega), hv _ hle, pl_bd, ← pla_s st]
        exact k3
  obtain ⟨k, k1, k2, k3, k4⟩ := key 25 1 (N - 26) (by omega) (by omega) (fun j a b => by omega)
  refine ⟨k, k1, k2, ?_, k4⟩
  unfold f_X9_ringOf
  rw [pl_ck (by omega) (by omega), nI_cl (by omega), hv x hx, pl_bd, show N = N - 26 + 25 + 1 by omega]
  rw [show N - 26 + 25 + 1 = N by omega] at k3 ⊢
  exact k3
theorem x_fillA {N : Nat} (hN : 20000 ≤ N) {S : St} (V : Vt) (a len : Nat) (hl : S.2.2.1 a = len) (h1 : len ≤ 1024) (x : Int32) : ∃ f, f_J7_fill_53178 N S V a x = some (pA V a f) ∧ ∀ i, i < len → f i = x := by
  obtain ⟨g, g1, n, en⟩ := lpN N (fun n (f : Nat → Int32) i => f_J7_fill_53178_5 N S a n (pA V a f) x i (nI len)) len (fun i f => ∀ j, j < i → f j = x) (by
    intro i f hi h1
    refine ⟨upd f i x, fun j hj => ?_, fun n => ?_⟩
    · by_cases hji : j = i
      · subst hji; rw [upd_e]
      · rw [upd_n _ _ _ _ hji]; exact h1 j (by omega)
    · show f_J7_fill_53178_5 N S a (n + 1) (pA V a f) x (nI i) (nI len) = _
      rw [f_J7_fill_53178_5, if_neg (by rw [nI_L (by omega) (by omega)]; omega), hl, pl_ck hi (by omega), nI_cl (by omega), sA_pAe, pl_bd, nI_1, pl_bd]) (V.2.1 a) (by omega) (fun k hk => absurd hk (Nat.not_lt_zero k))
  refine ⟨g, ?_, g1⟩
  have e0 : f_J7_fill_53178_5 N S a N V x (nI 0) (nI len) = f_J7_fill_53178_5 N S a N (pA V a (V.2.1 a)) x (nI 0) (nI len) := by rw [pA_self]
  have e1 : f_J7_fill_53178_5 N S a N (pA V a (V.2.1 a)) x (nI 0) (nI len) = f_J7_fill_53178_5 N S a (n + 1) (pA V a g) x (nI len) (nI len) := en
  unfold f_J7_fill_53178
  rw [hl, pl_bd, show Nat.toInt32 len = nI len from rfl, show (0 : Int32) = nI 0 from rfl, e0, e1, f_J7_fill_53178_5, if_pos (by rw [nI_L (by omega) (by omega)]; omega)]
theorem x_ringOf {N : Nat} (hN : 20000 ≤ N) {S : St} {V : Vt} {st : Nat → Nat} (hS : S.2.2.1 55 = 26) (hst : ∀ c, c ≤ 25 → st c ≤ 25) (hv : ∀ c, c ≤ 25 → V.2.1 53 c = nI (st c)) {c : Nat} (hc : c ≤ 25) {T i : Nat} (hi : i < T) (hT : T ≤ 26) (he : pla st T c = pla st i c) (hd : ∀ a b, a < b → b < T → pla st a c ≠ pla st b c) (v2 : Int32) : ∃ f, f_X3_ringOf N S V 48 (nI c) v2 = some (if v2 = 0 then nI i else if pla st i c = 25 then nI 0 else nI (T - i), pA V 55 f) := by
  have pl : ∀ n, pla st n c ≤ 25 := fun n => pla_le hst n c hc
  obtain ⟨f0, ef, hf0⟩ := x_fillA hN V 55 26 hS (by omega) (-1)
  have key : ∀ m t f n, t + m = T → (∀ k, k < t → f (pla st k c) = nI k) → (∀ x, x ≤ 25 → (∀ k, k < t → pla st k c ≠ x) → f x = -1) → ∃ f', f_X3_ringOf_13 N S 48 (n + m + 1) (pA V 55 f) v2 (nI (pla st t c)) (nI t) = some (if v2 = 0 then nI i else if pla st i c = 25 then nI 0 else nI (T - i), pA V 55 f') := by
    intro m
    induction m with
    | zero =>
      intro t f n ht h1 h2
      have e : t = T := by omega
      subst e
      refine ⟨f, ?_⟩
      have fe : f (pla st t c) = nI i := by rw [he]; exact h1 i hi
      have a55 : (pA V 55 f).2.1 (48 + 7) = f := pA_e _ _ _
      have p1 := pl t
      rw [f_X3_ringOf_13, lj 26, if_neg (by rw [nI_T (by omega) (by omega)]; omega), pl_ck (by omega) (by omega), nI_cl (by omega), a55, fe, if_neg (nI_m1 (by omega))]
      unfold f_X3_ringOf_51
      by_cases q0 : v2 = 0
      · rw [if_pos q0, if_pos q0, pl_ck (by omega) (by omega), nI_cl (by omega), a55, fe]
      · rw [if_neg q0, if_neg q0, ← he]
        by_cases q1 : pla st t c = 25
        · rw [if_pos q1, if_pos (show nI (pla st t c) = 25 by rw [q1]; rfl)]; rfl
        · rw [if_neg q1, if_neg (show ¬ nI (pla st t c) = 25 by rw [lj 25, nI_E (by omega) (by omega)]; exact q1), pl_ck (by omega) (by omega), nI_cl (by omega), a55, fe, pk_sub (by omega)]
    | succ m ih =>
      intro t f n ht h1 h2
      have a55 : ∀ f, (pA V 55 f).2.1 (48 + 7) = f := fun f => pA_e _ _ _
      have a53 : ∀ f, (pA V 55 f).2.1 (48 + 5) = V.2.1 53 := fun f => pA_n _ _ _ _ (by omega)
      have p1 := pl t
      have fe : f (pla st t c) = -1 := h2 _ p1 (fun k hk => hd k t hk (by omega))
      obtain ⟨f', hf'⟩ := ih (t + 1) (upd f (pla st t c) (nI t)) n (by omega) (fun k hk => by
        by_cases hkt : k = t
        · rw [hkt, upd_e]
        · rw [upd_n _ _ _ _ (hd k t (by omega) (by omega))]; exact h1 k (by omega)) (fun x hx hk => by
        rw [upd_n _ _ _ _ (fun e => hk t (by omega) e.symm)]
        exact h2 x hx (fun k hkt => hk k (by omega)))
      refine ⟨f', ?_⟩
      rw [show n + (m + 1) + 1 = (n + m + 1) + 1 by omega, f_X3_ringOf_13, lj 26, if_neg (by rw [nI_T (by omega) (by omega)]; omega), pl_ck (by omega) (by omega), nI_cl (by omega), a55, if_pos fe, pl_ck (by omega) (by omega)]
      show bd (sA (pA V 55 f) 55 (pla st t c) (nI t)) _ = _
      rw [sA_pAe, pl_bd, pl_ck (by omega) (by omega), a53, hv _ p1, pl_bd, nI_1, pl_bd, ← pla_s st]
      exact hf'
  obtain ⟨f', hf'⟩ := key T 0 f0 (N - T - 1) (by omega) (fun k hk => absurd hk (Nat.not_lt_zero k)) (fun x hx _ => hf0 x (by omega))
  refine ⟨f', ?_⟩
  unfold f_X3_ringOf
  rw [show (48 + 7 : Nat) = 55 from rfl, ef, pl_obv, show (0 : Int32) = nI 0 from rfl]
  rw [show N - T - 1 + T + 1 = N by omega] at hf'
  exact hf'

/-- the first that comes again lies on the ring, and none before it does -/
theorem ring_at {st : Nat → Nat} (h25 : st 25 = 25) (hst : ∀ c, c ≤ 25 → st c ≤ 25) {c : Nat} (hc : c ≤ 25) {T i : Nat} (hi : i < T) (hT : T ≤ 26) (he : pla st T c = pla st i c) (hd : ∀ a b, a < b → b < T → pla st a c ≠ pla st b c) : lwb st (pla st i c) (T - i) ∧ T - i ≤ 25 ∧ ∀ j, j < i → ∀ k, 1 ≤ k → pla st k (pla st j c) ≠ pla st j c := by
  have per : pla st (T - i) (pla st i c) = pla st i c := by rw [← pla_a, show i + (T - i) = T by omega]; exact he
  refine ⟨⟨by omega, per, fun j j1 j2 => ?_⟩, ?_, ?_⟩
  · rw [← pla_a]
    exact fun e => hd i (i + j) (by omega) (by omega) e.symm
  · rcases Nat.lt_or_ge 25 (T - i) with c1 | c1
    · exfalso
      have e0 : i = 0 := by omega
      have eT : T = 26 := by omega
      subst e0; subst eT
      -- one of them is 25, which stays
      by_cases hex : ∃ n, n < 25 ∧ pla st n c = 25
      · obtain ⟨n, hn, e⟩ := hex
        refine hd n (n + 1) (by omega) (by omega) ?_
        rw [pla_s, e, h25]
      · obtain ⟨a, b, h1, h2, h3⟩ := pg 25 (fun n => if n < 25 then pla st n c else 0) (fun n _ => by
          show (if n < 25 then pla st n c else 0) < 25
          by_cases q : n < 25
          · rw [if_pos q]
            have := pla_le hst n c hc
            have : pla st n c ≠ 25 := fun e => hex ⟨n, q, e⟩
            omega
          · rw [if_neg q]; omega)
        -- the twenty-five first are all of 0..24, so the next is among them or is 25
        have h3' : (if a < 25 then pla st a c else 0) = (if b < 25 then pla st b c else 0) := h3
        rw [if_pos (by omega)] at h3'
        by_cases q : b < 25
        · rw [if_pos q] at h3'; exact hd a b h1 (by omega) h3'
        · by_cases h25' : pla st 25 c = 25
          · -- then the next is 25 too, and it is the first: 25 = c
            have e26 : pla st 26 c = 25 := by rw [pla_s, h25', h25]
            have ec : c = 25 := by rw [e26] at he; exact he.symm
            exact hex ⟨0, by omega, ec⟩
          · obtain ⟨a', b', g1, g2, g3⟩ := pg 25 (fun n => pla st n c) (fun n hn => by
              show pla st n c < 25
              have l := pla_le hst n c hc
              have : pla st n c ≠ 25 := by
                by_cases q2 : n < 25
                · exact fun e => hex ⟨n, q2, e⟩
                · rw [show n = 25 by omega]; exact h25'
              omega)
            exact hd a' b' g1 (by omega) g3
    · exact c1
  · intro j hj
    have step : ∀ n, i ≤ n → pla st (n + (T - i)) c = pla st n c := by
      intro n hn
      have e1 : pla st (i + (T - i) + (n - i)) c = pla st (n - i) (pla st (i + (T - i)) c) := pla_a st _ _ c
      rw [show i + (T - i) + (n - i) = n + (T - i) by omega, show i + (T - i) = T by omega, he, ← pla_a, show i + (n - i) = n by omega] at e1
      exact e1
    have key : ∀ m k, k ≤ m → 1 ≤ k → pla st (j + k) c ≠ pla st j c := by
      intro m
      induction m with
      | zero => intro k h1 h2; omega
      | succ m ih =>
        intro k h1 h2 e
        by_cases q : j + k < T
        · exact hd j (j + k) (by omega) q e.symm
        · have s := step (j + k - (T - i)) (by omega)
          rw [show j + k - (T - i) + (T - i) = j + k by omega] at s
          have := ih (k - (T - i)) (by omega) (by omega)
          rw [show j + (k - (T - i)) = j + k - (T - i) by omega] at this
          exact this (s.symm.trans e)
    intro k hk e
    rw [← pla_a] at e
    exact key k k (Nat.le_refl k) hk e
theorem m_ring27 {N : Nat} (hN : 20000 ≤ N) {M : Vt} {st : Nat → Nat} (hst : ∀ c, c ≤ 25 → st c ≤ 25) (h25 : st 25 = 25) (hv : ∀ c, c ≤ 25 → M.2.1 18 c = nI (st c)) {c : Nat} (hc : c ≤ 25) {T i : Nat} (hi : i < T) (hT : T ≤ 26) (he : pla st T c = pla st i c) (hd : ∀ a b, a < b → b < T → pla st a c ≠ pla st b c) (v2 : Int32) : f_X9_ring_27 N N M v2 (nI c) 0 = some (if v2 = 0 then nI i else if pla st i c = 25 then nI 0 else nI (T - i), M) := by
  obtain ⟨⟨l1, l2, l3⟩, l4, l5⟩ := ring_at h25 hst hc hi hT he hd
  have pl : ∀ n, pla st n c ≤ 25 := fun n => pla_le hst n c hc
  have key : ∀ m t n, t + m = i → f_X9_ring_27 N (n + m + 1) M v2 (nI (pla st t c)) (nI t) = some (if v2 = 0 then nI i else if pla st i c = 25 then nI 0 else nI (T - i), M) := by
    intro m
    induction m with
    | zero =>
      intro t n ht
      have e : t = i := by omega
      subst e
      obtain ⟨k, k1, k2, k3, k4, k5⟩ := m_ringOf hN hst hv (pl t)
      have ek : k = T - t := by
        rcases Nat.lt_trichotomy k (T - t) with q | q | q
        · exact absurd (k5 (by omega)) (l3 k k1 q)
        · exact q
        · exact absurd l2 (k4 (T - t) l1 q)
      have on : f_X9_isOnRing N M (nI (pla st t c)) = some 1 := by
        unfold f_X9_isOnRing
        rw [k3, pl_ob1, lj 25, if_neg (by rw [nI_T (by omega) (by omega)]; omega)]
      rw [f_X9_ring_27, on, pl_ob1, if_neg (by decide)]
      by_cases q0 : v2 = 0
      · rw [if_pos q0, if_pos q0]
      · rw [if_neg q0, if_neg q0]
        have p1 := pl t
        by_cases q1 : pla st t c = 25
        · rw [if_pos q1, if_pos (show nI (pla st t c) = 25 by rw [q1]; rfl)]; rfl
        · rw [if_neg q1, if_neg (show ¬ nI (pla st t c) = 25 by rw [lj 25, nI_E (by omega) (by omega)]; exact q1), k3, pl_ob1, ek]
    | succ m ih =>
      intro t n ht
      have p1 := pl t
      obtain ⟨k, k1, k2, k3, k4, k5⟩ := m_ringOf hN hst hv (pl t)
      have ek : k = 26 := by
        rcases Nat.lt_or_ge k 26 with q | q
        · exact absurd (k5 (by omega)) (l5 t (by omega) k k1)
        · omega
      have on : f_X9_isOnRing N M (nI (pla st t c)) = some 0 := by
        unfold f_X9_isOnRing
        rw [k3, pl_ob1, ek, if_pos (by decide)]
      have := ih (t + 1) n (by omega)
      rw [show n + (m + 1) + 1 = (n + m + 1) + 1 by omega, f_X9_ring_27, on, pl_ob1, if_pos rfl, pl_ck (by omega) (by omega), nI_cl (by omega), hv _ p1, pl_bd, nI_1, pl_bd, ← pla_s st]
      exact this
  have := key i 0 (N - i - 1) (by omega)
  rw [show N - i - 1 + i + 1 = N by omega] at this
  exact this
section OPS
variable {N b0 : Nat}
theorem op_ring (hN : 20000 ≤ N) : Op_ring N b0 (Rel XL b0) := by
  intro S V M hR a1 a2
  rcases cell_c N a1 with ⟨c, hc, rfl, e8, e9⟩ | ⟨e8, e9⟩
  · rcases lies_c N a2 0 1 (by omega) (by omega) with ⟨k, -, hk, rfl, el⟩ | ⟨-, el⟩
    · obtain ⟨lw, eF, hL⟩ := LQ_of (N := N) hR
      obtain ⟨st, V', M', h1, h2, ex, em, cx, cm, v53, m18⟩ := learnB hN hL
      obtain ⟨T, i, hi, hT, he, hd⟩ := frep h1 (c := c) (by omega)
      have hs : S.2.2.1 55 = 26 := len_of hR.1.1 55 _ rfl
      obtain ⟨f, xa⟩ := x_ringOf (N := N) hN (S := S) (V := V') hs h1 v53 (by omega) hi hT he hd (nI k)
      have mb := m_ring27 (N := N) hN (M := M') h1 h2 m18 (by omega) hi hT he hd (nI k)
      refine ⟨(if nI k = 0 then nI i else if pla st i c = 25 then nI 0 else nI (T - i)), pA V' 55 f, M', ?_, ?_, Rel_s hR (SX_t (SX_ln cx) ⟨fun g hg => ⟨rfl, pA_n _ _ _ _ (fun e => by rw [e] at hg; exact absurd hg (by decide)), rfl⟩, rfl⟩) (SM_ln cm)⟩
      rotate_left
      · have el' : f_X9_lies N (nI k) 0 1 = some (nI 1) := el
        unfold f_X9_ring
        rw [e9, pl_ob1, if_neg (by decide), el', pl_ob1, if_neg (by decide), em, pl_obv]
        exact mb
      · have el' : f_X8_isWithin N (nI k) 0 1 = some (nI 1) := by rw [within_lies]; exact el
        have eF' : f_X0_lawInForce N S V (0 + 1) = some lw := eF
        unfold f_X8_ring
        rw [e8, pl_ob1, if_neg (by decide), el', pl_ob1, if_neg (by decide), eF', pl_ob1]
        refine (x_lrn hL ex (fun V26 => if nI k = (1 : Int32) then f_X8_ring_51 N S 0 V26 (1 : Int32) (nI c) else f_X8_ring_51 N S 0 V26 (0 : Int32) (nI c))).trans ?_
        have e51 : ∀ z, z = nI k → f_X8_ring_51 N S 0 V' z (nI c) = f_X3_ringOf N S V' 48 (nI c) (nI k) := fun z hz => by
          unfold f_X8_ring_51
          rw [hz, show 0 + 48 = 48 from rfl, xa, pl_ob]
        rcases (by omega : k = 0 ∨ k = 1) with rfl | rfl
        · rw [if_neg (show ¬ nI 0 = 1 by decide), e51 0 rfl]; exact xa
        · rw [if_pos (show nI 1 = 1 from rfl), e51 1 rfl]; exact xa
    · refine ⟨-1, V, M, ?_, ?_, hR⟩
      · simp (disch := omega) only [f_X8_ring, e8, within_lies, el, pl_bd, pl_ob, pl_ob1, pl_obv, pl_oa, pl_oav, pl_cg, pl_cb0, pl_cb1, pl_nl0, pl_nls, li, nI_cl, pl_ck, nI_E, nI_L, nI_T, nI_add, pk_mul, nI_s1, Nat.zero_add, Nat.add_zero, Nat.reduceAdd, Nat.reduceMul, Nat.reduceSub, Nat.reduceEqDiff, Nat.reduceLeDiff, Nat.reduceLT, ↓reduceIte]
      · simp (disch := omega) only [f_X9_ring, e9, el, pl_bd, pl_ob, pl_ob1, pl_obv, pl_oa, pl_oav, pl_cg, pl_cb0, pl_cb1, pl_nl0, pl_nls, li, nI_cl, pl_ck, nI_E, nI_L, nI_T, nI_add, pk_mul, nI_s1, Nat.zero_add, Nat.add_zero, Nat.reduceAdd, Nat.reduceMul, Nat.reduceSub, Nat.reduceEqDiff, Nat.reduceLeDiff, Nat.reduceLT, ↓reduceIte]
  · refine ⟨-1, V, M, ?_, ?_, hR⟩
    · unfold f_X8_ring; rw [e8]; rfl
    · unfold f_X9_ring; rw [e9]; rfl
end OPS
end
