section
/-! one cast -/
theorem lb1 : ∀ c : Fin 25, (((1 : Int32) <<< (nI c.1 &&& 31)) &&& (-((1 : Int32) <<< (nI c.1 &&& 31)))) = ((1 : Int32) <<< (nI c.1 &&& 31)) := by decide +kernel
theorem m_cast4 {N : Nat} (hN : 20000 ≤ N) {M : Vt} {st : Nat → Nat} (hst : ∀ c, c ≤ 25 → st c ≤ 25) (hv : ∀ c, c ≤ 25 → M.2.1 18 c = nI (st c)) {c : Nat} (hc : c < 25) : ∃ m, (∀ i, i < 32 → (bt m i = true ↔ i < 25 ∧ st i = c)) ∧ f_X9_isCast N M (nI c) = (if m = 0 then some (1 : Int32) else ob1 (f_X9_isOnRing N M (nI c)) (fun r17 => if r17 = 0 then some (0 : Int32) else ob1 (f_X9_ringSet N M (nI c)) (fun r20 => if (r20 &&& (-r20)) = ((1 : Int32) <<< (nI c &&& 31)) then f_X9_isCast_73 N M N r20 (0 : Int32) else some (0 : Int32)))) := by
  obtain ⟨m, g1, n, en⟩ := lpN N (fun n (m : Int32) i => f_X9_isCast_4 N M n (nI c) m i) 25 (fun k m => ∀ i, i < 32 → (bt m i = true ↔ i < k ∧ st i = c)) (by
    intro k m hk h1
    have p1 := hst k (by omega)
    by_cases q : st k = c
    · refine ⟨m ||| ((1 : Int32) <<< (nI k &&& 31)), fun i hi => ?_, fun n => ?_⟩
      · rw [b_or, bt_one (by omega) hi, Bool.or_eq_true, h1 i hi, decide_eq_true_iff]
        constructor
        · rintro (⟨h, h'⟩ | h)
          · exact ⟨by omega, h'⟩
          · rw [h]; exact ⟨by omega, q⟩
        · rintro ⟨h, h'⟩
          by_cases e : i = k
          · exact Or.inr e
          · exact Or.inl ⟨by omega, h'⟩
      · show f_X9_isCast_4 N M (n + 1) (nI c) m (nI k) = _
        rw [f_X9_isCast_4, if_neg (show ¬ (25 : Int32) ≤ nI k by rw [lj 25, nI_L (by omega) (by omega)]; omega), pl_ck (by omega) (by omega), nI_cl (by omega), hv k (by omega), if_pos (by rw [q])]
        unfold f_X9_isCast_28
        rw [pl_bd, nI_1, pl_bd]
    · refine ⟨m ||| 0, fun i hi => ?_, fun n => ?_⟩
      · rw [b_or, b_0, Bool.or_false, h1 i hi]
        constructor
        · rintro ⟨h, h'⟩; exact ⟨by omega, h'⟩
        · rintro ⟨h, h'⟩
          by_cases e : i = k
          · rw [e] at h'; exact absurd h' q
          · exact ⟨by omega, h'⟩
      · show f_X9_isCast_4 N M (n + 1) (nI c) m (nI k) = _
        rw [f_X9_isCast_4, if_neg (show ¬ (25 : Int32) ≤ nI k by rw [lj 25, nI_L (by omega) (by omega)]; omega), pl_ck (by omega) (by omega), nI_cl (by omega), hv k (by omega), if_neg (by rw [nI_E (by omega) (by omega)]; exact q)]
        unfold f_X9_isCast_28
        rw [pl_bd, nI_1, pl_bd]) 0 (by omega) (fun i hi => by
    rw [b_0]
    constructor
    · intro h; cases h
    · rintro ⟨h, -⟩; exact absurd h (Nat.not_lt_zero i))
  refine ⟨m, g1, ?_⟩
  have e1 : f_X9_isCast N M (nI c) = f_X9_isCast_4 N M (n + 1) (nI c) m (nI 25) := en
  rw [e1, f_X9_isCast_4, if_pos (show (25 : Int32) ≤ nI 25 by decide)]
theorem b_eq {x y : Int32} (h : ∀ i, i < 32 → (bt x i = true ↔ bt y i = true)) : x = y := b_ext (fun i hi => by
  have C := h i hi
  cases p : bt x i <;> cases q : bt y i
  · rfl
  · rw [C.mpr q] at p; cases p
  · rw [C.mp p] at q; cases q
  · rfl)
theorem m_isCast {N : Nat} (hN : 20000 ≤ N) {M : Vt} {st : Nat → Nat} (hst : ∀ c, c ≤ 25 → st c ≤ 25) (h25 : st 25 = 25) (hv : ∀ c, c ≤ 25 → M.2.1 18 c = nI (st c)) {c : Nat} (hc : c < 25) {Fc Rc : Int32} (hF : ∀ i, i < 32 → (bt Fc i = true ↔ i < 25 ∧ ∃ n, n ≤ 24 ∧ pla st n i = c)) (hR : RB st c Rc) : f_X9_isCast N M (nI c) = some (if (Fc &&& (Rc ^^^ (-1 : Int32))) = 0 ∧ (Fc &&& (-Fc)) = (1 : Int32) <<< (nI c &&& 31) then 1 else 0) := by
  have c1 : (Fc &&& (Rc ^^^ (-1 : Int32))) = 0 ↔ ∀ i, i < 25 → (∃ n, pla st n i = c) → ∃ n, pla st n c = i := by
    rw [bz]
    constructor
    · intro h i hi ⟨n, e⟩
      have a := h i (by omega)
      have f1 : bt Fc i = true := (hF i (by omega)).mpr ⟨hi, rAny hst h25 hc hi n e⟩
      rw [b_and, b_xor, b_m1 i (by omega), f1] at a
      cases q : bt Rc i with
      | true =>
        obtain ⟨-, n, -, e2⟩ := (hR i (by omega)).mp q
        exact ⟨n, e2⟩
      | false => rw [q] at a; cases a
    · intro h i hi
      rw [b_and, b_xor, b_m1 i hi]
      cases q : bt Fc i with
      | false => rfl
      | true =>
        obtain ⟨i25, n, -, e⟩ := (hF i hi).mp q
        obtain ⟨m, em⟩ := h i i25 ⟨n, e⟩
        have r1 : bt Rc i = true := (hR i hi).mpr ⟨i25, rAny hst h25 i25 hc m em⟩
        rw [r1]; rfl
  obtain ⟨pm, hpm, ei⟩ := m_cast4 (N := N) hN hst hv hc
  rw [ei]
  by_cases hp : ∃ v, v < 25 ∧ st v = c
  · obtain ⟨v, v1, v2⟩ := hp
    have pm0 : ¬ pm = 0 := fun e => by
      have := (hpm v (by omega)).mpr ⟨v1, v2⟩
      rw [e, b_0] at this; cases this
    rw [if_neg pm0]
    obtain ⟨k, k1, k2, k3, k4, k5⟩ := m_ringOf (N := N) hN hst hv (x := c) (by omega)
    by_cases hk : k ≤ 25
    · have on : f_X9_isOnRing N M (nI c) = some 1 := by
        unfold f_X9_isOnRing
        rw [k3, pl_ob1, if_neg (show ¬ (25 : Int32) < nI k by rw [lj 25, nI_T (by omega) (by omega)]; omega)]
      obtain ⟨r, r1, r2⟩ := m_ringSet (N := N) hN hst h25 hv hc ⟨k1, k5 hk, k4⟩ hk
      rw [on, pl_ob1, if_neg (by decide), r1, pl_ob1]
      have per : ∀ n, ∃ m, m < k ∧ pla st m c = pla st n c := by
        intro n
        induction n using Nat.strongRecOn with
        | _ n ih =>
          by_cases q : n < k
          · exact ⟨n, q, rfl⟩
          · obtain ⟨m, m1, m2⟩ := ih (n - k) (by omega)
            refine ⟨m, m1, ?_⟩
            have e1 := pla_a st k (n - k) c
            rw [show k + (n - k) = n by omega, k5 hk] at e1
            rw [m2, e1]
      have back : ∀ n, n < k → pla st (k - n) (pla st n c) = c := fun n hn => by
        rw [← pla_a, show n + (k - n) = k by omega]; exact k5 hk
      have rlt : ∀ n, n < k → pla st n c < 25 := fun n hn => by
        have l := pla_le hst n c (by omega)
        rcases Nat.lt_or_ge (pla st n c) 25 with g | g
        · exact g
        · have e1 := back n hn
          rw [show pla st n c = 25 by omega, pla_25 h25] at e1
          omega
      have inr : ∀ a, a < 32 → (bt r a = true ↔ ∃ n, pla st n c = a) := fun a ha => by
        rw [r2 a ha]
        constructor
        · rintro ⟨n, -, e⟩; exact ⟨n, e⟩
        · rintro ⟨n, e⟩
          obtain ⟨m, m1, m2⟩ := per n
          exact ⟨m, m1, m2.trans e⟩
      have r25' : ∀ a, a < 32 → bt r a = true → a < 25 := fun a ha h => by
        obtain ⟨n, n1, n2⟩ := (r2 a ha).mp h
        have := rlt n n1; omega
      have toc : ∀ a, a < 32 → bt r a = true → ∃ n, pla st n a = c := fun a ha h => by
        obtain ⟨n, n1, n2⟩ := (r2 a ha).mp h
        exact ⟨k - n, by rw [← n2]; exact back n n1⟩
      by_cases C1 : ∀ i, i < 25 → (∃ n, pla st n i = c) → ∃ n, pla st n c = i
      · have eF : Fc = r := b_eq (fun i hi => by
          rw [hF i hi, inr i hi]
          constructor
          · rintro ⟨i1, n, -, e⟩; exact C1 i i1 ⟨n, e⟩
          · intro h
            have hb := (inr i hi).mpr h
            have i25 := r25' i hi hb
            obtain ⟨n, e⟩ := toc i hi hb
            exact ⟨i25, rAny hst h25 hc i25 n e⟩)
        rw [← eF]
        by_cases lb : (Fc &&& (-Fc)) = (1 : Int32) <<< (nI c &&& 31)
        · rw [if_pos lb, if_pos ⟨c1.mpr C1, lb⟩]
          refine (m_73 (N := N) hN hst hv Fc).1 (fun w hw => ?_)
          rw [eF]
          have p1 := hst w (by omega)
          by_cases q : bt r w = true
          · exact Or.inl q
          · by_cases q2 : st w = 25
            · exact Or.inr (Or.inl q2)
            · refine Or.inr (Or.inr ?_)
              cases q3 : bt r (st w) with
              | false => rfl
              | true =>
                exfalso
                obtain ⟨n, e⟩ := toc (st w) (by omega) q3
                exact q ((inr w (by omega)).mpr (C1 w hw ⟨n + 1, e⟩))
        · rw [if_neg lb, if_neg (fun h => lb h.2)]
      · rw [if_neg (show ¬ ((Fc &&& (Rc ^^^ (-1 : Int32))) = 0 ∧ (Fc &&& (-Fc)) = (1 : Int32) <<< (nI c &&& 31)) from fun h => C1 (c1.mp h.1))]
        by_cases lb : (r &&& (-r)) = (1 : Int32) <<< (nI c &&& 31)
        · rw [if_pos lb]
          refine (m_73 (N := N) hN hst hv r).2 ?_
          have key : ∀ n i, i < 25 → ¬ bt r i = true → pla st n i = c → ∃ w, w < 25 ∧ ¬ okv st r w := by
            intro n
            induction n with
            | zero =>
              intro i hi h1 e
              have e' : i = c := e
              exact absurd ((inr i (by omega)).mpr ⟨0, e'.symm⟩) h1
            | succ n ih =>
              intro i hi h1 e
              have e' : pla st n (st i) = c := e
              have p1 := hst i (by omega)
              have p2 : st i ≠ 25 := fun q => by rw [q, pla_25 h25] at e'; omega
              by_cases q : bt r (st i) = true
              · refine ⟨i, hi, fun ok => ?_⟩
                rcases ok with h | h | h
                · exact h1 h
                · exact p2 h
                · rw [q] at h; cases h
              · exact ih (st i) (by omega) q e'
          by_cases hall : ∃ i, i < 25 ∧ (∃ n, pla st n i = c) ∧ ¬ ∃ n, pla st n c = i
          · obtain ⟨i, i1, ⟨n, e⟩, i3⟩ := hall
            exact key n i i1 (fun h => i3 ((inr i (by omega)).mp h)) e
          · exfalso
            refine C1 (fun i hi he => ?_)
            by_cases q : ∃ n, pla st n c = i
            · exact q
            · exact absurd ⟨i, hi, he, q⟩ hall
        · rw [if_neg lb]
    · have on : f_X9_isOnRing N M (nI c) = some 0 := by
        unfold f_X9_isOnRing
        rw [k3, pl_ob1, if_pos (show (25 : Int32) < nI k by rw [lj 25, nI_T (by omega) (by omega)]; omega)]
      rw [on, pl_ob1, if_pos rfl, if_neg (fun h => ?_)]
      obtain ⟨n, e⟩ := c1.mp h.1 v v1 ⟨1, v2⟩
      obtain ⟨m, m1, m2⟩ := rAny hst h25 v1 hc n e
      refine k4 (m + 1) (by omega) (by omega) ?_
      rw [pla_s, m2]; exact v2
  · have pm0 : pm = 0 := bz.mpr (fun i hi => by
      cases q : bt pm i with
      | false => rfl
      | true => obtain ⟨a, b⟩ := (hpm i hi).mp q; exact absurd ⟨i, a, b⟩ hp)
    have only : ∀ n i, i < 25 → pla st n i = c → i = c := by
      intro n i hi e
      cases n with
      | zero => exact e
      | succ n =>
        rw [pla_s] at e
        have l := pla_le hst n i (by omega)
        by_cases q : pla st n i = 25
        · rw [q, h25] at e; omega
        · exact absurd ⟨pla st n i, by omega, e⟩ hp
    have eF : Fc = (1 : Int32) <<< (nI c &&& 31) := b_eq (fun i hi => by
      rw [hF i hi, bt_one (by omega) hi, decide_eq_true_iff]
      constructor
      · rintro ⟨i1, n, -, e⟩; exact only n i i1 e
      · intro e; rw [e]; exact ⟨hc, 0, by omega, rfl⟩)
    have k1 : (Fc &&& (-Fc)) = (1 : Int32) <<< (nI c &&& 31) := by rw [eF]; exact lb1 ⟨c, hc⟩
    have k2 : (Fc &&& (Rc ^^^ (-1 : Int32))) = 0 := c1.mpr (fun i hi ⟨n, e⟩ => ⟨0, (only n i hi e).symm⟩)
    rw [if_pos pm0, if_pos ⟨k2, k1⟩]
end
