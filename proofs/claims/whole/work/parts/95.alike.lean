section
/-! next: how many agree (reference) -/
def cpE (mask : Int32) (e : Nat → Nat) : Nat → Nat → Nat
  | 0, _ => 0
  | t + 1, p => cpE mask e t p + (if bt mask t = true ∧ e t = p then 1 else 0)
def mxE (mask : Int32) (e : Nat → Nat) : Nat → Nat
  | 0 => 0
  | t + 1 => if bt mask t = true then max (mxE mask e t) (cpE mask e (t + 1) (e t)) else mxE mask e t
theorem cpE_le (mask : Int32) (e : Nat → Nat) (p : Nat) : ∀ t, cpE mask e t p ≤ t
  | 0 => Nat.le_refl 0
  | t + 1 => by
    have := cpE_le mask e p t
    rw [cpE]
    by_cases q : bt mask t = true ∧ e t = p
    · rw [if_pos q]; omega
    · rw [if_neg q]; omega
theorem mxE_le (mask : Int32) (e : Nat → Nat) : ∀ t, mxE mask e t ≤ t
  | 0 => Nat.le_refl 0
  | t + 1 => by
    have h1 := mxE_le mask e t
    have h2 := cpE_le mask e (e t) (t + 1)
    rw [mxE]
    by_cases q : bt mask t = true
    · rw [if_pos q]; omega
    · rw [if_neg q]; omega
theorem m_great {N a b : Nat} (ha : a < 100) (hb : b < 100) : f_X9_greater N (nI a) (nI b) = some (nI (max a b)) := by
  unfold f_X9_greater
  by_cases h : a ≤ b
  · rw [if_pos (by rw [nI_L (by omega) (by omega)]; exact h), Nat.max_eq_right h]
  · rw [if_neg (by rw [nI_L (by omega) (by omega)]; exact h), Nat.max_eq_left (by omega)]
theorem m_alike {N : Nat} (hN : 20000 ≤ N) {M : Vt} {mask : Int32} {e : Nat → Nat} {c n : Nat} (hc : c < 25) (hn : n ≤ 6) (h106 : M.2.1 2 106 = nI n) (he : ∀ j, j < n → e j ≤ 25 ∧ M.2.1 19 (25 * j + c) = nI (e j)) : ∃ f, f_X9_mostAlike N M mask (nI c) = some (nI (mxE mask e n), pA M 20 f) := by
  obtain ⟨f0, g0, n0, en0⟩ := lpN N (fun k (f : Nat → Int32) i => f_X9_mostAlike_2 N k (pA M 20 f) mask (nI c) i) 26 (fun i f => ∀ p, p < i → f p = nI 0) (by
    intro i f hi h1
    refine ⟨upd f i (nI 0), fun p hp => ?_, fun k => ?_⟩
    · by_cases q : p = i
      · rw [q, upd_e]
      · rw [upd_n _ _ _ _ q]; exact h1 p (by omega)
    · show f_X9_mostAlike_2 N (k + 1) (pA M 20 f) mask (nI c) (nI i) = _
      rw [f_X9_mostAlike_2, if_neg (show ¬ (25 : Int32) < nI i by rw [lj 25, nI_T (by omega) (by omega)]; omega), pl_ck (by omega) (by omega), nI_cl (by omega), show (0 : Int32) = nI 0 from rfl, sA_pAe, pl_bd, nI_1, pl_bd]) (M.2.1 20) (by omega) (fun p hp => absurd hp (Nat.not_lt_zero p))
  obtain ⟨⟨f1, m⟩, ⟨g1, g2⟩, n1, en1⟩ := lpN N (fun k (s : (Nat → Int32) × Int32) i => f_X9_mostAlike_26 N k (pA M 20 s.1) mask (nI c) s.2 i) n (fun t s => (∀ p, p ≤ 25 → s.1 p = nI (cpE mask e t p)) ∧ s.2 = nI (mxE mask e t)) (by
    rintro t ⟨f, m⟩ ht ⟨h1, h2⟩
    have h2' : m = nI (mxE mask e t) := h2
    subst h2'
    obtain ⟨e1, e2⟩ := he t ht
    have a2 : ∀ f, (pA M 20 f).2.1 2 106 = nI n := fun f => by rw [pA_n _ _ _ _ (by omega)]; exact h106
    have a19 : ∀ f, (pA M 20 f).2.1 19 (25 * t + c) = nI (e t) := fun f => by rw [pA_n _ _ _ _ (by omega)]; exact e2
    have l1 := cpE_le mask e (e t) t
    have l2 := mxE_le mask e t
    have e87 : ∀ k f x, f_X9_mostAlike_87 N (f_X9_mostAlike_26 N k) (pA M 20 f) mask (nI c) x (nI t) = f_X9_mostAlike_26 N k (pA M 20 f) mask (nI c) x (nI (t + 1)) := fun k f x => by
      unfold f_X9_mostAlike_87; rw [nI_1, pl_bd]
    by_cases q : bt mask t = true
    · refine ⟨(upd f (e t) (nI (cpE mask e t (e t) + 1)), nI (max (mxE mask e t) (cpE mask e t (e t) + 1))), ⟨fun p hp => ?_, ?_⟩, fun k => ?_⟩
      · show upd f (e t) (nI (cpE mask e t (e t) + 1)) p = _
        rw [cpE]
        by_cases r : e t = p
        · rw [if_pos ⟨q, r⟩, ← r, upd_e]
        · rw [if_neg (fun h => r h.2), upd_n _ _ _ _ (fun h => r h.symm)]; exact h1 p hp
      · show nI (max (mxE mask e t) (cpE mask e t (e t) + 1)) = nI (mxE mask e (t + 1))
        rw [mxE, if_pos q, cpE, if_pos ⟨q, rfl⟩]
      · show f_X9_mostAlike_26 N (k + 1) (pA M 20 f) mask (nI c) (nI (mxE mask e t)) (nI t) = _
        have fe : f (e t) = nI (cpE mask e t (e t)) := h1 (e t) e1
        rw [f_X9_mostAlike_26, lj 106, pl_ck (by omega) (by omega), nI_cl (by omega), a2, if_neg (show ¬ nI n ≤ nI t by rw [nI_L (by omega) (by omega)]; omega), m_isInB mask (by omega), pl_ob1, if_pos q, if_neg (show ¬ (1 : Int32) = 0 by decide), show (25 : Int32) = nI 25 from rfl, pk_mul, nI_add, pl_ck (by omega) (by omega), nI_cl (by omega), a19, pl_bd, pl_ck (by omega) (by omega), pl_ck (by omega) (by omega), nI_cl (by omega), pA_e, fe, nI_1, sA_pAe, pl_bd, pl_ck (by omega) (by omega), pA_e, upd_e, m_great (by omega) (by omega), pl_ob1, e87]
    · refine ⟨(f, nI (mxE mask e t)), ⟨fun p hp => ?_, ?_⟩, fun k => ?_⟩
      · show f p = _
        rw [cpE, if_neg (fun h => q h.1)]; exact h1 p hp
      · show nI (mxE mask e t) = nI (mxE mask e (t + 1))
        rw [mxE, if_neg q]
      · show f_X9_mostAlike_26 N (k + 1) (pA M 20 f) mask (nI c) (nI (mxE mask e t)) (nI t) = _
        rw [f_X9_mostAlike_26, lj 106, pl_ck (by omega) (by omega), nI_cl (by omega), a2, if_neg (show ¬ nI n ≤ nI t by rw [nI_L (by omega) (by omega)]; omega), m_isInB mask (by omega), pl_ob1, if_neg q, if_pos rfl, e87]) (f0, 0) (by omega) ⟨fun p hp => g0 p (by omega), rfl⟩
  refine ⟨f1, ?_⟩
  have e0 : f_X9_mostAlike N M mask (nI c) = f_X9_mostAlike_2 N N (pA M 20 (M.2.1 20)) mask (nI c) (nI 0) := by rw [pA_self]; rfl
  have e1 : f_X9_mostAlike_2 N N (pA M 20 (M.2.1 20)) mask (nI c) (nI 0) = f_X9_mostAlike_2 N (n0 + 1) (pA M 20 f0) mask (nI c) (nI 26) := en0
  have e2 : f_X9_mostAlike_26 N N (pA M 20 f0) mask (nI c) 0 0 = f_X9_mostAlike_26 N (n1 + 1) (pA M 20 f1) mask (nI c) m (nI n) := en1
  have a2 : (pA M 20 f1).2.1 2 106 = nI n := by rw [pA_n _ _ _ _ (by omega)]; exact h106
  have g2' : m = nI (mxE mask e n) := g2
  rw [e0, e1, f_X9_mostAlike_2, if_pos (show (25 : Int32) < nI 26 by decide), e2, f_X9_mostAlike_26, lj 106, pl_ck (by omega) (by omega), nI_cl (by omega), a2, if_pos (by rw [nI_L (by omega) (by omega)]; omega), g2']
end
