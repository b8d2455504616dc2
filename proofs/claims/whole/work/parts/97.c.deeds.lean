section
/-! orders: sums of a clause by both; deeds by both -/
theorem o_none {N : Nat} (S : St) (V : Vt) (o a1 a3 : Nat) {pl : Int32} (h : pl = -1) : ∃ V', MSt o V V' 0 ∧ f_X4_worthAt N S V o a1 pl a3 (nI 0) = some (nI 0, V') := ⟨V, MSt_r o V 0, by rw [h]; rfl⟩
theorem o_vals {N : Nat} (hN : 20000 ≤ N) {C cl T U W : Nat → Int32} {Lc n c t e kd : Nat} (hW : WB W) (os : OSm C Lc cl T U n c t e kd) : ∃ (p : Nat → Nat) (sv : Nat → Option Int32), T t = nI (hdc kd) ∧ p 0 = t + 1 ∧ p (mkn kd) = e ∧ (∀ k, k < mkn kd → ME 1 0 T U n W (if k = 0 then p 0 else p k + 1) (p (k + 1)) 27 (sv k)) ∧ (∀ k, k < 3 → ∀ (S : St) (o a1 a3 : Nat) (V : Vt), a1 ≠ o + 1 → a3 ≠ o + 1 → S.2.2.1 a1 = Lc → S.2.2.1 a3 = lwm 1 → Lc ≤ 448 → (∀ i, i < Lc → V.2.1 a1 i = C i) → (∀ i, i < lwm 1 → V.2.1 a3 i = W i) → ∃ V', MSt o V V' 0 ∧ f_X4_worthAt N S V o a1 (cl (6 * c + 2 + k)) a3 (nI 0) = some (if k < mkn kd then (sv k).getD MNV else nI 0, V')) := by
  rcases os with ⟨rfl, hT, h4, a, ha, p1, hTa, p2⟩ | ⟨rfl, hT, a, b, ha, hb, p1, hTa, p2, hTb, p3⟩ | ⟨rfl, hT, h3, h4, p1⟩ | ⟨rfl, hT, h2, h3, h4, he⟩
  · obtain ⟨s0, m0, n0, x0⟩ := x_sum hN p1 hW
    obtain ⟨s1, m1, n1, x1⟩ := x_sum hN p2 hW
    refine ⟨fun k => if k = 0 then t + 1 else if k = 1 then a else e, fun k => if k = 0 then s0 else s1, hT, rfl, rfl, fun k hk => ?_, fun k hk S o a1 a3 V g1 g2 g3 g4 g5 g6 g7 => ?_⟩
    · have hk' : k < 2 := hk
      rcases (by omega : k = 0 ∨ k = 1) with rfl | rfl
      · exact m0
      · exact m1
    · rcases (by omega : k = 0 ∨ k = 1 ∨ k = 2) with rfl | rfl | rfl
      · exact x0 S o a1 a3 V (nI 0) g1 g2 g3 g4 g5 g6 g7
      · exact x1 S o a1 a3 V (nI 0) g1 g2 g3 g4 g5 g6 g7
      · exact o_none S V o a1 a3 h4
  · obtain ⟨s0, m0, n0, x0⟩ := x_sum hN p1 hW
    obtain ⟨s1, m1, n1, x1⟩ := x_sum hN p2 hW
    obtain ⟨s2, m2, n2, x2⟩ := x_sum hN p3 hW
    refine ⟨fun k => if k = 0 then t + 1 else if k = 1 then a else if k = 2 then b else e, fun k => if k = 0 then s0 else if k = 1 then s1 else s2, hT, rfl, rfl, fun k hk => ?_, fun k hk S o a1 a3 V g1 g2 g3 g4 g5 g6 g7 => ?_⟩
    · have hk' : k < 3 := hk
      rcases (by omega : k = 0 ∨ k = 1 ∨ k = 2) with rfl | rfl | rfl
      · exact m0
      · exact m1
      · exact m2
    · rcases (by omega : k = 0 ∨ k = 1 ∨ k = 2) with rfl | rfl | rfl
      · exact x0 S o a1 a3 V (nI 0) g1 g2 g3 g4 g5 g6 g7
      · exact x1 S o a1 a3 V (nI 0) g1 g2 g3 g4 g5 g6 g7
      · exact x2 S o a1 a3 V (nI 0) g1 g2 g3 g4 g5 g6 g7
  · obtain ⟨s0, m0, n0, x0⟩ := x_sum hN p1 hW
    refine ⟨fun k => if k = 0 then t + 1 else e, fun k => s0, hT, rfl, rfl, fun k hk => ?_, fun k hk S o a1 a3 V g1 g2 g3 g4 g5 g6 g7 => ?_⟩
    · have hk' : k < 1 := hk
      have : k = 0 := by omega
      subst this
      exact m0
    · rcases (by omega : k = 0 ∨ k = 1 ∨ k = 2) with rfl | rfl | rfl
      · exact x0 S o a1 a3 V (nI 0) g1 g2 g3 g4 g5 g6 g7
      · exact o_none S V o a1 a3 h3
      · exact o_none S V o a1 a3 h4
  · refine ⟨fun _ => t + 1, fun _ => none, hT, rfl, he.symm, fun k hk => absurd hk (Nat.not_lt_zero k), fun k hk S o a1 a3 V g1 g2 g3 g4 g5 g6 g7 => ?_⟩
    rcases (by omega : k = 0 ∨ k = 1 ∨ k = 2) with rfl | rfl | rfl
    · exact o_none S V o a1 a3 h2
    · exact o_none S V o a1 a3 h3
    · exact o_none S V o a1 a3 h4
/-- a sum brought to what a cell, a clerk, an amount can be -/
def sm (x : Int32) : Int32 := if x < 0 then -1 else if x ≤ 1000000 then x else -1
theorem sm_or (x : Int32) : sm x = x ∨ (sm x = -1 ∧ ¬ (nI 0 ≤ x ∧ x ≤ nI 1000000)) := by
  unfold sm
  by_cases h : x < 0
  · rw [if_pos h]; exact Or.inr ⟨rfl, fun q => (Int32.not_le.mpr h) q.1⟩
  · rw [if_neg h]
    by_cases h2 : x ≤ 1000000
    · rw [if_pos h2]; exact Or.inl rfl
    · rw [if_neg h2]; exact Or.inr ⟨rfl, fun q => h2 q.2⟩
theorem m_small (N : Nat) (x : Int32) : f_X9_small N x.toInt64 = some (sm x) := by
  unfold f_X9_small sm
  have e1 : (lg_cmp x.toInt64 0 < 0) = (x < 0) := by
    rw [lg_lt]; apply propext; rw [Int64.lt_iff_toInt_lt, Int32.toInt_toInt64, Int32.lt_iff_toInt_lt]; exact Iff.rfl
  have e2 : (lg_cmp x.toInt64 1000000 ≤ 0) = (x ≤ 1000000) := by
    rw [lg_le]; apply propext; rw [Int64.le_iff_toInt_le, Int32.toInt_toInt64, Int32.le_iff_toInt_le]; exact Iff.rfl
  simp only [e1, e2]
  by_cases h : x < 0
  · rw [if_pos h, if_pos h]
  · rw [if_neg h, if_neg h]
    by_cases h2 : x ≤ 1000000
    · rw [if_pos h2, if_pos h2, i32_64]
    · rw [if_neg h2, if_neg h2]
theorem m_smallT (N : Nat) (w : Int64) : ∃ z, f_X9_small N w = some z := by
  unfold f_X9_small
  by_cases h : lg_cmp w 0 < 0
  · exact ⟨_, by rw [if_pos h]⟩
  · rw [if_neg h]
    by_cases h2 : lg_cmp w 1000000 ≤ 0
    · exact ⟨_, by rw [if_pos h2]⟩
    · exact ⟨_, by rw [if_neg h2]⟩
theorem cell_0 (N : Nat) (x : Int32) (h : ¬ (nI 0 ≤ x ∧ x ≤ nI 1000000)) : f_X9_isCell N x = some (nI 0) := by
  rcases cell_c N x with ⟨c, hc, rfl, -, -⟩ | ⟨-, e⟩
  · exact absurd ⟨by rw [nI_L (by omega) (by omega)]; omega, by rw [nI_L (by omega) (by omega)]; omega⟩ h
  · exact e
theorem cell_m1 (N : Nat) : f_X9_isCell N (-1) = some (nI 0) := rfl
theorem clerk_0 {N : Nat} (M : Vt) {n5 : Nat} (hn : n5 ≤ 5) (e : M.2.1 2 103 = nI n5) (x : Int32) (h : ¬ (nI 0 ≤ x ∧ x ≤ nI 1000000)) : f_X9_isClerk N M x = some (nI 0) := by
  unfold f_X9_isClerk f_X9_lies
  rw [lj 103, pl_ck (by omega) (by omega), nI_cl (by omega), e]
  by_cases c : x < 0
  · rw [if_pos c]; rfl
  · rw [if_neg c]
    have z : nI n5 - 1 < x := by
      have c' := Int32.not_lt.mp c
      have : ¬ x ≤ nI 1000000 := fun q => h ⟨c', q⟩
      rw [Int32.le_iff_toInt_le, nI_tz (by omega)] at this
      by_cases z0 : n5 = 0
      · subst z0
        have e1 : (nI 0 - 1).toInt = -1 := rfl
        rw [Int32.lt_iff_toInt_lt, e1]; omega
      · rw [lj 1, pk_sub (by omega), Int32.lt_iff_toInt_lt, nI_tz (by omega)]; omega
    rw [if_pos z]; rfl
theorem m1_out : ¬ (nI 0 ≤ (-1 : Int32) ∧ (-1 : Int32) ≤ nI 1000000) := by decide
theorem mnv_out : ¬ (nI 0 ≤ MNV ∧ MNV ≤ nI 1000000) := by decide
theorem tk_1 {N : Nat} (M : Vt) {x : Int32} (y : Int32) (h : f_X9_isCell N x = some (nI 0)) : f_X9_takesKept N M x y = some (-1, M) := by
  unfold f_X9_takesKept
  rw [h, pl_ob1, if_pos (show nI 0 = 0 from rfl)]
theorem tk_2 {N : Nat} (M : Vt) {x y : Int32} (h : f_X9_isCell N x = some (nI 1)) (h2 : f_X9_isClerk N M y = some (nI 0)) : f_X9_takesKept N M x y = some (-2, M) := by
  unfold f_X9_takesKept
  rw [h, pl_ob1, if_neg (show ¬ nI 1 = 0 by decide), h2, pl_ob1, if_pos (show nI 0 = 0 from rfl)]
theorem sh_1 {N : Nat} (M : Vt) {x : Int32} (y z : Int32) (h : f_X9_isCell N x = some (nI 0)) : f_X9_shiftsKept N M x y z = some (-1, M) := by
  unfold f_X9_shiftsKept
  rw [h, pl_ob1, if_pos (show nI 0 = 0 from rfl)]
theorem sh_2 {N : Nat} (M : Vt) {x y : Int32} (z : Int32) (h : f_X9_isCell N x = some (nI 1)) (h2 : f_X9_isCell N y = some (nI 0)) : f_X9_shiftsKept N M x y z = some (-1, M) := by
  unfold f_X9_shiftsKept
  rw [h, pl_ob1, if_neg (show ¬ nI 1 = 0 by decide), h2, pl_ob1, if_pos (show nI 0 = 0 from rfl)]
theorem sh_3 {N : Nat} (M : Vt) {x y z : Int32} (h : f_X9_isCell N x = some (nI 1)) (h2 : f_X9_isCell N y = some (nI 1)) (h3 : f_X9_lies N z 1 999 = some (nI 0)) : f_X9_shiftsKept N M x y z = some (-1, M) := by
  unfold f_X9_shiftsKept
  rw [h, pl_ob1, if_neg (show ¬ nI 1 = 0 by decide), h2, pl_ob1, if_neg (show ¬ nI 1 = 0 by decide)]
  by_cases q : x = y
  · rw [if_pos q]
  · rw [if_neg q, h3, pl_ob1, if_pos (show nI 0 = 0 from rfl)]
theorem fnc_1 {N : Nat} (M : Vt) {x : Int32} (h : f_X9_isCell N x = some (nI 0)) : f_X9_fencesKept N M x = some (-1, M) := by
  unfold f_X9_fencesKept
  rw [h, pl_ob1, if_pos (show nI 0 = 0 from rfl)]
theorem k_take {N : Nat} (M : Vt) {n5 : Nat} (hn : n5 ≤ 5) (e : M.2.1 2 103 = nI n5) (x y : Int32) : f_X9_takesKept N M (sm x) (sm y) = f_X9_takesKept N M x y := by
  rcases sm_or x with h | ⟨h, h'⟩
  · rw [h]
    rcases sm_or y with g | ⟨g, g'⟩
    · rw [g]
    · rw [g]
      rcases cell_c N x with ⟨c, hc, -, -, z⟩ | ⟨-, z⟩
      · rw [tk_2 M z (clerk_0 M hn e _ m1_out), tk_2 M z (clerk_0 M hn e _ g')]
      · rw [tk_1 M _ z, tk_1 M _ z]
  · rw [h, tk_1 M _ (cell_m1 N), tk_1 M _ (cell_0 N x h')]
theorem lies_0 (N : Nat) (x : Int32) (h : ¬ (nI 0 ≤ x ∧ x ≤ nI 1000000)) : f_X9_lies N x 1 999 = some (nI 0) := by
  rcases lies_c N x 1 999 (by omega) (by omega) with ⟨c, h1, h2, rfl, -⟩ | ⟨-, e⟩
  · exact absurd ⟨by rw [nI_L (by omega) (by omega)]; omega, by rw [nI_L (by omega) (by omega)]; omega⟩ h
  · exact e
theorem k_shift {N : Nat} (M : Vt) (x y z : Int32) : f_X9_shiftsKept N M (sm x) (sm y) (sm z) = f_X9_shiftsKept N M x y z := by
  rcases sm_or x with h | ⟨h, h'⟩
  · rw [h]
    rcases cell_c N x with ⟨c, hc, -, -, zc⟩ | ⟨-, zc⟩
    · rcases sm_or y with g | ⟨g, g'⟩
      · rw [g]
        rcases sm_or z with k | ⟨k, k'⟩
        · rw [k]
        · rw [k]
          rcases cell_c N y with ⟨c2, hc2, -, -, yc⟩ | ⟨-, yc⟩
          · rw [sh_3 M zc yc (lies_0 N _ m1_out), sh_3 M zc yc (lies_0 N z k')]
          · rw [sh_2 M _ zc yc, sh_2 M _ zc yc]
      · rw [g, sh_2 M _ zc (cell_m1 N), sh_2 M _ zc (cell_0 N y g')]
    · rw [sh_1 M _ _ zc, sh_1 M _ _ zc]
  · rw [h, sh_1 M _ _ (cell_m1 N), sh_1 M _ _ (cell_0 N x h')]
theorem k_fence {N : Nat} (M : Vt) (x : Int32) : f_X9_fencesKept N M (sm x) = f_X9_fencesKept N M x := by
  rcases sm_or x with h | ⟨h, h'⟩
  · rw [h]
  · rw [h, fnc_1 M (cell_m1 N), fnc_1 M (cell_0 N x h')]
/-- what a run of orders leaves alone -/
def FrX (V V' : Vt) : Prop := V'.2.2.2 = V.2.2.2 ∧ (∀ g, g ≠ 2 → g ≠ 3 → g ≠ 6 → g ≠ 7 → g ≠ 33 → g ≠ 43 → g ≠ 46 → g ≠ 47 → g ≠ 61 → V'.2.1 g = V.2.1 g) ∧ ∀ g j, ¬ (g = 32 ∧ j = 1) → ¬ (g = 45 ∧ j = 1) → ¬ (g = 42 ∧ j = 1) → ¬ (g = 0 ∧ j = 17) → V'.1 g j = V.1 g j
def FrM (M M' : Vt) : Prop := (∀ g, g ≠ 2 → g ≠ 12 → g ≠ 13 → M'.2.1 g = M.2.1 g) ∧ (∀ j, 32 ≤ j → M'.2.1 2 j = M.2.1 2 j) ∧ ∀ g j, ¬ (g = 0 ∧ (j = 31 ∨ 22 ≤ j ∧ j ≤ 28 ∨ 41 ≤ j ∧ j ≤ 45)) → M'.1 g j = M.1 g j
theorem FrX_r (V : Vt) : FrX V V := ⟨rfl, fun _ _ _ _ _ _ _ _ _ _ => rfl, fun _ _ _ _ _ _ => rfl⟩
theorem FrM_r (V : Vt) : FrM V V := ⟨fun _ _ _ _ => rfl, fun _ _ => rfl, fun _ _ _ => rfl⟩
theorem FrX_t {V V' V2 : Vt} (a : FrX V V') (b : FrX V' V2) : FrX V V2 := ⟨b.1.trans a.1, fun g h1 h2 h3 h4 h5 h6 h7 h8 h9 => (b.2.1 g h1 h2 h3 h4 h5 h6 h7 h8 h9).trans (a.2.1 g h1 h2 h3 h4 h5 h6 h7 h8 h9), fun g j h1 h2 h3 h4 => (b.2.2 g j h1 h2 h3 h4).trans (a.2.2 g j h1 h2 h3 h4)⟩
theorem FrM_t {V V' V2 : Vt} (a : FrM V V') (b : FrM V' V2) : FrM V V2 := ⟨fun g h1 h2 h3 => (b.1 g h1 h2 h3).trans (a.1 g h1 h2 h3), fun j h => (b.2.1 j h).trans (a.2.1 j h), fun g j h => (b.2.2 g j h).trans (a.2.2 g j h)⟩
theorem FrX_d {V V' : Vt} (a : Dfx V V') : FrX V V' := ⟨a.1, fun g h1 h2 h3 h4 h5 _ h7 h8 _ => a.2.1 g h1 h2 h3 h4 h5 h7 h8, fun g j h1 h2 _ _ => a.2.2 g j h1 h2⟩
theorem FrM_d {V V' : Vt} (a : Dfm V V') : FrM V V' := ⟨a.1, a.2.1, fun g j h => a.2.2 g j (by omega)⟩
theorem FrM_g {M M' : Vt} (a : GoF M M') : FrM M M' := ⟨fun g _ _ _ => by rw [a.1], fun j _ => by rw [a.1], fun g j h => a.2.2 g j (by omega)⟩
theorem FrM_f (M : Vt) (j : Nat) (x : Int32) (hj : j = 27 ∨ j = 28 ∨ j = 41) : FrM M (sF M 0 j x) := ⟨fun _ _ _ _ => rfl, fun _ _ => rfl, fun g i h => by rw [sF_o _ _ _ _ _ _ (by omega)]⟩
theorem FrX_m {V V' : Vt} (a : MSt 42 V V' 0) : FrX V V' := ⟨by rw [a.1], fun g _ _ _ _ _ h6 _ _ _ => a.2.1 g h6, fun g j _ _ h3 _ => a.2.2.1 g j h3⟩
theorem SX_m {V V' : Vt} (a : MSt 42 V V' 0) : SX V V' := ⟨fun h hh => ⟨funext fun j => a.2.2.1 h j (fun q => by rw [q.1] at hh; exact absurd hh (by decide)), a.2.1 h (fun q => by rw [q] at hh; exact absurd hh (by decide)), by rw [a.1]⟩, a.2.2.1 37 8 (by omega)⟩
theorem FrX_p (V : Vt) (f : Nat → Int32) : FrX V (pA V 61 f) := ⟨rfl, fun g _ _ _ _ _ _ _ _ h9 => pA_n _ _ _ _ h9, fun _ _ _ _ _ _ => rfl⟩
theorem SX_p (V : Vt) (f : Nat → Int32) : SX V (pA V 61 f) := ⟨fun h hh => ⟨rfl, pA_n _ _ _ _ (fun q => by rw [q] at hh; exact absurd hh (by decide)), rfl⟩, rfl⟩
theorem SM_g {M M' : Vt} (a : GoF M M') : SM0 M M' := ⟨fun h _ => by rw [a.1], fun j hj => a.2.2 0 j (fun q => by
  have : j = 22 ∨ j = 23 ∨ j = 24 ∨ j = 25 ∨ j = 42 ∨ j = 43 ∨ j = 44 ∨ j = 45 := by omega
  rcases this with rfl | rfl | rfl | rfl | rfl | rfl | rfl | rfl <;> exact absurd hj (by decide))⟩
/-- a deed of orders by both -/
theorem o_deed {N b0 : Nat} (hN : 20000 ≤ N) {S : St} {V M : Vt} (hR : Rel XL b0 S V M) {kd : Nat} (hk : kd < 4) (h43 : M.1 0 43 = nI (hdc kd)) (y : Nat → Int32) (hy : ∀ j, j < mkn kd → M.2.2.1 23 j = (y j).toInt64) (A : Nat → Int32) (hA : ∀ j, j < mkn kd → A j = y j) :
    ∃ r V' M', f_X8_carryOut N S V 0 (nI kd) (A 0) (A 1) (A 2) = some (r, V') ∧ f_X9_obeys N M = some (r, M') ∧ Rel XL b0 S V' M' ∧ RN r ∧ FrX V V' ∧ FrM M M' ∧ M'.1 0 27 = M.1 0 27 ∧ M'.1 0 41 = M.1 0 41 ∧ V'.1 0 17 = V.1 0 17 ∧ M'.1 0 28 = (if kd = 0 ∧ 0 ≤ r then r else M.1 0 28) := by
  obtain ⟨ec, n5, hn5, en5⟩ := hR.2.1.2.2.2.2.2.2.2.2
  have k0 : ∀ (z : Option (Int32 × Vt)), ck (0 : Int32) 3 z = z := fun _ => rfl
  have k1 : ∀ (z : Option (Int32 × Vt)), ck (1 : Int32) 3 z = z := fun _ => rfl
  have k2 : ∀ (z : Option (Int32 × Vt)), ck (2 : Int32) 3 z = z := fun _ => rfl
  have df : ∀ {M' : Vt}, Dfm M M' → M'.1 0 27 = M.1 0 27 ∧ M'.1 0 41 = M.1 0 41 ∧ M'.1 0 28 = M.1 0 28 := fun h => ⟨h.2.2 0 27 (by omega), h.2.2 0 41 (by omega), h.2.2 0 28 (by omega)⟩
  rcases (by omega : kd = 0 ∨ kd = 1 ∨ kd = 2 ∨ kd = 3) with rfl | rfl | rfl | rfl
  · obtain ⟨r, V', M', e8, e9, hR', hr, dx, dm⟩ := c_take hN hR (A 0) (A 1) (A 2)
    obtain ⟨d1, d2, d3⟩ := df dm
    rw [hA 0 (show 0 < 2 by omega), hA 1 (show 1 < 2 by omega)] at e9
    rw [← k_take M hn5 en5] at e9
    have j0 : M.2.2.1 23 (0 : Int32).toNatClampNeg = (y 0).toInt64 := hy 0 (show 0 < 2 by omega)
    have j1 : M.2.2.1 23 (1 : Int32).toNatClampNeg = (y 1).toInt64 := hy 1 (show 1 < 2 by omega)
    have ob : f_X9_obeys N M = some (r, sF M' 0 28 (if 0 ≤ r then r else M'.1 0 28)) := by
      unfold f_X9_obeys
      rw [k0, j0, m_small, pl_ob1, k1, j1, m_small, pl_ob1, pl_bd, h43, if_neg (by decide), if_neg (by decide), if_neg (by decide), if_neg (by decide), if_neg (by decide)]
      unfold f_X9_obeys_87
      rw [e9, pl_ob]
      by_cases c : 0 ≤ r
      · rw [if_pos c, if_pos c, pl_bd]
      · rw [if_neg c, if_neg c, pl_bd]
    refine ⟨r, V', _, e8, ob, Rel_s hR' (SX_r _) (SM_F (SM_r _) rfl), hr, FrX_d dx, FrM_t (FrM_d dm) (FrM_f _ 28 _ (by omega)), ?_, ?_, dx.2.2 0 17 (by omega) (by omega), ?_⟩
    · rw [sF_o _ _ _ _ _ _ (by omega)]; exact d1
    · rw [sF_o _ _ _ _ _ _ (by omega)]; exact d2
    · rw [sF_e, upd_e, d3]
      by_cases c : 0 ≤ r
      · rw [if_pos c, if_pos ⟨rfl, c⟩]
      · rw [if_neg c, if_neg (fun q => c q.2)]
  · obtain ⟨r, V', M', e8, e9, hR', hr, dx, dm⟩ := c_shift hN hR (A 0) (A 1) (A 2)
    obtain ⟨d1, d2, d3⟩ := df dm
    rw [hA 0 (show 0 < 3 by omega), hA 1 (show 1 < 3 by omega), hA 2 (show 2 < 3 by omega)] at e9
    rw [← k_shift M] at e9
    have j0 : M.2.2.1 23 (0 : Int32).toNatClampNeg = (y 0).toInt64 := hy 0 (show 0 < 3 by omega)
    have j1 : M.2.2.1 23 (1 : Int32).toNatClampNeg = (y 1).toInt64 := hy 1 (show 1 < 3 by omega)
    have j2 : M.2.2.1 23 (2 : Int32).toNatClampNeg = (y 2).toInt64 := hy 2 (show 2 < 3 by omega)
    refine ⟨r, V', M', e8, ?_, hR', hr, FrX_d dx, FrM_d dm, d1, d2, dx.2.2 0 17 (by omega) (by omega), ?_⟩
    · unfold f_X9_obeys
      rw [k0, j0, m_small, pl_ob1, k1, j1, m_small, pl_ob1, pl_bd, h43, if_pos (show nI (hdc 1) = 24 from rfl), k2, j2, m_small, pl_ob1, e9, pl_ob]
    · rw [if_neg (fun q => absurd q.1 (by omega))]; exact d3
  · obtain ⟨r, V', M', e8, e9, hR', hr, dx, dm⟩ := c_fence hN hR (A 0) (A 1) (A 2)
    obtain ⟨d1, d2, d3⟩ := df dm
    rw [hA 0 (show 0 < 1 by omega)] at e9
    rw [← k_fence M] at e9
    have j0 : M.2.2.1 23 (0 : Int32).toNatClampNeg = (y 0).toInt64 := hy 0 (show 0 < 1 by omega)
    obtain ⟨z1, ez1⟩ := m_smallT N (M.2.2.1 23 (1 : Int32).toNatClampNeg)
    refine ⟨r, V', M', e8, ?_, hR', hr, FrX_d dx, FrM_d dm, d1, d2, dx.2.2 0 17 (by omega) (by omega), ?_⟩
    · unfold f_X9_obeys
      rw [k0, j0, m_small, pl_ob1, k1, ez1, pl_ob1, pl_bd, h43, if_neg (by decide), if_neg (by decide), if_neg (by decide), if_pos (show nI (hdc 2) = 27 from rfl), e9, pl_ob]
    · rw [if_neg (fun q => absurd q.1 (by omega))]; exact d3
  · obtain ⟨r, V', M', e8, e9, hR', hr, dx, dm⟩ := c_pass hN hR (A 0) (A 1) (A 2)
    obtain ⟨d1, d2, d3⟩ := df dm
    obtain ⟨z0, ez0⟩ := m_smallT N (M.2.2.1 23 (0 : Int32).toNatClampNeg)
    obtain ⟨z1, ez1⟩ := m_smallT N (M.2.2.1 23 (1 : Int32).toNatClampNeg)
    refine ⟨r, V', M', e8, ?_, hR', hr, FrX_d dx, FrM_d dm, d1, d2, dx.2.2 0 17 (by omega) (by omega), ?_⟩
    · unfold f_X9_obeys
      rw [k0, ez0, pl_ob1, k1, ez1, pl_ob1, pl_bd, h43, if_neg (by decide), if_neg (by decide), if_neg (by decide), if_neg (by decide), if_pos (show nI (hdc 3) = 28 from rfl), e9, pl_ob]
    · rw [if_neg (fun q => absurd q.1 (by omega))]; exact d3
/-- a broken sum is refused -/
theorem o_brk {N b0 : Nat} (hN : 20000 ≤ N) {S : St} {V M : Vt} (hR : Rel XL b0 S V M) {kd : Nat} (hk : kd < 4) (A : Nat → Int32) {j : Nat} (hj : j < mkn kd) (hA : A j = MNV) : ∃ r V', f_X8_carryOut N S V 0 (nI kd) (A 0) (A 1) (A 2) = some (r, V') ∧ ¬ 0 ≤ r ∧ FrX V V' := by
  obtain ⟨ec, n5, hn5, en5⟩ := hR.2.1.2.2.2.2.2.2.2.2
  have neg : ∀ {r a : Int32}, a = r → (a = -1 ∨ a = -2) → ¬ 0 ≤ r := fun h h2 => by
    rw [← h]
    rcases h2 with h2 | h2 <;> rw [h2] <;> decide
  have cm : ∀ x, x = MNV → f_X9_isCell N x = some (nI 0) := fun x h => cell_0 N x (by rw [h]; exact mnv_out)
  rcases (by omega : kd = 0 ∨ kd = 1 ∨ kd = 2 ∨ kd = 3) with rfl | rfl | rfl | rfl
  · obtain ⟨r, V', M', e8, e9, hR', hr, dx, dm⟩ := c_take hN hR (A 0) (A 1) (A 2)
    refine ⟨r, V', e8, ?_, FrX_d dx⟩
    have hj' : j < 2 := hj
    rcases (by omega : j = 0 ∨ j = 1) with rfl | rfl
    · rw [tk_1 M _ (cm _ hA)] at e9
      exact neg (Prod.mk.inj (Option.some.inj e9)).1 (Or.inl rfl)
    · rcases cell_c N (A 0) with ⟨c, hc, e, -, z⟩ | ⟨-, z⟩
      · rw [tk_2 M z (clerk_0 M hn5 en5 _ (by rw [hA]; exact mnv_out))] at e9
        exact neg (Prod.mk.inj (Option.some.inj e9)).1 (Or.inr rfl)
      · rw [tk_1 M _ z] at e9
        exact neg (Prod.mk.inj (Option.some.inj e9)).1 (Or.inl rfl)
  · obtain ⟨r, V', M', e8, e9, hR', hr, dx, dm⟩ := c_shift hN hR (A 0) (A 1) (A 2)
    refine ⟨r, V', e8, ?_, FrX_d dx⟩
    have hj' : j < 3 := hj
    have fin : f_X9_shiftsKept N M (A 0) (A 1) (A 2) = some (-1, M) → ¬ 0 ≤ r := fun h => by
      rw [h] at e9
      exact neg (Prod.mk.inj (Option.some.inj e9)).1 (Or.inl rfl)
    rcases cell_c N (A 0) with ⟨c, hc, e, -, z⟩ | ⟨-, z⟩
    · rcases cell_c N (A 1) with ⟨c1, hc1, e1, -, z1⟩ | ⟨-, z1⟩
      · have j2 : j = 2 := by
          rcases (by omega : j = 0 ∨ j = 1 ∨ j = 2) with rfl | rfl | rfl
          · rw [e] at hA; exact absurd hA (MNV_ne c (by omega))
          · rw [e1] at hA; exact absurd hA (MNV_ne c1 (by omega))
          · rfl
        subst j2
        exact fin (sh_3 M z z1 (lies_0 N _ (by rw [hA]; exact mnv_out)))
      · exact fin (sh_2 M _ z z1)
    · exact fin (sh_1 M _ _ z)
  · obtain ⟨r, V', M', e8, e9, hR', hr, dx, dm⟩ := c_fence hN hR (A 0) (A 1) (A 2)
    refine ⟨r, V', e8, ?_, FrX_d dx⟩
    have hj' : j < 1 := hj
    have : j = 0 := by omega
    subst this
    rw [fnc_1 M (cm _ hA)] at e9
    exact neg (Prod.mk.inj (Option.some.inj e9)).1 (Or.inl rfl)
  · exact absurd hj (Nat.not_lt_zero j)
end
