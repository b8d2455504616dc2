section
/-! what the reference finds: pieces of tokens -/
def mS (M : Vt) (g : Nat) (b : Int32) : Vt := (fun h j => if h = 0 ∧ j = 22 then nI g else if h = 0 ∧ j = 24 then b else M.1 h j, M.2)
theorem mS_22 (M : Vt) (g : Nat) (b : Int32) : (mS M g b).1 0 22 = nI g := rfl
theorem mS_24 (M : Vt) (g : Nat) (b : Int32) : (mS M g b).1 0 24 = b := rfl
theorem mS_23 (M : Vt) (g : Nat) (b : Int32) : (mS M g b).1 0 23 = M.1 0 23 := rfl
theorem mS_25 (M : Vt) (g : Nat) (b : Int32) : (mS M g b).1 0 25 = M.1 0 25 := rfl
theorem mS_2 (M : Vt) (g : Nat) (b : Int32) : (mS M g b).2 = M.2 := rfl
theorem mS_o (M : Vt) (g : Nat) (b : Int32) (h j : Nat) (h1 : ¬ (h = 0 ∧ j = 22)) (h2 : ¬ (h = 0 ∧ j = 24)) : (mS M g b).1 h j = M.1 h j := by
  show (if h = 0 ∧ j = 22 then nI g else if h = 0 ∧ j = 24 then b else M.1 h j) = _
  rw [if_neg h1, if_neg h2]
theorem mS_g (M : Vt) (g k : Nat) (b : Int32) : sF (mS M g b) 0 22 (nI k) = mS M k b := by
  unfold sF mS
  refine Prod.ext ?_ rfl
  funext h j
  simp only [up2]
  by_cases c : h = 0 ∧ j = 22
  · simp only [if_pos c]
  · simp only [if_neg c]
theorem mS_b (M : Vt) (g : Nat) (b c : Int32) : sF (mS M g b) 0 24 c = mS M g c := by
  unfold sF mS
  refine Prod.ext ?_ rfl
  funext h j
  simp only [up2]
  by_cases e : h = 0 ∧ j = 24
  · simp only [if_pos e]; rw [if_neg (by omega)]
  · simp only [if_neg e]
theorem mS_id (M : Vt) (g : Nat) (b : Int32) (h1 : M.1 0 22 = nI g) (h2 : M.1 0 24 = b) : mS M g b = M := by
  unfold mS
  refine Prod.ext ?_ rfl
  funext h j
  show (if h = 0 ∧ j = 22 then nI g else if h = 0 ∧ j = 24 then b else M.1 h j) = M.1 h j
  by_cases c : h = 0 ∧ j = 22
  · rw [if_pos c, c.1, c.2, h1]
  · rw [if_neg c]
    by_cases e : h = 0 ∧ j = 24
    · rw [if_pos e, e.1, e.2, h2]
    · rw [if_neg e]
def wl (c : Nat) : Nat := [0, 1, 2, 6, 7, 9, 3, 4, 5, 8].getD c 0
def okw (c k : Nat) : Prop := (c = 15 ∧ k < 25) ∨ ((c = 16 ∨ c = 17 ∨ c = 21) ∧ k < 5) ∨ c = 18 ∨ c = 19 ∨ c = 20
def wo (c k : Nat) : Nat := if c = 15 then 3 + k else if c = 16 then 28 + k else if c = 17 then 33 + k else if c = 21 then 38 + k else c - 18
def MX (N mode : Nat) (M : Vt) (base n : Nat) (T U W : Nat → Int32) : Prop := (M.1 0 25 = nI mode ∧ M.1 0 23 = nI (base + n) ∧ base + n ≤ 2800 ∧ n ≤ 400) ∧ (∀ j, j < n → M.2.1 2 (115 + (base + j)) = T j) ∧ (∀ j, j < n → M.2.1 2 (2915 + (base + j)) = U j) ∧ ((mode = 0 ∧ ∀ c, c < 10 → M.2.1 12 c = W (wl c)) ∨ (mode = 1 ∧ ∀ c k, okw c k → ∀ g b, f_X9_orderValue N (mS M g b) (nI c) (nI k) = some (W (wo c k))))
def ctk (T : Nat → Int32) (n j : Nat) : Int32 := if j < n then T j else nI 0
theorem m_codeAt {N mode base n : Nat} {M : Vt} {T U W : Nat → Int32} (X : MX N mode M base n T U W) (g : Nat) (b : Int32) (t : Nat) (ht : base + t < 100000) : f_X9_codeAt N (mS M g b) (nI (base + t)) = some (ctk T n t) := by
  obtain ⟨⟨x1, x2, x3, x4⟩, x5, x6, x7⟩ := X
  unfold f_X9_codeAt ctk
  rw [mS_23, x2]
  by_cases h : t < n
  · have g1 : ¬ base + n ≤ base + t := by omega
    simp (disch := omega) only [g1, h, mS_2, x5 t h, ↓pl_bd, pl_ob, pl_ob1, pl_obv, pl_oa, pl_oav, pl_cg, pl_cb0, pl_cb1, pl_nl0, pl_nls, li, nI_cl, pl_ck, nI_E, nI_L, nI_T, nI_add, pk_mul, Nat.zero_add, Nat.add_zero, Nat.reduceAdd, Nat.reduceMul, Nat.reduceSub, Nat.reduceEqDiff, Nat.reduceLeDiff, Nat.reduceLT, ↓reduceIte]
  · have g1 : base + n ≤ base + t := by omega
    simp (disch := omega) only [g1, h, ↓pl_bd, pl_ob, pl_ob1, pl_obv, pl_oa, pl_oav, pl_cg, pl_cb0, pl_cb1, pl_nl0, pl_nls, li, nI_cl, pl_ck, nI_E, nI_L, nI_T, nI_add, pk_mul, Nat.zero_add, Nat.add_zero, Nat.reduceAdd, Nat.reduceMul, Nat.reduceSub, Nat.reduceEqDiff, Nat.reduceLeDiff, Nat.reduceLT, ↓reduceIte]
theorem m_pass {N mode base n : Nat} {M : Vt} {T U W : Nat → Int32} (X : MX N mode M base n T U W) (b : Int32) (t : Nat) (ht : base + t < 100000) (c : Int32) : f_X9_passes0 N (mS M (base + t) b) c = some (if ctk T n t = c then (nI 1, mS M (base + (t + 1)) b) else (nI 0, mS M (base + t) b)) := by
  unfold f_X9_passes0
  rw [mS_22, m_codeAt X _ b t ht, pl_ob1]
  by_cases h : ctk T n t = c
  · rw [if_pos h, if_pos h]
    unfold f_X9_passes0_17
    simp (disch := omega) only [mS_22, mS_g, ↓pl_bd, pl_ob, pl_ob1, pl_obv, pl_oa, pl_oav, pl_cg, pl_cb0, pl_cb1, pl_nl0, pl_nls, li, nI_cl, pl_ck, nI_E, nI_L, nI_T, nI_add, pk_mul, Nat.zero_add, Nat.add_zero, Nat.reduceAdd, Nat.reduceMul, Nat.reduceSub, Nat.reduceEqDiff, Nat.reduceLeDiff, Nat.reduceLT, ↓reduceIte]
    rfl
  · rw [if_neg h, if_neg h]
    unfold f_X9_passes0_17
    simp (disch := omega) only [↓pl_bd, pl_ob, pl_ob1, pl_obv, pl_oa, pl_oav, pl_cg, pl_cb0, pl_cb1, pl_nl0, pl_nls, li, nI_cl, pl_ck, nI_E, nI_L, nI_T, nI_add, pk_mul, Nat.zero_add, Nat.add_zero, Nat.reduceAdd, Nat.reduceMul, Nat.reduceSub, Nat.reduceEqDiff, Nat.reduceLeDiff, Nat.reduceLT, ↓reduceIte]
def lv (l b : Int32) : Prop := (l = nI 0 ∨ l = nI 1) ∧ (b = nI 0 ∨ b = nI 1)
def OUT (l b : Int32) (v : Option Int32) (y : Int64) (b' : Int32) : Prop := (l = nI 1 ∧ b = nI 0 ∧ ((∃ x, v = some x ∧ y = x.toInt64 ∧ b' = nI 0) ∨ (v = none ∧ b' = nI 1))) ∨ ((l = nI 0 ∨ b = nI 1) ∧ b' = b)
theorem OUT_b {l b : Int32} {v : Option Int32} {y : Int64} {b' : Int32} (h : lv l b) (o : OUT l b v y b') : lv l b' := by
  rcases o with ⟨-, -, ⟨x, -, -, e⟩ | ⟨-, e⟩⟩ | ⟨-, e⟩
  · exact ⟨h.1, Or.inl e⟩
  · exact ⟨h.1, Or.inr e⟩
  · rw [e]; exact h
def ME (mode lev : Nat) (T U : Nat → Int32) (n : Nat) (W : Nat → Int32) (t u D : Nat) (v : Option Int32) : Prop := (t < u ∧ u ≤ n) ∧ ∀ (N : Nat) (M : Vt) (base d : Nat), 20000 ≤ N → MX N mode M base n T U W → D ≤ d → ∀ l b, lv l b → ∃ y b', g_X9_sumOf N d lev (mS M (base + t) b) l = some (y, mS M (base + u) b') ∧ OUT l b v y b'
theorem ME_D {mode lev : Nat} {T U : Nat → Int32} {n : Nat} {W : Nat → Int32} {t u D D' : Nat} {v : Option Int32} (h : D ≤ D') (c : ME mode lev T U n W t u D v) : ME mode lev T U n W t u D' v := ⟨c.1, fun N M base d hN X hd => c.2 N M base d hN X (by omega)⟩
theorem b32_64 (w : Int64) (h1 : ¬ (1000000000 : Int64) < w) (h2 : ¬ w < -1000000000) : w.toInt32.toInt64 = w := by
  have e1 : (1000000000 : Int64).toInt = 1000000000 := rfl
  have e2 : (-1000000000 : Int64).toInt = -1000000000 := rfl
  rw [Int64.lt_iff_toInt_lt] at h1 h2
  apply Int64.toInt_inj.mp
  rw [Int32.toInt_toInt64, Int64.toInt_toInt32]
  exact Int.bmod_eq_of_le (by omega) (by omega)
theorem m_bnd (N : Nat) (M : Vt) (g : Nat) (w : Int64) (l b : Int32) (h : lv l b) : ∃ y3 b3, f_X9_bounded N (mS M g b) w l = some (y3, mS M g b3) ∧ OUT l b (bdV w) y3 b3 := by
  unfold f_X9_bounded f_X9_bounded_20 f_X9_bounded_25
  simp only [lg_gt, lg_ge, pl_bd, show (1 : Int32) = nI 1 from rfl, mS_b, mS_24]
  obtain ⟨rfl | rfl, rfl | rfl⟩ := h
  · exact ⟨w, nI 0, rfl, Or.inr ⟨Or.inl rfl, rfl⟩⟩
  · exact ⟨0, nI 1, rfl, Or.inr ⟨Or.inl rfl, rfl⟩⟩
  · by_cases c1 : (1000000000 : Int64) < w
    · refine ⟨0, nI 1, ?_, Or.inl ⟨rfl, rfl, Or.inr ⟨by rw [bdV, if_pos (Or.inl c1)], rfl⟩⟩⟩
      rw [if_neg (by decide), if_pos c1]; rfl
    · by_cases c2 : w < -1000000000
      · refine ⟨0, nI 1, ?_, Or.inl ⟨rfl, rfl, Or.inr ⟨by rw [bdV, if_pos (Or.inr c2)], rfl⟩⟩⟩
        rw [if_neg (by decide), if_neg c1, if_neg (by rw [Int64.le_iff_toInt_le]; rw [Int64.lt_iff_toInt_lt] at c2; omega)]; rfl
      · refine ⟨w, nI 0, ?_, Or.inl ⟨rfl, rfl, Or.inl ⟨w.toInt32, by rw [bdV, if_neg (fun q => q.elim c1 c2)], (b32_64 w c1 c2).symm, rfl⟩⟩⟩
        rw [if_neg (by decide), if_neg c1, if_pos (Int64.not_lt.mp c2)]; rfl
  · refine ⟨0, nI 1, ?_, Or.inr ⟨Or.inr rfl, rfl⟩⟩
    rw [if_neg (by decide)]
    by_cases c1 : (1000000000 : Int64) < w
    · rw [if_pos c1]; rfl
    · rw [if_neg c1]
      by_cases c2 : (-1000000000 : Int64) ≤ w
      · rw [if_pos c2]; rfl
      · rw [if_neg c2]; rfl
theorem OUT_op {l b b1 b2 b3 : Int32} {v1 v2 : Option Int32} {y1 y2 y3 : Int64} {fo : Int64 → Int64 → Int64} {s : Nat} (h1 : OUT l b v1 y1 b1) (h2 : OUT l b1 v2 y2 b2) (h3 : OUT l b2 (bdV (fo y1 y2)) y3 b3) (hs : ∀ x1 x2 : Int32, v1 = some x1 → v2 = some x2 → opS s x1 x2 = bdV (fo x1.toInt64 x2.toInt64)) : OUT l b (v1.bind fun x => v2.bind fun y => opS s x y) y3 b3 := by
  rcases h1 with ⟨rfl, rfl, ⟨x1, rfl, rfl, rfl⟩ | ⟨rfl, rfl⟩⟩ | ⟨hd, rfl⟩
  · rcases h2 with ⟨-, -, ⟨x2, rfl, rfl, rfl⟩ | ⟨rfl, rfl⟩⟩ | ⟨hd, -⟩
    · refine Or.inl ⟨rfl, rfl, ?_⟩
      show (∃ x, opS s x1 x2 = some x ∧ _) ∨ (opS s x1 x2 = none ∧ _)
      rw [hs x1 x2 rfl rfl]
      rcases h3 with ⟨-, -, h⟩ | ⟨h, -⟩
      · exact h
      · exact absurd h (by decide)
    · rcases h3 with ⟨-, h, -⟩ | ⟨-, rfl⟩
      · exact absurd h (by decide)
      · exact Or.inl ⟨rfl, rfl, Or.inr ⟨rfl, rfl⟩⟩
    · exact absurd hd (by decide)
  · rcases h2 with ⟨-, h, -⟩ | ⟨-, rfl⟩
    · exact absurd h (by decide)
    · rcases h3 with ⟨-, h, -⟩ | ⟨-, rfl⟩
      · exact absurd h (by decide)
      · exact Or.inl ⟨rfl, rfl, Or.inr ⟨rfl, rfl⟩⟩
  · have e2 : b2 = b1 := by
      rcases h2 with ⟨h, h', -⟩ | ⟨-, e⟩
      · rw [h, h'] at hd; exact absurd hd (by decide)
      · exact e
    subst e2
    rcases h3 with ⟨h, h', -⟩ | ⟨-, e⟩
    · rw [h, h'] at hd; exact absurd hd (by decide)
    · exact Or.inr ⟨hd, e⟩
section L
variable {mode : Nat} {T U W : Nat → Int32} {n : Nat}
def MC (mode : Nat) (T U : Nat → Int32) (n : Nat) (W : Nat → Int32) (t u D : Nat) (v : Option Int32) : Prop := (t < u ∧ u ≤ n) ∧ ∀ (N : Nat) (M : Vt) (base d : Nat), 20000 ≤ N → MX N mode M base n T U W → D ≤ d → ∀ l b, lv l b → ∃ y b' k, k ≤ u - t ∧ g_X9_sumOf N (d + 1) 0 (mS M (base + t) b) l = f_X9_sumOf_6 N (g_X9_sumOf N d) (N - k) (mS M (base + u) b') l y ∧ OUT l b v y b'
theorem MC_first {t u D : Nat} {v : Option Int32} (c : ME mode 1 T U n W t u D v) : MC mode T U n W t u D v := by
  refine ⟨c.1, fun N M base d hN X hd l b hl => ?_⟩
  obtain ⟨y, b', e, o⟩ := c.2 N M base d hN X hd l b hl
  refine ⟨y, b', 0, Nat.zero_le _, ?_, o⟩
  show f_X9_sumOf N (g_X9_sumOf N d) (mS M (base + t) b) l = _
  unfold f_X9_sumOf
  rw [e, pl_ob]; rfl
theorem MC_step {t u w D s : Nat} {v v2 : Option Int32} (c : MC mode T U n W t u D v) (c2 : ME mode 1 T U n W (u + 1) w D v2) (hs : (s = 3 ∧ T u = nI 143) ∨ (s = 4 ∧ T u = nI 145)) : MC mode T U n W t w D (v.bind fun x => v2.bind fun y => opS s x y) := by
  have k1 := c.1
  have k2 := c2.1
  refine ⟨by omega, fun N M base d hN X hd l b hl => ?_⟩
  obtain ⟨y, b', k, hk, e, o⟩ := c.2 N M base d hN X hd l b hl
  have hl' := OUT_b hl o
  obtain ⟨y2, b2, e2, o2⟩ := c2.2 N M base d hN X hd l b' hl'
  have hl2 := OUT_b hl' o2
  have x3 := X.1.2.2.1
  obtain ⟨m, hm⟩ : ∃ m, N - k = m + 1 := ⟨N - k - 1, by omega⟩
  have hm2 : N - (k + 1) = m := by omega
  have ca := m_codeAt X (base + u) b' u (by omega)
  have cu : ctk T n u = T u := if_pos (by omega)
  have e2' : g_X9_sumOf N d 1 (mS M (base + u + 1) b') l = some (y2, mS M (base + w) b2) := e2
  rcases hs with ⟨rfl, ht⟩ | ⟨rfl, ht⟩
  · obtain ⟨y3, b3, e3, o3⟩ := m_bnd N M (base + w) (y + y2) l b2 hl2
    refine ⟨y3, b3, k + 1, by omega, ?_, OUT_op (fo := fun a b => a + b) o o2 o3 (fun _ _ _ _ => rfl)⟩
    rw [e, hm, hm2, f_X9_sumOf_6]
    rw [cu, ht] at ca
    simp (disch := omega) only [mS_22, ca, f_X9_sign, f_X9_sumOf_38, f_X9_sumOf_59, mS_g, e2', f_X9_sumOf_95, e3, ↓pl_bd, pl_ob, pl_ob1, pl_obv, pl_oa, pl_oav, pl_cg, pl_cb0, pl_cb1, pl_nl0, pl_nls, li, nI_cl, pl_ck, nI_E, nI_L, nI_T, nI_add, pk_mul, Nat.zero_add, Nat.add_zero, Nat.reduceAdd, Nat.reduceMul, Nat.reduceSub, Nat.reduceEqDiff, Nat.reduceLeDiff, Nat.reduceLT, ↓reduceIte]
  · obtain ⟨y3, b3, e3, o3⟩ := m_bnd N M (base + w) (y - y2) l b2 hl2
    refine ⟨y3, b3, k + 1, by omega, ?_, OUT_op (fo := fun a b => a - b) o o2 o3 (fun _ _ _ _ => rfl)⟩
    rw [e, hm, hm2, f_X9_sumOf_6]
    rw [cu, ht] at ca
    simp (disch := omega) only [mS_22, ca, f_X9_sign, f_X9_sumOf_38, f_X9_sumOf_59, mS_g, e2', f_X9_sumOf_95, e3, ↓pl_bd, pl_ob, pl_ob1, pl_obv, pl_oa, pl_oav, pl_cg, pl_cb0, pl_cb1, pl_nl0, pl_nls, li, nI_cl, pl_ck, nI_E, nI_L, nI_T, nI_add, pk_mul, Nat.zero_add, Nat.add_zero, Nat.reduceAdd, Nat.reduceMul, Nat.reduceSub, Nat.reduceEqDiff, Nat.reduceLeDiff, Nat.reduceLT, ↓reduceIte]
theorem MC_done {t u D : Nat} {v : Option Int32} (c : MC mode T U n W t u D v) (h1 : ¬ ctk T n u = nI 143) (h2 : ¬ ctk T n u = nI 145) : ME mode 0 T U n W t u (D + 1) v := by
  have k1 := c.1
  refine ⟨c.1, fun N M base d hN X hd l b hl => ?_⟩
  obtain ⟨d', rfl⟩ : ∃ d', d = d' + 1 := ⟨d - 1, by omega⟩
  obtain ⟨y, b', k, hk, e, o⟩ := c.2 N M base d' hN X (by omega) l b hl
  refine ⟨y, b', ?_, o⟩
  have x3 := X.1.2.2.1
  have x4 := X.1.2.2.2
  obtain ⟨m, hm⟩ : ∃ m, N - k = m + 1 := ⟨N - k - 1, by omega⟩
  have ca := m_codeAt X (base + u) b' u (by omega)
  rw [e, hm, f_X9_sumOf_6]
  simp (disch := omega) only [mS_22, ca, f_X9_sign, h1, h2, ↓pl_bd, pl_ob, pl_ob1, pl_obv, pl_oa, pl_oav, pl_cg, pl_cb0, pl_cb1, pl_nl0, pl_nls, li, nI_cl, pl_ck, nI_E, nI_L, nI_T, nI_add, pk_mul, Nat.zero_add, Nat.add_zero, Nat.reduceAdd, Nat.reduceMul, Nat.reduceSub, Nat.reduceEqDiff, Nat.reduceLeDiff, Nat.reduceLT, ↓reduceIte]
/-! terms -/
theorem opS_6 (x y : Int32) (h : ¬ y.toInt64 = 0) : opS 6 x y = bdV (x.toInt64 / y.toInt64) := by
  simp only [opS, opV, h, ↓reduceIte, Nat.reduceEqDiff, Option.bind_some]
theorem opS_7 (x y : Int32) (h : ¬ y.toInt64 = 0) : opS 7 x y = bdV (x.toInt64 - x.toInt64 / y.toInt64 * y.toInt64) := by
  simp only [opS, opV, h, ↓reduceIte, Nat.reduceEqDiff, Option.bind_some]
def MD (mode : Nat) (T U : Nat → Int32) (n : Nat) (W : Nat → Int32) (t u D : Nat) (v : Option Int32) : Prop := (t < u ∧ u ≤ n) ∧ ∀ (N : Nat) (M : Vt) (base d : Nat), 20000 ≤ N → MX N mode M base n T U W → D ≤ d → ∀ l b, lv l b → ∃ y b' k, k ≤ u - t ∧ g_X9_sumOf N (d + 1) 1 (mS M (base + t) b) l = f_X9_termOf_6 N (g_X9_sumOf N d) (N - k) (mS M (base + u) b') l y ∧ OUT l b v y b'
theorem MD_first {t u D : Nat} {v : Option Int32} (c : ME mode 2 T U n W t u D v) : MD mode T U n W t u D v := by
  refine ⟨c.1, fun N M base d hN X hd l b hl => ?_⟩
  obtain ⟨y, b', e, o⟩ := c.2 N M base d hN X hd l b hl
  refine ⟨y, b', 0, Nat.zero_le _, ?_, o⟩
  show f_X9_termOf N (g_X9_sumOf N d) (mS M (base + t) b) l = _
  unfold f_X9_termOf
  rw [e, pl_ob]; rfl
theorem MD_step {t u w D s : Nat} {v v2 : Option Int32} (c : MD mode T U n W t u D v) (c2 : ME mode 2 T U n W (u + 1) w D v2) (hs : (s = 5 ∧ T u = nI 142) ∨ (s = 6 ∧ T u = nI 147) ∨ (s = 7 ∧ T u = nI 137)) : MD mode T U n W t w D (v.bind fun x => v2.bind fun y => opS s x y) := by
  have k1 := c.1
  have k2 := c2.1
  refine ⟨by omega, fun N M base d hN X hd l b hl => ?_⟩
  obtain ⟨y, b', k, hk, e, o⟩ := c.2 N M base d hN X hd l b hl
  have hl' := OUT_b hl o
  obtain ⟨y2, b2, e2, o2⟩ := c2.2 N M base d hN X hd l b' hl'
  have hl2 := OUT_b hl' o2
  have x3 := X.1.2.2.1
  obtain ⟨m, hm⟩ : ∃ m, N - k = m + 1 := ⟨N - k - 1, by omega⟩
  have hm2 : N - (k + 1) = m := by omega
  have ca := m_codeAt X (base + u) b' u (by omega)
  have cu : ctk T n u = T u := if_pos (by omega)
  have e2' : g_X9_sumOf N d 2 (mS M (base + u + 1) b') l = some (y2, mS M (base + w) b2) := e2
  have z1 : ∀ (a b : Int64), (lg_cmp a b = nI 0) = (a = b) := fun a b => lg_eq a b
  rcases hs with ⟨rfl, ht⟩ | hs
  · obtain ⟨y3, b3, e3, o3⟩ := m_bnd N M (base + w) (y * y2) l b2 hl2
    refine ⟨y3, b3, k + 1, by omega, ?_, OUT_op (fo := fun a b => a * b) o o2 o3 (fun _ _ _ _ => rfl)⟩
    rw [e, hm, hm2, f_X9_termOf_6]
    rw [cu, ht] at ca
    simp (disch := omega) only [mS_22, ca, f_X9_sign, f_X9_termOf_54, f_X9_termOf_121, mS_g, e2', f_X9_termOf_160, e3, ↓pl_bd, pl_ob, pl_ob1, pl_obv, pl_oa, pl_oav, pl_cg, pl_cb0, pl_cb1, pl_nl0, pl_nls, li, nI_cl, pl_ck, nI_E, nI_L, nI_T, nI_add, pk_mul, Nat.zero_add, Nat.add_zero, Nat.reduceAdd, Nat.reduceMul, Nat.reduceSub, Nat.reduceEqDiff, Nat.reduceLeDiff, Nat.reduceLT, ↓reduceIte]
  · by_cases hz : y2 = 0
    · -- nothing to divide by
      have hb : ∃ b4, (b4 = if l = nI 0 then b2 else nI 1) ∧ lv l b4 := ⟨_, rfl, hl.1, by split; exact hl2.2; exact Or.inr rfl⟩
      obtain ⟨b4, hb4, hl4⟩ := hb
      have fin : ∀ w4 : Int64, ∃ y3 b3, f_X9_bounded N (mS M (base + w) b4) w4 l = some (y3, mS M (base + w) b3) ∧ OUT l b (v.bind fun x => v2.bind fun y => opS s x y) y3 b3 := by
        intro w4
        obtain ⟨y3, b3, e3, o3⟩ := m_bnd N M (base + w) w4 l b4 hl4
        refine ⟨y3, b3, e3, ?_⟩
        have so : ∀ x1 : Int32, ∀ x2 : Int32, x2.toInt64 = 0 → opS s x1 x2 = none := by
          intro x1 x2 h0
          rcases hs with ⟨rfl, -⟩ | ⟨rfl, -⟩ <;> simp [opS, opV, h0]
        rcases hl.1 with h0 | h1
        · rw [if_pos h0] at hb4
          have d2 : b2 = b' := by rcases o2 with ⟨h, -⟩ | ⟨-, h⟩; exact absurd (h0.symm.trans h) (by decide); exact h
          have d1 : b' = b := by rcases o with ⟨h, -⟩ | ⟨-, h⟩; exact absurd (h0.symm.trans h) (by decide); exact h
          have d3 : b3 = b4 := by rcases o3 with ⟨h, -⟩ | ⟨-, h⟩; exact absurd (h0.symm.trans h) (by decide); exact h
          exact Or.inr ⟨Or.inl h0, by rw [d3, hb4, d2, d1]⟩
        · have h10 : ¬ l = nI 0 := by rw [h1]; decide
          rw [if_neg h10] at hb4
          have d3 : b3 = nI 1 := by rcases o3 with ⟨-, h, -⟩ | ⟨-, h⟩; exact absurd (hb4.symm.trans h) (by decide); exact h.trans hb4
          rcases hl.2 with hb0 | hb1
          · refine Or.inl ⟨h1, hb0, Or.inr ⟨?_, d3⟩⟩
            rcases o with ⟨-, -, ⟨x1, rfl, -, rfl⟩ | ⟨rfl, -⟩⟩ | ⟨q, -⟩
            · rcases o2 with ⟨-, -, ⟨x2, rfl, q2, -⟩ | ⟨rfl, -⟩⟩ | ⟨q, -⟩
              · exact so x1 x2 (q2.symm.trans hz)
              · rfl
              · rw [h1] at q; exact absurd q (by decide)
            · rfl
            · rw [h1, hb0] at q; exact absurd q (by decide)
          · exact Or.inr ⟨Or.inr hb1, by rw [d3, hb1]⟩
      have go : ∀ c : Nat, (c = 147 ∨ c = 137) → T u = nI c → ∃ y3 b3, f_X9_termOf_54 N (g_X9_sumOf N d) (f_X9_termOf_6 N (g_X9_sumOf N d) m) (mS M (base + u) b') l y = f_X9_termOf_6 N (g_X9_sumOf N d) m (mS M (base + w) b3) l y3 ∧ OUT l b (v.bind fun x => v2.bind fun y => opS s x y) y3 b3 := by
        intro c hc ht
        rw [cu, ht] at ca
        have n42 : ¬ c = 142 := by omega
        obtain ⟨y3, b3, e3, o3⟩ := fin (if c = 147 then y / 1 else y - y / 1 * 1)
        refine ⟨y3, b3, ?_, o3⟩
        have st : f_X9_termOf_54 N (g_X9_sumOf N d) (f_X9_termOf_6 N (g_X9_sumOf N d) m) (mS M (base + u) b') l y = f_X9_termOf_121 N (g_X9_sumOf N d) (f_X9_termOf_6 N (g_X9_sumOf N d) m) (mS M (base + w) b4) l y (nI c) 1 := by
          unfold f_X9_termOf_54
          rcases hl.1 with h0 | h1
          · rw [if_pos h0] at hb4
            subst hb4
            rcases hl4.2 with hb | hb
            · subst hb; subst h0
              simp (disch := omega) only [mS_22, ca, f_X9_sign, mS_g, e2', z1, hz, n42, mS_24, f_X9_termOf_115, f_X9_termOf_110, mS_b, ↓pl_bd, pl_ob, pl_ob1, pl_obv, pl_oa, pl_oav, pl_cg, pl_cb0, pl_cb1, pl_nl0, pl_nls, li, nI_cl, pl_ck, nI_E, nI_L, nI_T, nI_add, pk_mul, Nat.zero_add, Nat.add_zero, Nat.reduceAdd, Nat.reduceMul, Nat.reduceSub, Nat.reduceEqDiff, Nat.reduceLeDiff, Nat.reduceLT, ↓reduceIte]
              try rfl
            · subst hb; subst h0
              simp (disch := omega) only [mS_22, ca, f_X9_sign, mS_g, e2', z1, hz, n42, mS_24, f_X9_termOf_115, f_X9_termOf_110, mS_b, ↓pl_bd, pl_ob, pl_ob1, pl_obv, pl_oa, pl_oav, pl_cg, pl_cb0, pl_cb1, pl_nl0, pl_nls, li, nI_cl, pl_ck, nI_E, nI_L, nI_T, nI_add, pk_mul, Nat.zero_add, Nat.add_zero, Nat.reduceAdd, Nat.reduceMul, Nat.reduceSub, Nat.reduceEqDiff, Nat.reduceLeDiff, Nat.reduceLT, ↓reduceIte]
              try rfl
          · have h10 : ¬ l = nI 0 := by rw [h1]; decide
            rw [if_neg h10] at hb4
            subst hb4
            subst h1
            rcases hl2.2 with hb | hb
            · subst hb
              simp (disch := omega) only [mS_22, ca, f_X9_sign, mS_g, e2', z1, hz, n42, mS_24, f_X9_termOf_115, f_X9_termOf_110, mS_b, ↓pl_bd, pl_ob, pl_ob1, pl_obv, pl_oa, pl_oav, pl_cg, pl_cb0, pl_cb1, pl_nl0, pl_nls, li, nI_cl, pl_ck, nI_E, nI_L, nI_T, nI_add, pk_mul, Nat.zero_add, Nat.add_zero, Nat.reduceAdd, Nat.reduceMul, Nat.reduceSub, Nat.reduceEqDiff, Nat.reduceLeDiff, Nat.reduceLT, ↓reduceIte]
              try rfl
            · subst hb
              simp (disch := omega) only [mS_22, ca, f_X9_sign, mS_g, e2', z1, hz, n42, mS_24, f_X9_termOf_115, f_X9_termOf_110, mS_b, ↓pl_bd, pl_ob, pl_ob1, pl_obv, pl_oa, pl_oav, pl_cg, pl_cb0, pl_cb1, pl_nl0, pl_nls, li, nI_cl, pl_ck, nI_E, nI_L, nI_T, nI_add, pk_mul, Nat.zero_add, Nat.add_zero, Nat.reduceAdd, Nat.reduceMul, Nat.reduceSub, Nat.reduceEqDiff, Nat.reduceLeDiff, Nat.reduceLT, ↓reduceIte]
              try rfl
        rw [st]
        have one : ¬ (1 : Int64) = 0 := by decide
        rcases hc with rfl | rfl
        · rw [if_pos rfl] at e3
          unfold f_X9_termOf_121
          simp (disch := omega) only [f_X9_sign, czl, one, f_X9_termOf_160, e3, ↓pl_bd, pl_ob, pl_ob1, pl_obv, pl_oa, pl_oav, pl_cg, pl_cb0, pl_cb1, pl_nl0, pl_nls, li, nI_cl, pl_ck, nI_E, nI_L, nI_T, nI_add, pk_mul, Nat.zero_add, Nat.add_zero, Nat.reduceAdd, Nat.reduceMul, Nat.reduceSub, Nat.reduceEqDiff, Nat.reduceLeDiff, Nat.reduceLT, ↓reduceIte]
        · rw [if_neg (by omega)] at e3
          unfold f_X9_termOf_121
          simp (disch := omega) only [f_X9_sign, czl, one, f_X9_termOf_160, e3, ↓pl_bd, pl_ob, pl_ob1, pl_obv, pl_oa, pl_oav, pl_cg, pl_cb0, pl_cb1, pl_nl0, pl_nls, li, nI_cl, pl_ck, nI_E, nI_L, nI_T, nI_add, pk_mul, Nat.zero_add, Nat.add_zero, Nat.reduceAdd, Nat.reduceMul, Nat.reduceSub, Nat.reduceEqDiff, Nat.reduceLeDiff, Nat.reduceLT, ↓reduceIte]
      rcases hs with ⟨rfl, ht⟩ | ⟨rfl, ht⟩
      · obtain ⟨y3, b3, e3, o3⟩ := go 147 (Or.inl rfl) ht
        refine ⟨y3, b3, k + 1, by omega, ?_, o3⟩
        rw [cu, ht] at ca
        rw [e, hm, hm2, f_X9_termOf_6, ← e3]
        simp (disch := omega) only [mS_22, ca, f_X9_sign, ↓pl_bd, pl_ob, pl_ob1, pl_obv, pl_oa, pl_oav, pl_cg, pl_cb0, pl_cb1, pl_nl0, pl_nls, li, nI_cl, pl_ck, nI_E, nI_L, nI_T, nI_add, pk_mul, Nat.zero_add, Nat.add_zero, Nat.reduceAdd, Nat.reduceMul, Nat.reduceSub, Nat.reduceEqDiff, Nat.reduceLeDiff, Nat.reduceLT, ↓reduceIte]
      · obtain ⟨y3, b3, e3, o3⟩ := go 137 (Or.inr rfl) ht
        refine ⟨y3, b3, k + 1, by omega, ?_, o3⟩
        rw [cu, ht] at ca
        rw [e, hm, hm2, f_X9_termOf_6, ← e3]
        simp (disch := omega) only [mS_22, ca, f_X9_sign, ↓pl_bd, pl_ob, pl_ob1, pl_obv, pl_oa, pl_oav, pl_cg, pl_cb0, pl_cb1, pl_nl0, pl_nls, li, nI_cl, pl_ck, nI_E, nI_L, nI_T, nI_add, pk_mul, Nat.zero_add, Nat.add_zero, Nat.reduceAdd, Nat.reduceMul, Nat.reduceSub, Nat.reduceEqDiff, Nat.reduceLeDiff, Nat.reduceLT, ↓reduceIte]
    · have nz : ∀ x2 : Int32, v2 = some x2 → (∃ x1, v = some x1) → l = nI 1 → b = nI 0 → ¬ x2.toInt64 = 0 := by
        intro x2 h2 ⟨x1, h1⟩ hl1 hb0 h0
        rcases o with ⟨-, -, ⟨x, -, -, rfl⟩ | ⟨h, -⟩⟩ | ⟨q, -⟩
        · rcases o2 with ⟨-, -, ⟨x', h, q2, -⟩ | ⟨h, -⟩⟩ | ⟨q, -⟩
          · rw [h2] at h; cases h; exact hz (q2.trans h0)
          · rw [h2] at h; cases h
          · rw [hl1] at q; exact absurd q (by decide)
        · rw [h1] at h; cases h
        · rw [hl1, hb0] at q; exact absurd q (by decide)
      have oo : ∀ {y3 b3}, OUT l b2 (bdV (if s = 6 then y / y2 else y - y / y2 * y2)) y3 b3 → OUT l b (v.bind fun x => v2.bind fun y => opS s x y) y3 b3 := by
        intro y3 b3 o3
        by_cases act : l = nI 1 ∧ b = nI 0
        · rcases hs with ⟨rfl, -⟩ | ⟨rfl, -⟩
          · exact OUT_op (fo := fun a b => a / b) o o2 o3 (fun x1 x2 h1 h2 => opS_6 x1 x2 (nz x2 h2 ⟨x1, h1⟩ act.1 act.2))
          · exact OUT_op (fo := fun a b => a - a / b * b) o o2 o3 (fun x1 x2 h1 h2 => opS_7 x1 x2 (nz x2 h2 ⟨x1, h1⟩ act.1 act.2))
        · have hd : l = nI 0 ∨ b = nI 1 := by
            rcases hl with ⟨h1 | h1, h2 | h2⟩
            · exact Or.inl h1
            · exact Or.inl h1
            · exact absurd ⟨h1, h2⟩ act
            · exact Or.inr h2
          have d1 : b' = b := by rcases o with ⟨h, h', -⟩ | ⟨-, h⟩; exact absurd ⟨h, h'⟩ act; exact h
          have d2 : b2 = b' := by rcases o2 with ⟨h, h', -⟩ | ⟨-, h⟩; exact absurd ⟨h, d1.symm.trans h'⟩ act; exact h
          have d3 : b3 = b2 := by rcases o3 with ⟨h, h', -⟩ | ⟨-, h⟩; exact absurd ⟨h, (d2.trans d1).symm.trans h'⟩ act; exact h
          exact Or.inr ⟨hd, by rw [d3, d2, d1]⟩
      have go : ∀ c : Nat, ((c = 147 ∧ s = 6) ∨ (c = 137 ∧ s = 7)) → T u = nI c → ∃ y3 b3, f_X9_termOf_54 N (g_X9_sumOf N d) (f_X9_termOf_6 N (g_X9_sumOf N d) m) (mS M (base + u) b') l y = f_X9_termOf_6 N (g_X9_sumOf N d) m (mS M (base + w) b3) l y3 ∧ OUT l b (v.bind fun x => v2.bind fun y => opS s x y) y3 b3 := by
        intro c hc ht
        rw [cu, ht] at ca
        have n42 : ¬ c = 142 := by omega
        obtain ⟨y3, b3, e3, o3⟩ := m_bnd N M (base + w) (if s = 6 then y / y2 else y - y / y2 * y2) l b2 hl2
        refine ⟨y3, b3, ?_, oo o3⟩
        have st : f_X9_termOf_54 N (g_X9_sumOf N d) (f_X9_termOf_6 N (g_X9_sumOf N d) m) (mS M (base + u) b') l y = f_X9_termOf_121 N (g_X9_sumOf N d) (f_X9_termOf_6 N (g_X9_sumOf N d) m) (mS M (base + w) b2) l y (nI c) y2 := by
          unfold f_X9_termOf_54
          simp (disch := omega) only [mS_22, ca, f_X9_sign, mS_g, e2', z1, hz, n42, ↓pl_bd, pl_ob, pl_ob1, pl_obv, pl_oa, pl_oav, pl_cg, pl_cb0, pl_cb1, pl_nl0, pl_nls, li, nI_cl, pl_ck, nI_E, nI_L, nI_T, nI_add, pk_mul, Nat.zero_add, Nat.add_zero, Nat.reduceAdd, Nat.reduceMul, Nat.reduceSub, Nat.reduceEqDiff, Nat.reduceLeDiff, Nat.reduceLT, ↓reduceIte]
        rw [st]
        unfold f_X9_termOf_121 f_X9_termOf_160 f_X9_sign
        rcases hc with ⟨rfl, rfl⟩ | ⟨rfl, rfl⟩
        · rw [if_pos rfl] at e3
          rw [pl_ob1, if_neg (by decide), pl_ob1, if_pos (by decide), czl, if_neg hz, e3, pl_ob]
        · rw [if_neg (by omega)] at e3
          rw [pl_ob1, if_neg (by decide), pl_ob1, if_neg (by decide), czl, if_neg hz, e3, pl_ob]
      rcases hs with ⟨rfl, ht⟩ | ⟨rfl, ht⟩
      · obtain ⟨y3, b3, e3, o3⟩ := go 147 (Or.inl ⟨rfl, rfl⟩) ht
        refine ⟨y3, b3, k + 1, by omega, ?_, o3⟩
        rw [cu, ht] at ca
        rw [e, hm, hm2, f_X9_termOf_6, ← e3]
        simp (disch := omega) only [mS_22, ca, f_X9_sign, ↓pl_bd, pl_ob, pl_ob1, pl_obv, pl_oa, pl_oav, pl_cg, pl_cb0, pl_cb1, pl_nl0, pl_nls, li, nI_cl, pl_ck, nI_E, nI_L, nI_T, nI_add, pk_mul, Nat.zero_add, Nat.add_zero, Nat.reduceAdd, Nat.reduceMul, Nat.reduceSub, Nat.reduceEqDiff, Nat.reduceLeDiff, Nat.reduceLT, ↓reduceIte]
      · obtain ⟨y3, b3, e3, o3⟩ := go 137 (Or.inr ⟨rfl, rfl⟩) ht
        refine ⟨y3, b3, k + 1, by omega, ?_, o3⟩
        rw [cu, ht] at ca
        rw [e, hm, hm2, f_X9_termOf_6, ← e3]
        simp (disch := omega) only [mS_22, ca, f_X9_sign, ↓pl_bd, pl_ob, pl_ob1, pl_obv, pl_oa, pl_oav, pl_cg, pl_cb0, pl_cb1, pl_nl0, pl_nls, li, nI_cl, pl_ck, nI_E, nI_L, nI_T, nI_add, pk_mul, Nat.zero_add, Nat.add_zero, Nat.reduceAdd, Nat.reduceMul, Nat.reduceSub, Nat.reduceEqDiff, Nat.reduceLeDiff, Nat.reduceLT, ↓reduceIte]
theorem MD_done {t u D : Nat} {v : Option Int32} (c : MD mode T U n W t u D v) (h1 : ¬ ctk T n u = nI 142) (h2 : ¬ ctk T n u = nI 147) (h3 : ¬ ctk T n u = nI 137) : ME mode 1 T U n W t u (D + 1) v := by
  have k1 := c.1
  refine ⟨c.1, fun N M base d hN X hd l b hl => ?_⟩
  obtain ⟨d', rfl⟩ : ∃ d', d = d' + 1 := ⟨d - 1, by omega⟩
  obtain ⟨y, b', k, hk, e, o⟩ := c.2 N M base d' hN X (by omega) l b hl
  refine ⟨y, b', ?_, o⟩
  have x3 := X.1.2.2.1
  have x4 := X.1.2.2.2
  obtain ⟨m, hm⟩ : ∃ m, N - k = m + 1 := ⟨N - k - 1, by omega⟩
  have ca := m_codeAt X (base + u) b' u (by omega)
  rw [e, hm, f_X9_termOf_6]
  simp (disch := omega) only [mS_22, ca, f_X9_sign, h1, h2, h3, ↓pl_bd, pl_ob, pl_ob1, pl_obv, pl_oa, pl_oav, pl_cg, pl_cb0, pl_cb1, pl_nl0, pl_nls, li, nI_cl, pl_ck, nI_E, nI_L, nI_T, nI_add, pk_mul, Nat.zero_add, Nat.add_zero, Nat.reduceAdd, Nat.reduceMul, Nat.reduceSub, Nat.reduceEqDiff, Nat.reduceLeDiff, Nat.reduceLT, ↓reduceIte]
end L
end
