section
/-! leaves, brackets, tests of the reference -/
variable {mode : Nat} {T U W : Nat → Int32} {n : Nat}
theorem MX_mode {N mode base n : Nat} {M : Vt} {T U W : Nat → Int32} (X : MX N mode M base n T U W) : mode = 0 ∨ mode = 1 := by
  rcases X.2.2.2 with h | h
  · exact Or.inl h.1
  · exact Or.inr h.1
theorem ME_num {t w : Nat} (ht : t < n) (hT : T t = nI 50) (hU : U t = nI w) (hw : w ≤ 1000) : ME mode 2 T U n W t (t + 1) 1 (some (nI w)) := by
  refine ⟨⟨by omega, by omega⟩, fun N M base d hN X hd l b hl => ?_⟩
  obtain ⟨d', rfl⟩ : ∃ d', d = d' + 1 := ⟨d - 1, by omega⟩
  have x3 := X.1.2.2.1
  have x4 := X.1.2.2.2
  have x1 := X.1.1
  have cu : ctk T n t = nI 50 := (if_pos ht).trans hT
  have pa := m_pass X b t (by omega) (nI 191)
  rw [cu, if_neg (by rw [nI_E (by omega) (by omega)]; omega)] at pa
  have ca := m_codeAt X (base + t) b t (by omega)
  rw [cu] at ca
  have hU' : M.2.1 2 (2915 + (base + t)) = nI w := (X.2.2.1 t ht).trans hU
  have ix : nI (2915 + (base + t + 1)) - nI 1 = nI (2915 + (base + t)) := pk_sub (by omega)
  have key : g_X9_sumOf N (d' + 1) 2 (mS M (base + t) b) l = f_X9_partOf_106 N (g_X9_sumOf N d') (mS M (base + t + 1) b) l (nI 50) (nI 0) := by
    show f_X9_partOf N (g_X9_sumOf N d') (mS M (base + t) b) l = _
    unfold f_X9_partOf
    rcases MX_mode X with rfl | rfl
    · simp (disch := omega) only [f_X9_sign, pa, mS_22, ca, mS_g, mS_25, x1, ↓pl_bd, pl_ob, pl_ob1, pl_obv, pl_oa, pl_oav, pl_cg, pl_cb0, pl_cb1, pl_nl0, pl_nls, li, nI_cl, pl_ck, nI_E, nI_L, nI_T, nI_add, pk_mul, Nat.zero_add, Nat.add_zero, Nat.reduceAdd, Nat.reduceMul, Nat.reduceSub, Nat.reduceEqDiff, Nat.reduceLeDiff, Nat.reduceLT, ↓reduceIte]
    · simp (disch := omega) only [f_X9_sign, pa, mS_22, ca, mS_g, mS_25, x1, ↓pl_bd, pl_ob, pl_ob1, pl_obv, pl_oa, pl_oav, pl_cg, pl_cb0, pl_cb1, pl_nl0, pl_nls, li, nI_cl, pl_ck, nI_E, nI_L, nI_T, nI_add, pk_mul, Nat.zero_add, Nat.add_zero, Nat.reduceAdd, Nat.reduceMul, Nat.reduceSub, Nat.reduceEqDiff, Nat.reduceLeDiff, Nat.reduceLT, ↓reduceIte]
  rw [key]
  unfold f_X9_partOf_106
  obtain ⟨rfl | rfl, rfl | rfl⟩ := hl
  · exact ⟨0, nI 0, rfl, Or.inr ⟨Or.inl rfl, rfl⟩⟩
  · exact ⟨0, nI 1, rfl, Or.inr ⟨Or.inl rfl, rfl⟩⟩
  · refine ⟨(nI w).toInt64, nI 0, ?_, Or.inl ⟨rfl, rfl, Or.inl ⟨_, rfl, rfl, rfl⟩⟩⟩
    simp (disch := omega) only [mS_22, mS_24, ix, mS_2, hU', ↓pl_bd, pl_ob, pl_ob1, pl_obv, pl_oa, pl_oav, pl_cg, pl_cb0, pl_cb1, pl_nl0, pl_nls, li, nI_cl, pl_ck, nI_E, nI_L, nI_T, nI_add, pk_mul, Nat.zero_add, Nat.add_zero, Nat.reduceAdd, Nat.reduceMul, Nat.reduceSub, Nat.reduceEqDiff, Nat.reduceLeDiff, Nat.reduceLT, ↓reduceIte]
    rfl
  · exact ⟨0, nI 1, rfl, Or.inr ⟨Or.inr rfl, rfl⟩⟩
theorem ME_lw {t c : Nat} (ht : t < n) (hT : T t = nI (9 + c)) (hc : c < 10) : ME 0 2 T U n W t (t + 1) 1 (some (W (wl c))) := by
  refine ⟨⟨by omega, by omega⟩, fun N M base d hN X hd l b hl => ?_⟩
  obtain ⟨d', rfl⟩ : ∃ d', d = d' + 1 := ⟨d - 1, by omega⟩
  have x3 := X.1.2.2.1
  have x4 := X.1.2.2.2
  have x1 := X.1.1
  have cu : ctk T n t = nI (9 + c) := (if_pos ht).trans hT
  have pa := m_pass X b t (by omega) (nI 191)
  rw [cu, if_neg (by rw [nI_E (by omega) (by omega)]; omega)] at pa
  have ca := m_codeAt X (base + t) b t (by omega)
  rw [cu] at ca
  have hW : M.2.1 12 c = W (wl c) := by
    rcases X.2.2.2 with h | h
    · exact h.2 c hc
    · exact absurd h.1 (by omega)
  have ix : nI (9 + c) - nI 9 = nI c := by rw [pk_sub (by omega)]; congr 1; omega
  have n50 : ¬ 9 + c = 50 := by omega
  have key : g_X9_sumOf N (d' + 1) 2 (mS M (base + t) b) l = f_X9_partOf_106 N (g_X9_sumOf N d') (mS M (base + t + 1) b) l (nI (9 + c)) (nI 0) := by
    show f_X9_partOf N (g_X9_sumOf N d') (mS M (base + t) b) l = _
    unfold f_X9_partOf
    simp (disch := omega) only [f_X9_sign, pa, mS_22, ca, mS_g, mS_25, x1, ↓pl_bd, pl_ob, pl_ob1, pl_obv, pl_oa, pl_oav, pl_cg, pl_cb0, pl_cb1, pl_nl0, pl_nls, li, nI_cl, pl_ck, nI_E, nI_L, nI_T, nI_add, pk_mul, Nat.zero_add, Nat.add_zero, Nat.reduceAdd, Nat.reduceMul, Nat.reduceSub, Nat.reduceEqDiff, Nat.reduceLeDiff, Nat.reduceLT, ↓reduceIte]
  rw [key]
  unfold f_X9_partOf_106
  obtain ⟨rfl | rfl, rfl | rfl⟩ := hl
  · exact ⟨0, nI 0, rfl, Or.inr ⟨Or.inl rfl, rfl⟩⟩
  · exact ⟨0, nI 1, rfl, Or.inr ⟨Or.inl rfl, rfl⟩⟩
  · refine ⟨(W (wl c)).toInt64, nI 0, ?_, Or.inl ⟨rfl, rfl, Or.inl ⟨_, rfl, rfl, rfl⟩⟩⟩
    simp (disch := omega) only [mS_22, mS_24, mS_25, x1, ix, mS_2, hW, n50, ↓pl_bd, pl_ob, pl_ob1, pl_obv, pl_oa, pl_oav, pl_cg, pl_cb0, pl_cb1, pl_nl0, pl_nls, li, nI_cl, pl_ck, nI_E, nI_L, nI_T, nI_add, pk_mul, Nat.zero_add, Nat.add_zero, Nat.reduceAdd, Nat.reduceMul, Nat.reduceSub, Nat.reduceEqDiff, Nat.reduceLeDiff, Nat.reduceLT, ↓reduceIte]
    rfl
  · exact ⟨0, nI 1, rfl, Or.inr ⟨Or.inr rfl, rfl⟩⟩
/-- a word of orders without a number -/
theorem ME_o1 {t c : Nat} (ht : t < n) (hT : T t = nI c) (hc : c = 18 ∨ c = 19 ∨ c = 20) : ME 1 2 T U n W t (t + 1) 1 (some (W (wo c 0))) := by
  refine ⟨⟨by omega, by omega⟩, fun N M base d hN X hd l b hl => ?_⟩
  obtain ⟨d', rfl⟩ : ∃ d', d = d' + 1 := ⟨d - 1, by omega⟩
  have x3 := X.1.2.2.1
  have x4 := X.1.2.2.2
  have x1 := X.1.1
  have cu : ctk T n t = nI c := (if_pos ht).trans hT
  have pa := m_pass X b t (by omega) (nI 191)
  rw [cu, if_neg (by rw [nI_E (by omega) (by omega)]; omega)] at pa
  have ca := m_codeAt X (base + t) b t (by omega)
  rw [cu] at ca
  have hW : ∀ g b, f_X9_orderValue N (mS M g b) (nI c) (nI 0) = some (W (wo c 0)) := by
    rcases X.2.2.2 with h | h
    · exact absurd h.1 (by omega)
    · exact fun g b => h.2 c 0 (Or.inr (Or.inr hc)) g b
  have n50 : ¬ c = 50 := by omega
  have n15 : ¬ c = 15 := by omega
  have n16 : ¬ c = 16 := by omega
  have n17 : ¬ c = 17 := by omega
  have n21 : ¬ c = 21 := by omega
  have key : g_X9_sumOf N (d' + 1) 2 (mS M (base + t) b) l = f_X9_partOf_106 N (g_X9_sumOf N d') (mS M (base + t + 1) b) l (nI c) (nI 0) := by
    show f_X9_partOf N (g_X9_sumOf N d') (mS M (base + t) b) l = _
    unfold f_X9_partOf
    simp (disch := omega) only [f_X9_sign, pa, mS_22, ca, mS_g, mS_25, x1, n15, n16, n17, n21, ↓pl_bd, pl_ob, pl_ob1, pl_obv, pl_oa, pl_oav, pl_cg, pl_cb0, pl_cb1, pl_nl0, pl_nls, li, nI_cl, pl_ck, nI_E, nI_L, nI_T, nI_add, pk_mul, Nat.zero_add, Nat.add_zero, Nat.reduceAdd, Nat.reduceMul, Nat.reduceSub, Nat.reduceEqDiff, Nat.reduceLeDiff, Nat.reduceLT, ↓reduceIte]
  rw [key]
  unfold f_X9_partOf_106
  obtain ⟨rfl | rfl, rfl | rfl⟩ := hl
  · exact ⟨0, nI 0, rfl, Or.inr ⟨Or.inl rfl, rfl⟩⟩
  · exact ⟨0, nI 1, rfl, Or.inr ⟨Or.inl rfl, rfl⟩⟩
  · refine ⟨(W (wo c 0)).toInt64, nI 0, ?_, Or.inl ⟨rfl, rfl, Or.inl ⟨_, rfl, rfl, rfl⟩⟩⟩
    simp (disch := omega) only [mS_22, mS_24, mS_25, x1, hW, n50, ↓pl_bd, pl_ob, pl_ob1, pl_obv, pl_oa, pl_oav, pl_cg, pl_cb0, pl_cb1, pl_nl0, pl_nls, li, nI_cl, pl_ck, nI_E, nI_L, nI_T, nI_add, pk_mul, Nat.zero_add, Nat.add_zero, Nat.reduceAdd, Nat.reduceMul, Nat.reduceSub, Nat.reduceEqDiff, Nat.reduceLeDiff, Nat.reduceLT, ↓reduceIte]
    rfl
  · exact ⟨0, nI 1, rfl, Or.inr ⟨Or.inr rfl, rfl⟩⟩
/-- a word of orders with its number -/
theorem ME_o2 {t c k : Nat} (ht : t + 1 < n) (hT : T t = nI c) (hU : U (t + 1) = nI k) (hc : (c = 15 ∧ k < 25) ∨ ((c = 16 ∨ c = 17 ∨ c = 21) ∧ k < 5)) : ME 1 2 T U n W t (t + 2) 1 (some (W (wo c k))) := by
  refine ⟨⟨by omega, by omega⟩, fun N M base d hN X hd l b hl => ?_⟩
  obtain ⟨d', rfl⟩ : ∃ d', d = d' + 1 := ⟨d - 1, by omega⟩
  have x3 := X.1.2.2.1
  have x4 := X.1.2.2.2
  have x1 := X.1.1
  have cu : ctk T n t = nI c := (if_pos (by omega)).trans hT
  have pa := m_pass X b t (by omega) (nI 191)
  rw [cu, if_neg (by rw [nI_E (by omega) (by omega)]; omega)] at pa
  have ca := m_codeAt X (base + t) b t (by omega)
  rw [cu] at ca
  have hW : ∀ g b, f_X9_orderValue N (mS M g b) (nI c) (nI k) = some (W (wo c k)) := by
    rcases X.2.2.2 with h | h
    · exact absurd h.1 (by omega)
    · exact fun g b => h.2 c k (by rcases hc with h | h; exact Or.inl h; exact Or.inr (Or.inl h)) g b
  have hU' : M.2.1 2 (2915 + (base + t + 1)) = nI k := (X.2.2.1 (t + 1) ht).trans hU
  have n50 : ¬ c = 50 := by omega
  have hc4 : c = 15 ∨ c = 16 ∨ c = 17 ∨ c = 21 := by omega
  have key : g_X9_sumOf N (d' + 1) 2 (mS M (base + t) b) l = f_X9_partOf_106 N (g_X9_sumOf N d') (mS M (base + t + 1 + 1) b) l (nI c) (nI k) := by
    show f_X9_partOf N (g_X9_sumOf N d') (mS M (base + t) b) l = _
    unfold f_X9_partOf
    rcases hc4 with rfl | rfl | rfl | rfl <;> simp (disch := omega) only [f_X9_sign, pa, mS_22, ca, mS_g, mS_25, x1, f_X9_partOf_82, mS_2, hU', ↓pl_bd, pl_ob, pl_ob1, pl_obv, pl_oa, pl_oav, pl_cg, pl_cb0, pl_cb1, pl_nl0, pl_nls, li, nI_cl, pl_ck, nI_E, nI_L, nI_T, nI_add, pk_mul, Nat.zero_add, Nat.add_zero, Nat.reduceAdd, Nat.reduceMul, Nat.reduceSub, Nat.reduceEqDiff, Nat.reduceLeDiff, Nat.reduceLT, ↓reduceIte]
  rw [key]
  unfold f_X9_partOf_106
  obtain ⟨rfl | rfl, rfl | rfl⟩ := hl
  · exact ⟨0, nI 0, rfl, Or.inr ⟨Or.inl rfl, rfl⟩⟩
  · exact ⟨0, nI 1, rfl, Or.inr ⟨Or.inl rfl, rfl⟩⟩
  · refine ⟨(W (wo c k)).toInt64, nI 0, ?_, Or.inl ⟨rfl, rfl, Or.inl ⟨_, rfl, rfl, rfl⟩⟩⟩
    simp (disch := omega) only [mS_22, mS_24, mS_25, x1, hW, n50, ↓pl_bd, pl_ob, pl_ob1, pl_obv, pl_oa, pl_oav, pl_cg, pl_cb0, pl_cb1, pl_nl0, pl_nls, li, nI_cl, pl_ck, nI_E, nI_L, nI_T, nI_add, pk_mul, Nat.zero_add, Nat.add_zero, Nat.reduceAdd, Nat.reduceMul, Nat.reduceSub, Nat.reduceEqDiff, Nat.reduceLeDiff, Nat.reduceLT, ↓reduceIte]
    rfl
  · exact ⟨0, nI 1, rfl, Or.inr ⟨Or.inr rfl, rfl⟩⟩
theorem ME_br {t u D : Nat} {v : Option Int32} (c : ME mode 0 T U n W (t + 1) u D v) (hT : T t = nI 191) (hu : u < n) : ME mode 2 T U n W t (u + 1) (D + 1) v := by
  have k1 := c.1
  refine ⟨⟨by omega, by omega⟩, fun N M base d hN X hd l b hl => ?_⟩
  obtain ⟨d', rfl⟩ : ∃ d', d = d' + 1 := ⟨d - 1, by omega⟩
  obtain ⟨y, b', e, o⟩ := c.2 N M base d' hN X (by omega) l b hl
  have x3 := X.1.2.2.1
  have cu : ctk T n t = nI 191 := (if_pos (by omega)).trans hT
  have pa := m_pass X b t (by omega) (nI 191)
  rw [cu, if_pos rfl] at pa
  refine ⟨y, b', ?_, o⟩
  show f_X9_partOf N (g_X9_sumOf N d') (mS M (base + t) b) l = _
  unfold f_X9_partOf
  simp (disch := omega) only [f_X9_sign, pa, e, mS_22, mS_g, ↓pl_bd, pl_ob, pl_ob1, pl_obv, pl_oa, pl_oav, pl_cg, pl_cb0, pl_cb1, pl_nl0, pl_nls, li, nI_cl, pl_ck, nI_E, nI_L, nI_T, nI_add, pk_mul, Nat.zero_add, Nat.add_zero, Nat.reduceAdd, Nat.reduceMul, Nat.reduceSub, Nat.reduceEqDiff, Nat.reduceLeDiff, Nat.reduceLT, ↓reduceIte]
  rfl
def OUTB (l b : Int32) (v : Option Bool) (r b' : Int32) : Prop := (r = nI 0 ∨ r = nI 1) ∧ ((l = nI 1 ∧ b = nI 0 ∧ ((∃ x, v = some x ∧ r = bI x ∧ b' = nI 0) ∨ (v = none ∧ b' = nI 1))) ∨ ((l = nI 0 ∨ b = nI 1) ∧ b' = b))
theorem OUTB_b {l b : Int32} {v : Option Bool} {r b' : Int32} (h : lv l b) (o : OUTB l b v r b') : lv l b' := by
  rcases o.2 with ⟨-, -, ⟨x, -, -, e⟩ | ⟨-, e⟩⟩ | ⟨-, e⟩
  · exact ⟨h.1, Or.inl e⟩
  · exact ⟨h.1, Or.inr e⟩
  · rw [e]; exact h
def MT (mode lev : Nat) (T U : Nat → Int32) (n : Nat) (W : Nat → Int32) (t u D : Nat) (v : Option Bool) : Prop := (t < u ∧ u ≤ n) ∧ ∀ (N : Nat) (M : Vt) (base d : Nat), 20000 ≤ N → MX N mode M base n T U W → D ≤ d → ∀ l b, lv l b → ∃ r b', g_X9_testOf N d lev (mS M (base + t) b) l = some (r, mS M (base + u) b') ∧ OUTB l b v r b'
theorem MT_D {mode lev : Nat} {T U : Nat → Int32} {n : Nat} {W : Nat → Int32} {t u D D' : Nat} {v : Option Bool} (h : D ≤ D') (c : MT mode lev T U n W t u D v) : MT mode lev T U n W t u D' v := ⟨c.1, fun N M base d hN X hd => c.2 N M base d hN X (by omega)⟩
theorem OUTB_j {l b b1 b2 l2 r1 r2 r3 : Int32} {v1 v2 : Option Bool} {z : Bool} (h1 : OUTB l b v1 r1 b1) (h2 : OUTB l2 b1 v2 r2 b2) (hl2 : l2 = if l = nI 0 ∨ r1 = bI z then nI 0 else nI 1) (hr3 : r3 = if r1 = bI z then bI z else r2) : OUTB l b (v1.bind fun a => if a = z then some z else v2) r3 b2 := by
  refine ⟨?_, ?_⟩
  · rw [hr3]; split
    · cases z
      · exact Or.inl rfl
      · exact Or.inr rfl
    · exact h2.1
  rcases h1.2 with ⟨rfl, rfl, ⟨x, rfl, rfl, rfl⟩ | ⟨rfl, rfl⟩⟩ | ⟨hd, rfl⟩
  · refine Or.inl ⟨rfl, rfl, ?_⟩
    by_cases hx : x = z
    · subst hx
      rw [if_pos (Or.inr rfl)] at hl2
      rw [if_pos rfl] at hr3
      subst hl2
      rcases h2.2 with ⟨h, -⟩ | ⟨-, e⟩
      · exact absurd h (by decide)
      · exact Or.inl ⟨x, by simp, hr3, e⟩
    · have hb : ¬ bI x = bI z := by cases x <;> cases z <;> first | exact absurd rfl hx | decide
      rw [if_neg (by intro q; rcases q with q | q; exact absurd q (by decide); exact hb q)] at hl2
      rw [if_neg hb] at hr3
      subst hl2
      rcases h2.2 with ⟨-, -, h⟩ | ⟨h, -⟩
      · rcases h with ⟨y, h1, h2, h3⟩ | ⟨h1, h2⟩
        · exact Or.inl ⟨y, by simp [hx, h1], hr3.trans h2, h3⟩
        · exact Or.inr ⟨by simp [hx, h1], h2⟩
      · exact absurd h (by decide)
  · refine Or.inl ⟨rfl, rfl, Or.inr ⟨rfl, ?_⟩⟩
    rcases h2.2 with ⟨-, h, -⟩ | ⟨-, e⟩
    · exact absurd h (by decide)
    · exact e
  · refine Or.inr ⟨hd, ?_⟩
    rcases h2.2 with ⟨h, h', -⟩ | ⟨-, e⟩
    · exfalso
      rcases hd with hd | hd
      · rw [if_pos (Or.inl hd)] at hl2; rw [hl2] at h; exact absurd h (by decide)
      · rw [hd] at h'; exact absurd h' (by decide)
    · exact e
/-- rows of "or" -/
def MO (mode : Nat) (T U : Nat → Int32) (n : Nat) (W : Nat → Int32) (t u D : Nat) (v : Option Bool) : Prop := (t < u ∧ u ≤ n) ∧ ∀ (N : Nat) (M : Vt) (base d : Nat), 20000 ≤ N → MX N mode M base n T U W → D ≤ d → ∀ l b, lv l b → ∃ r b' k, k ≤ u - t ∧ g_X9_testOf N (d + 1) 0 (mS M (base + t) b) l = f_X9_testOf_6 N (g_X9_testOf N d) (N - k) (mS M (base + u) b') l r ∧ OUTB l b v r b'
theorem MO_first {t u D : Nat} {v : Option Bool} (c : MT mode 1 T U n W t u D v) : MO mode T U n W t u D v := by
  refine ⟨c.1, fun N M base d hN X hd l b hl => ?_⟩
  obtain ⟨y, b', e, o⟩ := c.2 N M base d hN X hd l b hl
  refine ⟨y, b', 0, Nat.zero_le _, ?_, o⟩
  show f_X9_testOf N (g_X9_testOf N d) (mS M (base + t) b) l = _
  unfold f_X9_testOf
  rw [e, pl_ob]; rfl
theorem MO_step {t u w D : Nat} {v v2 : Option Bool} (c : MO mode T U n W t u D v) (c2 : MT mode 1 T U n W (u + 1) w D v2) (hT : T u = nI 6) : MO mode T U n W t w D (v.bind fun a => if a = true then some true else v2) := by
  have k1 := c.1
  have k2 := c2.1
  refine ⟨by omega, fun N M base d hN X hd l b hl => ?_⟩
  obtain ⟨r, b', k, hk, e, o⟩ := c.2 N M base d hN X hd l b hl
  have hl' := OUTB_b hl o
  have x3 := X.1.2.2.1
  obtain ⟨m, hm⟩ : ∃ m, N - k = m + 1 := ⟨N - k - 1, by omega⟩
  have hm2 : N - (k + 1) = m := by omega
  have cu : ctk T n u = nI 6 := (if_pos (by omega)).trans hT
  have pa := m_pass X b' u (by omega) (nI 6)
  rw [cu, if_pos rfl] at pa
  obtain ⟨l2, hl2⟩ : ∃ l2, l2 = if l = nI 0 ∨ r = bI true then nI 0 else nI 1 := ⟨_, rfl⟩
  have hv2 : lv l2 b' := ⟨by rw [hl2]; split; exact Or.inl rfl; exact Or.inr rfl, hl'.2⟩
  obtain ⟨r2, b2, e2, o2⟩ := c2.2 N M base d hN X hd l2 b' hv2
  refine ⟨if r = bI true then bI true else r2, b2, k + 1, by omega, ?_, OUTB_j o o2 hl2 rfl⟩
  rw [e, hm, hm2, f_X9_testOf_6]
  have st : ∀ s0 V, f_X9_testOf_29 N (g_X9_testOf N d) (f_X9_testOf_6 N (g_X9_testOf N d) m) V l r s0 = ob (g_X9_testOf N d 1 V s0) (fun r19 V21 => f_X9_testOf_6 N (g_X9_testOf N d) m V21 l (if r = nI 0 then (if r19 = nI 0 then nI 0 else nI 1) else nI 1)) := by
    intro s0 V
    unfold f_X9_testOf_29 f_X9_testOf_46 f_X9_testOf_41 f_X9_testOf_46
    congr 1
    funext r19 V21
    rcases o.1 with rfl | rfl
    · by_cases h : r19 = nI 0
      · rw [h]; rfl
      · have h' : ¬ r19 = 0 := h
        rw [if_pos (show nI 0 = 0 from rfl), if_neg h', if_pos rfl, if_neg h]; rfl
    · rfl
  have pick : (if l = 0 then f_X9_testOf_28 N (g_X9_testOf N d) (f_X9_testOf_6 N (g_X9_testOf N d) m) (mS M (base + (u + 1)) b') l r else if r = 0 then f_X9_testOf_29 N (g_X9_testOf N d) (f_X9_testOf_6 N (g_X9_testOf N d) m) (mS M (base + (u + 1)) b') l r 1 else f_X9_testOf_28 N (g_X9_testOf N d) (f_X9_testOf_6 N (g_X9_testOf N d) m) (mS M (base + (u + 1)) b') l r) = f_X9_testOf_29 N (g_X9_testOf N d) (f_X9_testOf_6 N (g_X9_testOf N d) m) (mS M (base + (u + 1)) b') l r l2 := by
    unfold f_X9_testOf_28
    rw [hl2]
    rcases hl.1 with rfl | rfl <;> rcases o.1 with rfl | rfl <;> rfl
  rw [show (6 : Int32) = nI 6 from rfl, pa, pl_ob, if_neg (by decide), pick, st, e2, pl_ob]
  congr 1
  rcases o.1 with rfl | rfl
  · rcases o2.1 with rfl | rfl <;> rfl
  · rfl
theorem MO_done {t u D : Nat} {v : Option Bool} (c : MO mode T U n W t u D v) (h1 : ¬ ctk T n u = nI 6) : MT mode 0 T U n W t u (D + 1) v := by
  have k1 := c.1
  refine ⟨c.1, fun N M base d hN X hd l b hl => ?_⟩
  obtain ⟨d', rfl⟩ : ∃ d', d = d' + 1 := ⟨d - 1, by omega⟩
  obtain ⟨r, b', k, hk, e, o⟩ := c.2 N M base d' hN X (by omega) l b hl
  refine ⟨r, b', ?_, o⟩
  have x3 := X.1.2.2.1
  have x4 := X.1.2.2.2
  obtain ⟨m, hm⟩ : ∃ m, N - k = m + 1 := ⟨N - k - 1, by omega⟩
  have pa := m_pass X b' u (by omega) (nI 6)
  rw [if_neg h1] at pa
  rw [e, hm, f_X9_testOf_6, show (6 : Int32) = nI 6 from rfl, pa, pl_ob, if_pos (show nI 0 = 0 from rfl)]
  rcases o.1 with rfl | rfl <;> rfl
/-- rows of "and" -/
def MA (mode : Nat) (T U : Nat → Int32) (n : Nat) (W : Nat → Int32) (t u D : Nat) (v : Option Bool) : Prop := (t < u ∧ u ≤ n) ∧ ∀ (N : Nat) (M : Vt) (base d : Nat), 20000 ≤ N → MX N mode M base n T U W → D ≤ d → ∀ l b, lv l b → ∃ r b' k, k ≤ u - t ∧ g_X9_testOf N (d + 1) 1 (mS M (base + t) b) l = f_X9_bothOf_6 N (g_X9_testOf N d) (N - k) (mS M (base + u) b') l r ∧ OUTB l b v r b'
theorem MA_first {t u D : Nat} {v : Option Bool} (c : MT mode 2 T U n W t u D v) : MA mode T U n W t u D v := by
  refine ⟨c.1, fun N M base d hN X hd l b hl => ?_⟩
  obtain ⟨y, b', e, o⟩ := c.2 N M base d hN X hd l b hl
  refine ⟨y, b', 0, Nat.zero_le _, ?_, o⟩
  show f_X9_bothOf N (g_X9_testOf N d) (mS M (base + t) b) l = _
  unfold f_X9_bothOf
  rw [e, pl_ob]; rfl
theorem MA_step {t u w D : Nat} {v v2 : Option Bool} (c : MA mode T U n W t u D v) (c2 : MT mode 2 T U n W (u + 1) w D v2) (hT : T u = nI 7) : MA mode T U n W t w D (v.bind fun a => if a = false then some false else v2) := by
  have k1 := c.1
  have k2 := c2.1
  refine ⟨by omega, fun N M base d hN X hd l b hl => ?_⟩
  obtain ⟨r, b', k, hk, e, o⟩ := c.2 N M base d hN X hd l b hl
  have hl' := OUTB_b hl o
  have x3 := X.1.2.2.1
  obtain ⟨m, hm⟩ : ∃ m, N - k = m + 1 := ⟨N - k - 1, by omega⟩
  have hm2 : N - (k + 1) = m := by omega
  have cu : ctk T n u = nI 7 := (if_pos (by omega)).trans hT
  have pa := m_pass X b' u (by omega) (nI 7)
  rw [cu, if_pos rfl] at pa
  obtain ⟨l2, hl2⟩ : ∃ l2, l2 = if l = nI 0 ∨ r = bI false then nI 0 else nI 1 := ⟨_, rfl⟩
  have hv2 : lv l2 b' := ⟨by rw [hl2]; split; exact Or.inl rfl; exact Or.inr rfl, hl'.2⟩
  obtain ⟨r2, b2, e2, o2⟩ := c2.2 N M base d hN X hd l2 b' hv2
  refine ⟨if r = bI false then bI false else r2, b2, k + 1, by omega, ?_, OUTB_j o o2 hl2 rfl⟩
  rw [e, hm, hm2, f_X9_bothOf_6]
  have st : ∀ s0 V, f_X9_bothOf_29 N (g_X9_testOf N d) (f_X9_bothOf_6 N (g_X9_testOf N d) m) V l r s0 = ob (g_X9_testOf N d 2 V s0) (fun r19 V21 => f_X9_bothOf_6 N (g_X9_testOf N d) m V21 l (if r = nI 0 then nI 0 else (if r19 = nI 0 then nI 0 else nI 1))) := by
    intro s0 V
    unfold f_X9_bothOf_29 f_X9_bothOf_45 f_X9_bothOf_46
    congr 1
    funext r19 V21
    rcases o.1 with rfl | rfl
    · rfl
    · by_cases h : r19 = nI 0
      · rw [h]; rfl
      · have h' : ¬ r19 = 0 := h
        rw [if_neg (by decide), if_neg h', if_neg (by decide), if_neg h]; rfl
  have pick : (if l = 0 then f_X9_bothOf_28 N (g_X9_testOf N d) (f_X9_bothOf_6 N (g_X9_testOf N d) m) (mS M (base + (u + 1)) b') l r else if r = 0 then f_X9_bothOf_28 N (g_X9_testOf N d) (f_X9_bothOf_6 N (g_X9_testOf N d) m) (mS M (base + (u + 1)) b') l r else f_X9_bothOf_29 N (g_X9_testOf N d) (f_X9_bothOf_6 N (g_X9_testOf N d) m) (mS M (base + (u + 1)) b') l r 1) = f_X9_bothOf_29 N (g_X9_testOf N d) (f_X9_bothOf_6 N (g_X9_testOf N d) m) (mS M (base + (u + 1)) b') l r l2 := by
    unfold f_X9_bothOf_28
    rw [hl2]
    rcases hl.1 with rfl | rfl <;> rcases o.1 with rfl | rfl <;> rfl
  rw [show (7 : Int32) = nI 7 from rfl, pa, pl_ob, if_neg (by decide), pick, st, e2, pl_ob]
  congr 1
  rcases o.1 with rfl | rfl
  · rfl
  · rcases o2.1 with rfl | rfl <;> rfl
theorem MA_done {t u D : Nat} {v : Option Bool} (c : MA mode T U n W t u D v) (h1 : ¬ ctk T n u = nI 7) : MT mode 1 T U n W t u (D + 1) v := by
  have k1 := c.1
  refine ⟨c.1, fun N M base d hN X hd l b hl => ?_⟩
  obtain ⟨d', rfl⟩ : ∃ d', d = d' + 1 := ⟨d - 1, by omega⟩
  obtain ⟨r, b', k, hk, e, o⟩ := c.2 N M base d' hN X (by omega) l b hl
  refine ⟨r, b', ?_, o⟩
  have x3 := X.1.2.2.1
  have x4 := X.1.2.2.2
  obtain ⟨m, hm⟩ : ∃ m, N - k = m + 1 := ⟨N - k - 1, by omega⟩
  have pa := m_pass X b' u (by omega) (nI 7)
  rw [if_neg h1] at pa
  rw [e, hm, f_X9_bothOf_6, show (7 : Int32) = nI 7 from rfl, pa, pl_ob, if_pos (show nI 0 = 0 from rfl)]
  rcases o.1 with rfl | rfl <;> rfl
/-- rows of "not" -/
def flp (k : Nat) (b : Bool) : Bool := if k % 2 = 1 then !b else b
theorem MN_not {t u w D : Nat} {v : Option Bool} (htu : t ≤ u) (hT : ∀ j, t ≤ j → j < u → T j = nI 8) (c : MT mode 3 T U n W u w D v) (hu : ¬ T u = nI 8) : MT mode 2 T U n W t w (D + 1) (v.map (flp (u - t))) := by
  have k1 := c.1
  refine ⟨by omega, fun N M base d hN X hd l b hl => ?_⟩
  obtain ⟨d', rfl⟩ : ∃ d', d = d' + 1 := ⟨d - 1, by omega⟩
  obtain ⟨r, b', e, o⟩ := c.2 N M base d' hN X (by omega) l b hl
  have x3 := X.1.2.2.1
  have x4 := X.1.2.2.2
  have run : ∀ k, k ≤ u - t → f_X9_plainOf_2 N (g_X9_testOf N d') N (mS M (base + t) b) l (nI 0) = f_X9_plainOf_2 N (g_X9_testOf N d') (N - k) (mS M (base + (t + k)) b) l (nI (k % 2)) := by
    intro k
    induction k with
    | zero => intro _; rfl
    | succ k ih =>
      intro hk
      rw [ih (by omega)]
      obtain ⟨m, hm⟩ : ∃ m, N - k = m + 1 := ⟨N - k - 1, by omega⟩
      have hm2 : N - (k + 1) = m := by omega
      have cu : ctk T n (t + k) = nI 8 := (if_pos (by omega)).trans (hT (t + k) (by omega) (by omega))
      have pa := m_pass X b (t + k) (by omega) (nI 8)
      rw [cu, if_pos rfl] at pa
      rw [hm, hm2, f_X9_plainOf_2, show (8 : Int32) = nI 8 from rfl, pa, pl_ob, if_neg (by decide)]
      rcases Nat.mod_two_eq_zero_or_one k with h | h
      · rw [h, show (k + 1) % 2 = 1 by omega]; rfl
      · rw [h, show (k + 1) % 2 = 0 by omega]; rfl
  have r1 := run (u - t) (Nat.le_refl _)
  rw [show t + (u - t) = u by omega] at r1
  obtain ⟨m, hm⟩ : ∃ m, N - (u - t) = m + 1 := ⟨N - (u - t) - 1, by omega⟩
  have cu : ¬ ctk T n u = nI 8 := by unfold ctk; split; exact hu; decide
  have pa := m_pass X b u (by omega) (nI 8)
  rw [if_neg cu] at pa
  refine ⟨if r = nI ((u - t) % 2) then nI 0 else nI 1, b', ?_, ?_⟩
  · show f_X9_plainOf N (g_X9_testOf N d') (mS M (base + t) b) l = _
    unfold f_X9_plainOf
    rw [show (0 : Int32) = nI 0 from rfl, r1, hm, f_X9_plainOf_2, show (8 : Int32) = nI 8 from rfl, pa, pl_ob, if_pos (show nI 0 = 0 from rfl), e, pl_ob]
    by_cases h : r = nI ((u - t) % 2)
    · rw [if_pos h, if_pos h]; rfl
    · rw [if_neg h, if_neg h]; rfl
  · refine ⟨by split; exact Or.inl rfl; exact Or.inr rfl, ?_⟩
    rcases o.2 with ⟨hl1, hb, ⟨x, rfl, rfl, hb'⟩ | ⟨rfl, hb'⟩⟩ | h
    · refine Or.inl ⟨hl1, hb, Or.inl ⟨flp (u - t) x, rfl, ?_, hb'⟩⟩
      unfold flp
      rcases Nat.mod_two_eq_zero_or_one (u - t) with h | h
      · rw [h]; cases x <;> rfl
      · rw [h]; cases x <;> rfl
    · exact Or.inl ⟨hl1, hb, Or.inr ⟨rfl, hb'⟩⟩
    · exact Or.inr h
theorem MP_br {t u D : Nat} {v : Option Bool} (c : MT mode 0 T U n W (t + 1) u D v) (hT : T t = nI 140) (hu : u < n) : MT mode 3 T U n W t (u + 1) (D + 1) v := by
  have k1 := c.1
  refine ⟨⟨by omega, by omega⟩, fun N M base d hN X hd l b hl => ?_⟩
  obtain ⟨d', rfl⟩ : ∃ d', d = d' + 1 := ⟨d - 1, by omega⟩
  obtain ⟨r, b', e, o⟩ := c.2 N M base d' hN X (by omega) l b hl
  have x3 := X.1.2.2.1
  have cu : ctk T n t = nI 140 := (if_pos (by omega)).trans hT
  have pa := m_pass X b t (by omega) (nI 140)
  rw [cu, if_pos rfl] at pa
  refine ⟨r, b', ?_, o⟩
  show f_X9_positiveOf N (g_X9_testOf N d') (mS M (base + t) b) l = _
  unfold f_X9_positiveOf
  simp (disch := omega) only [f_X9_sign, pa, e, mS_22, mS_g, ↓pl_bd, pl_ob, pl_ob1, pl_obv, pl_oa, pl_oav, pl_cg, pl_cb0, pl_cb1, pl_nl0, pl_nls, li, nI_cl, pl_ck, nI_E, nI_L, nI_T, nI_add, pk_mul, Nat.zero_add, Nat.add_zero, Nat.reduceAdd, Nat.reduceMul, Nat.reduceSub, Nat.reduceEqDiff, Nat.reduceLeDiff, Nat.reduceLT, ↓reduceIte]
  rcases o.1 with rfl | rfl <;> rfl
def cmpB (s : Nat) (x y : Int32) : Bool := if s = 8 then decide (x.toInt64 < y.toInt64) else if s = 9 then decide (y.toInt64 < x.toInt64) else decide (x.toInt64 = y.toInt64)
theorem opS_cmp {s : Nat} (hs : s = 8 ∨ s = 9 ∨ s = 10) (x y : Int32) : opS s x y = some (bI (cmpB s x y)) := by
  rcases hs with rfl | rfl | rfl
  · unfold opS cmpB opV
    by_cases h : x.toInt64 < y.toInt64
    · simp only [h]; rfl
    · simp only [h]; rfl
  · unfold opS cmpB opV
    by_cases h : y.toInt64 < x.toInt64
    · simp only [h]; rfl
    · simp only [h]; rfl
  · unfold opS cmpB opV
    by_cases h : x.toInt64 = y.toInt64
    · simp only [h]; rfl
    · simp only [h]; rfl
theorem MP_cmp {t u w D s : Nat} {va vb : Option Int32} (hD : D ≤ 40) (c1 : ME mode 0 T U n W t u D va) (c2 : ME mode 0 T U n W (u + 1) w D vb) (h0 : ¬ T t = nI 140) (hs : (s = 8 ∧ T u = nI 160) ∨ (s = 9 ∧ T u = nI 162) ∨ (s = 10 ∧ T u = nI 161)) : MT mode 3 T U n W t w 1 (va.bind fun x => vb.map fun y => cmpB s x y) := by
  have k1 := c1.1
  have k2 := c2.1
  refine ⟨by omega, fun N M base d hN X hd l b hl => ?_⟩
  obtain ⟨d', rfl⟩ : ∃ d', d = d' + 1 := ⟨d - 1, by omega⟩
  obtain ⟨y1, b1, e1, o1⟩ := c1.2 N M base 40 hN X hD l b hl
  have hl1 := OUT_b hl o1
  obtain ⟨y2, b2, e2, o2⟩ := c2.2 N M base 40 hN X hD l b1 hl1
  have hl2 := OUT_b hl1 o2
  have e2' : g_X9_sumOf N 40 0 (mS M (base + u + 1) b1) l = some (y2, mS M (base + w) b2) := e2
  have x3 := X.1.2.2.1
  have cu : ¬ ctk T n t = nI 140 := by rw [ctk, if_pos (by omega)]; exact h0
  have pa := m_pass X b t (by omega) (nI 140)
  rw [if_neg cu] at pa
  have ca := m_codeAt X (base + u) b1 u (by omega)
  rw [ctk, if_pos (by omega)] at ca
  have z1 : ∀ (a b : Int64), (lg_cmp a b = nI 0) = (a = b) := fun a b => lg_eq a b
  have z2 : ∀ (a b : Int64), (nI 0 ≤ lg_cmp a b) = (b ≤ a) := fun a b => lg_ge a b
  have z3 : ∀ (a b : Int64), (lg_cmp a b ≤ nI 0) = (a ≤ b) := fun a b => lg_le a b
  have key : g_X9_testOf N (d' + 1) 3 (mS M (base + t) b) l = if l = nI 0 then some (nI 0, mS M (base + w) b2) else if b2 = nI 0 then some (if s = 8 then (if y1 < y2 then nI 1 else nI 0) else if s = 9 then (if y2 < y1 then nI 1 else nI 0) else (if y1 = y2 then nI 1 else nI 0), mS M (base + w) b2) else some (nI 0, mS M (base + w) b2) := by
    show f_X9_positiveOf N (g_X9_testOf N d') (mS M (base + t) b) l = _
    unfold f_X9_positiveOf
    rcases hs with ⟨rfl, ht⟩ | ⟨rfl, ht⟩ | ⟨rfl, ht⟩
    · rw [ht] at ca
      simp (disch := omega) only [f_X9_sign, pa, e1, mS_22, ca, mS_g, e2', mS_24, z1, z2, z3, ↓pl_bd, pl_ob, pl_ob1, pl_obv, pl_oa, pl_oav, pl_cg, pl_cb0, pl_cb1, pl_nl0, pl_nls, li, nI_cl, pl_ck, nI_E, nI_L, nI_T, nI_add, pk_mul, Nat.zero_add, Nat.add_zero, Nat.reduceAdd, Nat.reduceMul, Nat.reduceSub, Nat.reduceEqDiff, Nat.reduceLeDiff, Nat.reduceLT, ↓reduceIte]
      by_cases c : y1 < y2
      · rw [if_neg (show ¬ y2 ≤ y1 from fun q => by rw [Int64.lt_iff_toInt_lt] at c; rw [Int64.le_iff_toInt_le] at q; omega), if_pos c]
      · rw [if_pos (Int64.not_lt.mp c), if_neg c]
    · rw [ht] at ca
      simp (disch := omega) only [f_X9_sign, pa, e1, mS_22, ca, mS_g, e2', mS_24, z1, z2, z3, ↓pl_bd, pl_ob, pl_ob1, pl_obv, pl_oa, pl_oav, pl_cg, pl_cb0, pl_cb1, pl_nl0, pl_nls, li, nI_cl, pl_ck, nI_E, nI_L, nI_T, nI_add, pk_mul, Nat.zero_add, Nat.add_zero, Nat.reduceAdd, Nat.reduceMul, Nat.reduceSub, Nat.reduceEqDiff, Nat.reduceLeDiff, Nat.reduceLT, ↓reduceIte]
      by_cases c : y2 < y1
      · rw [if_neg (show ¬ y1 ≤ y2 from fun q => by rw [Int64.lt_iff_toInt_lt] at c; rw [Int64.le_iff_toInt_le] at q; omega), if_pos c]
      · rw [if_pos (Int64.not_lt.mp c), if_neg c]
    · rw [ht] at ca
      simp (disch := omega) only [f_X9_sign, pa, e1, mS_22, ca, mS_g, e2', mS_24, z1, z2, z3, ↓pl_bd, pl_ob, pl_ob1, pl_obv, pl_oa, pl_oav, pl_cg, pl_cb0, pl_cb1, pl_nl0, pl_nls, li, nI_cl, pl_ck, nI_E, nI_L, nI_T, nI_add, pk_mul, Nat.zero_add, Nat.add_zero, Nat.reduceAdd, Nat.reduceMul, Nat.reduceSub, Nat.reduceEqDiff, Nat.reduceLeDiff, Nat.reduceLT, ↓reduceIte]
      by_cases c : y1 = y2
      · rw [if_pos c, if_pos c]
      · rw [if_neg c, if_neg c]
  rw [key]
  have bits : ∀ (p : Prop) [Decidable p], (if p then nI 1 else nI 0) = nI 0 ∨ (if p then nI 1 else nI 0) = nI 1 := fun p _ => by split; exact Or.inr rfl; exact Or.inl rfl
  rcases hl.1 with h0 | h1
  · rw [if_pos h0]
    have d1 : b1 = b := by rcases o1 with ⟨h, -⟩ | ⟨-, h⟩; exact absurd (h0.symm.trans h) (by decide); exact h
    have d2 : b2 = b1 := by rcases o2 with ⟨h, -⟩ | ⟨-, h⟩; exact absurd (h0.symm.trans h) (by decide); exact h
    exact ⟨nI 0, b2, rfl, Or.inl rfl, Or.inr ⟨Or.inl h0, d2.trans d1⟩⟩
  · have h10 : ¬ l = nI 0 := by rw [h1]; decide
    rw [if_neg h10]
    rcases hl2.2 with hb | hb
    · rw [if_pos hb]
      have d1 : b1 = nI 0 := by
        rcases hl1.2 with h | h
        · exact h
        · rcases o2 with ⟨-, q, -⟩ | ⟨-, q⟩
          · exact absurd (h.symm.trans q) (by decide)
          · exact absurd (hb.symm.trans (q.trans h)) (by decide)
      have d0 : b = nI 0 := by
        rcases hl.2 with h | h
        · exact h
        · rcases o1 with ⟨-, q, -⟩ | ⟨-, q⟩
          · exact absurd (h.symm.trans q) (by decide)
          · exact absurd (d1.symm.trans (q.trans h)) (by decide)
      rcases o1 with ⟨-, -, ⟨x1, rfl, rfl, -⟩ | ⟨-, q⟩⟩ | ⟨q, -⟩
      · rcases o2 with ⟨-, -, ⟨x2, rfl, rfl, -⟩ | ⟨-, q⟩⟩ | ⟨q, -⟩
        · refine ⟨_, b2, rfl, ?_, Or.inl ⟨h1, d0, Or.inl ⟨cmpB s x1 x2, rfl, ?_, hb⟩⟩⟩
          · split
            · exact bits _
            · split <;> exact bits _
          · unfold cmpB bI
            split
            · by_cases c : x1.toInt64 < x2.toInt64 <;> simp [c]
            · split
              · by_cases c : x2.toInt64 < x1.toInt64 <;> simp [c]
              · by_cases c : x1.toInt64 = x2.toInt64 <;> simp [c]
        · exact absurd (hb.symm.trans q) (by decide)
        · rw [h1, d1] at q; exact absurd q (by decide)
      · exact absurd (d1.symm.trans q) (by decide)
      · rw [h1, d0] at q; exact absurd q (by decide)
    · rw [if_neg (by rw [hb]; decide)]
      refine ⟨nI 0, b2, rfl, Or.inl rfl, ?_⟩
      rcases hl.2 with d0 | d0
      · refine Or.inl ⟨h1, d0, Or.inr ⟨?_, hb⟩⟩
        rcases o1 with ⟨-, -, ⟨x1, rfl, -, d1⟩ | ⟨rfl, -⟩⟩ | ⟨q, -⟩
        · rcases o2 with ⟨-, -, ⟨x2, -, -, q⟩ | ⟨rfl, -⟩⟩ | ⟨q, -⟩
          · exact absurd (hb.symm.trans q) (by decide)
          · rfl
          · rw [h1, d1] at q; exact absurd q (by decide)
        · rfl
        · rw [h1, d0] at q; exact absurd q (by decide)
      · exact Or.inr ⟨Or.inr d0, hb.trans d0.symm⟩
end
