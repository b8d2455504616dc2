section
/-! pieces of both, clauses of a law, what the last one tells -/
def WB (W : Nat → Int32) : Prop := ∀ w, W w ≠ MNV
def lwm (mode : Nat) : Nat := if mode = 0 then 10 else 43
def JS (mode lev : Nat) (C : Nat → Int32) (p q : Nat) (T U : Nat → Int32) (n t u dc dm : Nat) : Prop := ∀ W, WB W → ∃ v : Option Int32, CE C W (lwm mode) p q dc v ∧ ME mode lev T U n W t u dm v ∧ ∀ x, v = some x → x ≠ MNV
def JT (mode lev : Nat) (C : Nat → Int32) (p q : Nat) (T U : Nat → Int32) (n t u dc dm : Nat) : Prop := ∀ W, WB W → ∃ v : Option Bool, CE C W (lwm mode) p q dc (v.map bI) ∧ MT mode lev T U n W t u dm v
/-- a sum of a clause: its place, its tokens -/
def PS (mode : Nat) (C : Nat → Int32) (Lc : Nat) (pl : Int32) (T U : Nat → Int32) (n t u : Nat) : Prop := ∃ p q, pl = nI p ∧ JS mode 0 C p q T U n t u 19 27 ∧ C q = nI 0 ∧ q < Lc
/-- a test of a clause, or none -/
def PT (mode : Nat) (C : Nat → Int32) (Lc : Nat) (pl : Int32) (T U : Nat → Int32) (n e u : Nat) : Prop := (pl = -1 ∧ ¬ ctk T n e = nI 5 ∧ u = e) ∨ (e < n ∧ T e = nI 5 ∧ ∃ p q, pl = nI p ∧ JT mode 0 C p q T U n (e + 1) u 20 36 ∧ C q = nI 0 ∧ q < Lc)
def LC (C : Nat → Int32) (Lc : Nat) (cl : Nat → Int32) (T U : Nat → Int32) (n c t u : Nat) : Prop := (t < n ∧ u ≤ n) ∧ ∃ kd e, (kd < 4 ∧ t < e ∧ e ≤ u) ∧ T t = nI (kd + 1) ∧ cl (6 * c) = nI kd ∧ ((kd < 2 ∧ PS 0 C Lc (cl (6 * c + 2)) T U n (t + 1) e) ∨ (2 ≤ kd ∧ cl (6 * c + 2) = -1 ∧ e = t + 1)) ∧ PT 0 C Lc (cl (6 * c + 5)) T U n e u
def XL : TxP := fun C Lc cl Lcl count size T U _ => ∃ (n cnt : Nat) (st : Nat → Nat), (n ≤ 400 ∧ size = nI n ∧ 1 ≤ cnt ∧ cnt ≤ 12 ∧ count = nI cnt ∧ Lcl = 6 * cnt ∧ Lc ≤ 448) ∧ st 0 = 0 ∧ st cnt = n + 1 ∧ ∀ c, c < cnt → ∃ u, LC C Lc cl T U n c (st c) u ∧ st (c + 1) = u + 1
theorem MNV_ne (n : Nat) (h : n < 2147483648) : nI n ≠ MNV := fun q => by
  have := congrArg Int32.toInt q
  rw [nI_tz h] at this
  have e : MNV.toInt = -2000000000 := rfl
  omega
/-- a test at the class's machine: 1 if it holds -/
theorem x_test {N : Nat} (hN : 20000 ≤ N) {mode : Nat} {C T U W : Nat → Int32} {Lc n e u : Nat} {pl : Int32} (P : PT mode C Lc pl T U n e u) (hW : WB W) : ∃ tv : Option Bool, ((¬ ctk T n e = nI 5 ∧ u = e ∧ tv = some true) ∨ (ctk T n e = nI 5 ∧ MT mode 0 T U n W (e + 1) u 36 tv)) ∧ ∀ (S : St) (o a1 a3 : Nat) (V : Vt), a1 ≠ o + 1 → a3 ≠ o + 1 → S.2.2.1 a1 = Lc → S.2.2.1 a3 = lwm mode → Lc ≤ 448 → (∀ i, i < Lc → V.2.1 a1 i = C i) → (∀ i, i < lwm mode → V.2.1 a3 i = W i) → ∃ V', MSt o V V' 0 ∧ f_X4_worthAt N S V o a1 pl a3 (nI 1) = some ((tv.map bI).getD MNV, V') := by
  rcases P with ⟨rfl, h1, h2⟩ | ⟨h0, h1, p, q, rfl, hj, hq, hl⟩
  · exact ⟨some true, Or.inl ⟨h1, h2, rfl⟩, fun S o a1 a3 V _ _ _ _ _ _ _ => ⟨V, MSt_r o V 0, rfl⟩⟩
  · obtain ⟨tv, c, m⟩ := hj W hW
    refine ⟨tv, Or.inr ⟨(if_pos h0).trans h1, m⟩, fun S o a1 a3 V g1 g2 g3 g4 g5 g6 g7 => ?_⟩
    have lw : lwm mode < 20000 := by unfold lwm; split <;> omega
    exact CE_end c (by omega) hq N hN S o a1 a3 V Lc g1 g2 g3 g4 hl (by omega) lw g6 g7 (nI 1)
theorem x_sum {N : Nat} (hN : 20000 ≤ N) {mode : Nat} {C T U W : Nat → Int32} {Lc n t u : Nat} {pl : Int32} (P : PS mode C Lc pl T U n t u) (hW : WB W) : ∃ sv : Option Int32, ME mode 0 T U n W t u 27 sv ∧ (∀ x, sv = some x → x ≠ MNV) ∧ ∀ (S : St) (o a1 a3 : Nat) (V : Vt) (w : Int32), a1 ≠ o + 1 → a3 ≠ o + 1 → S.2.2.1 a1 = Lc → S.2.2.1 a3 = lwm mode → Lc ≤ 448 → (∀ i, i < Lc → V.2.1 a1 i = C i) → (∀ i, i < lwm mode → V.2.1 a3 i = W i) → ∃ V', MSt o V V' 0 ∧ f_X4_worthAt N S V o a1 pl a3 w = some (sv.getD MNV, V') := by
  obtain ⟨p, q, rfl, hj, hq, hl⟩ := P
  obtain ⟨sv, c, m, hb⟩ := hj W hW
  refine ⟨sv, m, hb, fun S o a1 a3 V w g1 g2 g3 g4 g5 g6 g7 => ?_⟩
  have lw : lwm mode < 20000 := by unfold lwm; split <;> omega
  exact CE_end c (by omega) hq N hN S o a1 a3 V Lc g1 g2 g3 g4 hl (by omega) lw g6 g7 w
def clp (w h : Int64) : Int64 := if w < 0 then 0 else if h < w then h else w
theorem m_160 {N : Nat} (M : Vt) (g : Nat) (b x : Int32) (K : Vt → Int32 → Int32 → Int64 → Option (Int32 × Vt)) (h1 high kc : Nat) (hk : kc < 1000) (hh : h1 < 1000) (told s0 : Int64) (s : Int32) : f_X9_tells_160 N K (mS M g b) (nI h1) (nI high) told (nI kc) s0 x s = K (mS M (g + 1) b) (nI h1) (nI high) (if kc = h1 ∧ ¬ s = nI 0 ∧ b = nI 0 ∧ x = nI 0 then clp s0 (nI high).toInt64 else told) := by
  have r : ∀ w, f_X9_tells_215 N K (mS M g b) (nI h1) (nI high) w = K (mS M (g + 1) b) (nI h1) (nI high) w := by
    intro w
    unfold f_X9_tells_215
    simp (disch := omega) only [mS_22, mS_g, ↓pl_bd, pl_ob, pl_ob1, pl_obv, pl_oa, pl_oav, pl_cg, pl_cb0, pl_cb1, pl_nl0, pl_nls, li, nI_cl, pl_ck, nI_E, nI_L, nI_T, nI_add, pk_mul, Nat.zero_add, Nat.add_zero, Nat.reduceAdd, Nat.reduceMul, Nat.reduceSub, Nat.reduceEqDiff, Nat.reduceLeDiff, Nat.reduceLT, ↓reduceIte]
  have r2 : ∀ w, f_X9_tells_213 N K (mS M g b) (nI h1) (nI high) w = K (mS M (g + 1) b) (nI h1) (nI high) w := r
  unfold f_X9_tells_160
  simp only [r, r2]
  by_cases c1 : kc = h1
  · rw [if_pos (by rw [c1])]
    by_cases c2 : s = nI 0
    · rw [if_pos (show s = 0 from c2), if_neg (fun q => q.2.1 c2)]
    · rw [if_neg (show ¬ s = 0 from c2)]
      by_cases c3 : b = nI 0
      · have c3' : (mS M g b).1 0 24 = 0 := c3
        rw [if_pos c3']
        by_cases c4 : x = nI 0
        · rw [if_pos (show x = 0 from c4), if_pos (show kc = h1 ∧ ¬ s = nI 0 ∧ b = nI 0 ∧ x = nI 0 from ⟨c1, c2, c3, c4⟩)]
          unfold clp
          by_cases c5 : s0 < 0
          · have z : ¬ (0 : Int32) ≤ lg_cmp s0 0 := by rw [lg_ge, Int64.le_iff_toInt_le]; rw [Int64.lt_iff_toInt_lt] at c5; omega
            rw [if_neg z, if_pos c5]
          · have z : (0 : Int32) ≤ lg_cmp s0 0 := by rw [lg_ge]; exact Int64.not_lt.mp c5
            rw [if_pos z, if_neg c5]
            by_cases c6 : (nI high).toInt64 < s0
            · have z : ¬ lg_cmp s0 (nI high).toInt64 ≤ (0 : Int32) := by rw [lg_le, Int64.le_iff_toInt_le]; rw [Int64.lt_iff_toInt_lt] at c6; omega
              rw [if_neg z, if_pos c6]
            · have z : lg_cmp s0 (nI high).toInt64 ≤ (0 : Int32) := by rw [lg_le]; exact Int64.not_lt.mp c6
              rw [if_pos z, if_neg c6]
        · rw [if_neg (show ¬ x = 0 from c4), if_neg (fun q => c4 q.2.2.2)]
      · have c3' : ¬ (mS M g b).1 0 24 = 0 := c3
        rw [if_neg c3', if_neg (fun q => c3 q.2.2.1)]
  · rw [if_neg (by rw [nI_E (by omega) (by omega)]; exact c1), if_neg (fun q => c1 q.1)]
theorem m_126 {N n base e u : Nat} {M : Vt} {T U W : Nat → Int32} (hN : 20000 ≤ N) (X : MX N 0 M base n T U W) (K : Vt → Int32 → Int32 → Int64 → Option (Int32 × Vt)) (b1 : Int32) (hb1 : b1 = nI 0 ∨ b1 = nI 1) (tv : Option Bool) (ht : (¬ ctk T n e = nI 5 ∧ u = e ∧ tv = some true) ∨ (ctk T n e = nI 5 ∧ MT 0 0 T U n W (e + 1) u 36 tv)) (he : e ≤ n) (h1 high kc : Nat) (hk : kc < 1000) (hh : h1 < 1000) (told s0 : Int64) : ∃ b', (b' = nI 0 ∨ b' = nI 1) ∧ f_X9_tells_126 N K (mS M (base + e) b1) (nI h1) (nI high) told (nI kc) s0 = K (mS M (base + (u + 1)) b') (nI h1) (nI high) (if kc = h1 ∧ tv = some true ∧ b1 = nI 0 then clp s0 (nI high).toInt64 else told) := by
  have x3 := X.1.2.2.1
  unfold f_X9_tells_126
  rw [pl_bd, pl_bd, mS_24, show (0 : Int32) = nI 0 from rfl, mS_b]
  have pa := m_pass X (nI 0) e (by omega) (nI 5)
  rcases ht with ⟨ht, rfl, rfl⟩ | ⟨ht, mt⟩
  · rw [if_neg ht] at pa
    refine ⟨nI 0, Or.inl rfl, ?_⟩
    rw [show (5 : Int32) = nI 5 from rfl, pa, pl_ob, if_pos rfl]
    unfold f_X9_tells_155
    rw [m_160 M (base + u) (nI 0) b1 K h1 high kc hk hh told s0 1]
    congr 1
    by_cases c : kc = h1 ∧ b1 = nI 0
    · rw [if_pos ⟨c.1, by decide, rfl, c.2⟩, if_pos ⟨c.1, rfl, c.2⟩]
    · rw [if_neg (fun q => c ⟨q.1, q.2.2.2⟩), if_neg (fun q => c ⟨q.1, q.2.2⟩)]
  · rw [if_pos ht] at pa
    have k2 := mt.1
    obtain ⟨r, b', er, o⟩ := mt.2 N M base 40 hN X (by omega) (nI 1) (nI 0) ⟨Or.inr rfl, Or.inl rfl⟩
    have lb := OUTB_b (show lv (nI 1) (nI 0) from ⟨Or.inr rfl, Or.inl rfl⟩) o
    refine ⟨b', lb.2, ?_⟩
    rw [show (5 : Int32) = nI 5 from rfl, pa, pl_ob, if_neg (by decide), show (1 : Int32) = nI 1 from rfl, er, pl_ob]
    have fin : ∀ s, (s = nI 0 ↔ r = nI 0) → f_X9_tells_160 N K (mS M (base + u) b') (nI h1) (nI high) told (nI kc) s0 b1 s = K (mS M (base + (u + 1)) b') (nI h1) (nI high) (if kc = h1 ∧ tv = some true ∧ b1 = nI 0 then clp s0 (nI high).toInt64 else told) := by
      intro s hs
      rw [m_160 M (base + u) b' b1 K h1 high kc hk hh told s0 s]
      show K (mS M (base + (u + 1)) b') _ _ _ = _
      congr 1
      have iff : (¬ s = nI 0 ∧ b' = nI 0) ↔ tv = some true := by
        rcases o.2 with ⟨-, -, ⟨x, rfl, rfl, rfl⟩ | ⟨rfl, rfl⟩⟩ | ⟨h, -⟩
        · rw [hs]
          cases x
          · exact ⟨fun q => absurd rfl q.1, fun q => by cases q⟩
          · exact ⟨fun _ => rfl, fun _ => ⟨by decide, rfl⟩⟩
        · exact ⟨fun q => absurd q.2 (by decide), fun q => by cases q⟩
        · exact absurd h (by decide)
      by_cases c : kc = h1 ∧ tv = some true ∧ b1 = nI 0
      · rw [if_pos c, if_pos ⟨c.1, (iff.mpr c.2.1).1, (iff.mpr c.2.1).2, c.2.2⟩]
      · rw [if_neg c, if_neg (fun q => c ⟨q.1, iff.mp ⟨q.2.1, q.2.2.1⟩, q.2.2.2⟩)]
    rcases o.1 with h0 | h0
    · rw [h0, if_pos rfl]
      exact fin (nI 0) ⟨fun _ => h0, fun _ => rfl⟩
    · rw [h0, if_neg (by decide)]
      exact fin (nI 1) ⟨fun q => absurd q (by decide), fun q => absurd (h0.symm.trans q) (by decide)⟩
def tcl (hd high : Nat) (told : Int64) (v : Option Int32) : Int64 := v.elim told (fun x => clp (if hd < 2 then x.toInt64 else 1) (nI high).toInt64)
/-- what stands around the class's asking of a text -/
def TCx (S : St) (V : Vt) (o q : Nat) (Lc cnt : Nat) (W : Nat → Int32) : Prop := (o + 3 < 64 ∧ 64 ≤ q) ∧ (S.2.2.1 (o + 3) = 10 ∧ S.2.2.1 (q + 1) = Lc ∧ Lc ≤ 448 ∧ S.2.2.1 (q + 2) = 6 * cnt ∧ cnt ≤ 12) ∧ ∀ i, i < 10 → V.2.1 (o + 3) i = W i
theorem TCx_m {S : St} {V V' : Vt} {o q Lc cnt : Nat} {W : Nat → Int32} (h : TCx S V o q Lc cnt W) (m : MSt (o + 1) V V' 0) : TCx S V' o q Lc cnt W := ⟨h.1, h.2.1, fun i hi => by rw [m.2.1 (o + 3) (by omega)]; exact h.2.2 i hi⟩
theorem j_clause {N : Nat} (hN : 20000 ≤ N) {C cl T U W : Nat → Int32} {Lc cnt n c t u : Nat} (hc : c < cnt) (hW : WB W) (L : LC C Lc cl T U n c t u) (hd : Nat) (hhd : hd < 4) : ∃ v : Option Int32, (∀ x, v = some x → x ≠ MNV) ∧
    (∀ (S : St) (V : Vt) (o a1 q : Nat) (m : Nat), TCx S V o q Lc cnt W → V.2.1 (q + 1) = C → V.2.1 (q + 2) = cl → ∃ V', MSt (o + 1) V V' 0 ∧ f_X6_lastTold_t_24 N S o a1 q (m + 1) V (nI hd) (nI c) = v.elim (f_X6_lastTold_t_24 N S o a1 q m V' (nI hd) (nI c + -1)) (fun x => some (x, V'))) ∧
    (∀ (M : Vt) (base m high : Nat) (told : Int64) (b : Int32), MX N 0 M base n T U W → ∃ b', (b' = nI 0 ∨ b' = nI 1) ∧ f_X9_tells_69 N (m + 1) (mS M (base + t) b) (nI (hd + 1)) (nI high) told = f_X9_tells_69 N m (mS M (base + (u + 1)) b') (nI (hd + 1)) (nI high) (tcl hd high told v)) := by
  obtain ⟨⟨ht, hu⟩, kd, e, ⟨hkd, hte, heu⟩, hT, hcl, hs, hp⟩ := L
  obtain ⟨tv, tm, tx⟩ := x_test hN hp hW
  have mod : ∀ (M : Vt) (base m high : Nat) (told : Int64) (b : Int32), MX N 0 M base n T U W → ∀ (v : Option Int32), (kd = hd → tv = some true → (2 ≤ kd → v = some (nI 0))) → (¬ (kd = hd ∧ tv = some true) → v = none) → (kd < 2 → ∃ sv, ME 0 0 T U n W (t + 1) e 27 sv ∧ (kd = hd → tv = some true → v = sv)) → ∃ b', (b' = nI 0 ∨ b' = nI 1) ∧ f_X9_tells_69 N (m + 1) (mS M (base + t) b) (nI (hd + 1)) (nI high) told = f_X9_tells_69 N m (mS M (base + (u + 1)) b') (nI (hd + 1)) (nI high) (tcl hd high told v) := by
    intro M base m high told b X v hv2 hvn hvs
    have x2 := X.1.2.1
    have x3 := X.1.2.2.1
    have x4 := X.1.2.2.2
    have g1 : ¬ base + n ≤ base + t := by omega
    have ca := m_codeAt X (base + t) b t (by omega)
    rw [ctk, if_pos ht, hT] at ca
    rw [f_X9_tells_69]
    by_cases k2 : kd < 2
    · obtain ⟨sv, me, hsv⟩ := hvs k2
      obtain ⟨y, b1, ey, oy⟩ := me.2 N M base 40 hN X (by omega) (nI 1) (nI 0) ⟨Or.inr rfl, Or.inl rfl⟩
      have lb := OUT_b (show lv (nI 1) (nI 0) from ⟨Or.inr rfl, Or.inl rfl⟩) oy
      obtain ⟨b', hb', e'⟩ := m_126 hN X (f_X9_tells_69 N m) b1 lb.2 tv tm (by omega) (hd + 1) high (kd + 1) (by omega) (by omega) told y
      refine ⟨b', hb', ?_⟩
      have n3 : ¬ kd + 1 = 3 := by omega
      have n4 : ¬ kd + 1 = 4 := by omega
      have ey' : g_X9_sumOf N 40 0 (mS M (base + t + 1) (nI 0)) (nI 1) = some (y, mS M (base + e) b1) := ey
      simp (disch := omega) only [mS_23, x2, mS_22, g1, ca, mS_b, mS_g, n3, n4, ey', e', ↓pl_bd, pl_ob, pl_ob1, pl_obv, pl_oa, pl_oav, pl_cg, pl_cb0, pl_cb1, pl_nl0, pl_nls, li, nI_cl, pl_ck, nI_E, nI_L, nI_T, nI_add, pk_mul, Nat.zero_add, Nat.add_zero, Nat.reduceAdd, Nat.reduceMul, Nat.reduceSub, Nat.reduceEqDiff, Nat.reduceLeDiff, Nat.reduceLT, ↓reduceIte]
      congr 1
      unfold tcl
      by_cases cc : kd = hd ∧ tv = some true
      · have hv := hsv cc.1 cc.2
        have h2 : hd < 2 := by omega
        rcases oy with ⟨-, -, ⟨x, hx, hy, hb0⟩ | ⟨hx, hb0⟩⟩ | ⟨h, -⟩
        · rw [if_pos ⟨by omega, cc.2, hb0⟩, hv, hx, hy]
          simp only [Option.elim, if_pos h2]
        · rw [if_neg (fun q => by rw [hb0] at q; exact absurd q.2.2 (by decide)), hv, hx]; rfl
        · exact absurd h (by decide)
      · rw [if_neg (fun q => cc ⟨by omega, q.2.1⟩), hvn cc]; rfl
    · obtain ⟨b', hb', e'⟩ := m_126 hN X (f_X9_tells_69 N m) (nI 0) (Or.inl rfl) tv tm (by omega) (hd + 1) high (kd + 1) (by omega) (by omega) told 1
      refine ⟨b', hb', ?_⟩
      have he : e = t + 1 := by rcases hs with h | h; exact absurd h.1 k2; exact h.2.2
      rw [he] at e'
      have e2 : f_X9_tells_126 N (f_X9_tells_69 N m) (mS M (base + t + 1) (nI 0)) (nI (hd + 1)) (nI high) told (nI (kd + 1)) 1 = _ := e'
      have res : (if kd + 1 = hd + 1 ∧ tv = some true ∧ nI 0 = nI 0 then clp 1 (nI high).toInt64 else told) = tcl hd high told v := by
        unfold tcl
        by_cases cc : kd = hd ∧ tv = some true
        · rw [if_pos ⟨by omega, cc.2, rfl⟩, hv2 cc.1 cc.2 (by omega)]
          simp only [Option.elim, if_neg (show ¬ hd < 2 by omega)]
        · rw [if_neg (fun q => cc ⟨by omega, q.2.1⟩), hvn cc]; rfl
      rw [res] at e2
      rcases (by omega : kd = 2 ∨ kd = 3) with rfl | rfl
      · simp (disch := omega) only [mS_23, x2, mS_22, g1, ca, mS_b, mS_g, f_X9_tells_117, ↓pl_bd, pl_ob, pl_ob1, pl_obv, pl_oa, pl_oav, pl_cg, pl_cb0, pl_cb1, pl_nl0, pl_nls, li, nI_cl, pl_ck, nI_E, nI_L, nI_T, nI_add, pk_mul, Nat.zero_add, Nat.add_zero, Nat.reduceAdd, Nat.reduceMul, Nat.reduceSub, Nat.reduceEqDiff, Nat.reduceLeDiff, Nat.reduceLT, ↓reduceIte]
        exact e2
      · simp (disch := omega) only [mS_23, x2, mS_22, g1, ca, mS_b, mS_g, f_X9_tells_117, ↓pl_bd, pl_ob, pl_ob1, pl_obv, pl_oa, pl_oav, pl_cg, pl_cb0, pl_cb1, pl_nl0, pl_nls, li, nI_cl, pl_ck, nI_E, nI_L, nI_T, nI_add, pk_mul, Nat.zero_add, Nat.add_zero, Nat.reduceAdd, Nat.reduceMul, Nat.reduceSub, Nat.reduceEqDiff, Nat.reduceLeDiff, Nat.reduceLT, ↓reduceIte]
        exact e2
  have ix : ∀ k, ((6 : Int32) * nI k) = nI (6 * k) := fun k => by rw [lj 6, pk_mul]
  by_cases cc : kd = hd
  · -- the class asks it
    have start : ∀ (S : St) (V : Vt) (o a1 q : Nat) (m : Nat), TCx S V o q Lc cnt W → V.2.1 (q + 1) = C → V.2.1 (q + 2) = cl → ∃ V', MSt (o + 1) V V' 0 ∧ f_X6_lastTold_t_24 N S o a1 q (m + 1) V (nI hd) (nI c) = if (tv.map bI).getD MNV = (1 : Int32) then ob (f_X4_worthAt N S V' (o + 1) (q + 1) (cl (6 * c + 2)) (o + 3) 0) (fun r35 V37 => if r35 = (-2000000000 : Int32) then f_X6_lastTold_t_24 N S o a1 q m V37 (nI hd) (nI c + -1) else some (r35, V37)) else f_X6_lastTold_t_24 N S o a1 q m V' (nI hd) (nI c + -1) := by
      intro S V o a1 q m h eC ecl
      obtain ⟨⟨h1, h2⟩, ⟨h3, h4, h5, h6, h7⟩, h8⟩ := h
      obtain ⟨V', mv, et⟩ := tx S (o + 1) (q + 1) (o + 3) V (by omega) (by omega) h4 h3 h5 (fun i _ => by rw [eC]) h8
      refine ⟨V', mv, ?_⟩
      have ecl' : V'.2.1 (q + 2) = cl := by rw [mv.2.1 (q + 2) (by omega), ecl]
      have np : ¬ nI c < nI 0 := by rw [nI_T (by omega) (by omega)]; omega
      rw [f_X6_lastTold_t_24]
      simp (disch := omega) only [f_X7_kindOf, f_X7_testPlace, f_X7_sumPlace, f_X6_lastTold_t_100, h6, ecl, hcl, cc, et, ecl', np, ↓pl_bd, pl_ob, pl_ob1, pl_obv, pl_oa, pl_oav, pl_cg, pl_cb0, pl_cb1, pl_nl0, pl_nls, li, nI_cl, pl_ck, nI_E, nI_L, nI_T, nI_add, pk_mul, Nat.zero_add, Nat.add_zero, Nat.reduceAdd, Nat.reduceMul, Nat.reduceSub, Nat.reduceEqDiff, Nat.reduceLeDiff, Nat.reduceLT, ↓reduceIte]
      rfl
    by_cases ct : tv = some true
    · rcases hs with ⟨k2, ps⟩ | ⟨k2, pn, -⟩
      · obtain ⟨sv, me, hb, sx⟩ := x_sum hN ps hW
        refine ⟨sv, hb, ?_, fun M base m high told b X => mod M base m high told b X sv (fun _ _ h => absurd h (by omega)) (fun q => absurd ⟨cc, ct⟩ q) (fun _ => ⟨sv, me, fun _ _ => rfl⟩)⟩
        intro S V o a1 q m h eC ecl
        obtain ⟨V1, m1, e1⟩ := start S V o a1 q m h eC ecl
        have hh := TCx_m h m1
        obtain ⟨⟨h1, h2⟩, ⟨h3, h4, h5, h6, h7⟩, h8⟩ := hh
        obtain ⟨V2, m2, e2⟩ := sx S (o + 1) (q + 1) (o + 3) V1 0 (by omega) (by omega) h4 h3 h5 (fun i _ => by rw [m1.2.1 (q + 1) (by omega), eC]) h8
        refine ⟨V2, MSt_t m1 m2 (Nat.le_refl 0), ?_⟩
        rw [e1, ct, if_pos (show (Option.map bI (some true)).getD MNV = 1 from rfl), e2, pl_ob]
        cases sv with
        | none => rw [if_pos (show (none : Option Int32).getD MNV = -2000000000 from rfl)]; rfl
        | some x => rw [if_neg (show ¬ (some x).getD MNV = -2000000000 from hb x rfl)]; rfl
      · refine ⟨some (nI 0), fun x hx => (by cases hx; exact MNV_ne 0 (by omega)), ?_, fun M base m high told b X => mod M base m high told b X _ (fun _ _ _ => rfl) (fun q => absurd ⟨cc, ct⟩ q) (fun h => absurd h (by omega))⟩
        intro S V o a1 q m h eC ecl
        obtain ⟨V1, m1, e1⟩ := start S V o a1 q m h eC ecl
        refine ⟨V1, m1, ?_⟩
        rw [e1, ct, if_pos (show (Option.map bI (some true)).getD MNV = 1 from rfl), pn]; rfl
    · refine ⟨none, fun x hx => (by cases hx), ?_, fun M base m high told b X => mod M base m high told b X none (fun _ h _ => absurd h ct) (fun _ => rfl) (fun k2 => ?_)⟩
      · intro S V o a1 q m h eC ecl
        obtain ⟨V1, m1, e1⟩ := start S V o a1 q m h eC ecl
        refine ⟨V1, m1, ?_⟩
        rw [e1, if_neg]
        · rfl
        · intro q1
          cases tv with
          | none => exact absurd q1 (by decide)
          | some x => cases x with
            | false => exact absurd q1 (by decide)
            | true => exact ct rfl
      · rcases hs with ⟨-, ps⟩ | ⟨k, -⟩
        · obtain ⟨sv, me, -⟩ := x_sum hN ps hW
          exact ⟨sv, me, fun _ h => absurd h ct⟩
        · omega
  · refine ⟨none, fun x hx => (by cases hx), ?_, fun M base m high told b X => mod M base m high told b X none (fun h _ _ => absurd h cc) (fun _ => rfl) (fun k2 => ?_)⟩
    · intro S V o a1 q m h eC ecl
      obtain ⟨⟨h1, h2⟩, ⟨h3, h4, h5, h6, h7⟩, h8⟩ := h
      refine ⟨V, MSt_r _ V 0, ?_⟩
      have np : ¬ nI c < nI 0 := by rw [nI_T (by omega) (by omega)]; omega
      rw [f_X6_lastTold_t_24]
      simp (disch := omega) only [f_X7_kindOf, f_X6_lastTold_t_100, h6, ecl, hcl, cc, np, ↓pl_bd, pl_ob, pl_ob1, pl_obv, pl_oa, pl_oav, pl_cg, pl_cb0, pl_cb1, pl_nl0, pl_nls, li, nI_cl, pl_ck, nI_E, nI_L, nI_T, nI_add, pk_mul, Nat.zero_add, Nat.add_zero, Nat.reduceAdd, Nat.reduceMul, Nat.reduceSub, Nat.reduceEqDiff, Nat.reduceLeDiff, Nat.reduceLT, ↓reduceIte]
      rfl
    · rcases hs with ⟨-, ps⟩ | ⟨k, -⟩
      · obtain ⟨sv, me, -⟩ := x_sum hN ps hW
        exact ⟨sv, me, fun h _ => absurd h cc⟩
      · omega
end
