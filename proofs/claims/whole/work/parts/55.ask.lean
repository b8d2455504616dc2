section
/-! the law in force; at, asks, take -/
theorem i32_64 (x : Int32) : x.toInt64.toInt32 = x := Int32.toInt32_toInt64 x
theorem nearY {N hd high wo : Nat} (hhd : hd < 2) (hh : high < 1000) (hw : wo < 1000) {v : Option Int32} (ne : ∀ x, v = some x → x ≠ MNV) : ∃ y, (y ≤ high ∨ y = wo) ∧ f_X8_nearest N (v.getD MNV) (nI high) (nI wo) = some (nI y) ∧ (tcl hd high (nI wo).toInt64 v).toInt32 = nI y := by
  cases v with
  | none => exact ⟨wo, Or.inr rfl, rfl, i32_64 _⟩
  | some x =>
    have hx := ne x rfl
    have e1 : f_X8_nearest N ((some x).getD MNV) (nI high) (nI wo) = some (mxI (nI 0) (mnI (nI high) x)) := by
      unfold f_X8_nearest
      rw [if_neg (show ¬ (some x).getD MNV = -2000000000 from hx)]; rfl
    have e2 : tcl hd high (nI wo).toInt64 (some x) = clp x.toInt64 (nI high).toInt64 := by
      unfold tcl
      simp only [Option.elim, if_pos hhd]
    rw [e1, e2]
    have t0 : (nI 0).toInt = 0 := rfl
    have th : (nI high).toInt = high := nI_tz (by omega)
    have z0 : (0 : Int64).toInt = 0 := rfl
    by_cases c0 : x.toInt < 0
    · refine ⟨0, Or.inl (Nat.zero_le _), ?_, ?_⟩
      · have m1 : mnI (nI high) x = x := by
          unfold mnI; rw [if_pos (by rw [Int32.lt_iff_toInt_lt]; omega)]
        rw [m1]
        unfold mxI; rw [if_neg (by rw [Int32.lt_iff_toInt_lt]; omega)]
      · unfold clp; rw [if_pos (by rw [Int64.lt_iff_toInt_lt, Int32.toInt_toInt64]; omega)]; rfl
    · by_cases c1 : (high : Int) < x.toInt
      · refine ⟨high, Or.inl (Nat.le_refl _), ?_, ?_⟩
        · have m1 : mnI (nI high) x = nI high := by
            unfold mnI; rw [if_neg (by rw [Int32.lt_iff_toInt_lt]; omega)]
          rw [m1]
          unfold mxI
          by_cases h0 : high = 0
          · subst h0; rw [if_neg (by decide)]
          · rw [if_pos (by rw [Int32.lt_iff_toInt_lt]; omega)]
        · unfold clp
          rw [if_neg (by rw [Int64.lt_iff_toInt_lt, Int32.toInt_toInt64]; omega), if_pos (by rw [Int64.lt_iff_toInt_lt, Int32.toInt_toInt64, Int32.toInt_toInt64]; omega), i32_64]
      · have ex : x = nI x.toInt.toNat := Int32.toInt_inj.mp (by rw [nI_tz (by omega)]; omega)
        refine ⟨x.toInt.toNat, Or.inl (by omega), ?_, ?_⟩
        · rw [← ex]
          have m1 : mnI (nI high) x = x := by
            unfold mnI
            by_cases c2 : x < nI high
            · rw [if_pos c2]
            · rw [if_neg c2]
              apply Int32.toInt_inj.mp
              rw [Int32.lt_iff_toInt_lt] at c2
              omega
          rw [m1]
          unfold mxI
          by_cases c2 : nI 0 < x
          · rw [if_pos c2]
          · rw [if_neg c2]
            congr 1
            apply Int32.toInt_inj.mp
            rw [Int32.lt_iff_toInt_lt] at c2
            omega
        · rw [← ex]
          unfold clp
          rw [if_neg (by rw [Int64.lt_iff_toInt_lt, Int32.toInt_toInt64]; omega), if_neg (by rw [Int64.lt_iff_toInt_lt, Int32.toInt_toInt64, Int32.toInt_toInt64]; omega), i32_64]
theorem oneY {hd : Nat} (hhd : ¬ hd < 2) (v : Option Int32) : (tcl hd 1 (nI 0).toInt64 v).toInt32 = if v = none then nI 0 else nI 1 := by
  cases v with
  | none => rfl
  | some x =>
    unfold tcl
    simp only [Option.elim, if_neg hhd]
    rfl
theorem BkR_m {o a1 : Nat} {V V1 M M1 : Vt} (ha : a1 + 9 < o) (cx : chX o V V1) (cm : chM M M1) (h : BkR V a1 (M.2.1 2)) : BkR V1 a1 (M1.2.1 2) := by
  unfold BkR
  rw [cx.2.1 (a1 + 1) (by omega) (by omega), cx.2.1 (a1 + 3) (by omega) (by omega), cx.2.1 (a1 + 4) (by omega) (by omega), cx.2.1 (a1 + 6) (by omega) (by omega), cx.2.2 a1 9 (by omega), cm.2.1 2 (by omega)]
  exact h
theorem clK_m {o a1 : Nat} {V V1 : Vt} {p : Int32} (ha : a1 + 9 < o) (cx : chX o V V1) (h : clK V a1 p) : clK V1 a1 p := by
  unfold clK
  rw [cx.2.2 a1 9 (by omega)]
  exact h
theorem TX_m {X : TxP} {S : St} {o q i : Nat} {V V1 : Vt} {K : Nat → Int32} (ho : o + 3 < 64) (hq : 64 ≤ q) (cx : chX o V V1) (h : TX X S V q K i) : TX X S V1 q K i :=
  TX_c (funext fun j => cx.2.2 q j (by omega)) (cx.2.1 (q + 1) (by omega) (by omega)) (cx.2.1 (q + 2) (by omega) (by omega)) rfl (fun _ _ => rfl) (fun _ _ => rfl) h
theorem nI_m1 {k : Nat} (h : k < 2147483648) : ¬ nI k = (-1 : Int32) := fun q => by have := congrArg Int32.toInt q; rw [nI_tz (by omega)] at this; have e : (-1 : Int32).toInt = -1 := rfl; omega
theorem tellF {N : Nat} (hN : 20000 ≤ N) {S : St} {V M : Vt} {o a1 : Nat} {im : Nat → Nat} (ha : a1 + 9 < o) (ho : o + 3 < 64) (hs : S.2.2.1 (o + 3) = 10) (hB : BkR V a1 (M.2.1 2)) (hL : BkL XL S V im (V.1 a1) (V.2.2.2 (a1 + 7)) (M.2.1 2)) :
    (f_X0_lawInForce N S V a1 = some 0 ∧ ∀ M1, chM M M1 → ∀ (a b c d : Int32) (wo : Nat), f_X9_tells N M1 a b c d (nI wo) = some (nI wo, M1)) ∨
    ∃ q, f_X0_lawInForce N S V a1 = some (q + 1) ∧ tshB S q = true ∧ ∀ V1 M1, chX o V V1 → chM M M1 → ∀ c, c < 25 → ∀ p, clK V a1 p → ∀ hd, hd < 4 → ∀ high wo, ∃ v V2 M2, (∀ x, v = some x → x ≠ MNV) ∧ f_X6_lastTold_t N S V1 o a1 q (nI hd) (nI c) p = some (v.getD MNV, V2) ∧ f_X9_tells N M1 (nI (hd + 1)) p (nI c) (nI high) (nI wo) = some ((tcl hd high (nI wo).toInt64 v).toInt32, M2) ∧ chX o V1 V2 ∧ chM M1 M2 := by
  obtain ⟨e1, e2, n, hn, e3, e4, e5, e6⟩ := hL
  rcases e4 with e4 | ⟨j, hj, e4⟩
  · refine Or.inl ⟨?_, fun M1 cm a b c d wo => ?_⟩
    · unfold f_X0_lawInForce
      rw [e2, e4, if_pos (by decide)]
    · unfold f_X9_tells
      rw [lj 107, pl_ck (by omega) (by omega), nI_cl (by omega), cm.2.1 2 (by omega), e4, if_pos rfl]
  · obtain ⟨q, hq, ht⟩ := e6 j hj
    obtain ⟨q', hq', hT⟩ : ∃ q', V.2.2.2 (a1 + 7) j = q' + 1 ∧ TH S im q' := by
      rcases e5 j (by omega) with h | h
      · rw [h] at hq; cases hq
      · exact h
    have : q' = q := by rw [hq] at hq'; omega
    subst this
    refine Or.inr ⟨q', ?_, hT.2.1, fun V1 M1 cx cm c hc p hp hd hhd high wo => ?_⟩
    · have h1 : ¬ n ≤ j := by omega
      have np : ¬ nI j < nI 0 := by rw [nI_T (by omega) (by omega)]; omega
      unfold f_X0_lawInForce
      simp (disch := omega) only [e1, e2, e3, e4, h1, np, hq, hT.2.1, ↓pl_bd, pl_ob, pl_ob1, pl_obv, pl_oa, pl_oav, pl_cg, pl_cb0, pl_cb1, pl_nl0, pl_nls, li, nI_cl, pl_ck, nI_E, nI_L, nI_T, nI_add, pk_mul, Nat.zero_add, Nat.add_zero, Nat.reduceAdd, Nat.reduceMul, Nat.reduceSub, Nat.reduceEqDiff, Nat.reduceLeDiff, Nat.reduceLT, ↓reduceIte]
    · have k1 : M1.2.1 2 107 = nI j := by rw [cm.2.1 2 (by omega)]; exact e4
      exact tell hN ha ho hT.1 hs (BkR_m ha cx cm hB) (by omega) k1 (by rw [cm.2.1 2 (by omega)]; exact TX_m ho hT.1 cx ht) hc (clK_m ha cx hp) hhd high wo
theorem BkR_of {f e fe su ke ha te si pa K : Nat → Int32} {V : Vt} {a1 : Nat} (h : BkA f e fe su ke ha te si pa K) (h0 : V.1 a1 = f) (h1 : V.2.1 (a1 + 1) = e) (h3 : V.2.1 (a1 + 3) = su) (h4 : V.2.1 (a1 + 4) = ke) (h6 : V.2.1 (a1 + 6) = te) : BkR V a1 K := by
  obtain ⟨b1, b2, b3, b4, b5, b6, b7, b8, b9⟩ := h
  unfold BkR
  rw [h0, h1, h3, h4, h6]
  exact ⟨b1, b3, b4, b6, b9⟩
theorem len_of {S : St} (h : shp S 0 t8) (i : Nat) (x : Nat × Nat × List Nat) (e : t8[i]? = some x) : S.2.2.1 i = x.2.1 := by
  have := (h i x e).2.2.1
  rw [Nat.zero_add] at this
  exact this
theorem SX_ch {o : Nat} {V V' : Vt} (ho : o = 44 ∨ o = 49) (h : chX o V V') : SX V V' := by
  refine ⟨fun g hg => ⟨funext fun j => h.2.2 g j ?_, h.2.1 g ?_ ?_, by rw [h.1]⟩, h.2.2 37 8 (by omega)⟩
  · intro q
    rcases ho with rfl | rfl <;> (rw [q.1] at hg; exact absurd hg (by decide))
  · intro q
    rcases ho with rfl | rfl <;> (rw [q] at hg; exact absurd hg (by decide))
  · intro q
    rcases ho with rfl | rfl <;> (rw [q] at hg; exact absurd hg (by decide))
theorem SM_ch {M M' : Vt} (h : chM M M') : SM0 M M' := by
  refine ⟨fun g hg => h.2.1 g (fun q => by rw [q] at hg; exact absurd hg (by decide)), fun j hj => h.2.2 0 j (fun q => ?_)⟩
  have : j = 22 ∨ j = 23 ∨ j = 24 ∨ j = 25 := by omega
  rcases this with rfl | rfl | rfl | rfl <;> exact absurd hj (by decide)
section OPS
variable {N b0 : Nat}
theorem op_at (hN : 20000 ≤ N) : Op_at N b0 (Rel XL b0) := by
  intro S V M hR a1 a2
  have hB := hR.2.1
  have hBR : BkR V 1 (M.2.1 2) := BkR_of hB rfl rfl rfl rfl rfl
  have hs : S.2.2.1 47 = 10 := len_of hR.1.1 47 _ rfl
  rcases cell_c N a1 with ⟨c, hc, rfl, e8, e9⟩ | ⟨e8, e9⟩
  · by_cases h0 : a2 = nI 0
    · subst h0
      refine ⟨M.2.1 2 c, V, M, ?_, ?_, hR⟩
      · simp (disch := omega) only [f_X8_at, e8, pl_bd, pl_ob, pl_ob1, pl_obv, pl_oa, pl_oav, pl_cg, pl_cb0, pl_cb1, pl_nl0, pl_nls, li, nI_cl, pl_ck, nI_E, nI_L, nI_T, nI_add, pk_mul, nI_s1, Nat.zero_add, Nat.add_zero, Nat.reduceAdd, Nat.reduceMul, Nat.reduceSub, Nat.reduceEqDiff, Nat.reduceLeDiff, Nat.reduceLT, ↓reduceIte]
        rw [(hB.1 c hc).1]
      · simp (disch := omega) only [f_X9_at, e9, pl_bd, pl_ob, pl_ob1, pl_obv, pl_oa, pl_oav, pl_cg, pl_cb0, pl_cb1, pl_nl0, pl_nls, li, nI_cl, pl_ck, nI_E, nI_L, nI_T, nI_add, pk_mul, nI_s1, Nat.zero_add, Nat.add_zero, Nat.reduceAdd, Nat.reduceMul, Nat.reduceSub, Nat.reduceEqDiff, Nat.reduceLeDiff, Nat.reduceLT, ↓reduceIte]
    · by_cases h1 : a2 = nI 1
      · subst h1
        obtain ⟨F, hF, eF, hf⟩ := hB.2.1
        refine ⟨nI (F / 2 ^ c % 2), V, M, ?_, ?_, hR⟩
        · simp (disch := omega) only [f_X8_at, e8, pl_bd, pl_ob, pl_ob1, pl_obv, pl_oa, pl_oav, pl_cg, pl_cb0, pl_cb1, pl_nl0, pl_nls, li, nI_cl, pl_ck, nI_E, nI_L, nI_T, nI_add, pk_mul, nI_s1, Nat.zero_add, Nat.add_zero, Nat.reduceAdd, Nat.reduceMul, Nat.reduceSub, Nat.reduceEqDiff, Nat.reduceLeDiff, Nat.reduceLT, ↓reduceIte]
          rw [hf c hc]
        · have sh := pk_shrN (n := F) (by omega) (nI c &&& 31) c (s_l c (by omega))
          have an : nI (F / 2 ^ c) &&& nI 1 = nI (F / 2 ^ c % 2) := by
            have := pk_andN (n := F / 2 ^ c) (Nat.lt_of_le_of_lt (Nat.div_le_self _ _) (by omega)) (m := nI 1) 1 rfl
            exact this
          have sh' : nI F >>> (nI c &&& nI 31) = nI (F / 2 ^ c) := sh
          have lt : F / 2 ^ c % 2 < 2 := Nat.mod_lt _ (by omega)
          simp (disch := omega) only [f_X9_at, e9, eF, f_X9_isIn, sh', an, ↓pl_bd, pl_ob, pl_ob1, pl_obv, pl_oa, pl_oav, pl_cg, pl_cb0, pl_cb1, pl_nl0, pl_nls, li, nI_cl, pl_ck, nI_E, nI_L, nI_T, nI_add, pk_mul, Nat.zero_add, Nat.add_zero, Nat.reduceAdd, Nat.reduceMul, Nat.reduceSub, Nat.reduceEqDiff, Nat.reduceLeDiff, Nat.reduceLT, ↓reduceIte]
          rcases (by omega : F / 2 ^ c % 2 = 0 ∨ F / 2 ^ c % 2 = 1) with h | h <;> rw [h] <;> rfl
      · by_cases h2 : a2 = nI 2
        · subst h2
          rcases tellF hN (o := 44) (a1 := 1) (by omega) (by omega) hs hBR hR.2.2.1 with ⟨l1, t1⟩ | ⟨q, l1, l2, t1⟩
          · refine ⟨nI 2, V, M, ?_, ?_, hR⟩
            · simp (disch := omega) only [f_X8_at, e8, l1, f_X6_lastTold_n, ↓pl_bd, pl_ob, pl_ob1, pl_obv, pl_oa, pl_oav, pl_cg, pl_cb0, pl_cb1, pl_nl0, pl_nls, li, nI_cl, pl_ck, nI_E, nI_L, nI_T, nI_add, pk_mul, Nat.zero_add, Nat.add_zero, Nat.reduceAdd, Nat.reduceMul, Nat.reduceSub, Nat.reduceEqDiff, Nat.reduceLeDiff, Nat.reduceLT, ↓reduceIte]
              rfl
            · have := t1 M (chM_r M) (nI 1) (-nI 1) (nI c) (nI 4) 2
              simp (disch := omega) only [f_X9_at, e9, f_X9_ledFrom, this, ↓pl_bd, pl_ob, pl_ob1, pl_obv, pl_oa, pl_oav, pl_cg, pl_cb0, pl_cb1, pl_nl0, pl_nls, li, nI_cl, pl_ck, nI_E, nI_L, nI_T, nI_add, pk_mul, Nat.zero_add, Nat.add_zero, Nat.reduceAdd, Nat.reduceMul, Nat.reduceSub, Nat.reduceEqDiff, Nat.reduceLeDiff, Nat.reduceLT, ↓reduceIte]
          · obtain ⟨v, V2, M2, ne, f1, f2, cx, cm⟩ := t1 V M (chX_r 44 V) (chM_r M) c hc (-1) (Or.inl rfl) 0 (by omega) 4 2
            obtain ⟨y, -, n1, n2⟩ := nearY (N := N) (hd := 0) (high := 4) (wo := 2) (by omega) (by omega) (by omega) ne
            rw [n2] at f2
            refine ⟨nI y, V2, M2, ?_, ?_, Rel_s hR (SX_ch (Or.inl rfl) cx) (SM_ch cm)⟩
            · have f1' : f_X6_lastTold_t N S V 44 1 q (nI 0) (nI c) (-nI 1) = some (v.getD MNV, V2) := f1
              simp (disch := omega) only [f_X8_at, e8, l1, l2, f1', n1, ↓pl_bd, pl_ob, pl_ob1, pl_obv, pl_oa, pl_oav, pl_cg, pl_cb0, pl_cb1, pl_nl0, pl_nls, li, nI_cl, pl_ck, nI_E, nI_L, nI_T, nI_add, pk_mul, Nat.zero_add, Nat.add_zero, Nat.reduceAdd, Nat.reduceMul, Nat.reduceSub, Nat.reduceEqDiff, Nat.reduceLeDiff, Nat.reduceLT, ↓reduceIte]
            · have f2' : f_X9_tells N M (nI 1) (-nI 1) (nI c) (nI 4) (nI 2) = some (nI y, M2) := f2
              simp (disch := omega) only [f_X9_at, e9, f_X9_ledFrom, f2', ↓pl_bd, pl_ob, pl_ob1, pl_obv, pl_oa, pl_oav, pl_cg, pl_cb0, pl_cb1, pl_nl0, pl_nls, li, nI_cl, pl_ck, nI_E, nI_L, nI_T, nI_add, pk_mul, Nat.zero_add, Nat.add_zero, Nat.reduceAdd, Nat.reduceMul, Nat.reduceSub, Nat.reduceEqDiff, Nat.reduceLeDiff, Nat.reduceLT, ↓reduceIte]
        · by_cases h3 : a2 = nI 3
          · subst h3
            rcases tellF hN (o := 44) (a1 := 1) (by omega) (by omega) hs hBR hR.2.2.1 with ⟨l1, t1⟩ | ⟨q, l1, l2, t1⟩
            · refine ⟨nI 0, V, M, ?_, ?_, hR⟩
              · simp (disch := omega) only [f_X8_at, e8, l1, f_X6_lastTold_n, ↓pl_bd, pl_ob, pl_ob1, pl_obv, pl_oa, pl_oav, pl_cg, pl_cb0, pl_cb1, pl_nl0, pl_nls, li, nI_cl, pl_ck, nI_E, nI_L, nI_T, nI_add, pk_mul, Nat.zero_add, Nat.add_zero, Nat.reduceAdd, Nat.reduceMul, Nat.reduceSub, Nat.reduceEqDiff, Nat.reduceLeDiff, Nat.reduceLT, ↓reduceIte]
              · have := t1 M (chM_r M) (nI 3) (-nI 1) (nI c) (nI 1) 0
                simp (disch := omega) only [f_X9_at, e9, f_X9_bites, this, ↓pl_bd, pl_ob, pl_ob1, pl_obv, pl_oa, pl_oav, pl_cg, pl_cb0, pl_cb1, pl_nl0, pl_nls, li, nI_cl, pl_ck, nI_E, nI_L, nI_T, nI_add, pk_mul, Nat.zero_add, Nat.add_zero, Nat.reduceAdd, Nat.reduceMul, Nat.reduceSub, Nat.reduceEqDiff, Nat.reduceLeDiff, Nat.reduceLT, ↓reduceIte]
            · obtain ⟨v, V2, M2, ne, f1, f2, cx, cm⟩ := t1 V M (chX_r 44 V) (chM_r M) c hc (-1) (Or.inl rfl) 2 (by omega) 1 0
              rw [oneY (by omega)] at f2
              have f1' : f_X6_lastTold_t N S V 44 1 q (nI 2) (nI c) (-nI 1) = some (v.getD MNV, V2) := f1
              have f2' : f_X9_tells N M (nI 3) (-nI 1) (nI c) (nI 1) (nI 0) = some (if v = none then nI 0 else nI 1, M2) := f2
              cases v with
              | none =>
                refine ⟨nI 0, V2, M2, ?_, ?_, Rel_s hR (SX_ch (Or.inl rfl) cx) (SM_ch cm)⟩
                · simp (disch := omega) only [f_X8_at, e8, l1, l2, f1', ↓pl_bd, pl_ob, pl_ob1, pl_obv, pl_oa, pl_oav, pl_cg, pl_cb0, pl_cb1, pl_nl0, pl_nls, li, nI_cl, pl_ck, nI_E, nI_L, nI_T, nI_add, pk_mul, Nat.zero_add, Nat.add_zero, Nat.reduceAdd, Nat.reduceMul, Nat.reduceSub, Nat.reduceEqDiff, Nat.reduceLeDiff, Nat.reduceLT, ↓reduceIte]
                  rfl
                · simp (disch := omega) only [f_X9_at, e9, f_X9_bites, f2', ↓pl_bd, pl_ob, pl_ob1, pl_obv, pl_oa, pl_oav, pl_cg, pl_cb0, pl_cb1, pl_nl0, pl_nls, li, nI_cl, pl_ck, nI_E, nI_L, nI_T, nI_add, pk_mul, Nat.zero_add, Nat.add_zero, Nat.reduceAdd, Nat.reduceMul, Nat.reduceSub, Nat.reduceEqDiff, Nat.reduceLeDiff, Nat.reduceLT, ↓reduceIte]
              | some x =>
                refine ⟨nI 1, V2, M2, ?_, ?_, Rel_s hR (SX_ch (Or.inl rfl) cx) (SM_ch cm)⟩
                · have nx : ¬ (some x).getD MNV = -nI 2000000000 := ne x rfl
                  simp (disch := omega) only [f_X8_at, e8, l1, l2, f1', nx, ↓pl_bd, pl_ob, pl_ob1, pl_obv, pl_oa, pl_oav, pl_cg, pl_cb0, pl_cb1, pl_nl0, pl_nls, li, nI_cl, pl_ck, nI_E, nI_L, nI_T, nI_add, pk_mul, Nat.zero_add, Nat.add_zero, Nat.reduceAdd, Nat.reduceMul, Nat.reduceSub, Nat.reduceEqDiff, Nat.reduceLeDiff, Nat.reduceLT, ↓reduceIte]
                · have hn : ((some x : Option Int32) = none) = False := by simp
                  simp (disch := omega) only [f_X9_at, e9, f_X9_bites, f2', hn, ↓pl_bd, pl_ob, pl_ob1, pl_obv, pl_oa, pl_oav, pl_cg, pl_cb0, pl_cb1, pl_nl0, pl_nls, li, nI_cl, pl_ck, nI_E, nI_L, nI_T, nI_add, pk_mul, Nat.zero_add, Nat.add_zero, Nat.reduceAdd, Nat.reduceMul, Nat.reduceSub, Nat.reduceEqDiff, Nat.reduceLeDiff, Nat.reduceLT, ↓reduceIte]
          · refine ⟨-1, V, M, ?_, ?_, hR⟩
            · have g0 : ¬ a2 = 0 := h0
              have g1 : ¬ a2 = 1 := h1
              have g2 : ¬ a2 = 2 := h2
              have g3 : ¬ a2 = 3 := h3
              unfold f_X8_at
              rw [e8, pl_ob1, if_neg (by decide), if_neg g0, if_neg g1, if_neg g2, if_neg g3]
            · have g0 : ¬ a2 = 0 := h0
              have g1 : ¬ a2 = 1 := h1
              have g2 : ¬ a2 = 2 := h2
              have g3 : ¬ a2 = 3 := h3
              unfold f_X9_at
              rw [e9, pl_ob1, if_neg (by decide), if_neg g0, if_neg g1, if_neg g2, if_neg g3]
  · refine ⟨-1, V, M, ?_, ?_, hR⟩
    · unfold f_X8_at; rw [e8]; rfl
    · unfold f_X9_at; rw [e9]; rfl
theorem op_asks (hN : 20000 ≤ N) : Op_asks N b0 (Rel XL b0) := by
  intro S V M hR a1 a2 a3
  have hB := hR.2.1
  have hBR : BkR V 1 (M.2.1 2) := BkR_of hB rfl rfl rfl rfl rfl
  have hs : S.2.2.1 47 = 10 := len_of hR.1.1 47 _ rfl
  obtain ⟨ec, n, hn, en⟩ := hB.2.2.2.2.2.2.2.2
  rcases clerk_c N S V M 1 n hn (ec.trans en) en a1 with ⟨k, hk, rfl, k8, k9⟩ | ⟨k8, k9⟩
  · rcases cell_c N a2 with ⟨c, hc, rfl, e8, e9⟩ | ⟨e8, e9⟩
    · have ck : clK V 1 (nI k) := Or.inr ⟨k, n, hk, hn, rfl, ec.trans en⟩
      by_cases h0 : a3 = nI 0
      · subst h0
        rcases tellF hN (o := 44) (a1 := 1) (by omega) (by omega) hs hBR hR.2.2.1 with ⟨l1, t1⟩ | ⟨q, l1, l2, t1⟩
        · refine ⟨nI 10, V, M, ?_, ?_, hR⟩
          · simp (disch := omega) only [f_X8_asks, k8, e8, l1, f_X6_lastTold_n, ↓pl_bd, pl_ob, pl_ob1, pl_obv, pl_oa, pl_oav, pl_cg, pl_cb0, pl_cb1, pl_nl0, pl_nls, li, nI_cl, pl_ck, nI_E, nI_L, nI_T, nI_add, pk_mul, Nat.zero_add, Nat.add_zero, Nat.reduceAdd, Nat.reduceMul, Nat.reduceSub, Nat.reduceEqDiff, Nat.reduceLeDiff, Nat.reduceLT, ↓reduceIte]
            rfl
          · have := t1 M (chM_r M) (nI 2) (nI k) (nI c) (nI 99) 10
            simp (disch := omega) only [f_X9_asks, k9, e9, f_X9_takesMost, this, ↓pl_bd, pl_ob, pl_ob1, pl_obv, pl_oa, pl_oav, pl_cg, pl_cb0, pl_cb1, pl_nl0, pl_nls, li, nI_cl, pl_ck, nI_E, nI_L, nI_T, nI_add, pk_mul, Nat.zero_add, Nat.add_zero, Nat.reduceAdd, Nat.reduceMul, Nat.reduceSub, Nat.reduceEqDiff, Nat.reduceLeDiff, Nat.reduceLT, ↓reduceIte]
        · obtain ⟨v, V2, M2, ne, f1, f2, cx, cm⟩ := t1 V M (chX_r 44 V) (chM_r M) c hc (nI k) ck 1 (by omega) 99 10
          obtain ⟨y, -, n1, n2⟩ := nearY (N := N) (hd := 1) (high := 99) (wo := 10) (by omega) (by omega) (by omega) ne
          rw [n2] at f2
          refine ⟨nI y, V2, M2, ?_, ?_, Rel_s hR (SX_ch (Or.inl rfl) cx) (SM_ch cm)⟩
          · simp (disch := omega) only [f_X8_asks, k8, e8, l1, l2, f1, n1, ↓pl_bd, pl_ob, pl_ob1, pl_obv, pl_oa, pl_oav, pl_cg, pl_cb0, pl_cb1, pl_nl0, pl_nls, li, nI_cl, pl_ck, nI_E, nI_L, nI_T, nI_add, pk_mul, Nat.zero_add, Nat.add_zero, Nat.reduceAdd, Nat.reduceMul, Nat.reduceSub, Nat.reduceEqDiff, Nat.reduceLeDiff, Nat.reduceLT, ↓reduceIte]
          · have f2' : f_X9_tells N M (nI 2) (nI k) (nI c) (nI 99) (nI 10) = some (nI y, M2) := f2
            simp (disch := omega) only [f_X9_asks, k9, e9, f_X9_takesMost, f2', ↓pl_bd, pl_ob, pl_ob1, pl_obv, pl_oa, pl_oav, pl_cg, pl_cb0, pl_cb1, pl_nl0, pl_nls, li, nI_cl, pl_ck, nI_E, nI_L, nI_T, nI_add, pk_mul, Nat.zero_add, Nat.add_zero, Nat.reduceAdd, Nat.reduceMul, Nat.reduceSub, Nat.reduceEqDiff, Nat.reduceLeDiff, Nat.reduceLT, ↓reduceIte]
      · by_cases h1 : a3 = nI 1
        · subst h1
          rcases tellF hN (o := 44) (a1 := 1) (by omega) (by omega) hs hBR hR.2.2.1 with ⟨l1, t1⟩ | ⟨q, l1, l2, t1⟩
          · refine ⟨nI 0, V, M, ?_, ?_, hR⟩
            · simp (disch := omega) only [f_X8_asks, k8, e8, l1, f_X6_lastTold_n, ↓pl_bd, pl_ob, pl_ob1, pl_obv, pl_oa, pl_oav, pl_cg, pl_cb0, pl_cb1, pl_nl0, pl_nls, li, nI_cl, pl_ck, nI_E, nI_L, nI_T, nI_add, pk_mul, Nat.zero_add, Nat.add_zero, Nat.reduceAdd, Nat.reduceMul, Nat.reduceSub, Nat.reduceEqDiff, Nat.reduceLeDiff, Nat.reduceLT, ↓reduceIte]
            · have := t1 M (chM_r M) (nI 4) (nI k) (nI c) (nI 1) 0
              simp (disch := omega) only [f_X9_asks, k9, e9, f_X9_isBarred, this, ↓pl_bd, pl_ob, pl_ob1, pl_obv, pl_oa, pl_oav, pl_cg, pl_cb0, pl_cb1, pl_nl0, pl_nls, li, nI_cl, pl_ck, nI_E, nI_L, nI_T, nI_add, pk_mul, Nat.zero_add, Nat.add_zero, Nat.reduceAdd, Nat.reduceMul, Nat.reduceSub, Nat.reduceEqDiff, Nat.reduceLeDiff, Nat.reduceLT, ↓reduceIte]
          · obtain ⟨v, V2, M2, ne, f1, f2, cx, cm⟩ := t1 V M (chX_r 44 V) (chM_r M) c hc (nI k) ck 3 (by omega) 1 0
            rw [oneY (by omega)] at f2
            have f2' : f_X9_tells N M (nI 4) (nI k) (nI c) (nI 1) (nI 0) = some (if v = none then nI 0 else nI 1, M2) := f2
            cases v with
            | none =>
              refine ⟨nI 0, V2, M2, ?_, ?_, Rel_s hR (SX_ch (Or.inl rfl) cx) (SM_ch cm)⟩
              · simp (disch := omega) only [f_X8_asks, k8, e8, l1, l2, f1, ↓pl_bd, pl_ob, pl_ob1, pl_obv, pl_oa, pl_oav, pl_cg, pl_cb0, pl_cb1, pl_nl0, pl_nls, li, nI_cl, pl_ck, nI_E, nI_L, nI_T, nI_add, pk_mul, Nat.zero_add, Nat.add_zero, Nat.reduceAdd, Nat.reduceMul, Nat.reduceSub, Nat.reduceEqDiff, Nat.reduceLeDiff, Nat.reduceLT, ↓reduceIte]
                rfl
              · simp (disch := omega) only [f_X9_asks, k9, e9, f_X9_isBarred, f2', ↓pl_bd, pl_ob, pl_ob1, pl_obv, pl_oa, pl_oav, pl_cg, pl_cb0, pl_cb1, pl_nl0, pl_nls, li, nI_cl, pl_ck, nI_E, nI_L, nI_T, nI_add, pk_mul, Nat.zero_add, Nat.add_zero, Nat.reduceAdd, Nat.reduceMul, Nat.reduceSub, Nat.reduceEqDiff, Nat.reduceLeDiff, Nat.reduceLT, ↓reduceIte]
            | some x =>
              refine ⟨nI 1, V2, M2, ?_, ?_, Rel_s hR (SX_ch (Or.inl rfl) cx) (SM_ch cm)⟩
              · have nx : ¬ (some x).getD MNV = -nI 2000000000 := ne x rfl
                simp (disch := omega) only [f_X8_asks, k8, e8, l1, l2, f1, nx, ↓pl_bd, pl_ob, pl_ob1, pl_obv, pl_oa, pl_oav, pl_cg, pl_cb0, pl_cb1, pl_nl0, pl_nls, li, nI_cl, pl_ck, nI_E, nI_L, nI_T, nI_add, pk_mul, Nat.zero_add, Nat.add_zero, Nat.reduceAdd, Nat.reduceMul, Nat.reduceSub, Nat.reduceEqDiff, Nat.reduceLeDiff, Nat.reduceLT, ↓reduceIte]
              · have hn : ((some x : Option Int32) = none) = False := by simp
                simp (disch := omega) only [f_X9_asks, k9, e9, f_X9_isBarred, f2', hn, ↓pl_bd, pl_ob, pl_ob1, pl_obv, pl_oa, pl_oav, pl_cg, pl_cb0, pl_cb1, pl_nl0, pl_nls, li, nI_cl, pl_ck, nI_E, nI_L, nI_T, nI_add, pk_mul, Nat.zero_add, Nat.add_zero, Nat.reduceAdd, Nat.reduceMul, Nat.reduceSub, Nat.reduceEqDiff, Nat.reduceLeDiff, Nat.reduceLT, ↓reduceIte]
        · refine ⟨-1, V, M, ?_, ?_, hR⟩
          · have g0 : ¬ a3 = 0 := h0
            have g1 : ¬ a3 = 1 := h1
            unfold f_X8_asks
            rw [k8, pl_ob1, if_neg (by decide), e8, pl_ob1, if_neg (by decide), if_neg g0, if_neg g1]
          · have g0 : ¬ a3 = 0 := h0
            have g1 : ¬ a3 = 1 := h1
            unfold f_X9_asks
            rw [k9, pl_ob1, if_neg (by decide), e9, pl_ob1, if_neg (by decide), if_neg g0, if_neg g1]
    · refine ⟨-1, V, M, ?_, ?_, hR⟩
      · unfold f_X8_asks; rw [k8, pl_ob1, if_neg (by decide), e8]; rfl
      · unfold f_X9_asks; rw [k9, pl_ob1, if_neg (by decide), e9]; rfl
  · refine ⟨-1, V, M, ?_, ?_, hR⟩
    · unfold f_X8_asks; rw [k8]; rfl
    · unfold f_X9_asks; rw [k9]; rfl
end OPS
/-- how much is taken: both sides -/
theorem canT {N : Nat} (hN : 20000 ≤ N) {S : St} {V M : Vt} {a1 : Nat} {im : Nat → Nat} (ha : a1 + 9 < 44) (hs : S.2.2.1 47 = 10) (hB : BkR V a1 (M.2.1 2)) (hL : BkL XL S V im (V.1 a1) (V.2.2.2 (a1 + 7)) (M.2.1 2)) {c k n : Nat} (hc : c < 25) (hk : k < n) (hn : n ≤ 5) (en : V.1 a1 9 = nI n) :
    ∃ x V1 M1, x ≤ 99 ∧ (∃ w, w ≤ 999 ∧ V.2.1 (a1 + 1) c = nI w ∧ x ≤ w) ∧ f_X8_takeAway N S V 0 a1 (nI c) (nI k) = (if x = 0 then some (-3, V1) else some (nI x, sA (sA V1 (a1 + 1) c (V1.2.1 (a1 + 1) c - nI x)) (a1 + 5) k (mnI (nI 9999) (V1.2.1 (a1 + 5) k + nI x)))) ∧ f_X9_canTake N M (nI c) (nI k) = some (nI x, M1) ∧ chX 44 V V1 ∧ chM M M1 := by
  obtain ⟨e25, w, hw, ew25⟩ := hB.1 c hc
  have vw : V.2.1 (a1 + 1) c = nI w := e25.trans ew25
  have ck : clK V a1 (nI k) := Or.inr ⟨k, n, hk, hn, rfl, en⟩
  have e8 : f_X8_isCell N (nI c) = some (nI 1) := by
    rcases cell_c N (nI c) with ⟨c', hc', e, e8, -⟩ | ⟨e8, e9⟩
    · exact e8
    · exfalso
      unfold f_X8_isCell at e8
      rw [if_neg (nI_pos (by omega)), lj 25, if_neg (by rw [nI_L (by omega) (by omega)]; omega)] at e8
      cases e8
  have k8 : f_X0_hasClerk N S V a1 (nI k) = some (nI 1) := by
    unfold f_X0_hasClerk
    rw [en, if_neg (nI_pos (by omega)), if_neg (by rw [nI_L (by omega) (by omega)]; omega)]; rfl
  have sumr : ∀ (y : Nat) (V1 : Vt), y ≤ 1000 → chX 44 V V1 → (bd (mnI (nI y) (V1.2.1 (a1 + 1) c)) (fun x62 => if (1 : Int32) ≤ x62 then bd (sA V1 (a1 + 1) c (V1.2.1 (a1 + 1) c - x62)) (fun V66 => bd (sA V66 (a1 + 5) k (mnI (9999 : Int32) (V66.2.1 (a1 + 5) k + x62))) (fun V69 => some (x62, V69))) else some ((-3 : Int32), V1))) = (if min y w = 0 then some (-3, V1) else some (nI (min y w), sA (sA V1 (a1 + 1) c (V1.2.1 (a1 + 1) c - nI (min y w))) (a1 + 5) k (mnI (nI 9999) (V1.2.1 (a1 + 5) k + nI (min y w))))) := by
    intro y V1 hy cx
    have v1 : V1.2.1 (a1 + 1) c = nI w := by rw [cx.2.1 (a1 + 1) (by omega) (by omega)]; exact vw
    have mn : mnI (nI y) (V1.2.1 (a1 + 1) c) = nI (min y w) := by
      rw [v1]; unfold mnI
      by_cases h : w < y
      · rw [if_pos (by rw [nI_T (by omega) (by omega)]; exact h), Nat.min_eq_right (by omega)]
      · rw [if_neg (by rw [nI_T (by omega) (by omega)]; exact h), Nat.min_eq_left (by omega)]
    rw [mn, pl_bd, lj 1]
    by_cases h : min y w = 0
    · rw [if_neg (show ¬ nI 1 ≤ nI (min y w) by rw [nI_L (by omega) (by omega)]; omega), if_pos h]
    · rw [if_pos (show nI 1 ≤ nI (min y w) by rw [nI_L (by omega) (by omega)]; omega), if_neg h, pl_bd, sA_n _ _ _ _ _ (show a1 + 5 ≠ a1 + 1 by omega)]
      rfl
  have less : ∀ y : Nat, y ≤ 1000 → f_X9_lesser N (nI w) (nI y) = some (nI (min y w)) := by
    intro y hy
    unfold f_X9_lesser
    by_cases h : y ≤ w
    · rw [if_pos (by rw [nI_L (by omega) (by omega)]; exact h), Nat.min_eq_left h]
    · rw [if_neg (by rw [nI_L (by omega) (by omega)]; exact h), Nat.min_eq_right (by omega)]
  have mw : ∀ M1, chM M M1 → M1.2.1 2 c = nI w := fun M1 cm => by rw [cm.2.1 2 (by omega)]; exact ew25
  rcases tellF hN (o := 44) (a1 := a1) (by omega) (by omega) hs hB hL with ⟨l1, t1⟩ | ⟨q, l1, l2, t1⟩
  · refine ⟨min 10 w, V, M, by omega, ⟨w, hw, vw, by omega⟩, ?_, ?_, chX_r 44 V, chM_r M⟩
    · unfold f_X8_takeAway
      have sr := sumr 10 V (by omega) (chX_r 44 V)
      have ne0 : f_X8_nearest N (-2000000000) 99 10 = some (nI 10) := rfl
      rw [e8, pl_ob1, if_neg (by decide), k8, pl_ob1, if_neg (by decide), l1, pl_ob1, pl_nl0]
      unfold f_X6_lastTold_n
      rw [pl_ob, if_pos rfl, pl_ob, ne0, pl_ob1, pl_ck hc (by omega), nI_cl (by omega), ← sr]
      simp only [pl_ck hc (show 25 < 2147483648 by omega), pl_ck (show k < 5 by omega) (show 5 < 2147483648 by omega), nI_cl (show k < 2147483648 by omega)]
    · have h1 := t1 M (chM_r M) (nI 4) (nI k) (nI c) (nI 1) 0
      have h2 := t1 M (chM_r M) (nI 2) (nI k) (nI c) (nI 99) 10
      have mw' := mw M (chM_r M)
      simp (disch := omega) only [f_X9_canTake, f_X9_isBarred, h1, f_X9_takesMost, h2, mw', less 10, ↓pl_bd, pl_ob, pl_ob1, pl_obv, pl_oa, pl_oav, pl_cg, pl_cb0, pl_cb1, pl_nl0, pl_nls, li, nI_cl, pl_ck, nI_E, nI_L, nI_T, nI_add, pk_mul, Nat.zero_add, Nat.add_zero, Nat.reduceAdd, Nat.reduceMul, Nat.reduceSub, Nat.reduceEqDiff, Nat.reduceLeDiff, Nat.reduceLT, ↓reduceIte]
  · obtain ⟨v, V1, M1, ne, f1, f2, cx, cm⟩ := t1 V M (chX_r 44 V) (chM_r M) c hc (nI k) ck 3 (by omega) 1 0
    rw [oneY (by omega)] at f2
    have f2' : f_X9_tells N M (nI 4) (nI k) (nI c) (nI 1) (nI 0) = some (if v = none then nI 0 else nI 1, M1) := f2
    cases v with
    | some x =>
      refine ⟨0, V1, M1, by omega, ⟨w, hw, vw, by omega⟩, ?_, ?_, cx, cm⟩
      · unfold f_X8_takeAway
        rw [e8, pl_ob1, if_neg (by decide), k8, pl_ob1, if_neg (by decide), l1, pl_ob1, pl_nls, l2, pl_cg]
        have f1' : f_X6_lastTold_t N S V (0 + 44) a1 q 3 (nI c) (nI k) = some ((some x).getD MNV, V1) := f1
        rw [f1', pl_ob, if_neg (show ¬ (some x).getD MNV = -2000000000 from ne x rfl), if_pos rfl]
      · have hn : ((some x : Option Int32) = none) = False := by simp
        simp (disch := omega) only [f_X9_canTake, f_X9_isBarred, f2', hn, ↓pl_bd, pl_ob, pl_ob1, pl_obv, pl_oa, pl_oav, pl_cg, pl_cb0, pl_cb1, pl_nl0, pl_nls, li, nI_cl, pl_ck, nI_E, nI_L, nI_T, nI_add, pk_mul, Nat.zero_add, Nat.add_zero, Nat.reduceAdd, Nat.reduceMul, Nat.reduceSub, Nat.reduceEqDiff, Nat.reduceLeDiff, Nat.reduceLT, ↓reduceIte]
    | none =>
      obtain ⟨v2, V2, M2, ne2, g1, g2, cx2, cm2⟩ := t1 V1 M1 cx cm c hc (nI k) ck 1 (by omega) 99 10
      obtain ⟨y, hy, n1, n2⟩ := nearY (N := N) (hd := 1) (high := 99) (wo := 10) (by omega) (by omega) (by omega) ne2
      rw [n2] at g2
      have g2' : f_X9_tells N M1 (nI 2) (nI k) (nI c) (nI 99) (nI 10) = some (nI y, M2) := g2
      have cx3 := chX_t cx cx2
      refine ⟨min y w, V2, M2, by omega, ⟨w, hw, vw, by omega⟩, ?_, ?_, cx3, chM_t cm cm2⟩
      · have sr := sumr y V2 (by omega) cx3
        unfold f_X8_takeAway
        rw [e8, pl_ob1, if_neg (by decide), k8, pl_ob1, if_neg (by decide), l1, pl_ob1, pl_nls, l2, pl_cg]
        have f1' : f_X6_lastTold_t N S V (0 + 44) a1 q 3 (nI c) (nI k) = some ((none : Option Int32).getD MNV, V1) := f1
        have g1' : f_X6_lastTold_t N S V1 (0 + 44) a1 q 1 (nI c) (nI k) = some (v2.getD MNV, V2) := g1
        have n1' : f_X8_nearest N (v2.getD MNV) 99 10 = some (nI y) := n1
        rw [f1', pl_ob, if_pos (show (none : Option Int32).getD MNV = -2000000000 from rfl), g1', pl_ob, n1', pl_ob1, pl_ck hc (by omega), nI_cl (by omega), ← sr]
        simp only [pl_ck hc (show 25 < 2147483648 by omega), pl_ck (show k < 5 by omega) (show 5 < 2147483648 by omega), nI_cl (show k < 2147483648 by omega)]
      · have mw' := mw M1 cm
        simp (disch := omega) only [f_X9_canTake, f_X9_isBarred, f2', f_X9_takesMost, g2', mw', less y, ↓pl_bd, pl_ob, pl_ob1, pl_obv, pl_oa, pl_oav, pl_cg, pl_cb0, pl_cb1, pl_nl0, pl_nls, li, nI_cl, pl_ck, nI_E, nI_L, nI_T, nI_add, pk_mul, Nat.zero_add, Nat.add_zero, Nat.reduceAdd, Nat.reduceMul, Nat.reduceSub, Nat.reduceEqDiff, Nat.reduceLeDiff, Nat.reduceLT, ↓reduceIte]
end
