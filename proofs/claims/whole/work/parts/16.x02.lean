def f_X8_isWithin (N : Nat) (a1 : Int32) (a2 : Int32) (a3 : Int32) : Option Int32 := if a1 < a2 then some (0 : Int32) else if a3 < a1 then some (0 : Int32) else some (1 : Int32)
set_option maxHeartbeats 4000000 in
set_option maxRecDepth 100000 in
theorem c_X8_isWithin (l : Launch) (D : va_G) (cy : Nat → ClassId) (ad : Nat → Nat) (A : Nat → Prop) (Kc : State → Prop) (C0 : Cx ad A Kc) (N : Nat) (S : St) (V : Vt) (a1 : Int32) (a2 : Int32) (a3 : Int32) (r : Int32) (h : f_X8_isWithin N a1 a2 a3 = some r) : Met l yX8_isWithin (mw yX8_isWithin cX8_isWithin 3 (some .boolean)) { frames := 0, cells := 0, slots := 0, locals := 0 } (PreM D cy ad Kc S V [.int a1, .int a2, .int a3]) (QI D cy ad A r S V) 0 0 A := by
  refine ct_go C0 (own := RX8) rfl (by decide) rfl ?_
  intro p e s m below meth c ls H locs X hr hlocks hnm hl w
  have hx := X.1.1
  have hb := X.1.2.1
  have hown := X.2.1
  have hts := X.2.2.1
  have hl : lv_has ls 3 [(0, .int a1), (1, .int a2), (2, .int a3)] := hl
  rw [f_X8_isWithin] at h
  refine lv_iload_n hx hb dX8_isWithin_0 rfl (lv_at hl 0 rfl) ?_
  refine lv_iload_n hx hb dX8_isWithin_1 rfl (lv_at hl 1 rfl) ?_
  refine lv_icmp_lt (tgt := 14) hx hb dX8_isWithin_2 (by decide) (fun c1 => ?_) (fun c1 => ?_)
  · replace h := ifT h c1
    refine lv_iconst (v := 0) hx hb dX8_isWithin_14 (by decide) ?_
    obtain rfl := Option.some.inj h
    exact m_rz X w hr rfl hlocks dX8_isWithin_15
  · replace h := ifF h c1
    refine lv_iload_n hx hb dX8_isWithin_5 rfl (lv_at hl 0 rfl) ?_
    refine lv_iload_n hx hb dX8_isWithin_6 rfl (lv_at hl 2 rfl) ?_
    refine lv_icmp_gt (tgt := 14) hx hb dX8_isWithin_7 (by decide) (fun c2 => ?_) (fun c2 => ?_)
    · replace h := ifT h c2
      refine lv_iconst (v := 0) hx hb dX8_isWithin_14 (by decide) ?_
      obtain rfl := Option.some.inj h
      exact m_rz X w hr rfl hlocks dX8_isWithin_15
    · replace h := ifF h c2
      refine lv_iconst (v := 1) hx hb dX8_isWithin_10 (by decide) ?_
      refine lv_goto (tgt := 15) hx hb dX8_isWithin_11 (by decide) ?_
      obtain rfl := Option.some.inj h
      exact m_rz X w hr rfl hlocks dX8_isWithin_15
def f_X8_isCell (N : Nat) (a1 : Int32) : Option Int32 := if a1 < 0 then some (0 : Int32) else if (25 : Int32) ≤ a1 then some (0 : Int32) else some (1 : Int32)
set_option maxHeartbeats 4000000 in
set_option maxRecDepth 100000 in
theorem c_X8_isCell (l : Launch) (D : va_G) (cy : Nat → ClassId) (ad : Nat → Nat) (A : Nat → Prop) (Kc : State → Prop) (C0 : Cx ad A Kc) (N : Nat) (S : St) (V : Vt) (a1 : Int32) (r : Int32) (h : f_X8_isCell N a1 = some r) : Met l yX8_isCell (mw yX8_isCell cX8_isCell 1 (some .boolean)) { frames := 0, cells := 0, slots := 0, locals := 0 } (PreM D cy ad Kc S V [.int a1]) (QI D cy ad A r S V) 0 0 A := by
  refine ct_go C0 (own := RX8) rfl (by decide) rfl ?_
  intro p e s m below meth c ls H locs X hr hlocks hnm hl w
  have hx := X.1.1
  have hb := X.1.2.1
  have hown := X.2.1
  have hts := X.2.2.1
  have hl : lv_has ls 1 [(0, .int a1)] := hl
  rw [f_X8_isCell] at h
  refine lv_iload_n hx hb dX8_isCell_0 rfl (lv_at hl 0 rfl) ?_
  refine lv_if_lt (tgt := 14) hx hb dX8_isCell_1 (by decide) (fun c1 => ?_) (fun c1 => ?_)
  · replace h := ifT h c1
    refine lv_iconst (v := 0) hx hb dX8_isCell_14 (by decide) ?_
    obtain rfl := Option.some.inj h
    exact m_rz X w hr rfl hlocks dX8_isCell_15
  · replace h := ifF h c1
    refine lv_iload_n hx hb dX8_isCell_4 rfl (lv_at hl 0 rfl) ?_
    refine lv_bipush (v := 25) hx hb dX8_isCell_5 (by decide) ?_
    refine lv_icmp_ge (tgt := 14) hx hb dX8_isCell_7 (by decide) (fun c2 => ?_) (fun c2 => ?_)
    · replace h := ifT h c2
      refine lv_iconst (v := 0) hx hb dX8_isCell_14 (by decide) ?_
      obtain rfl := Option.some.inj h
      exact m_rz X w hr rfl hlocks dX8_isCell_15
    · replace h := ifF h c2
      refine lv_iconst (v := 1) hx hb dX8_isCell_10 (by decide) ?_
      refine lv_goto (tgt := 15) hx hb dX8_isCell_11 (by decide) ?_
      obtain rfl := Option.some.inj h
      exact m_rz X w hr rfl hlocks dX8_isCell_15
def f_X8_isLine (N : Nat) (a1 : Int32) (a2 : Int32) : Option Int32 := if a1 < 0 then some (0 : Int32) else if (1 : Int32) < a1 then some (0 : Int32) else if a2 < 0 then some (0 : Int32) else if (5 : Int32) ≤ a2 then some (0 : Int32) else some (1 : Int32)
set_option maxHeartbeats 4000000 in
set_option maxRecDepth 100000 in
theorem c_X8_isLine (l : Launch) (D : va_G) (cy : Nat → ClassId) (ad : Nat → Nat) (A : Nat → Prop) (Kc : State → Prop) (C0 : Cx ad A Kc) (N : Nat) (S : St) (V : Vt) (a1 : Int32) (a2 : Int32) (r : Int32) (h : f_X8_isLine N a1 a2 = some r) : Met l yX8_isLine (mw yX8_isLine cX8_isLine 2 (some .boolean)) { frames := 0, cells := 0, slots := 0, locals := 0 } (PreM D cy ad Kc S V [.int a1, .int a2]) (QI D cy ad A r S V) 0 0 A := by
  refine ct_go C0 (own := RX8) rfl (by decide) rfl ?_
  intro p e s m below meth c ls H locs X hr hlocks hnm hl w
  have hx := X.1.1
  have hb := X.1.2.1
  have hown := X.2.1
  have hts := X.2.2.1
  have hl : lv_has ls 2 [(0, .int a1), (1, .int a2)] := hl
  rw [f_X8_isLine] at h
  refine lv_iload_n hx hb dX8_isLine_0 rfl (lv_at hl 0 rfl) ?_
  refine lv_if_lt (tgt := 22) hx hb dX8_isLine_1 (by decide) (fun c1 => ?_) (fun c1 => ?_)
  · replace h := ifT h c1
    refine lv_iconst (v := 0) hx hb dX8_isLine_22 (by decide) ?_
    obtain rfl := Option.some.inj h
    exact m_rz X w hr rfl hlocks dX8_isLine_23
  · replace h := ifF h c1
    refine lv_iload_n hx hb dX8_isLine_4 rfl (lv_at hl 0 rfl) ?_
    refine lv_iconst (v := 1) hx hb dX8_isLine_5 (by decide) ?_
    refine lv_icmp_gt (tgt := 22) hx hb dX8_isLine_6 (by decide) (fun c2 => ?_) (fun c2 => ?_)
    · replace h := ifT h c2
      refine lv_iconst (v := 0) hx hb dX8_isLine_22 (by decide) ?_
      obtain rfl := Option.some.inj h
      exact m_rz X w hr rfl hlocks dX8_isLine_23
    · replace h := ifF h c2
      refine lv_iload_n hx hb dX8_isLine_9 rfl (lv_at hl 1 rfl) ?_
      refine lv_if_lt (tgt := 22) hx hb dX8_isLine_10 (by decide) (fun c3 => ?_) (fun c3 => ?_)
      · replace h := ifT h c3
        refine lv_iconst (v := 0) hx hb dX8_isLine_22 (by decide) ?_
        obtain rfl := Option.some.inj h
        exact m_rz X w hr rfl hlocks dX8_isLine_23
      · replace h := ifF h c3
        refine lv_iload_n hx hb dX8_isLine_13 rfl (lv_at hl 1 rfl) ?_
        refine lv_iconst (v := 5) hx hb dX8_isLine_14 (by decide) ?_
        refine lv_icmp_ge (tgt := 22) hx hb dX8_isLine_15 (by decide) (fun c4 => ?_) (fun c4 => ?_)
        · replace h := ifT h c4
          refine lv_iconst (v := 0) hx hb dX8_isLine_22 (by decide) ?_
          obtain rfl := Option.some.inj h
          exact m_rz X w hr rfl hlocks dX8_isLine_23
        · replace h := ifF h c4
          refine lv_iconst (v := 1) hx hb dX8_isLine_18 (by decide) ?_
          refine lv_goto (tgt := 23) hx hb dX8_isLine_19 (by decide) ?_
          obtain rfl := Option.some.inj h
          exact m_rz X w hr rfl hlocks dX8_isLine_23
def f_X8_isAccount (N : Nat) (a1 : Int32) : Option Int32 := if a1 < 0 then some (0 : Int32) else if (5 : Int32) ≤ a1 then some (0 : Int32) else some (1 : Int32)
set_option maxHeartbeats 4000000 in
set_option maxRecDepth 100000 in
theorem c_X8_isAccount (l : Launch) (D : va_G) (cy : Nat → ClassId) (ad : Nat → Nat) (A : Nat → Prop) (Kc : State → Prop) (C0 : Cx ad A Kc) (N : Nat) (S : St) (V : Vt) (a1 : Int32) (r : Int32) (h : f_X8_isAccount N a1 = some r) : Met l yX8_isAccount (mw yX8_isAccount cX8_isAccount 1 (some .boolean)) { frames := 0, cells := 0, slots := 0, locals := 0 } (PreM D cy ad Kc S V [.int a1]) (QI D cy ad A r S V) 0 0 A := by
  refine ct_go C0 (own := RX8) rfl (by decide) rfl ?_
  intro p e s m below meth c ls H locs X hr hlocks hnm hl w
  have hx := X.1.1
  have hb := X.1.2.1
  have hown := X.2.1
  have hts := X.2.2.1
  have hl : lv_has ls 1 [(0, .int a1)] := hl
  rw [f_X8_isAccount] at h
  refine lv_iload_n hx hb dX8_isAccount_0 rfl (lv_at hl 0 rfl) ?_
  refine lv_if_lt (tgt := 13) hx hb dX8_isAccount_1 (by decide) (fun c1 => ?_) (fun c1 => ?_)
  · replace h := ifT h c1
    refine lv_iconst (v := 0) hx hb dX8_isAccount_13 (by decide) ?_
    obtain rfl := Option.some.inj h
    exact m_rz X w hr rfl hlocks dX8_isAccount_14
  · replace h := ifF h c1
    refine lv_iload_n hx hb dX8_isAccount_4 rfl (lv_at hl 0 rfl) ?_
    refine lv_iconst (v := 5) hx hb dX8_isAccount_5 (by decide) ?_
    refine lv_icmp_ge (tgt := 13) hx hb dX8_isAccount_6 (by decide) (fun c2 => ?_) (fun c2 => ?_)
    · replace h := ifT h c2
      refine lv_iconst (v := 0) hx hb dX8_isAccount_13 (by decide) ?_
      obtain rfl := Option.some.inj h
      exact m_rz X w hr rfl hlocks dX8_isAccount_14
    · replace h := ifF h c2
      refine lv_iconst (v := 1) hx hb dX8_isAccount_9 (by decide) ?_
      refine lv_goto (tgt := 14) hx hb dX8_isAccount_10 (by decide) ?_
      obtain rfl := Option.some.inj h
      exact m_rz X w hr rfl hlocks dX8_isAccount_14
def f_X8_nearest (N : Nat) (a1 : Int32) (a2 : Int32) (a3 : Int32) : Option Int32 := if a1 = (-2000000000 : Int32) then some a3 else some (mxI (0 : Int32) (mnI a2 a1))
set_option maxHeartbeats 4000000 in
set_option maxRecDepth 100000 in
theorem c_X8_nearest (l : Launch) (D : va_G) (cy : Nat → ClassId) (ad : Nat → Nat) (A : Nat → Prop) (Kc : State → Prop) (C0 : Cx ad A Kc) (N : Nat) (S : St) (V : Vt) (a1 : Int32) (a2 : Int32) (a3 : Int32) (r : Int32) (h : f_X8_nearest N a1 a2 a3 = some r) : Met l yX8_nearest (mw yX8_nearest cX8_nearest 3 (some .int)) { frames := 1, cells := 0, slots := 0, locals := 40 } (PreM D cy ad Kc S V [.int a1, .int a2, .int a3]) (QI D cy ad A r S V) 0 0 A := by
  refine ct_go C0 (own := RX8) rfl (by decide) rfl ?_
  intro p e s m below meth c ls H locs X hr hlocks hnm hl w
  have hx := X.1.1
  have hb := X.1.2.1
  have hown := X.2.1
  have hts := X.2.2.1
  have hl : lv_has ls 3 [(0, .int a1), (1, .int a2), (2, .int a3)] := hl
  rw [f_X8_nearest] at h
  refine lv_iload_n hx hb dX8_nearest_0 rfl (lv_at hl 0 rfl) ?_
  refine lv_ldc (v := (-2000000000)) hx hb hown (hts _ kc_X8_125) dX8_nearest_1 ?_
  refine lv_icmp_ne (tgt := 10) hx hb dX8_nearest_3 (by decide) (fun c1 => ?_) (fun c1 => ?_)
  · replace h := ifF h c1
    refine lv_iconst (v := 0) hx hb dX8_nearest_10 (by decide) ?_
    refine lv_iload_n hx hb dX8_nearest_11 rfl (lv_at hl 1 rfl) ?_
    refine lv_iload_n hx hb dX8_nearest_12 rfl (lv_at hl 0 rfl) ?_
    refine m_min (rest := [.int (0 : Int32)]) X hl ml_X8_304 (Nat.le_of_ble_eq_true rfl) (Nat.le_of_ble_eq_true rfl) (Nat.le_of_ble_eq_true rfl) (Nat.le_of_ble_eq_true rfl) dX8_nearest_13 ?_
    refine m_max (rest := []) X hl ml_X8_309 (Nat.le_of_ble_eq_true rfl) (Nat.le_of_ble_eq_true rfl) (Nat.le_of_ble_eq_true rfl) (Nat.le_of_ble_eq_true rfl) dX8_nearest_16 ?_
    obtain rfl := Option.some.inj h
    exact m_ri X w hr hlocks dX8_nearest_19
  · replace h := ifT h c1
    refine lv_iload_n hx hb dX8_nearest_6 rfl (lv_at hl 2 rfl) ?_
    refine lv_goto (tgt := 19) hx hb dX8_nearest_7 (by decide) ?_
    obtain rfl := Option.some.inj h
    exact m_ri X w hr hlocks dX8_nearest_19
def f_X8_putThree (N : Nat) (S : St) (V : Vt) (a1 : Nat) (a2 : Int32) (a3 : Int32) (a4 : Int32) (a5 : Int32) : Option Vt := ck ((3 : Int32) * a2) (S.2.2.1 a1) (bd (sA V a1 ((3 : Int32) * a2).toNatClampNeg a3) (fun V8 => ck (((3 : Int32) * a2) + (1 : Int32)) (S.2.2.1 a1) (bd (sA V8 a1 (((3 : Int32) * a2) + (1 : Int32)).toNatClampNeg a4) (fun V10 => ck (((3 : Int32) * a2) + (2 : Int32)) (S.2.2.1 a1) (bd (sA V10 a1 (((3 : Int32) * a2) + (2 : Int32)).toNatClampNeg a5) (fun V12 => some V12))))))
set_option maxHeartbeats 4000000 in
set_option maxRecDepth 100000 in
theorem c_X8_putThree (l : Launch) (D : va_G) (cy : Nat → ClassId) (ad : Nat → Nat) (A : Nat → Prop) (Kc : State → Prop) (C0 : Cx ad A Kc) (N : Nat) (S : St) (V : Vt) (a1 : Nat) (hs_a1 : ash S a1) (a2 : Int32) (a3 : Int32) (a4 : Int32) (a5 : Int32) (V' : Vt) (h : f_X8_putThree N S V a1 a2 a3 a4 a5 = some V') : Met l yX8_putThree (mw yX8_putThree cX8_putThree 5 none) { frames := 0, cells := 0, slots := 0, locals := 0 } (PreM D cy ad Kc S V [.ref (ad a1), .int a2, .int a3, .int a4, .int a5]) (QV D cy ad A S V') 0 0 A := by
  refine ct_go C0 (own := RX8) rfl (by decide) rfl ?_
  intro p e s m below meth c ls H locs X hr hlocks hnm hl w
  have hx := X.1.1
  have hb := X.1.2.1
  have hown := X.2.1
  have hts := X.2.2.1
  have hl : lv_has ls 5 [(0, .ref (ad a1)), (1, .int a2), (2, .int a3), (3, .int a4), (4, .int a5)] := hl
  rw [f_X8_putThree] at h
  refine lv_aload_n hx hb dX8_putThree_0 rfl (lv_at hl 0 rfl) ?_
  refine lv_iconst (v := 3) hx hb dX8_putThree_1 (by decide) ?_
  refine lv_iload_n hx hb dX8_putThree_2 rfl (lv_at hl 1 rfl) ?_
  refine lv_imul hx hb dX8_putThree_3 ?_
  refine lv_iload_n hx hb dX8_putThree_4 rfl (lv_at hl 2 rfl) ?_
  obtain ⟨g7, h⟩ := cki h
  refine m_iast X w a1 hs_a1.1 hs_a1.2 rfl g7 dX8_putThree_5 (fun V8 H locs eV8 w => ?_)
  replace h := bdi h _ eV8
  refine lv_aload_n hx hb dX8_putThree_6 rfl (lv_at hl 0 rfl) ?_
  refine lv_iconst (v := 3) hx hb dX8_putThree_7 (by decide) ?_
  refine lv_iload_n hx hb dX8_putThree_8 rfl (lv_at hl 1 rfl) ?_
  refine lv_imul hx hb dX8_putThree_9 ?_
  refine lv_iconst (v := 1) hx hb dX8_putThree_10 (by decide) ?_
  refine lv_iadd hx hb dX8_putThree_11 ?_
  refine lv_iload_n hx hb dX8_putThree_12 rfl (lv_at hl 3 rfl) ?_
  obtain ⟨g9, h⟩ := cki h
  refine m_iast X w a1 hs_a1.1 hs_a1.2 rfl g9 dX8_putThree_13 (fun V10 H locs eV10 w => ?_)
  replace h := bdi h _ eV10
  refine lv_aload_n hx hb dX8_putThree_14 rfl (lv_at hl 0 rfl) ?_
  refine lv_iconst (v := 3) hx hb dX8_putThree_15 (by decide) ?_
  refine lv_iload_n hx hb dX8_putThree_16 rfl (lv_at hl 1 rfl) ?_
  refine lv_imul hx hb dX8_putThree_17 ?_
  refine lv_iconst (v := 2) hx hb dX8_putThree_18 (by decide) ?_
  refine lv_iadd hx hb dX8_putThree_19 ?_
  refine lv_iload hx hb dX8_putThree_20 (lv_at hl 4 rfl) ?_
  obtain ⟨g11, h⟩ := cki h
  refine m_iast X w a1 hs_a1.1 hs_a1.2 rfl g11 dX8_putThree_22 (fun V12 H locs eV12 w => ?_)
  replace h := bdi h _ eV12
  obtain rfl := Option.some.inj h
  exact m_rv X w hr hlocks dX8_putThree_23
def f_X8_refused_21 (N : Nat) (S : St) (o : Nat) (V : Vt) (v1 : Int32) (s0 : Int32) : Option (Int32 × Vt) := ck s0 5 (ck s0 5 (bd (sA V (o + 63) s0.toNatClampNeg ((V.2.1 (o + 63) s0.toNatClampNeg) + (1 : Int32))) (fun V8 => bd (sF V8 o 18 v1) (fun V9 => some (v1, V9)))))
def f_X8_refused (N : Nat) (S : St) (V : Vt) (o : Nat) (a1 : Int32) : Option (Int32 × Vt) := if a1 ≤ (-4 : Int32) then f_X8_refused_21 N S o V a1 ((-a1) - (2 : Int32)) else f_X8_refused_21 N S o V a1 ((-a1) - (1 : Int32))
set_option maxHeartbeats 4000000 in
set_option maxRecDepth 100000 in
theorem c_X8_refused (l : Launch) (D : va_G) (cy : Nat → ClassId) (ad : Nat → Nat) (A : Nat → Prop) (Kc : State → Prop) (C0 : Cx ad A Kc) (N : Nat) (S : St) (V : Vt) (o : Nat) (hs : shp S o t8) (a1 : Int32) (r : Int32) (V' : Vt) (h : f_X8_refused N S V o a1 = some (r, V')) : Met l yX8_refused (mw yX8_refused cX8_refused 2 (some .int)) { frames := 0, cells := 0, slots := 0, locals := 0 } (PreM D cy ad Kc S V [.ref (ad o), .int a1]) (QI D cy ad A r S V') 0 0 A := by
  refine ct_go C0 (own := RX8) rfl (by decide) rfl ?_
  intro p e s m below meth c ls H locs X hr hlocks hnm hl w
  have hx := X.1.1
  have hb := X.1.2.1
  have hown := X.2.1
  have hts := X.2.2.1
  have hl : lv_has ls 2 [(0, .ref (ad o)), (1, .int a1)] := hl
  obtain ⟨G, hG⟩ : ∃ G : Nat → Vt → List (Nat × Value) → List Value → Prop, G = fun pc V lv st => ∀ (H : Heap) (locs : List Loc) (ls : Array Slot), Wd D cy ad A s.heap S V H locs → lv_has ls 2 lv → W p l e { frames := 0, cells := 0, slots := 0, locals := 0 } s m ([.ref (ad o), .int a1] : List Value).toArray below meth c H locs 0 0 (MQ below (QI D cy ad A r S V') ([.ref (ad o), .int a1] : List Value).toArray s 0 0 A) (F0 m pc ls st) := ⟨_, rfl⟩
  have B21 : ∀ (V : Vt) (v1 : Int32) (s0 : Int32), f_X8_refused_21 N S o V v1 s0 = some (r, V') → G 21 V [(0, .ref (ad o)), (1, .int v1)] [.int s0, .ref (ad (o + 63))] := by
    intro V v1 s0 h
    rw [hG]
    intro H locs ls w hl
    rw [f_X8_refused_21] at h
    refine lv_dup2_11 hx hb dX8_refused_21 rfl rfl ?_
    obtain ⟨g6, h⟩ := cki h
    refine m_iald X w (o + 63) (shn hs 63 rfl) (shk hs 63 rfl : S.2.1 (o + 63) = 11) (shz hs 63 rfl : S.2.2.1 (o + 63) = 5) g6 dX8_refused_22 ?_
    refine lv_iconst (v := 1) hx hb dX8_refused_23 (by decide) ?_
    refine lv_iadd hx hb dX8_refused_24 ?_
    obtain ⟨g7, h⟩ := cki h
    refine m_iast X w (o + 63) (shn hs 63 rfl) (shk hs 63 rfl : S.2.1 (o + 63) = 11) (shz hs 63 rfl : S.2.2.1 (o + 63) = 5) g7 dX8_refused_25 (fun V8 H locs eV8 w => ?_)
    replace h := bdi h _ eV8
    refine lv_aload_n hx hb dX8_refused_26 rfl (lv_at hl 0 rfl) ?_
    refine lv_iload_n hx hb dX8_refused_27 rfl (lv_at hl 1 rfl) ?_
    refine m_put X w o (shn hs 0 rfl) (shk hs 0 rfl : S.2.1 o = 8) ci8 18 (by decide) rfl rfl rfl rfl rfl fl_X8_301 dX8_refused_28 (fun V9 H locs eV9 w => ?_)
    replace h := bdi h _ eV9
    refine lv_iload_n hx hb dX8_refused_31 rfl (lv_at hl 1 rfl) ?_
    obtain ⟨rfl, rfl⟩ := reti h
    exact m_ri X w hr hlocks dX8_refused_32
  rw [f_X8_refused] at h
  refine lv_aload_n hx hb dX8_refused_0 rfl (lv_at hl 0 rfl) ?_
  refine m_get X w o (shn hs 0 rfl) (shk hs 0 rfl : S.2.1 o = 8) ci8 14 (by decide) (fvR (shk hs 0 rfl : S.2.1 o = 8) rfl (shq hs 0 14 rfl rfl : S.2.2.2.1 o 14 = (o + 63) + 1)) rfl fl_X8_82 dX8_refused_1 ?_
  refine lv_iload_n hx hb dX8_refused_4 rfl (lv_at hl 1 rfl) ?_
  refine lv_bipush (v := (-4)) hx hb dX8_refused_5 (by decide) ?_
  refine lv_icmp_le (tgt := 17) hx hb dX8_refused_7 (by decide) (fun c5 => ?_) (fun c5 => ?_)
  · replace h := ifT h c5
    refine lv_iload_n hx hb dX8_refused_17 rfl (lv_at hl 1 rfl) ?_
    refine lv_ineg hx hb dX8_refused_18 ?_
    refine lv_iconst (v := 2) hx hb dX8_refused_19 (by decide) ?_
    refine lv_isub hx hb dX8_refused_20 ?_
    have g := B21 V a1 ((-a1) - (2 : Int32)) h
    rw [hG] at g
    exact g H locs ls w (lv_sub hl [0, 1] rfl)
  · replace h := ifF h c5
    refine lv_iload_n hx hb dX8_refused_10 rfl (lv_at hl 1 rfl) ?_
    refine lv_ineg hx hb dX8_refused_11 ?_
    refine lv_iconst (v := 1) hx hb dX8_refused_12 (by decide) ?_
    refine lv_isub hx hb dX8_refused_13 ?_
    refine lv_goto (tgt := 21) hx hb dX8_refused_14 (by decide) ?_
    have g := B21 V a1 ((-a1) - (1 : Int32)) h
    rw [hG] at g
    exact g H locs ls w (lv_sub hl [0, 1] rfl)
def f_X8_granted (N : Nat) (S : St) (V : Vt) (o : Nat) (a1 : Int32) : Option (Int32 × Vt) := bd (sF V o 18 (0 : Int32)) (fun V2 => some (a1, V2))
set_option maxHeartbeats 4000000 in
set_option maxRecDepth 100000 in
theorem c_X8_granted (l : Launch) (D : va_G) (cy : Nat → ClassId) (ad : Nat → Nat) (A : Nat → Prop) (Kc : State → Prop) (C0 : Cx ad A Kc) (N : Nat) (S : St) (V : Vt) (o : Nat) (hs : shp S o t8) (a1 : Int32) (r : Int32) (V' : Vt) (h : f_X8_granted N S V o a1 = some (r, V')) : Met l yX8_granted (mw yX8_granted cX8_granted 2 (some .int)) { frames := 0, cells := 0, slots := 0, locals := 0 } (PreM D cy ad Kc S V [.ref (ad o), .int a1]) (QI D cy ad A r S V') 0 0 A := by
  refine ct_go C0 (own := RX8) rfl (by decide) rfl ?_
  intro p e s m below meth c ls H locs X hr hlocks hnm hl w
  have hx := X.1.1
  have hb := X.1.2.1
  have hown := X.2.1
  have hts := X.2.2.1
  have hl : lv_has ls 2 [(0, .ref (ad o)), (1, .int a1)] := hl
  rw [f_X8_granted] at h
  refine lv_aload_n hx hb dX8_granted_0 rfl (lv_at hl 0 rfl) ?_
  refine lv_iconst (v := 0) hx hb dX8_granted_1 (by decide) ?_
  refine m_put X w o (shn hs 0 rfl) (shk hs 0 rfl : S.2.1 o = 8) ci8 18 (by decide) rfl rfl rfl rfl rfl fl_X8_301 dX8_granted_2 (fun V2 H locs eV2 w => ?_)
  replace h := bdi h _ eV2
  refine lv_iload_n hx hb dX8_granted_5 rfl (lv_at hl 1 rfl) ?_
  obtain ⟨rfl, rfl⟩ := reti h
  exact m_ri X w hr hlocks dX8_granted_6
def f_X8_putBytes_3 (N : Nat) (S : St) (o : Nat) : Nat → Vt → Int32 → Int32 → Option Vt
  | 0, _, _, _ => none
  | n + 1, V, v1, v2 => if v2 < 0 then some V else ck (V.1 o 15) 400 (bd (sA V (o + 36) (V.1 o 15).toNatClampNeg ((v1 >>> (v2 &&& 31)) &&& (255 : Int32))) (fun V7 => bd (sF V7 o 15 ((V7.1 o 15) + (1 : Int32))) (fun V8 => bd (v2 + (-8 : Int32)) (fun x9 => (f_X8_putBytes_3 N S o n) V8 v1 x9))))
def f_X8_putBytes (N : Nat) (S : St) (V : Vt) (o : Nat) (a1 : Int32) : Option Vt := f_X8_putBytes_3 N S o N V a1 (24 : Int32)
set_option maxHeartbeats 4000000 in
set_option maxRecDepth 100000 in
theorem c_X8_putBytes (l : Launch) (D : va_G) (cy : Nat → ClassId) (ad : Nat → Nat) (A : Nat → Prop) (Kc : State → Prop) (C0 : Cx ad A Kc) (N : Nat) (S : St) (V : Vt) (o : Nat) (hs : shp S o t8) (a1 : Int32) (V' : Vt) (h : f_X8_putBytes N S V o a1 = some V') : Met l yX8_putBytes (mw yX8_putBytes cX8_putBytes 3 none) { frames := 0, cells := 0, slots := 0, locals := 0 } (PreM D cy ad Kc S V [.ref (ad o), .int a1]) (QV D cy ad A S V') 0 0 A := by
  refine ct_go C0 (own := RX8) rfl (by decide) rfl ?_
  intro p e s m below meth c ls H locs X hr hlocks hnm hl w
  have hx := X.1.1
  have hb := X.1.2.1
  have hown := X.2.1
  have hts := X.2.2.1
  have hl : lv_has ls 3 [(0, .ref (ad o)), (1, .int a1)] := hl
  obtain ⟨G, hG⟩ : ∃ G : Nat → Vt → List (Nat × Value) → List Value → Prop, G = fun pc V lv st => ∀ (H : Heap) (locs : List Loc) (ls : Array Slot), Wd D cy ad A s.heap S V H locs → lv_has ls 3 lv → W p l e { frames := 0, cells := 0, slots := 0, locals := 0 } s m ([.ref (ad o), .int a1] : List Value).toArray below meth c H locs 0 0 (MQ below (QV D cy ad A S V') ([.ref (ad o), .int a1] : List Value).toArray s 0 0 A) (F0 m pc ls st) := ⟨_, rfl⟩
  have L3 : ∀ (n3 : Nat) (V : Vt) (v1 : Int32) (v2 : Int32), f_X8_putBytes_3 N S o n3 V v1 v2 = some V' → G 3 V [(0, .ref (ad o)), (1, .int v1), (2, .int v2)] [] := by
    intro n3
    induction n3 with
    | zero => intro V v1 v2 h; rw [f_X8_putBytes_3] at h; cases h
    | succ n3 ih3 =>
      intro V v1 v2 h
      rw [hG]
      intro H locs ls w hl
      rw [f_X8_putBytes_3] at h
      refine lv_iload_n hx hb dX8_putBytes_3 rfl (lv_at hl 2 rfl) ?_
      refine lv_if_lt (tgt := 39) hx hb dX8_putBytes_4 (by decide) (fun c5 => ?_) (fun c5 => ?_)
      · replace h := ifT h c5
        obtain rfl := Option.some.inj h
        exact m_rv X w hr hlocks dX8_putBytes_39
      · replace h := ifF h c5
        refine lv_aload_n hx hb dX8_putBytes_7 rfl (lv_at hl 0 rfl) ?_
        refine m_get X w o (shn hs 0 rfl) (shk hs 0 rfl : S.2.1 o = 8) ci8 6 (by decide) (fvR (shk hs 0 rfl : S.2.1 o = 8) rfl (shq hs 0 6 rfl rfl : S.2.2.2.1 o 6 = (o + 36) + 1)) rfl fl_X8_36 dX8_putBytes_8 ?_
        refine lv_aload_n hx hb dX8_putBytes_11 rfl (lv_at hl 0 rfl) ?_
        refine m_get X w o (shn hs 0 rfl) (shk hs 0 rfl : S.2.1 o = 8) ci8 15 (by decide) (fvI (shk hs 0 rfl : S.2.1 o = 8) rfl) rfl fl_X8_159 dX8_putBytes_12 ?_
        refine lv_iload_n hx hb dX8_putBytes_15 rfl (lv_at hl 1 rfl) ?_
        refine lv_iload_n hx hb dX8_putBytes_16 rfl (lv_at hl 2 rfl) ?_
        refine lv_ishr hx hb dX8_putBytes_17 ?_
        refine lv_sipush (v := 255) hx hb dX8_putBytes_18 (by decide) ?_
        refine lv_iand hx hb dX8_putBytes_21 ?_
        obtain ⟨g6, h⟩ := cki h
        refine m_iast X w (o + 36) (shn hs 36 rfl) (shk hs 36 rfl : S.2.1 (o + 36) = 11) (shz hs 36 rfl : S.2.2.1 (o + 36) = 400) g6 dX8_putBytes_22 (fun V7 H locs eV7 w => ?_)
        replace h := bdi h _ eV7
        refine lv_aload_n hx hb dX8_putBytes_23 rfl (lv_at hl 0 rfl) ?_
        refine lv_dup hx hb dX8_putBytes_24 rfl ?_
        refine m_get X w o (shn hs 0 rfl) (shk hs 0 rfl : S.2.1 o = 8) ci8 15 (by decide) (fvI (shk hs 0 rfl : S.2.1 o = 8) rfl) rfl fl_X8_159 dX8_putBytes_25 ?_
        refine lv_iconst (v := 1) hx hb dX8_putBytes_28 (by decide) ?_
        refine lv_iadd hx hb dX8_putBytes_29 ?_
        refine m_put X w o (shn hs 0 rfl) (shk hs 0 rfl : S.2.1 o = 8) ci8 15 (by decide) rfl rfl rfl rfl rfl fl_X8_159 dX8_putBytes_30 (fun V8 H locs eV8 w => ?_)
        replace h := bdi h _ eV8
        obtain ⟨x9, ex9⟩ : ∃ y : Int32, y = v2 + (-8 : Int32) := ⟨_, rfl⟩
        replace h := bdi h _ ex9
        refine lv_iinc (v := x9) (lv' := [(2, .int x9), (0, .ref (ad o)), (1, .int v1)]) hx hb dX8_putBytes_33 hl (k := 2) rfl (by rw [ex9]; rfl) (by decide) rfl (fun ls hl => ?_)
        refine lv_goto (tgt := 3) hx hb dX8_putBytes_36 (by decide) ?_
        have g := ih3 V8 v1 x9 h
        rw [hG] at g
        exact g H locs ls w (lv_sub hl [1, 2, 0] rfl)
  rw [f_X8_putBytes] at h
  refine lv_bipush (v := 24) hx hb dX8_putBytes_0 (by decide) ?_
  refine lv_istore_n (lv' := [(2, .int (24 : Int32)), (0, .ref (ad o)), (1, .int a1)]) hx hb dX8_putBytes_2 rfl hl (by decide) rfl (fun ls hl => ?_)
  have g := L3 N V a1 (24 : Int32) h
  rw [hG] at g
  exact g H locs ls w (lv_sub hl [1, 2, 0] rfl)
def f_X8_drawAfter (N : Nat) (a1 : Int32) : Option Int32 := some (((a1 * (1103 : Int32)) + (12345 : Int32)) - ((a1 * (1103 : Int32)) + (12345 : Int32)) / (1000003 : Int32) * (1000003 : Int32))
set_option maxHeartbeats 4000000 in
set_option maxRecDepth 100000 in
theorem c_X8_drawAfter (l : Launch) (D : va_G) (cy : Nat → ClassId) (ad : Nat → Nat) (A : Nat → Prop) (Kc : State → Prop) (C0 : Cx ad A Kc) (N : Nat) (S : St) (V : Vt) (a1 : Int32) (r : Int32) (h : f_X8_drawAfter N a1 = some r) : Met l yX8_drawAfter (mw yX8_drawAfter cX8_drawAfter 1 (some .int)) { frames := 0, cells := 0, slots := 0, locals := 0 } (PreM D cy ad Kc S V [.int a1]) (QI D cy ad A r S V) 0 0 A := by
  refine ct_go C0 (own := RX8) rfl (by decide) rfl ?_
  intro p e s m below meth c ls H locs X hr hlocks hnm hl w
  have hx := X.1.1
  have hb := X.1.2.1
  have hown := X.2.1
  have hts := X.2.2.1
  have hl : lv_has ls 1 [(0, .int a1)] := hl
  rw [f_X8_drawAfter] at h
  refine lv_iload_n hx hb dX8_drawAfter_0 rfl (lv_at hl 0 rfl) ?_
  refine lv_sipush (v := 1103) hx hb dX8_drawAfter_1 (by decide) ?_
  refine lv_imul hx hb dX8_drawAfter_4 ?_
  refine lv_sipush (v := 12345) hx hb dX8_drawAfter_5 (by decide) ?_
  refine lv_iadd hx hb dX8_drawAfter_8 ?_
  refine lv_ldcw (v := 1000003) hx hb hown (hts _ kc_X8_365) dX8_drawAfter_9 ?_
  refine lv_irem hx hb dX8_drawAfter_12 (by decide) ?_
  obtain rfl := Option.some.inj h
  exact m_ri X w hr hlocks dX8_drawAfter_13
def f_J6_bitCount_0f7a4 (N : Nat) (a1 : Int32) : Option Int32 := bd (a1 - (((a1.toUInt32 >>> ((1 : Int32).toUInt32 &&& Int32.toUInt32 31)).toInt32) &&& (1431655765 : Int32))) (fun x6 => bd ((x6 &&& (858993459 : Int32)) + (((x6.toUInt32 >>> ((2 : Int32).toUInt32 &&& Int32.toUInt32 31)).toInt32) &&& (858993459 : Int32))) (fun x7 => bd ((x7 + ((x7.toUInt32 >>> ((4 : Int32).toUInt32 &&& Int32.toUInt32 31)).toInt32)) &&& (252645135 : Int32)) (fun x8 => bd (x8 + ((x8.toUInt32 >>> ((8 : Int32).toUInt32 &&& Int32.toUInt32 31)).toInt32)) (fun x9 => bd (x9 + ((x9.toUInt32 >>> ((16 : Int32).toUInt32 &&& Int32.toUInt32 31)).toInt32)) (fun x10 => some (x10 &&& (63 : Int32)))))))
set_option maxHeartbeats 4000000 in
set_option maxRecDepth 100000 in
theorem c_J6_bitCount_0f7a4 (l : Launch) (D : va_G) (cy : Nat → ClassId) (ad : Nat → Nat) (A : Nat → Prop) (Kc : State → Prop) (C0 : Cx ad A Kc) (N : Nat) (S : St) (V : Vt) (a1 : Int32) (r : Int32) (h : f_J6_bitCount_0f7a4 N a1 = some r) : Met l yJ6_bitCount_0f7a4 (mw yJ6_bitCount_0f7a4 cJ6_bitCount_0f7a4 1 (some .int)) { frames := 0, cells := 0, slots := 0, locals := 0 } (PreM D cy ad Kc S V [.int a1]) (QI D cy ad A r S V) 0 0 A := by
  refine ct_goF C0 (own := RJ6) rfl (by decide) rfl ?_
  intro p e s m below meth c ls H locs X hr hlocks hnm hl w
  have hx := X.1.1
  have hb := X.1.2.1
  have hown := X.2.1
  have hts := X.2.2.1
  have hl : lv_has ls 1 [(0, .int a1)] := hl
  rw [f_J6_bitCount_0f7a4] at h
  refine lv_iload_n hx hb dJ6_bitCount_0f7a4_0 rfl (lv_at hl 0 rfl) ?_
  refine lv_iload_n hx hb dJ6_bitCount_0f7a4_1 rfl (lv_at hl 0 rfl) ?_
  refine lv_iconst (v := 1) hx hb dJ6_bitCount_0f7a4_2 (by decide) ?_
  refine lv_iushr hx hb dJ6_bitCount_0f7a4_3 rfl ?_
  refine lv_ldcw (v := 1431655765) hx hb hown (hts _ kc_J6_265) dJ6_bitCount_0f7a4_4 ?_
  refine lv_iand hx hb dJ6_bitCount_0f7a4_7 ?_
  refine lv_isub hx hb dJ6_bitCount_0f7a4_8 ?_
  refine lv_topi (fun x6 ex6 => ?_)
  replace h := bdi h _ ex6
  refine lv_istore_n (lv' := [(0, .int x6)]) hx hb dJ6_bitCount_0f7a4_9 rfl hl (by decide) rfl (fun ls hl => ?_)
  refine lv_iload_n hx hb dJ6_bitCount_0f7a4_10 rfl (lv_at hl 0 rfl) ?_
  refine lv_ldcw (v := 858993459) hx hb hown (hts _ kc_J6_266) dJ6_bitCount_0f7a4_11 ?_
  refine lv_iand hx hb dJ6_bitCount_0f7a4_14 ?_
  refine lv_iload_n hx hb dJ6_bitCount_0f7a4_15 rfl (lv_at hl 0 rfl) ?_
  refine lv_iconst (v := 2) hx hb dJ6_bitCount_0f7a4_16 (by decide) ?_
  refine lv_iushr hx hb dJ6_bitCount_0f7a4_17 rfl ?_
  refine lv_ldcw (v := 858993459) hx hb hown (hts _ kc_J6_266) dJ6_bitCount_0f7a4_18 ?_
  refine lv_iand hx hb dJ6_bitCount_0f7a4_21 ?_
  refine lv_iadd hx hb dJ6_bitCount_0f7a4_22 ?_
  refine lv_topi (fun x7 ex7 => ?_)
  replace h := bdi h _ ex7
  refine lv_istore_n (lv' := [(0, .int x7)]) hx hb dJ6_bitCount_0f7a4_23 rfl hl (by decide) rfl (fun ls hl => ?_)
  refine lv_iload_n hx hb dJ6_bitCount_0f7a4_24 rfl (lv_at hl 0 rfl) ?_
  refine lv_iload_n hx hb dJ6_bitCount_0f7a4_25 rfl (lv_at hl 0 rfl) ?_
  refine lv_iconst (v := 4) hx hb dJ6_bitCount_0f7a4_26 (by decide) ?_
  refine lv_iushr hx hb dJ6_bitCount_0f7a4_27 rfl ?_
  refine lv_iadd hx hb dJ6_bitCount_0f7a4_28 ?_
  refine lv_ldcw (v := 252645135) hx hb hown (hts _ kc_J6_267) dJ6_bitCount_0f7a4_29 ?_
  refine lv_iand hx hb dJ6_bitCount_0f7a4_32 ?_
  refine lv_topi (fun x8 ex8 => ?_)
  replace h := bdi h _ ex8
  refine lv_istore_n (lv' := [(0, .int x8)]) hx hb dJ6_bitCount_0f7a4_33 rfl hl (by decide) rfl (fun ls hl => ?_)
  refine lv_iload_n hx hb dJ6_bitCount_0f7a4_34 rfl (lv_at hl 0 rfl) ?_
  refine lv_iload_n hx hb dJ6_bitCount_0f7a4_35 rfl (lv_at hl 0 rfl) ?_
  refine lv_bipush (v := 8) hx hb dJ6_bitCount_0f7a4_36 (by decide) ?_
  refine lv_iushr hx hb dJ6_bitCount_0f7a4_38 rfl ?_
  refine lv_iadd hx hb dJ6_bitCount_0f7a4_39 ?_
  refine lv_topi (fun x9 ex9 => ?_)
  replace h := bdi h _ ex9
  refine lv_istore_n (lv' := [(0, .int x9)]) hx hb dJ6_bitCount_0f7a4_40 rfl hl (by decide) rfl (fun ls hl => ?_)
  refine lv_iload_n hx hb dJ6_bitCount_0f7a4_41 rfl (lv_at hl 0 rfl) ?_
  refine lv_iload_n hx hb dJ6_bitCount_0f7a4_42 rfl (lv_at hl 0 rfl) ?_
  refine lv_bipush (v := 16) hx hb dJ6_bitCount_0f7a4_43 (by decide) ?_
  refine lv_iushr hx hb dJ6_bitCount_0f7a4_45 rfl ?_
  refine lv_iadd hx hb dJ6_bitCount_0f7a4_46 ?_
  refine lv_topi (fun x10 ex10 => ?_)
  replace h := bdi h _ ex10
  refine lv_istore_n (lv' := [(0, .int x10)]) hx hb dJ6_bitCount_0f7a4_47 rfl hl (by decide) rfl (fun ls hl => ?_)
  refine lv_iload_n hx hb dJ6_bitCount_0f7a4_48 rfl (lv_at hl 0 rfl) ?_
  refine lv_bipush (v := 63) hx hb dJ6_bitCount_0f7a4_49 (by decide) ?_
  refine lv_iand hx hb dJ6_bitCount_0f7a4_51 ?_
  obtain rfl := Option.some.inj h
  exact m_ri X w hr hlocks dJ6_bitCount_0f7a4_52
def f_J7_fill_d0a16_6 (N : Nat) (S : St) (a1 : Nat) : Nat → Vt → Int64 → Int32 → Int32 → Option Vt
  | 0, _, _, _, _ => none
  | n + 1, V, v1, v3, v4 => if v4 ≤ v3 then some V else ck v3 (S.2.2.1 a1) (bd (sJ V a1 v3.toNatClampNeg v1) (fun V8 => bd (v3 + (1 : Int32)) (fun x9 => (f_J7_fill_d0a16_6 N S a1 n) V8 v1 x9 v4)))
def f_J7_fill_d0a16 (N : Nat) (S : St) (V : Vt) (a1 : Nat) (a2 : Int64) : Option Vt := bd ((Nat.toInt32 ((S.2.2.1 a1)))) (fun x5 => f_J7_fill_d0a16_6 N S a1 N V a2 (0 : Int32) x5)
set_option maxHeartbeats 4000000 in
set_option maxRecDepth 100000 in
theorem c_J7_fill_d0a16 (l : Launch) (D : va_G) (cy : Nat → ClassId) (ad : Nat → Nat) (A : Nat → Prop) (Kc : State → Prop) (C0 : Cx ad A Kc) (N : Nat) (S : St) (V : Vt) (a1 : Nat) (hs_a1 : ashl S a1) (a2 : Int64) (V' : Vt) (h : f_J7_fill_d0a16 N S V a1 a2 = some V') : Met l yJ7_fill_d0a16 (mw yJ7_fill_d0a16 cJ7_fill_d0a16 5 none) { frames := 0, cells := 0, slots := 0, locals := 0 } (PreM D cy ad Kc S V [.ref (ad a1), .long a2]) (QV D cy ad A S V') 0 0 A := by
  refine ct_goF C0 (own := RJ7) rfl (by decide) rfl ?_
  intro p e s m below meth c ls H locs X hr hlocks hnm hl w
  have hx := X.1.1
  have hb := X.1.2.1
  have hown := X.2.1
  have hts := X.2.2.1
  have hl : lv_has ls 5 [(0, .ref (ad a1)), (1, .long a2)] := hl
  obtain ⟨G, hG⟩ : ∃ G : Nat → Vt → List (Nat × Value) → List Value → Prop, G = fun pc V lv st => ∀ (H : Heap) (locs : List Loc) (ls : Array Slot), Wd D cy ad A s.heap S V H locs → lv_has ls 5 lv → W p l e { frames := 0, cells := 0, slots := 0, locals := 0 } s m ([.ref (ad a1), .long a2] : List Value).toArray below meth c H locs 0 0 (MQ below (QV D cy ad A S V') ([.ref (ad a1), .long a2] : List Value).toArray s 0 0 A) (F0 m pc ls st) := ⟨_, rfl⟩
  have L6 : ∀ (n6 : Nat) (V : Vt) (v1 : Int64) (v3 : Int32) (v4 : Int32), f_J7_fill_d0a16_6 N S a1 n6 V v1 v3 v4 = some V' → G 6 V [(0, .ref (ad a1)), (1, .long v1), (3, .int v3), (4, .int v4)] [] := by
    intro n6
    induction n6 with
    | zero => intro V v1 v3 v4 h; rw [f_J7_fill_d0a16_6] at h; cases h
    | succ n6 ih6 =>
      intro V v1 v3 v4 h
      rw [hG]
      intro H locs ls w hl
      rw [f_J7_fill_d0a16_6] at h
      refine lv_iload_n hx hb dJ7_fill_d0a16_6 rfl (lv_at hl 2 rfl) ?_
      refine lv_iload hx hb dJ7_fill_d0a16_7 (lv_at hl 3 rfl) ?_
      refine lv_icmp_ge (tgt := 22) hx hb dJ7_fill_d0a16_9 (by decide) (fun c6 => ?_) (fun c6 => ?_)
      · replace h := ifT h c6
        obtain rfl := Option.some.inj h
        exact m_rv X w hr hlocks dJ7_fill_d0a16_22
      · replace h := ifF h c6
        refine lv_aload_n hx hb dJ7_fill_d0a16_12 rfl (lv_at hl 0 rfl) ?_
        refine lv_iload_n hx hb dJ7_fill_d0a16_13 rfl (lv_at hl 2 rfl) ?_
        refine lv_lload_n hx hb dJ7_fill_d0a16_14 rfl (lv_at hl 1 rfl) ?_
        obtain ⟨g7, h⟩ := cki h
        refine m_last X w a1 hs_a1.1 hs_a1.2 rfl g7 dJ7_fill_d0a16_15 (fun V8 H locs eV8 w => ?_)
        replace h := bdi h _ eV8
        obtain ⟨x9, ex9⟩ : ∃ y : Int32, y = v3 + (1 : Int32) := ⟨_, rfl⟩
        replace h := bdi h _ ex9
        refine lv_iinc (v := x9) (lv' := [(3, .int x9), (0, .ref (ad a1)), (1, .long v1), (4, .int v4)]) hx hb dJ7_fill_d0a16_16 hl (k := 2) rfl (by rw [ex9]; rfl) (by decide) rfl (fun ls hl => ?_)
        refine lv_goto (tgt := 6) hx hb dJ7_fill_d0a16_19 (by decide) ?_
        have g := ih6 V8 v1 x9 v4 h
        rw [hG] at g
        exact g H locs ls w (lv_sub hl [1, 2, 0, 3] rfl)
  rw [f_J7_fill_d0a16] at h
  refine lv_iconst (v := 0) hx hb dJ7_fill_d0a16_0 (by decide) ?_
  refine lv_istore_n (lv' := [(3, .int (0 : Int32)), (0, .ref (ad a1)), (1, .long a2)]) hx hb dJ7_fill_d0a16_1 rfl hl (by decide) rfl (fun ls hl => ?_)
  refine lv_aload_n hx hb dJ7_fill_d0a16_2 rfl (lv_at hl 1 rfl) ?_
  refine m_alenL (v := (Nat.toInt32 ((S.2.2.1 a1)))) X w a1 hs_a1.1 hs_a1.2 rfl (by first | decide | rfl) dJ7_fill_d0a16_3 ?_
  refine lv_topi (fun x5 ex5 => ?_)
  replace h := bdi h _ ex5
  refine lv_istore (lv' := [(4, .int x5), (3, .int (0 : Int32)), (0, .ref (ad a1)), (1, .long a2)]) hx hb dJ7_fill_d0a16_4 hl (by decide) rfl (fun ls hl => ?_)
  have g := L6 N V a2 (0 : Int32) x5 h
  rw [hG] at g
  exact g H locs ls w (lv_sub hl [2, 3, 1, 0] rfl)
def f_J7_fill_53178_5 (N : Nat) (S : St) (a1 : Nat) : Nat → Vt → Int32 → Int32 → Int32 → Option Vt
  | 0, _, _, _, _ => none
  | n + 1, V, v1, v2, v3 => if v3 ≤ v2 then some V else ck v2 (S.2.2.1 a1) (bd (sA V a1 v2.toNatClampNeg v1) (fun V8 => bd (v2 + (1 : Int32)) (fun x9 => (f_J7_fill_53178_5 N S a1 n) V8 v1 x9 v3)))
def f_J7_fill_53178 (N : Nat) (S : St) (V : Vt) (a1 : Nat) (a2 : Int32) : Option Vt := bd ((Nat.toInt32 ((S.2.2.1 a1)))) (fun x5 => f_J7_fill_53178_5 N S a1 N V a2 (0 : Int32) x5)
set_option maxHeartbeats 4000000 in
set_option maxRecDepth 100000 in
theorem c_J7_fill_53178 (l : Launch) (D : va_G) (cy : Nat → ClassId) (ad : Nat → Nat) (A : Nat → Prop) (Kc : State → Prop) (C0 : Cx ad A Kc) (N : Nat) (S : St) (V : Vt) (a1 : Nat) (hs_a1 : ash S a1) (a2 : Int32) (V' : Vt) (h : f_J7_fill_53178 N S V a1 a2 = some V') : Met l yJ7_fill_53178 (mw yJ7_fill_53178 cJ7_fill_53178 4 none) { frames := 0, cells := 0, slots := 0, locals := 0 } (PreM D cy ad Kc S V [.ref (ad a1), .int a2]) (QV D cy ad A S V') 0 0 A := by
  refine ct_goF C0 (own := RJ7) rfl (by decide) rfl ?_
  intro p e s m below meth c ls H locs X hr hlocks hnm hl w
  have hx := X.1.1
  have hb := X.1.2.1
  have hown := X.2.1
  have hts := X.2.2.1
  have hl : lv_has ls 4 [(0, .ref (ad a1)), (1, .int a2)] := hl
  obtain ⟨G, hG⟩ : ∃ G : Nat → Vt → List (Nat × Value) → List Value → Prop, G = fun pc V lv st => ∀ (H : Heap) (locs : List Loc) (ls : Array Slot), Wd D cy ad A s.heap S V H locs → lv_has ls 4 lv → W p l e { frames := 0, cells := 0, slots := 0, locals := 0 } s m ([.ref (ad a1), .int a2] : List Value).toArray below meth c H locs 0 0 (MQ below (QV D cy ad A S V') ([.ref (ad a1), .int a2] : List Value).toArray s 0 0 A) (F0 m pc ls st) := ⟨_, rfl⟩
  have L5 : ∀ (n5 : Nat) (V : Vt) (v1 : Int32) (v2 : Int32) (v3 : Int32), f_J7_fill_53178_5 N S a1 n5 V v1 v2 v3 = some V' → G 5 V [(0, .ref (ad a1)), (1, .int v1), (2, .int v2), (3, .int v3)] [] := by
    intro n5
    induction n5 with
    | zero => intro V v1 v2 v3 h; rw [f_J7_fill_53178_5] at h; cases h
    | succ n5 ih5 =>
      intro V v1 v2 v3 h
      rw [hG]
      intro H locs ls w hl
      rw [f_J7_fill_53178_5] at h
      refine lv_iload_n hx hb dJ7_fill_53178_5 rfl (lv_at hl 2 rfl) ?_
      refine lv_iload_n hx hb dJ7_fill_53178_6 rfl (lv_at hl 3 rfl) ?_
      refine lv_icmp_ge (tgt := 20) hx hb dJ7_fill_53178_7 (by decide) (fun c6 => ?_) (fun c6 => ?_)
      · replace h := ifT h c6
        obtain rfl := Option.some.inj h
        exact m_rv X w hr hlocks dJ7_fill_53178_20
      · replace h := ifF h c6
        refine lv_aload_n hx hb dJ7_fill_53178_10 rfl (lv_at hl 0 rfl) ?_
        refine lv_iload_n hx hb dJ7_fill_53178_11 rfl (lv_at hl 2 rfl) ?_
        refine lv_iload_n hx hb dJ7_fill_53178_12 rfl (lv_at hl 1 rfl) ?_
        obtain ⟨g7, h⟩ := cki h
        refine m_iast X w a1 hs_a1.1 hs_a1.2 rfl g7 dJ7_fill_53178_13 (fun V8 H locs eV8 w => ?_)
        replace h := bdi h _ eV8
        obtain ⟨x9, ex9⟩ : ∃ y : Int32, y = v2 + (1 : Int32) := ⟨_, rfl⟩
        replace h := bdi h _ ex9
        refine lv_iinc (v := x9) (lv' := [(2, .int x9), (0, .ref (ad a1)), (1, .int v1), (3, .int v3)]) hx hb dJ7_fill_53178_14 hl (k := 2) rfl (by rw [ex9]; rfl) (by decide) rfl (fun ls hl => ?_)
        refine lv_goto (tgt := 5) hx hb dJ7_fill_53178_17 (by decide) ?_
        have g := ih5 V8 v1 x9 v3 h
        rw [hG] at g
        exact g H locs ls w (lv_sub hl [1, 2, 0, 3] rfl)
  rw [f_J7_fill_53178] at h
  refine lv_iconst (v := 0) hx hb dJ7_fill_53178_0 (by decide) ?_
  refine lv_istore_n (lv' := [(2, .int (0 : Int32)), (0, .ref (ad a1)), (1, .int a2)]) hx hb dJ7_fill_53178_1 rfl hl (by decide) rfl (fun ls hl => ?_)
  refine lv_aload_n hx hb dJ7_fill_53178_2 rfl (lv_at hl 1 rfl) ?_
  refine m_alenI (v := (Nat.toInt32 ((S.2.2.1 a1)))) X w a1 hs_a1.1 hs_a1.2 rfl (by first | decide | rfl) dJ7_fill_53178_3 ?_
  refine lv_topi (fun x5 ex5 => ?_)
  replace h := bdi h _ ex5
  refine lv_istore_n (lv' := [(3, .int x5), (2, .int (0 : Int32)), (0, .ref (ad a1)), (1, .int a2)]) hx hb dJ7_fill_53178_4 rfl hl (by decide) rfl (fun ls hl => ?_)
  have g := L5 N V a2 (0 : Int32) x5 h
  rw [hG] at g
  exact g H locs ls w (lv_sub hl [2, 3, 1, 0] rfl)
def f_X0_handOf (N : Nat) (S : St) (V : Vt) (o : Nat) (a1 : Int32) : Option Int32 := ob1 (f_X0_hasClerk N S V o a1) (fun r4 => if r4 = 0 then some (-1 : Int32) else ck a1 5 (some (V.2.1 (o + 5) a1.toNatClampNeg)))
set_option maxHeartbeats 4000000 in
set_option maxRecDepth 100000 in
theorem c_X0_handOf (l : Launch) (D : va_G) (cy : Nat → ClassId) (ad : Nat → Nat) (A : Nat → Prop) (Kc : State → Prop) (C0 : Cx ad A Kc) (N : Nat) (S : St) (V : Vt) (o : Nat) (hs : shp S o t0) (a1 : Int32) (r : Int32) (h : f_X0_handOf N S V o a1 = some r) : Met l yX0_handOf (mw yX0_handOf cX0_handOf 2 (some .int)) { frames := 1, cells := 0, slots := 0, locals := 21 } (PreM D cy ad Kc S V [.ref (ad o), .int a1]) (QI D cy ad A r S V) 0 0 A := by
  refine ct_go C0 (own := RX0) rfl (by decide) rfl ?_
  intro p e s m below meth c ls H locs X hr hlocks hnm hl w
  have hx := X.1.1
  have hb := X.1.2.1
  have hown := X.2.1
  have hts := X.2.2.1
  have hl : lv_has ls 2 [(0, .ref (ad o)), (1, .int a1)] := hl
  rw [f_X0_handOf] at h
  refine lv_aload_n hx hb dX0_handOf_0 rfl (lv_at hl 0 rfl) ?_
  refine lv_iload_n hx hb dX0_handOf_1 rfl (lv_at hl 1 rfl) ?_
  obtain ⟨r4, q5, h⟩ := ob1i h
  refine m_ci (m_rV (As := [.int a1]) (rest := []) X w hl mi_X0_hasClerk ml_X0_64 o (shn hs 0 rfl) (shk hs 0 rfl : S.2.1 o = 0) rfl (c_X0_hasClerk l D cy ad A Kc C0 N S V o hs a1 r4 q5) ⟨⟨rfl, rfl, Nat.le_of_ble_eq_true rfl, Nat.le_of_ble_eq_true rfl⟩, Nat.le_of_ble_eq_true rfl, Nat.le_of_ble_eq_true rfl⟩ rfl rfl (Nat.le_of_ble_eq_true rfl) dX0_handOf_2) w (fun H locs w => ?_)
  refine lv_if_eq (tgt := 17) hx hb dX0_handOf_5 (by decide) (fun c6 => ?_) (fun c6 => ?_)
  · replace h := ifT h c6
    refine lv_iconst (v := (-1)) hx hb dX0_handOf_17 (by decide) ?_
    obtain rfl := Option.some.inj h
    exact m_ri X w hr hlocks dX0_handOf_18
  · replace h := ifF h c6
    refine lv_aload_n hx hb dX0_handOf_8 rfl (lv_at hl 0 rfl) ?_
    refine m_get X w o (shn hs 0 rfl) (shk hs 0 rfl : S.2.1 o = 0) ci0 4 (by decide) (fvR (shk hs 0 rfl : S.2.1 o = 0) rfl (shq hs 0 4 rfl rfl : S.2.2.2.1 o 4 = (o + 5) + 1)) rfl fl_X0_24 dX0_handOf_9 ?_
    refine lv_iload_n hx hb dX0_handOf_12 rfl (lv_at hl 1 rfl) ?_
    obtain ⟨g7, h⟩ := cki h
    refine m_iald X w (o + 5) (shn hs 5 rfl) (shk hs 5 rfl : S.2.1 (o + 5) = 11) (shz hs 5 rfl : S.2.2.1 (o + 5) = 5) g7 dX0_handOf_13 ?_
    refine lv_goto (tgt := 18) hx hb dX0_handOf_14 (by decide) ?_
    obtain rfl := Option.some.inj h
    exact m_ri X w hr hlocks dX0_handOf_18
def f_X0_isEvenTurned_53 (N : Nat) (S : St) (o : Nat) (V : Vt) (v1 : Int32) (v2 : Int32) (v3 : Int32) : Option (Int32 × Vt) := obv (f_X0_turn N S V o v1 v2) (fun V18 => cb v3 (some (v3, V18)))
def f_X0_isEvenTurned_46 (N : Nat) (S : St) (o : Nat) (K11 : Vt → Int32 → Int32 → Int32 → Int32 → Option (Int32 × Vt)) (V : Vt) (v1 : Int32) (v2 : Int32) (v4 : Int32) (s0 : Int32) : Option (Int32 × Vt) := bd (v4 + (1 : Int32)) (fun x24 => K11 V v1 v2 s0 x24)
def f_X0_isEvenTurned_45 (N : Nat) (S : St) (o : Nat) (K11 : Vt → Int32 → Int32 → Int32 → Int32 → Option (Int32 × Vt)) (V : Vt) (v1 : Int32) (v2 : Int32) (v4 : Int32) : Option (Int32 × Vt) := f_X0_isEvenTurned_46 N S o K11 V v1 v2 v4 (0 : Int32)
def f_X0_isEvenTurned_11 (N : Nat) (S : St) (o : Nat) : Nat → Vt → Int32 → Int32 → Int32 → Int32 → Option (Int32 × Vt)
  | 0, _, _, _, _, _ => none
  | n + 1, V, v1, v2, v3, v4 => if (5 : Int32) ≤ v4 then f_X0_isEvenTurned_53 N S o V v1 v2 v3 else if v3 = 0 then f_X0_isEvenTurned_53 N S o V v1 v2 v3 else ob1 (f_X0_gap N S V o (0 : Int32) v4) (fun r21 => if r21 = 0 then ob1 (f_X0_gap N S V o (1 : Int32) v4) (fun r25 => if r25 = 0 then f_X0_isEvenTurned_46 N S o (f_X0_isEvenTurned_11 N S o n) V v1 v2 v4 (1 : Int32) else f_X0_isEvenTurned_45 N S o (f_X0_isEvenTurned_11 N S o n) V v1 v2 v4) else f_X0_isEvenTurned_45 N S o (f_X0_isEvenTurned_11 N S o n) V v1 v2 v4)
def f_X0_isEvenTurned (N : Nat) (S : St) (V : Vt) (o : Nat) (a1 : Int32) (a2 : Int32) : Option (Int32 × Vt) := obv (f_X0_turn N S V o a1 a2) (fun V14 => f_X0_isEvenTurned_11 N S o N V14 a1 a2 (1 : Int32) (0 : Int32))
set_option maxHeartbeats 4000000 in
set_option maxRecDepth 100000 in
theorem c_X0_isEvenTurned (l : Launch) (D : va_G) (cy : Nat → ClassId) (ad : Nat → Nat) (A : Nat → Prop) (Kc : State → Prop) (C0 : Cx ad A Kc) (N : Nat) (S : St) (V : Vt) (o : Nat) (hs : shp S o t0) (a1 : Int32) (a2 : Int32) (r : Int32) (V' : Vt) (h : f_X0_isEvenTurned N S V o a1 a2 = some (r, V')) : Met l yX0_isEvenTurned (mw yX0_isEvenTurned cX0_isEvenTurned 5 (some .boolean)) { frames := 1, cells := 0, slots := 0, locals := 26 } (PreM D cy ad Kc S V [.ref (ad o), .int a1, .int a2]) (QI D cy ad A r S V') 0 0 A := by
  refine ct_go C0 (own := RX0) rfl (by decide) rfl ?_
  intro p e s m below meth c ls H locs X hr hlocks hnm hl w
  have hx := X.1.1
  have hb := X.1.2.1
  have hown := X.2.1
  have hts := X.2.2.1
  have hl : lv_has ls 5 [(0, .ref (ad o)), (1, .int a1), (2, .int a2)] := hl
  obtain ⟨G, hG⟩ : ∃ G : Nat → Vt → List (Nat × Value) → List Value → Prop, G = fun pc V lv st => ∀ (H : Heap) (locs : List Loc) (ls : Array Slot), Wd D cy ad A s.heap S V H locs → lv_has ls 5 lv → W p l e { frames := 1, cells := 0, slots := 0, locals := 26 } s m ([.ref (ad o), .int a1, .int a2] : List Value).toArray below meth c H locs 0 0 (MQ below (QI D cy ad A r S V') ([.ref (ad o), .int a1, .int a2] : List Value).toArray s 0 0 A) (F0 m pc ls st) := ⟨_, rfl⟩
  have B53 : ∀ (V : Vt) (v1 : Int32) (v2 : Int32) (v3 : Int32), f_X0_isEvenTurned_53 N S o V v1 v2 v3 = some (r, V') → G 53 V [(0, .ref (ad o)), (1, .int v1), (2, .int v2), (3, .int v3)] [] := by
    intro V v1 v2 v3 h
    rw [hG]
    intro H locs ls w hl
    rw [f_X0_isEvenTurned_53] at h
    refine lv_aload_n hx hb dX0_isEvenTurned_53 rfl (lv_at hl 0 rfl) ?_
    refine lv_iload_n hx hb dX0_isEvenTurned_54 rfl (lv_at hl 1 rfl) ?_
    refine lv_iload_n hx hb dX0_isEvenTurned_55 rfl (lv_at hl 2 rfl) ?_
    obtain ⟨V18, q17, h⟩ := obvi h
    refine m_cv (m_rV (As := [.int v1, .int v2]) (rest := []) X w hl mi_X0_turn ml_X0_68 o (shn hs 0 rfl) (shk hs 0 rfl : S.2.1 o = 0) rfl (c_X0_turn l D cy ad A Kc C0 N S V o hs v1 v2 V18 q17) ⟨⟨rfl, rfl, Nat.le_of_ble_eq_true rfl, Nat.le_of_ble_eq_true rfl⟩, Nat.le_of_ble_eq_true rfl, Nat.le_of_ble_eq_true rfl⟩ rfl rfl (Nat.le_of_ble_eq_true rfl) dX0_isEvenTurned_56) w (fun H locs w => ?_)
    refine lv_iload_n hx hb dX0_isEvenTurned_59 rfl (lv_at hl 3 rfl) ?_
    obtain ⟨g19, h⟩ := cbi h
    obtain ⟨rfl, rfl⟩ := reti h
    exact m_rz X w hr (nb01 g19) hlocks dX0_isEvenTurned_60
  have L11 : ∀ (n11 : Nat) (V : Vt) (v1 : Int32) (v2 : Int32) (v3 : Int32) (v4 : Int32), f_X0_isEvenTurned_11 N S o n11 V v1 v2 v3 v4 = some (r, V') → G 11 V [(0, .ref (ad o)), (1, .int v1), (2, .int v2), (3, .int v3), (4, .int v4)] [] := by
    intro n11
    induction n11 with
    | zero => intro V v1 v2 v3 v4 h; rw [f_X0_isEvenTurned_11] at h; cases h
    | succ n11 ih11 =>
      have B46 : ∀ (V : Vt) (v1 : Int32) (v2 : Int32) (v4 : Int32) (s0 : Int32), f_X0_isEvenTurned_46 N S o (f_X0_isEvenTurned_11 N S o n11) V v1 v2 v4 s0 = some (r, V') → G 46 V [(0, .ref (ad o)), (1, .int v1), (2, .int v2), (4, .int v4)] [.int s0] := by
        intro V v1 v2 v4 s0 h
        rw [hG]
        intro H locs ls w hl
        rw [f_X0_isEvenTurned_46] at h
        refine lv_istore_n (lv' := [(3, .int s0), (0, .ref (ad o)), (1, .int v1), (2, .int v2), (4, .int v4)]) hx hb dX0_isEvenTurned_46 rfl hl (by decide) rfl (fun ls hl => ?_)
        obtain ⟨x24, ex24⟩ : ∃ y : Int32, y = v4 + (1 : Int32) := ⟨_, rfl⟩
        replace h := bdi h _ ex24
        refine lv_iinc (v := x24) (lv' := [(4, .int x24), (3, .int s0), (0, .ref (ad o)), (1, .int v1), (2, .int v2)]) hx hb dX0_isEvenTurned_47 hl (k := 4) rfl (by rw [ex24]; rfl) (by decide) rfl (fun ls hl => ?_)
        refine lv_goto (tgt := 11) hx hb dX0_isEvenTurned_50 (by decide) ?_
        have g := ih11 V v1 v2 s0 x24 h
        rw [hG] at g
        exact g H locs ls w (lv_sub hl [2, 3, 4, 1, 0] rfl)
      have B45 : ∀ (V : Vt) (v1 : Int32) (v2 : Int32) (v4 : Int32), f_X0_isEvenTurned_45 N S o (f_X0_isEvenTurned_11 N S o n11) V v1 v2 v4 = some (r, V') → G 45 V [(0, .ref (ad o)), (1, .int v1), (2, .int v2), (4, .int v4)] [] := by
        intro V v1 v2 v4 h
        rw [hG]
        intro H locs ls w hl
        rw [f_X0_isEvenTurned_45] at h
        refine lv_iconst (v := 0) hx hb dX0_isEvenTurned_45 (by decide) ?_
        have g := B46 V v1 v2 v4 (0 : Int32) h
        rw [hG] at g
        exact g H locs ls w (lv_sub hl [0, 1, 2, 3] rfl)
      intro V v1 v2 v3 v4 h
      rw [hG]
      intro H locs ls w hl
      rw [f_X0_isEvenTurned_11] at h
      refine lv_iload hx hb dX0_isEvenTurned_11 (lv_at hl 4 rfl) ?_
      refine lv_iconst (v := 5) hx hb dX0_isEvenTurned_13 (by decide) ?_
      refine lv_icmp_ge (tgt := 53) hx hb dX0_isEvenTurned_14 (by decide) (fun c15 => ?_) (fun c15 => ?_)
      · replace h := ifT h c15
        have g := B53 V v1 v2 v3 h
        rw [hG] at g
        exact g H locs ls w (lv_sub hl [0, 1, 2, 3] rfl)
      · replace h := ifF h c15
        refine lv_iload_n hx hb dX0_isEvenTurned_17 rfl (lv_at hl 3 rfl) ?_
        refine lv_if_eq (tgt := 53) hx hb dX0_isEvenTurned_18 (by decide) (fun c20 => ?_) (fun c20 => ?_)
        · replace h := ifT h c20
          have g := B53 V v1 v2 v3 h
          rw [hG] at g
          exact g H locs ls w (lv_sub hl [0, 1, 2, 3] rfl)
        · replace h := ifF h c20
          refine lv_aload_n hx hb dX0_isEvenTurned_21 rfl (lv_at hl 0 rfl) ?_
          refine lv_iconst (v := 0) hx hb dX0_isEvenTurned_22 (by decide) ?_
          refine lv_iload hx hb dX0_isEvenTurned_23 (lv_at hl 4 rfl) ?_
          obtain ⟨r21, q22, h⟩ := ob1i h
          refine m_ci (m_rV (As := [.int (0 : Int32), .int v4]) (rest := []) X w hl mi_X0_gap ml_X0_72 o (shn hs 0 rfl) (shk hs 0 rfl : S.2.1 o = 0) rfl (c_X0_gap l D cy ad A Kc C0 N S V o hs (0 : Int32) v4 r21 q22) ⟨⟨rfl, rfl, Nat.le_of_ble_eq_true rfl, Nat.le_of_ble_eq_true rfl⟩, Nat.le_of_ble_eq_true rfl, Nat.le_of_ble_eq_true rfl⟩ rfl rfl (Nat.le_of_ble_eq_true rfl) dX0_isEvenTurned_25) w (fun H locs w => ?_)
          refine lv_if_ne (tgt := 45) hx hb dX0_isEvenTurned_28 (by decide) (fun c23 => ?_) (fun c23 => ?_)
          · replace h := ifF h c23
            have g := B45 V v1 v2 v4 h
            rw [hG] at g
            exact g H locs ls w (lv_sub hl [0, 1, 2, 4] rfl)
          · replace h := ifT h c23
            refine lv_aload_n hx hb dX0_isEvenTurned_31 rfl (lv_at hl 0 rfl) ?_
            refine lv_iconst (v := 1) hx hb dX0_isEvenTurned_32 (by decide) ?_
            refine lv_iload hx hb dX0_isEvenTurned_33 (lv_at hl 4 rfl) ?_
            obtain ⟨r25, q26, h⟩ := ob1i h
            refine m_ci (m_rV (As := [.int (1 : Int32), .int v4]) (rest := []) X w hl mi_X0_gap ml_X0_72 o (shn hs 0 rfl) (shk hs 0 rfl : S.2.1 o = 0) rfl (c_X0_gap l D cy ad A Kc C0 N S V o hs (1 : Int32) v4 r25 q26) ⟨⟨rfl, rfl, Nat.le_of_ble_eq_true rfl, Nat.le_of_ble_eq_true rfl⟩, Nat.le_of_ble_eq_true rfl, Nat.le_of_ble_eq_true rfl⟩ rfl rfl (Nat.le_of_ble_eq_true rfl) dX0_isEvenTurned_35) w (fun H locs w => ?_)
            refine lv_if_ne (tgt := 45) hx hb dX0_isEvenTurned_38 (by decide) (fun c27 => ?_) (fun c27 => ?_)
            · replace h := ifF h c27
              have g := B45 V v1 v2 v4 h
              rw [hG] at g
              exact g H locs ls w (lv_sub hl [0, 1, 2, 4] rfl)
            · replace h := ifT h c27
              refine lv_iconst (v := 1) hx hb dX0_isEvenTurned_41 (by decide) ?_
              refine lv_goto (tgt := 46) hx hb dX0_isEvenTurned_42 (by decide) ?_
              have g := B46 V v1 v2 v4 (1 : Int32) h
              rw [hG] at g
              exact g H locs ls w (lv_sub hl [0, 1, 2, 4] rfl)
  rw [f_X0_isEvenTurned] at h
  refine lv_aload_n hx hb dX0_isEvenTurned_0 rfl (lv_at hl 0 rfl) ?_
  refine lv_iload_n hx hb dX0_isEvenTurned_1 rfl (lv_at hl 1 rfl) ?_
  refine lv_iload_n hx hb dX0_isEvenTurned_2 rfl (lv_at hl 2 rfl) ?_
  obtain ⟨V14, q13, h⟩ := obvi h
  refine m_cv (m_rV (As := [.int a1, .int a2]) (rest := []) X w hl mi_X0_turn ml_X0_68 o (shn hs 0 rfl) (shk hs 0 rfl : S.2.1 o = 0) rfl (c_X0_turn l D cy ad A Kc C0 N S V o hs a1 a2 V14 q13) ⟨⟨rfl, rfl, Nat.le_of_ble_eq_true rfl, Nat.le_of_ble_eq_true rfl⟩, Nat.le_of_ble_eq_true rfl, Nat.le_of_ble_eq_true rfl⟩ rfl rfl (Nat.le_of_ble_eq_true rfl) dX0_isEvenTurned_3) w (fun H locs w => ?_)
  refine lv_iconst (v := 1) hx hb dX0_isEvenTurned_6 (by decide) ?_
  refine lv_istore_n (lv' := [(3, .int (1 : Int32)), (0, .ref (ad o)), (1, .int a1), (2, .int a2)]) hx hb dX0_isEvenTurned_7 rfl hl (by decide) rfl (fun ls hl => ?_)
  refine lv_iconst (v := 0) hx hb dX0_isEvenTurned_8 (by decide) ?_
  refine lv_istore (lv' := [(4, .int (0 : Int32)), (3, .int (1 : Int32)), (0, .ref (ad o)), (1, .int a1), (2, .int a2)]) hx hb dX0_isEvenTurned_9 hl (by decide) rfl (fun ls hl => ?_)
  have g := L11 N V14 a1 a2 (1 : Int32) (0 : Int32) h
  rw [hG] at g
  exact g H locs ls w (lv_sub hl [2, 3, 4, 1, 0] rfl)
def f_X0_moveEntry (N : Nat) (S : St) (V : Vt) (o : Nat) (a1 : Int32) (a2 : Int32) (a3 : Int32) : Option (Int32 × Vt) := ob1 (f_X8_isCell N a1) (fun r16 => if r16 = 0 then some ((-1 : Int32), V) else ob1 (f_X8_isCell N a2) (fun r19 => if r19 = 0 then some ((-1 : Int32), V) else if a1 = a2 then some ((-1 : Int32), V) else ob1 (f_X8_isWithin N a3 (1 : Int32) (999 : Int32)) (fun r23 => if r23 = 0 then some ((-1 : Int32), V) else ck a1 25 (if (V.2.1 (o + 1) a1.toNatClampNeg) < a3 then some ((-3 : Int32), V) else ck a2 25 (if ((V.2.1 (o + 1) a2.toNatClampNeg) + a3) ≤ (999 : Int32) then ck a1 25 (ck a1 25 (bd (sA V (o + 1) a1.toNatClampNeg ((V.2.1 (o + 1) a1.toNatClampNeg) - a3)) (fun V32 => ck a2 25 (ck a2 25 (bd (sA V32 (o + 1) a2.toNatClampNeg ((V32.2.1 (o + 1) a2.toNatClampNeg) + a3)) (fun V35 => ck a1 25 (some (V35.2.1 (o + 1) a1.toNatClampNeg, V35)))))))) else some ((-3 : Int32), V))))))
set_option maxHeartbeats 4000000 in
set_option maxRecDepth 100000 in
theorem c_X0_moveEntry (l : Launch) (D : va_G) (cy : Nat → ClassId) (ad : Nat → Nat) (A : Nat → Prop) (Kc : State → Prop) (C0 : Cx ad A Kc) (N : Nat) (S : St) (V : Vt) (o : Nat) (hs : shp S o t0) (a1 : Int32) (a2 : Int32) (a3 : Int32) (r : Int32) (V' : Vt) (h : f_X0_moveEntry N S V o a1 a2 a3 = some (r, V')) : Met l yX0_moveEntry (mw yX0_moveEntry cX0_moveEntry 4 (some .int)) { frames := 1, cells := 0, slots := 0, locals := 22 } (PreM D cy ad Kc S V [.ref (ad o), .int a1, .int a2, .int a3]) (QI D cy ad A r S V') 0 0 A := by
  refine ct_go C0 (own := RX0) rfl (by decide) rfl ?_
  intro p e s m below meth c ls H locs X hr hlocks hnm hl w
  have hx := X.1.1
  have hb := X.1.2.1
  have hown := X.2.1
  have hts := X.2.2.1
  have hl : lv_has ls 4 [(0, .ref (ad o)), (1, .int a1), (2, .int a2), (3, .int a3)] := hl
  rw [f_X0_moveEntry] at h
  refine lv_iload_n hx hb dX0_moveEntry_0 rfl (lv_at hl 1 rfl) ?_
  obtain ⟨r16, q17, h⟩ := ob1i h
  refine m_ci (m_rSN (As := [.int a1]) (rest := []) X w hl mi_X8_isCell nm_X0_76 (c_X8_isCell l D cy ad A Kc C0 N S V a1 r16 q17) ⟨⟨rfl, rfl, Nat.le_of_ble_eq_true rfl, Nat.le_of_ble_eq_true rfl⟩, Nat.le_of_ble_eq_true rfl, Nat.le_of_ble_eq_true rfl⟩ rfl rfl (Nat.le_of_ble_eq_true rfl) dX0_moveEntry_1) w (fun H locs w => ?_)
  refine lv_if_eq (tgt := 30) hx hb dX0_moveEntry_4 (by decide) (fun c18 => ?_) (fun c18 => ?_)
  · replace h := ifT h c18
    refine lv_iconst (v := (-1)) hx hb dX0_moveEntry_30 (by decide) ?_
    obtain ⟨rfl, rfl⟩ := reti h
    exact m_ri X w hr hlocks dX0_moveEntry_31
  · replace h := ifF h c18
    refine lv_iload_n hx hb dX0_moveEntry_7 rfl (lv_at hl 2 rfl) ?_
    obtain ⟨r19, q20, h⟩ := ob1i h
    refine m_ci (m_rSN (As := [.int a2]) (rest := []) X w hl mi_X8_isCell nm_X0_76 (c_X8_isCell l D cy ad A Kc C0 N S V a2 r19 q20) ⟨⟨rfl, rfl, Nat.le_of_ble_eq_true rfl, Nat.le_of_ble_eq_true rfl⟩, Nat.le_of_ble_eq_true rfl, Nat.le_of_ble_eq_true rfl⟩ rfl rfl (Nat.le_of_ble_eq_true rfl) dX0_moveEntry_8) w (fun H locs w => ?_)
    refine lv_if_eq (tgt := 30) hx hb dX0_moveEntry_11 (by decide) (fun c21 => ?_) (fun c21 => ?_)
    · replace h := ifT h c21
      refine lv_iconst (v := (-1)) hx hb dX0_moveEntry_30 (by decide) ?_
      obtain ⟨rfl, rfl⟩ := reti h
      exact m_ri X w hr hlocks dX0_moveEntry_31
    · replace h := ifF h c21
      refine lv_iload_n hx hb dX0_moveEntry_14 rfl (lv_at hl 1 rfl) ?_
      refine lv_iload_n hx hb dX0_moveEntry_15 rfl (lv_at hl 2 rfl) ?_
      refine lv_icmp_eq (tgt := 30) hx hb dX0_moveEntry_16 (by decide) (fun c22 => ?_) (fun c22 => ?_)
      · replace h := ifT h c22
        refine lv_iconst (v := (-1)) hx hb dX0_moveEntry_30 (by decide) ?_
        obtain ⟨rfl, rfl⟩ := reti h
        exact m_ri X w hr hlocks dX0_moveEntry_31
      · replace h := ifF h c22
        refine lv_iload_n hx hb dX0_moveEntry_19 rfl (lv_at hl 3 rfl) ?_
        refine lv_iconst (v := 1) hx hb dX0_moveEntry_20 (by decide) ?_
        refine lv_sipush (v := 999) hx hb dX0_moveEntry_21 (by decide) ?_
        obtain ⟨r23, q24, h⟩ := ob1i h
        refine m_ci (m_rSN (As := [.int a3, .int (1 : Int32), .int (999 : Int32)]) (rest := []) X w hl mi_X8_isWithin nm_X0_79 (c_X8_isWithin l D cy ad A Kc C0 N S V a3 (1 : Int32) (999 : Int32) r23 q24) ⟨⟨rfl, rfl, Nat.le_of_ble_eq_true rfl, Nat.le_of_ble_eq_true rfl⟩, Nat.le_of_ble_eq_true rfl, Nat.le_of_ble_eq_true rfl⟩ rfl rfl (Nat.le_of_ble_eq_true rfl) dX0_moveEntry_24) w (fun H locs w => ?_)
        refine lv_if_ne (tgt := 32) hx hb dX0_moveEntry_27 (by decide) (fun c25 => ?_) (fun c25 => ?_)
        · replace h := ifF h c25
          refine lv_aload_n hx hb dX0_moveEntry_32 rfl (lv_at hl 0 rfl) ?_
          refine m_get X w o (shn hs 0 rfl) (shk hs 0 rfl : S.2.1 o = 0) ci0 0 (by decide) (fvR (shk hs 0 rfl : S.2.1 o = 0) rfl (shq hs 0 0 rfl rfl : S.2.2.2.1 o 0 = (o + 1) + 1)) rfl fl_X0_9 dX0_moveEntry_33 ?_
          refine lv_iload_n hx hb dX0_moveEntry_36 rfl (lv_at hl 1 rfl) ?_
          obtain ⟨g26, h⟩ := cki h
          refine m_iald X w (o + 1) (shn hs 1 rfl) (shk hs 1 rfl : S.2.1 (o + 1) = 11) (shz hs 1 rfl : S.2.2.1 (o + 1) = 25) g26 dX0_moveEntry_37 ?_
          refine lv_iload_n hx hb dX0_moveEntry_38 rfl (lv_at hl 3 rfl) ?_
          refine lv_icmp_lt (tgt := 56) hx hb dX0_moveEntry_39 (by decide) (fun c27 => ?_) (fun c27 => ?_)
          · replace h := ifT h c27
            refine lv_bipush (v := (-3)) hx hb dX0_moveEntry_56 (by decide) ?_
            obtain ⟨rfl, rfl⟩ := reti h
            exact m_ri X w hr hlocks dX0_moveEntry_58
          · replace h := ifF h c27
            refine lv_aload_n hx hb dX0_moveEntry_42 rfl (lv_at hl 0 rfl) ?_
            refine m_get X w o (shn hs 0 rfl) (shk hs 0 rfl : S.2.1 o = 0) ci0 0 (by decide) (fvR (shk hs 0 rfl : S.2.1 o = 0) rfl (shq hs 0 0 rfl rfl : S.2.2.2.1 o 0 = (o + 1) + 1)) rfl fl_X0_9 dX0_moveEntry_43 ?_
            refine lv_iload_n hx hb dX0_moveEntry_46 rfl (lv_at hl 2 rfl) ?_
            obtain ⟨g28, h⟩ := cki h
            refine m_iald X w (o + 1) (shn hs 1 rfl) (shk hs 1 rfl : S.2.1 (o + 1) = 11) (shz hs 1 rfl : S.2.2.1 (o + 1) = 25) g28 dX0_moveEntry_47 ?_
            refine lv_iload_n hx hb dX0_moveEntry_48 rfl (lv_at hl 3 rfl) ?_
            refine lv_iadd hx hb dX0_moveEntry_49 ?_
            refine lv_sipush (v := 999) hx hb dX0_moveEntry_50 (by decide) ?_
            refine lv_icmp_le (tgt := 59) hx hb dX0_moveEntry_53 (by decide) (fun c29 => ?_) (fun c29 => ?_)
            · replace h := ifT h c29
              refine lv_aload_n hx hb dX0_moveEntry_59 rfl (lv_at hl 0 rfl) ?_
              refine m_get X w o (shn hs 0 rfl) (shk hs 0 rfl : S.2.1 o = 0) ci0 0 (by decide) (fvR (shk hs 0 rfl : S.2.1 o = 0) rfl (shq hs 0 0 rfl rfl : S.2.2.2.1 o 0 = (o + 1) + 1)) rfl fl_X0_9 dX0_moveEntry_60 ?_
              refine lv_iload_n hx hb dX0_moveEntry_63 rfl (lv_at hl 1 rfl) ?_
              refine lv_dup2_11 hx hb dX0_moveEntry_64 rfl rfl ?_
              obtain ⟨g30, h⟩ := cki h
              refine m_iald X w (o + 1) (shn hs 1 rfl) (shk hs 1 rfl : S.2.1 (o + 1) = 11) (shz hs 1 rfl : S.2.2.1 (o + 1) = 25) g30 dX0_moveEntry_65 ?_
              refine lv_iload_n hx hb dX0_moveEntry_66 rfl (lv_at hl 3 rfl) ?_
              refine lv_isub hx hb dX0_moveEntry_67 ?_
              obtain ⟨g31, h⟩ := cki h
              refine m_iast X w (o + 1) (shn hs 1 rfl) (shk hs 1 rfl : S.2.1 (o + 1) = 11) (shz hs 1 rfl : S.2.2.1 (o + 1) = 25) g31 dX0_moveEntry_68 (fun V32 H locs eV32 w => ?_)
              replace h := bdi h _ eV32
              refine lv_aload_n hx hb dX0_moveEntry_69 rfl (lv_at hl 0 rfl) ?_
              refine m_get X w o (shn hs 0 rfl) (shk hs 0 rfl : S.2.1 o = 0) ci0 0 (by decide) (fvR (shk hs 0 rfl : S.2.1 o = 0) rfl (shq hs 0 0 rfl rfl : S.2.2.2.1 o 0 = (o + 1) + 1)) rfl fl_X0_9 dX0_moveEntry_70 ?_
              refine lv_iload_n hx hb dX0_moveEntry_73 rfl (lv_at hl 2 rfl) ?_
              refine lv_dup2_11 hx hb dX0_moveEntry_74 rfl rfl ?_
              obtain ⟨g33, h⟩ := cki h
              refine m_iald X w (o + 1) (shn hs 1 rfl) (shk hs 1 rfl : S.2.1 (o + 1) = 11) (shz hs 1 rfl : S.2.2.1 (o + 1) = 25) g33 dX0_moveEntry_75 ?_
              refine lv_iload_n hx hb dX0_moveEntry_76 rfl (lv_at hl 3 rfl) ?_
              refine lv_iadd hx hb dX0_moveEntry_77 ?_
              obtain ⟨g34, h⟩ := cki h
              refine m_iast X w (o + 1) (shn hs 1 rfl) (shk hs 1 rfl : S.2.1 (o + 1) = 11) (shz hs 1 rfl : S.2.2.1 (o + 1) = 25) g34 dX0_moveEntry_78 (fun V35 H locs eV35 w => ?_)
              replace h := bdi h _ eV35
              refine lv_aload_n hx hb dX0_moveEntry_79 rfl (lv_at hl 0 rfl) ?_
              refine m_get X w o (shn hs 0 rfl) (shk hs 0 rfl : S.2.1 o = 0) ci0 0 (by decide) (fvR (shk hs 0 rfl : S.2.1 o = 0) rfl (shq hs 0 0 rfl rfl : S.2.2.2.1 o 0 = (o + 1) + 1)) rfl fl_X0_9 dX0_moveEntry_80 ?_
              refine lv_iload_n hx hb dX0_moveEntry_83 rfl (lv_at hl 1 rfl) ?_
              obtain ⟨g36, h⟩ := cki h
              refine m_iald X w (o + 1) (shn hs 1 rfl) (shk hs 1 rfl : S.2.1 (o + 1) = 11) (shz hs 1 rfl : S.2.2.1 (o + 1) = 25) g36 dX0_moveEntry_84 ?_
              obtain ⟨rfl, rfl⟩ := reti h
              exact m_ri X w hr hlocks dX0_moveEntry_85
            · replace h := ifF h c29
              refine lv_bipush (v := (-3)) hx hb dX0_moveEntry_56 (by decide) ?_
              obtain ⟨rfl, rfl⟩ := reti h
              exact m_ri X w hr hlocks dX0_moveEntry_58
        · replace h := ifT h c25
          refine lv_iconst (v := (-1)) hx hb dX0_moveEntry_30 (by decide) ?_
          obtain ⟨rfl, rfl⟩ := reti h
          exact m_ri X w hr hlocks dX0_moveEntry_31
def f_X0_turnFence (N : Nat) (S : St) (V : Vt) (o : Nat) (a1 : Int32) : Option (Int32 × Vt) := ob1 (f_X8_isCell N a1) (fun r7 => if r7 = 0 then some ((-1 : Int32), V) else ck a1 25 (ck a1 25 (bd (sA V (o + 2) a1.toNatClampNeg ((1 : Int32) - (V.2.1 (o + 2) a1.toNatClampNeg))) (fun V12 => ck a1 25 (some (V12.2.1 (o + 2) a1.toNatClampNeg, V12))))))
set_option maxHeartbeats 4000000 in
set_option maxRecDepth 100000 in
theorem c_X0_turnFence (l : Launch) (D : va_G) (cy : Nat → ClassId) (ad : Nat → Nat) (A : Nat → Prop) (Kc : State → Prop) (C0 : Cx ad A Kc) (N : Nat) (S : St) (V : Vt) (o : Nat) (hs : shp S o t0) (a1 : Int32) (r : Int32) (V' : Vt) (h : f_X0_turnFence N S V o a1 = some (r, V')) : Met l yX0_turnFence (mw yX0_turnFence cX0_turnFence 2 (some .int)) { frames := 1, cells := 0, slots := 0, locals := 20 } (PreM D cy ad Kc S V [.ref (ad o), .int a1]) (QI D cy ad A r S V') 0 0 A := by
  refine ct_go C0 (own := RX0) rfl (by decide) rfl ?_
  intro p e s m below meth c ls H locs X hr hlocks hnm hl w
  have hx := X.1.1
  have hb := X.1.2.1
  have hown := X.2.1
  have hts := X.2.2.1
  have hl : lv_has ls 2 [(0, .ref (ad o)), (1, .int a1)] := hl
  rw [f_X0_turnFence] at h
  refine lv_iload_n hx hb dX0_turnFence_0 rfl (lv_at hl 1 rfl) ?_
  obtain ⟨r7, q8, h⟩ := ob1i h
  refine m_ci (m_rSN (As := [.int a1]) (rest := []) X w hl mi_X8_isCell nm_X0_76 (c_X8_isCell l D cy ad A Kc C0 N S V a1 r7 q8) ⟨⟨rfl, rfl, Nat.le_of_ble_eq_true rfl, Nat.le_of_ble_eq_true rfl⟩, Nat.le_of_ble_eq_true rfl, Nat.le_of_ble_eq_true rfl⟩ rfl rfl (Nat.le_of_ble_eq_true rfl) dX0_turnFence_1) w (fun H locs w => ?_)
  refine lv_if_ne (tgt := 9) hx hb dX0_turnFence_4 (by decide) (fun c9 => ?_) (fun c9 => ?_)
  · replace h := ifF h c9
    refine lv_aload_n hx hb dX0_turnFence_9 rfl (lv_at hl 0 rfl) ?_
    refine m_get X w o (shn hs 0 rfl) (shk hs 0 rfl : S.2.1 o = 0) ci0 1 (by decide) (fvR (shk hs 0 rfl : S.2.1 o = 0) rfl (shq hs 0 1 rfl rfl : S.2.2.2.1 o 1 = (o + 2) + 1)) rfl fl_X0_15 dX0_turnFence_10 ?_
    refine lv_iload_n hx hb dX0_turnFence_13 rfl (lv_at hl 1 rfl) ?_
    refine lv_iconst (v := 1) hx hb dX0_turnFence_14 (by decide) ?_
    refine lv_aload_n hx hb dX0_turnFence_15 rfl (lv_at hl 0 rfl) ?_
    refine m_get X w o (shn hs 0 rfl) (shk hs 0 rfl : S.2.1 o = 0) ci0 1 (by decide) (fvR (shk hs 0 rfl : S.2.1 o = 0) rfl (shq hs 0 1 rfl rfl : S.2.2.2.1 o 1 = (o + 2) + 1)) rfl fl_X0_15 dX0_turnFence_16 ?_
    refine lv_iload_n hx hb dX0_turnFence_19 rfl (lv_at hl 1 rfl) ?_
    obtain ⟨g10, h⟩ := cki h
    refine m_iald X w (o + 2) (shn hs 2 rfl) (shk hs 2 rfl : S.2.1 (o + 2) = 11) (shz hs 2 rfl : S.2.2.1 (o + 2) = 25) g10 dX0_turnFence_20 ?_
    refine lv_isub hx hb dX0_turnFence_21 ?_
    obtain ⟨g11, h⟩ := cki h
    refine m_iast X w (o + 2) (shn hs 2 rfl) (shk hs 2 rfl : S.2.1 (o + 2) = 11) (shz hs 2 rfl : S.2.2.1 (o + 2) = 25) g11 dX0_turnFence_22 (fun V12 H locs eV12 w => ?_)
    replace h := bdi h _ eV12
    refine lv_aload_n hx hb dX0_turnFence_23 rfl (lv_at hl 0 rfl) ?_
    refine m_get X w o (shn hs 0 rfl) (shk hs 0 rfl : S.2.1 o = 0) ci0 1 (by decide) (fvR (shk hs 0 rfl : S.2.1 o = 0) rfl (shq hs 0 1 rfl rfl : S.2.2.2.1 o 1 = (o + 2) + 1)) rfl fl_X0_15 dX0_turnFence_24 ?_
    refine lv_iload_n hx hb dX0_turnFence_27 rfl (lv_at hl 1 rfl) ?_
    obtain ⟨g13, h⟩ := cki h
    refine m_iald X w (o + 2) (shn hs 2 rfl) (shk hs 2 rfl : S.2.1 (o + 2) = 11) (shz hs 2 rfl : S.2.2.1 (o + 2) = 25) g13 dX0_turnFence_28 ?_
    obtain ⟨rfl, rfl⟩ := reti h
    exact m_ri X w hr hlocks dX0_turnFence_29
  · replace h := ifT h c9
    refine lv_iconst (v := (-1)) hx hb dX0_turnFence_7 (by decide) ?_
    obtain ⟨rfl, rfl⟩ := reti h
    exact m_ri X w hr hlocks dX0_turnFence_8
def f_X2_mostIn_63 (N : Nat) (S : St) (V : Vt) (o : Nat) (K24 : Int32 → Int32 → Int32 → Int32 → Int32 → Int32 → Option Int32) (v1 : Int32) (v2 : Int32) (v3 : Int32) (v5 : Int32) (v6 : Int32) (v7 : Int32) : Option Int32 := bd ((v7 - (1 : Int32)) &&& v5) (fun x18 => K24 v1 v2 v3 v5 v6 x18)
def f_X2_mostIn_24 (N : Nat) (S : St) (V : Vt) (o : Nat) : Nat → Int32 → Int32 → Int32 → Int32 → Int32 → Int32 → Option Int32
  | 0, _, _, _, _, _, _ => none
  | n + 1, v1, v2, v3, v5, v6, v7 => if v7 ≤ 0 then some v6 else ck v7 1024 (if (V.2.1 (o + 2) v7.toNatClampNeg) = 0 then ck v7 1024 (ob1 (f_X2_hasBoth N (v1 ^^^ v7) v2 v3) (fun r20 => bd (mxI v6 ((V.2.1 (o + 3) v7.toNatClampNeg) + r20)) (fun x22 => f_X2_mostIn_63 N S V o (f_X2_mostIn_24 N S V o n) v1 v2 v3 v5 x22 v7))) else f_X2_mostIn_63 N S V o (f_X2_mostIn_24 N S V o n) v1 v2 v3 v5 v6 v7)
def f_X2_mostIn (N : Nat) (S : St) (V : Vt) (o : Nat) (a1 : Int32) (a2 : Int32) (a3 : Int32) : Option Int32 := bd (a1 &&& (-a1)) (fun x11 => bd (a1 ^^^ x11) (fun x12 => ob1 (f_X2_hasBoth N a1 a2 a3) (fun r13 => f_X2_mostIn_24 N S V o N a1 a2 a3 x12 r13 x12)))
set_option maxHeartbeats 4000000 in
set_option maxRecDepth 100000 in
theorem c_X2_mostIn (l : Launch) (D : va_G) (cy : Nat → ClassId) (ad : Nat → Nat) (A : Nat → Prop) (Kc : State → Prop) (C0 : Cx ad A Kc) (N : Nat) (S : St) (V : Vt) (o : Nat) (hs : shp S o t2) (a1 : Int32) (a2 : Int32) (a3 : Int32) (r : Int32) (h : f_X2_mostIn N S V o a1 a2 a3 = some r) : Met l yX2_mostIn (mw yX2_mostIn cX2_mostIn 8 (some .int)) { frames := 1, cells := 0, slots := 0, locals := 40 } (PreM D cy ad Kc S V [.ref (ad o), .int a1, .int a2, .int a3]) (QI D cy ad A r S V) 0 0 A := by
  refine ct_go C0 (own := RX2) rfl (by decide) rfl ?_
  intro p e s m below meth c ls H locs X hr hlocks hnm hl w
  have hx := X.1.1
  have hb := X.1.2.1
  have hown := X.2.1
  have hts := X.2.2.1
  have hl : lv_has ls 8 [(0, .ref (ad o)), (1, .int a1), (2, .int a2), (3, .int a3)] := hl
  obtain ⟨G, hG⟩ : ∃ G : Nat → Vt → List (Nat × Value) → List Value → Prop, G = fun pc V lv st => ∀ (H : Heap) (locs : List Loc) (ls : Array Slot), Wd D cy ad A s.heap S V H locs → lv_has ls 8 lv → W p l e { frames := 1, cells := 0, slots := 0, locals := 40 } s m ([.ref (ad o), .int a1, .int a2, .int a3] : List Value).toArray below meth c H locs 0 0 (MQ below (QI D cy ad A r S V) ([.ref (ad o), .int a1, .int a2, .int a3] : List Value).toArray s 0 0 A) (F0 m pc ls st) := ⟨_, rfl⟩
  have L24 : ∀ (n24 : Nat) (v1 : Int32) (v2 : Int32) (v3 : Int32) (v5 : Int32) (v6 : Int32) (v7 : Int32), f_X2_mostIn_24 N S V o n24 v1 v2 v3 v5 v6 v7 = some r → G 24 V [(0, .ref (ad o)), (1, .int v1), (2, .int v2), (3, .int v3), (5, .int v5), (6, .int v6), (7, .int v7)] [] := by
    intro n24
    induction n24 with
    | zero => intro v1 v2 v3 v5 v6 v7 h; rw [f_X2_mostIn_24] at h; cases h
    | succ n24 ih24 =>
      have B63 : ∀ (v1 : Int32) (v2 : Int32) (v3 : Int32) (v5 : Int32) (v6 : Int32) (v7 : Int32), f_X2_mostIn_63 N S V o (f_X2_mostIn_24 N S V o n24) v1 v2 v3 v5 v6 v7 = some r → G 63 V [(0, .ref (ad o)), (1, .int v1), (2, .int v2), (3, .int v3), (5, .int v5), (6, .int v6), (7, .int v7)] [] := by
        intro v1 v2 v3 v5 v6 v7 h
        rw [hG]
        intro H locs ls w hl
        rw [f_X2_mostIn_63] at h
        refine lv_iload hx hb dX2_mostIn_63 (lv_at hl 6 rfl) ?_
        refine lv_iconst (v := 1) hx hb dX2_mostIn_65 (by decide) ?_
        refine lv_isub hx hb dX2_mostIn_66 ?_
        refine lv_iload hx hb dX2_mostIn_67 (lv_at hl 4 rfl) ?_
        refine lv_iand hx hb dX2_mostIn_69 ?_
        refine lv_topi (fun x18 ex18 => ?_)
        replace h := bdi h _ ex18
        refine lv_istore (lv' := [(7, .int x18), (0, .ref (ad o)), (1, .int v1), (2, .int v2), (3, .int v3), (5, .int v5), (6, .int v6)]) hx hb dX2_mostIn_70 hl (by decide) rfl (fun ls hl => ?_)
        refine lv_goto (tgt := 24) hx hb dX2_mostIn_72 (by decide) ?_
        have g := ih24 v1 v2 v3 v5 v6 x18 h
        rw [hG] at g
        exact g H locs ls w (lv_sub hl [1, 2, 3, 4, 5, 6, 0] rfl)
      intro v1 v2 v3 v5 v6 v7 h
      rw [hG]
      intro H locs ls w hl
      rw [f_X2_mostIn_24] at h
      refine lv_iload hx hb dX2_mostIn_24 (lv_at hl 6 rfl) ?_
      refine lv_if_le (tgt := 75) hx hb dX2_mostIn_26 (by decide) (fun c15 => ?_) (fun c15 => ?_)
      · replace h := ifT h c15
        refine lv_iload hx hb dX2_mostIn_75 (lv_at hl 5 rfl) ?_
        obtain rfl := Option.some.inj h
        exact m_ri X w hr hlocks dX2_mostIn_77
      · replace h := ifF h c15
        refine lv_aload_n hx hb dX2_mostIn_29 rfl (lv_at hl 0 rfl) ?_
        refine m_get X w o (shn hs 0 rfl) (shk hs 0 rfl : S.2.1 o = 2) ci2 1 (by decide) (fvR (shk hs 0 rfl : S.2.1 o = 2) rfl (shq hs 0 1 rfl rfl : S.2.2.2.1 o 1 = (o + 2) + 1)) rfl fl_X2_15 dX2_mostIn_30 ?_
        refine lv_iload hx hb dX2_mostIn_33 (lv_at hl 6 rfl) ?_
        obtain ⟨g16, h⟩ := cki h
        refine m_iald X w (o + 2) (shn hs 2 rfl) (shk hs 2 rfl : S.2.1 (o + 2) = 11) (shz hs 2 rfl : S.2.2.1 (o + 2) = 1024) g16 dX2_mostIn_35 ?_
        refine lv_if_ne (tgt := 63) hx hb dX2_mostIn_36 (by decide) (fun c17 => ?_) (fun c17 => ?_)
        · replace h := ifF h c17
          have g := B63 v1 v2 v3 v5 v6 v7 h
          rw [hG] at g
          exact g H locs ls w (lv_sub hl [0, 1, 2, 3, 4, 5, 6] rfl)
        · replace h := ifT h c17
          refine lv_iload hx hb dX2_mostIn_39 (lv_at hl 5 rfl) ?_
          refine lv_aload_n hx hb dX2_mostIn_41 rfl (lv_at hl 0 rfl) ?_
          refine m_get X w o (shn hs 0 rfl) (shk hs 0 rfl : S.2.1 o = 2) ci2 2 (by decide) (fvR (shk hs 0 rfl : S.2.1 o = 2) rfl (shq hs 0 2 rfl rfl : S.2.2.2.1 o 2 = (o + 3) + 1)) rfl fl_X2_18 dX2_mostIn_42 ?_
          refine lv_iload hx hb dX2_mostIn_45 (lv_at hl 6 rfl) ?_
          obtain ⟨g19, h⟩ := cki h
          refine m_iald X w (o + 3) (shn hs 3 rfl) (shk hs 3 rfl : S.2.1 (o + 3) = 11) (shz hs 3 rfl : S.2.2.1 (o + 3) = 1024) g19 dX2_mostIn_47 ?_
          refine lv_iload_n hx hb dX2_mostIn_48 rfl (lv_at hl 1 rfl) ?_
          refine lv_iload hx hb dX2_mostIn_49 (lv_at hl 6 rfl) ?_
          refine lv_ixor hx hb dX2_mostIn_51 ?_
          refine lv_iload_n hx hb dX2_mostIn_52 rfl (lv_at hl 2 rfl) ?_
          refine lv_iload_n hx hb dX2_mostIn_53 rfl (lv_at hl 3 rfl) ?_
          obtain ⟨r20, q21, h⟩ := ob1i h
          refine m_ci (m_rS (As := [.int (v1 ^^^ v7), .int v2, .int v3]) (rest := [.int (V.2.1 (o + 3) v7.toNatClampNeg), .int v6]) X w hl mi_X2_hasBoth ml_X2_25 (c_X2_hasBoth l D cy ad A Kc C0 N S V (v1 ^^^ v7) v2 v3 r20 q21) ⟨⟨rfl, rfl, Nat.le_of_ble_eq_true rfl, Nat.le_of_ble_eq_true rfl⟩, Nat.le_of_ble_eq_true rfl, Nat.le_of_ble_eq_true rfl⟩ rfl rfl (Nat.le_of_ble_eq_true rfl) dX2_mostIn_54) w (fun H locs w => ?_)
          refine lv_iadd hx hb dX2_mostIn_57 ?_
          refine m_max (rest := []) X hl ml_X2_28 (Nat.le_of_ble_eq_true rfl) (Nat.le_of_ble_eq_true rfl) (Nat.le_of_ble_eq_true rfl) (Nat.le_of_ble_eq_true rfl) dX2_mostIn_58 ?_
          refine lv_topi (fun x22 ex22 => ?_)
          replace h := bdi h _ ex22
          refine lv_istore (lv' := [(6, .int x22), (0, .ref (ad o)), (1, .int v1), (2, .int v2), (3, .int v3), (5, .int v5), (7, .int v7)]) hx hb dX2_mostIn_61 hl (by decide) rfl (fun ls hl => ?_)
          have g := B63 v1 v2 v3 v5 x22 v7 h
          rw [hG] at g
          exact g H locs ls w (lv_sub hl [1, 2, 3, 4, 5, 0, 6] rfl)
  rw [f_X2_mostIn] at h
  refine lv_iload_n hx hb dX2_mostIn_0 rfl (lv_at hl 1 rfl) ?_
  refine lv_iload_n hx hb dX2_mostIn_1 rfl (lv_at hl 1 rfl) ?_
  refine lv_ineg hx hb dX2_mostIn_2 ?_
  refine lv_iand hx hb dX2_mostIn_3 ?_
  refine lv_topi (fun x11 ex11 => ?_)
  replace h := bdi h _ ex11
  refine lv_istore (lv' := [(4, .int x11), (0, .ref (ad o)), (1, .int a1), (2, .int a2), (3, .int a3)]) hx hb dX2_mostIn_4 hl (by decide) rfl (fun ls hl => ?_)
  refine lv_iload_n hx hb dX2_mostIn_6 rfl (lv_at hl 2 rfl) ?_
  refine lv_iload hx hb dX2_mostIn_7 (lv_at hl 0 rfl) ?_
  refine lv_ixor hx hb dX2_mostIn_9 ?_
  refine lv_topi (fun x12 ex12 => ?_)
  replace h := bdi h _ ex12
  refine lv_istore (lv' := [(5, .int x12), (4, .int x11), (0, .ref (ad o)), (1, .int a1), (2, .int a2), (3, .int a3)]) hx hb dX2_mostIn_10 hl (by decide) rfl (fun ls hl => ?_)
  refine lv_iload_n hx hb dX2_mostIn_12 rfl (lv_at hl 3 rfl) ?_
  refine lv_iload_n hx hb dX2_mostIn_13 rfl (lv_at hl 4 rfl) ?_
  refine lv_iload_n hx hb dX2_mostIn_14 rfl (lv_at hl 5 rfl) ?_
  obtain ⟨r13, q14, h⟩ := ob1i h
  refine m_ci (m_rS (As := [.int a1, .int a2, .int a3]) (rest := []) X w hl mi_X2_hasBoth ml_X2_25 (c_X2_hasBoth l D cy ad A Kc C0 N S V a1 a2 a3 r13 q14) ⟨⟨rfl, rfl, Nat.le_of_ble_eq_true rfl, Nat.le_of_ble_eq_true rfl⟩, Nat.le_of_ble_eq_true rfl, Nat.le_of_ble_eq_true rfl⟩ rfl rfl (Nat.le_of_ble_eq_true rfl) dX2_mostIn_15) w (fun H locs w => ?_)
  refine lv_istore (lv' := [(6, .int r13), (5, .int x12), (4, .int x11), (0, .ref (ad o)), (1, .int a1), (2, .int a2), (3, .int a3)]) hx hb dX2_mostIn_18 hl (by decide) rfl (fun ls hl => ?_)
  refine lv_iload hx hb dX2_mostIn_20 (lv_at hl 1 rfl) ?_
  refine lv_istore (lv' := [(7, .int x12), (6, .int r13), (5, .int x12), (4, .int x11), (0, .ref (ad o)), (1, .int a1), (2, .int a2), (3, .int a3)]) hx hb dX2_mostIn_22 hl (by decide) rfl (fun ls hl => ?_)
  have g := L24 N a1 a2 a3 x12 r13 x12 h
  rw [hG] at g
  exact g H locs ls w (lv_sub hl [4, 5, 6, 7, 2, 1, 0] rfl)
def f_X3_ringOf_51 (N : Nat) (S : St) (o : Nat) (V : Vt) (v2 : Int32) (v3 : Int32) (v4 : Int32) : Option (Int32 × Vt) := if v2 = 0 then ck v3 26 (some (V.2.1 (o + 7) v3.toNatClampNeg, V)) else if v3 = (25 : Int32) then some ((0 : Int32), V) else ck v3 26 (some (v4 - (V.2.1 (o + 7) v3.toNatClampNeg), V))
def f_X3_ringOf_13 (N : Nat) (S : St) (o : Nat) : Nat → Vt → Int32 → Int32 → Int32 → Option (Int32 × Vt)
  | 0, _, _, _, _ => none
  | n + 1, V, v2, v3, v4 => if (26 : Int32) < v4 then f_X3_ringOf_51 N S o V v2 v3 v4 else ck v3 26 (if (V.2.1 (o + 7) v3.toNatClampNeg) = (-1 : Int32) then ck v3 26 (bd (sA V (o + 7) v3.toNatClampNeg v4) (fun V23 => ck v3 26 (bd (V23.2.1 (o + 5) v3.toNatClampNeg) (fun x25 => bd (v4 + (1 : Int32)) (fun x26 => (f_X3_ringOf_13 N S o n) V23 v2 x25 x26))))) else f_X3_ringOf_51 N S o V v2 v3 v4)
def f_X3_ringOf (N : Nat) (S : St) (V : Vt) (o : Nat) (a1 : Int32) (a2 : Int32) : Option (Int32 × Vt) := obv (f_J7_fill_53178 N S V (o + 7) (-1 : Int32)) (fun V14 => f_X3_ringOf_13 N S o N V14 a2 a1 (0 : Int32))
set_option maxHeartbeats 4000000 in
set_option maxRecDepth 100000 in
theorem c_X3_ringOf (l : Launch) (D : va_G) (cy : Nat → ClassId) (ad : Nat → Nat) (A : Nat → Prop) (Kc : State → Prop) (C0 : Cx ad A Kc) (N : Nat) (S : St) (V : Vt) (o : Nat) (hs : shp S o t3) (a1 : Int32) (a2 : Int32) (r : Int32) (V' : Vt) (h : f_X3_ringOf N S V o a1 a2 = some (r, V')) : Met l yX3_ringOf (mw yX3_ringOf cX3_ringOf 5 (some .int)) { frames := 1, cells := 0, slots := 0, locals := 23 } (PreM D cy ad Kc S V [.ref (ad o), .int a1, .int a2]) (QI D cy ad A r S V') 0 0 A := by
  refine ct_go C0 (own := RX3) rfl (by decide) rfl ?_
  intro p e s m below meth c ls H locs X hr hlocks hnm hl w
  have hx := X.1.1
  have hb := X.1.2.1
  have hown := X.2.1
  have hts := X.2.2.1
  have hl : lv_has ls 5 [(0, .ref (ad o)), (1, .int a1), (2, .int a2)] := hl
  obtain ⟨G, hG⟩ : ∃ G : Nat → Vt → List (Nat × Value) → List Value → Prop, G = fun pc V lv st => ∀ (H : Heap) (locs : List Loc) (ls : Array Slot), Wd D cy ad A s.heap S V H locs → lv_has ls 5 lv → W p l e { frames := 1, cells := 0, slots := 0, locals := 23 } s m ([.ref (ad o), .int a1, .int a2] : List Value).toArray below meth c H locs 0 0 (MQ below (QI D cy ad A r S V') ([.ref (ad o), .int a1, .int a2] : List Value).toArray s 0 0 A) (F0 m pc ls st) := ⟨_, rfl⟩
  have B51 : ∀ (V : Vt) (v2 : Int32) (v3 : Int32) (v4 : Int32), f_X3_ringOf_51 N S o V v2 v3 v4 = some (r, V') → G 51 V [(0, .ref (ad o)), (2, .int v2), (3, .int v3), (4, .int v4)] [] := by
    intro V v2 v3 v4 h
    rw [hG]
    intro H locs ls w hl
    rw [f_X3_ringOf_51] at h
    refine lv_iload_n hx hb dX3_ringOf_51 rfl (lv_at hl 1 rfl) ?_
    refine lv_if_ne (tgt := 62) hx hb dX3_ringOf_52 (by decide) (fun c16 => ?_) (fun c16 => ?_)
    · replace h := ifF h c16
      refine lv_iload_n hx hb dX3_ringOf_62 rfl (lv_at hl 2 rfl) ?_
      refine lv_bipush (v := 25) hx hb dX3_ringOf_63 (by decide) ?_
      refine lv_icmp_ne (tgt := 72) hx hb dX3_ringOf_65 (by decide) (fun c17 => ?_) (fun c17 => ?_)
      · replace h := ifF h c17
        refine lv_iload hx hb dX3_ringOf_72 (lv_at hl 3 rfl) ?_
        refine lv_aload_n hx hb dX3_ringOf_74 rfl (lv_at hl 0 rfl) ?_
        refine m_get X w o (shn hs 0 rfl) (shk hs 0 rfl : S.2.1 o = 3) ci3 3 (by decide) (fvR (shk hs 0 rfl : S.2.1 o = 3) rfl (shq hs 0 3 rfl rfl : S.2.2.2.1 o 3 = (o + 7) + 1)) rfl fl_X3_25 dX3_ringOf_75 ?_
        refine lv_iload_n hx hb dX3_ringOf_78 rfl (lv_at hl 2 rfl) ?_
        obtain ⟨g18, h⟩ := cki h
        refine m_iald X w (o + 7) (shn hs 7 rfl) (shk hs 7 rfl : S.2.1 (o + 7) = 11) (shz hs 7 rfl : S.2.2.1 (o + 7) = 26) g18 dX3_ringOf_79 ?_
        refine lv_isub hx hb dX3_ringOf_80 ?_
        obtain ⟨rfl, rfl⟩ := reti h
        exact m_ri X w hr hlocks dX3_ringOf_81
      · replace h := ifT h c17
        refine lv_iconst (v := 0) hx hb dX3_ringOf_68 (by decide) ?_
        refine lv_goto (tgt := 81) hx hb dX3_ringOf_69 (by decide) ?_
        obtain ⟨rfl, rfl⟩ := reti h
        exact m_ri X w hr hlocks dX3_ringOf_81
    · replace h := ifT h c16
      refine lv_aload_n hx hb dX3_ringOf_55 rfl (lv_at hl 0 rfl) ?_
      refine m_get X w o (shn hs 0 rfl) (shk hs 0 rfl : S.2.1 o = 3) ci3 3 (by decide) (fvR (shk hs 0 rfl : S.2.1 o = 3) rfl (shq hs 0 3 rfl rfl : S.2.2.2.1 o 3 = (o + 7) + 1)) rfl fl_X3_25 dX3_ringOf_56 ?_
      refine lv_iload_n hx hb dX3_ringOf_59 rfl (lv_at hl 2 rfl) ?_
      obtain ⟨g19, h⟩ := cki h
      refine m_iald X w (o + 7) (shn hs 7 rfl) (shk hs 7 rfl : S.2.1 (o + 7) = 11) (shz hs 7 rfl : S.2.2.1 (o + 7) = 26) g19 dX3_ringOf_60 ?_
      obtain ⟨rfl, rfl⟩ := reti h
      exact m_ri X w hr hlocks dX3_ringOf_61
  have L13 : ∀ (n13 : Nat) (V : Vt) (v2 : Int32) (v3 : Int32) (v4 : Int32), f_X3_ringOf_13 N S o n13 V v2 v3 v4 = some (r, V') → G 13 V [(0, .ref (ad o)), (2, .int v2), (3, .int v3), (4, .int v4)] [] := by
    intro n13
    induction n13 with
    | zero => intro V v2 v3 v4 h; rw [f_X3_ringOf_13] at h; cases h
    | succ n13 ih13 =>
      intro V v2 v3 v4 h
      rw [hG]
      intro H locs ls w hl
      rw [f_X3_ringOf_13] at h
      refine lv_iload hx hb dX3_ringOf_13 (lv_at hl 3 rfl) ?_
      refine lv_bipush (v := 26) hx hb dX3_ringOf_15 (by decide) ?_
      refine lv_icmp_gt (tgt := 51) hx hb dX3_ringOf_17 (by decide) (fun c15 => ?_) (fun c15 => ?_)
      · replace h := ifT h c15
        have g := B51 V v2 v3 v4 h
        rw [hG] at g
        exact g H locs ls w (lv_sub hl [0, 1, 2, 3] rfl)
      · replace h := ifF h c15
        refine lv_aload_n hx hb dX3_ringOf_20 rfl (lv_at hl 0 rfl) ?_
        refine m_get X w o (shn hs 0 rfl) (shk hs 0 rfl : S.2.1 o = 3) ci3 3 (by decide) (fvR (shk hs 0 rfl : S.2.1 o = 3) rfl (shq hs 0 3 rfl rfl : S.2.2.2.1 o 3 = (o + 7) + 1)) rfl fl_X3_25 dX3_ringOf_21 ?_
        refine lv_iload_n hx hb dX3_ringOf_24 rfl (lv_at hl 2 rfl) ?_
        obtain ⟨g20, h⟩ := cki h
        refine m_iald X w (o + 7) (shn hs 7 rfl) (shk hs 7 rfl : S.2.1 (o + 7) = 11) (shz hs 7 rfl : S.2.2.1 (o + 7) = 26) g20 dX3_ringOf_25 ?_
        refine lv_iconst (v := (-1)) hx hb dX3_ringOf_26 (by decide) ?_
        refine lv_icmp_ne (tgt := 51) hx hb dX3_ringOf_27 (by decide) (fun c21 => ?_) (fun c21 => ?_)
        · replace h := ifF h c21
          have g := B51 V v2 v3 v4 h
          rw [hG] at g
          exact g H locs ls w (lv_sub hl [0, 1, 2, 3] rfl)
        · replace h := ifT h c21
          refine lv_aload_n hx hb dX3_ringOf_30 rfl (lv_at hl 0 rfl) ?_
          refine m_get X w o (shn hs 0 rfl) (shk hs 0 rfl : S.2.1 o = 3) ci3 3 (by decide) (fvR (shk hs 0 rfl : S.2.1 o = 3) rfl (shq hs 0 3 rfl rfl : S.2.2.2.1 o 3 = (o + 7) + 1)) rfl fl_X3_25 dX3_ringOf_31 ?_
          refine lv_iload_n hx hb dX3_ringOf_34 rfl (lv_at hl 2 rfl) ?_
          refine lv_iload hx hb dX3_ringOf_35 (lv_at hl 3 rfl) ?_
          obtain ⟨g22, h⟩ := cki h
          refine m_iast X w (o + 7) (shn hs 7 rfl) (shk hs 7 rfl : S.2.1 (o + 7) = 11) (shz hs 7 rfl : S.2.2.1 (o + 7) = 26) g22 dX3_ringOf_37 (fun V23 H locs eV23 w => ?_)
          replace h := bdi h _ eV23
          refine lv_aload_n hx hb dX3_ringOf_38 rfl (lv_at hl 0 rfl) ?_
          refine m_get X w o (shn hs 0 rfl) (shk hs 0 rfl : S.2.1 o = 3) ci3 1 (by decide) (fvR (shk hs 0 rfl : S.2.1 o = 3) rfl (shq hs 0 1 rfl rfl : S.2.2.2.1 o 1 = (o + 5) + 1)) rfl fl_X3_18 dX3_ringOf_39 ?_
          refine lv_iload_n hx hb dX3_ringOf_42 rfl (lv_at hl 2 rfl) ?_
          obtain ⟨g24, h⟩ := cki h
          refine m_iald X w (o + 5) (shn hs 5 rfl) (shk hs 5 rfl : S.2.1 (o + 5) = 11) (shz hs 5 rfl : S.2.2.1 (o + 5) = 26) g24 dX3_ringOf_43 ?_
          refine lv_topi (fun x25 ex25 => ?_)
          replace h := bdi h _ ex25
          refine lv_istore_n (lv' := [(3, .int x25), (0, .ref (ad o)), (2, .int v2), (4, .int v4)]) hx hb dX3_ringOf_44 rfl hl (by decide) rfl (fun ls hl => ?_)
          obtain ⟨x26, ex26⟩ : ∃ y : Int32, y = v4 + (1 : Int32) := ⟨_, rfl⟩
          replace h := bdi h _ ex26
          refine lv_iinc (v := x26) (lv' := [(4, .int x26), (3, .int x25), (0, .ref (ad o)), (2, .int v2)]) hx hb dX3_ringOf_45 hl (k := 3) rfl (by rw [ex26]; rfl) (by decide) rfl (fun ls hl => ?_)
          refine lv_goto (tgt := 13) hx hb dX3_ringOf_48 (by decide) ?_
          have g := ih13 V23 v2 x25 x26 h
          rw [hG] at g
          exact g H locs ls w (lv_sub hl [2, 3, 1, 0] rfl)
  rw [f_X3_ringOf] at h
  refine lv_aload_n hx hb dX3_ringOf_0 rfl (lv_at hl 0 rfl) ?_
  refine m_get X w o (shn hs 0 rfl) (shk hs 0 rfl : S.2.1 o = 3) ci3 3 (by decide) (fvR (shk hs 0 rfl : S.2.1 o = 3) rfl (shq hs 0 3 rfl rfl : S.2.2.2.1 o 3 = (o + 7) + 1)) rfl fl_X3_25 dX3_ringOf_1 ?_
  refine lv_iconst (v := (-1)) hx hb dX3_ringOf_4 (by decide) ?_
  obtain ⟨V14, q13, h⟩ := obvi h
  refine m_cv (m_rS (As := [.ref (ad (o + 7)), .int (-1 : Int32)]) (rest := []) X w hl mi_J7_fill_53178 ml_X3_49 (c_J7_fill_53178 l D cy ad A Kc C0 N S V (o + 7) ⟨(shn hs 7 rfl), (shk hs 7 rfl : S.2.1 (o + 7) = 11)⟩ (-1 : Int32) V14 q13) ⟨⟨rfl, rfl, Nat.le_of_ble_eq_true rfl, Nat.le_of_ble_eq_true rfl⟩, Nat.le_of_ble_eq_true rfl, Nat.le_of_ble_eq_true rfl⟩ rfl rfl (Nat.le_of_ble_eq_true rfl) dX3_ringOf_5) w (fun H locs w => ?_)
  refine lv_iload_n hx hb dX3_ringOf_8 rfl (lv_at hl 1 rfl) ?_
  refine lv_istore_n (lv' := [(3, .int a1), (0, .ref (ad o)), (1, .int a1), (2, .int a2)]) hx hb dX3_ringOf_9 rfl hl (by decide) rfl (fun ls hl => ?_)
  refine lv_iconst (v := 0) hx hb dX3_ringOf_10 (by decide) ?_
  refine lv_istore (lv' := [(4, .int (0 : Int32)), (3, .int a1), (0, .ref (ad o)), (1, .int a1), (2, .int a2)]) hx hb dX3_ringOf_11 hl (by decide) rfl (fun ls hl => ?_)
  have g := L13 N V14 a2 a1 (0 : Int32) h
  rw [hG] at g
  exact g H locs ls w (lv_sub hl [2, 4, 1, 0] rfl)
def f_X3_castBits_45 (N : Nat) (S : St) (V : Vt) (o : Nat) (K4 : Int32 → Int32 → Option Int32) (v1 : Int32) (v2 : Int32) : Option Int32 := bd (v2 + (1 : Int32)) (fun x11 => K4 v1 x11)
def f_X3_castBits_4 (N : Nat) (S : St) (V : Vt) (o : Nat) : Nat → Int32 → Int32 → Option Int32
  | 0, _, _ => none
  | n + 1, v1, v2 => if (25 : Int32) ≤ v2 then some v1 else ob1 (f_X3_sourceBits N S V o v2) (fun r7 => ck v2 25 (if (r7 &&& ((V.2.1 (o + 6) v2.toNatClampNeg) ^^^ (-1 : Int32))) = 0 then if (r7 &&& (-r7)) = ((1 : Int32) <<< (v2 &&& 31)) then bd (v1 ||| ((1 : Int32) <<< (v2 &&& 31))) (fun x13 => f_X3_castBits_45 N S V o (f_X3_castBits_4 N S V o n) x13 v2) else f_X3_castBits_45 N S V o (f_X3_castBits_4 N S V o n) v1 v2 else f_X3_castBits_45 N S V o (f_X3_castBits_4 N S V o n) v1 v2))
def f_X3_castBits (N : Nat) (S : St) (V : Vt) (o : Nat) : Option Int32 := f_X3_castBits_4 N S V o N (0 : Int32) (0 : Int32)
set_option maxHeartbeats 4000000 in
set_option maxRecDepth 100000 in
theorem c_X3_castBits (l : Launch) (D : va_G) (cy : Nat → ClassId) (ad : Nat → Nat) (A : Nat → Prop) (Kc : State → Prop) (C0 : Cx ad A Kc) (N : Nat) (S : St) (V : Vt) (o : Nat) (hs : shp S o t3) (r : Int32) (h : f_X3_castBits N S V o = some r) : Met l yX3_castBits (mw yX3_castBits cX3_castBits 4 (some .int)) { frames := 1, cells := 0, slots := 0, locals := 23 } (PreM D cy ad Kc S V [.ref (ad o)]) (QI D cy ad A r S V) 0 0 A := by
  refine ct_go C0 (own := RX3) rfl (by decide) rfl ?_
  intro p e s m below meth c ls H locs X hr hlocks hnm hl w
  have hx := X.1.1
  have hb := X.1.2.1
  have hown := X.2.1
  have hts := X.2.2.1
  have hl : lv_has ls 4 [(0, .ref (ad o))] := hl
  obtain ⟨G, hG⟩ : ∃ G : Nat → Vt → List (Nat × Value) → List Value → Prop, G = fun pc V lv st => ∀ (H : Heap) (locs : List Loc) (ls : Array Slot), Wd D cy ad A s.heap S V H locs → lv_has ls 4 lv → W p l e { frames := 1, cells := 0, slots := 0, locals := 23 } s m ([.ref (ad o)] : List Value).toArray below meth c H locs 0 0 (MQ below (QI D cy ad A r S V) ([.ref (ad o)] : List Value).toArray s 0 0 A) (F0 m pc ls st) := ⟨_, rfl⟩
  have L4 : ∀ (n4 : Nat) (v1 : Int32) (v2 : Int32), f_X3_castBits_4 N S V o n4 v1 v2 = some r → G 4 V [(0, .ref (ad o)), (1, .int v1), (2, .int v2)] [] := by
    intro n4
    induction n4 with
    | zero => intro v1 v2 h; rw [f_X3_castBits_4] at h; cases h
    | succ n4 ih4 =>
      have B45 : ∀ (v1 : Int32) (v2 : Int32), f_X3_castBits_45 N S V o (f_X3_castBits_4 N S V o n4) v1 v2 = some r → G 45 V [(0, .ref (ad o)), (1, .int v1), (2, .int v2)] [] := by
        intro v1 v2 h
        rw [hG]
        intro H locs ls w hl
        rw [f_X3_castBits_45] at h
        obtain ⟨x11, ex11⟩ : ∃ y : Int32, y = v2 + (1 : Int32) := ⟨_, rfl⟩
        replace h := bdi h _ ex11
        refine lv_iinc (v := x11) (lv' := [(2, .int x11), (0, .ref (ad o)), (1, .int v1)]) hx hb dX3_castBits_45 hl (k := 2) rfl (by rw [ex11]; rfl) (by decide) rfl (fun ls hl => ?_)
        refine lv_goto (tgt := 4) hx hb dX3_castBits_48 (by decide) ?_
        have g := ih4 v1 x11 h
        rw [hG] at g
        exact g H locs ls w (lv_sub hl [1, 2, 0] rfl)
      intro v1 v2 h
      rw [hG]
      intro H locs ls w hl
      rw [f_X3_castBits_4] at h
      refine lv_iload_n hx hb dX3_castBits_4 rfl (lv_at hl 2 rfl) ?_
      refine lv_bipush (v := 25) hx hb dX3_castBits_5 (by decide) ?_
      refine lv_icmp_ge (tgt := 51) hx hb dX3_castBits_7 (by decide) (fun c6 => ?_) (fun c6 => ?_)
      · replace h := ifT h c6
        refine lv_iload_n hx hb dX3_castBits_51 rfl (lv_at hl 1 rfl) ?_
        obtain rfl := Option.some.inj h
        exact m_ri X w hr hlocks dX3_castBits_52
      · replace h := ifF h c6
        refine lv_aload_n hx hb dX3_castBits_10 rfl (lv_at hl 0 rfl) ?_
        refine lv_iload_n hx hb dX3_castBits_11 rfl (lv_at hl 2 rfl) ?_
        obtain ⟨r7, q8, h⟩ := ob1i h
        refine m_ci (m_rV (As := [.int v2]) (rest := []) X w hl mi_X3_sourceBits ml_X3_55 o (shn hs 0 rfl) (shk hs 0 rfl : S.2.1 o = 3) rfl (c_X3_sourceBits l D cy ad A Kc C0 N S V o hs v2 r7 q8) ⟨⟨rfl, rfl, Nat.le_of_ble_eq_true rfl, Nat.le_of_ble_eq_true rfl⟩, Nat.le_of_ble_eq_true rfl, Nat.le_of_ble_eq_true rfl⟩ rfl rfl (Nat.le_of_ble_eq_true rfl) dX3_castBits_12) w (fun H locs w => ?_)
        refine lv_istore_n (lv' := [(3, .int r7), (0, .ref (ad o)), (1, .int v1), (2, .int v2)]) hx hb dX3_castBits_15 rfl hl (by decide) rfl (fun ls hl => ?_)
        refine lv_iload_n hx hb dX3_castBits_16 rfl (lv_at hl 0 rfl) ?_
        refine lv_aload_n hx hb dX3_castBits_17 rfl (lv_at hl 1 rfl) ?_
        refine m_get X w o (shn hs 0 rfl) (shk hs 0 rfl : S.2.1 o = 3) ci3 2 (by decide) (fvR (shk hs 0 rfl : S.2.1 o = 3) rfl (shq hs 0 2 rfl rfl : S.2.2.2.1 o 2 = (o + 6) + 1)) rfl fl_X3_22 dX3_castBits_18 ?_
        refine lv_iload_n hx hb dX3_castBits_21 rfl (lv_at hl 3 rfl) ?_
        obtain ⟨g9, h⟩ := cki h
        refine m_iald X w (o + 6) (shn hs 6 rfl) (shk hs 6 rfl : S.2.1 (o + 6) = 11) (shz hs 6 rfl : S.2.2.1 (o + 6) = 25) g9 dX3_castBits_22 ?_
        refine lv_iconst (v := (-1)) hx hb dX3_castBits_23 (by decide) ?_
        refine lv_ixor hx hb dX3_castBits_24 ?_
        refine lv_iand hx hb dX3_castBits_25 ?_
        refine lv_if_ne (tgt := 45) hx hb dX3_castBits_26 (by decide) (fun c10 => ?_) (fun c10 => ?_)
        · replace h := ifF h c10
          have g := B45 v1 v2 h
          rw [hG] at g
          exact g H locs ls w (lv_sub hl [1, 2, 3] rfl)
        · replace h := ifT h c10
          refine lv_iload_n hx hb dX3_castBits_29 rfl (lv_at hl 0 rfl) ?_
          refine lv_iload_n hx hb dX3_castBits_30 rfl (lv_at hl 0 rfl) ?_
          refine lv_ineg hx hb dX3_castBits_31 ?_
          refine lv_iand hx hb dX3_castBits_32 ?_
          refine lv_iconst (v := 1) hx hb dX3_castBits_33 (by decide) ?_
          refine lv_iload_n hx hb dX3_castBits_34 rfl (lv_at hl 3 rfl) ?_
          refine lv_ishl hx hb dX3_castBits_35 ?_
          refine lv_icmp_ne (tgt := 45) hx hb dX3_castBits_36 (by decide) (fun c12 => ?_) (fun c12 => ?_)
          · replace h := ifF h c12
            have g := B45 v1 v2 h
            rw [hG] at g
            exact g H locs ls w (lv_sub hl [1, 2, 3] rfl)
          · replace h := ifT h c12
            refine lv_iload_n hx hb dX3_castBits_39 rfl (lv_at hl 2 rfl) ?_
            refine lv_iconst (v := 1) hx hb dX3_castBits_40 (by decide) ?_
            refine lv_iload_n hx hb dX3_castBits_41 rfl (lv_at hl 3 rfl) ?_
            refine lv_ishl hx hb dX3_castBits_42 ?_
            refine lv_ior hx hb dX3_castBits_43 ?_
            refine lv_topi (fun x13 ex13 => ?_)
            replace h := bdi h _ ex13
            refine lv_istore_n (lv' := [(1, .int x13), (3, .int r7), (0, .ref (ad o)), (2, .int v2)]) hx hb dX3_castBits_44 rfl hl (by decide) rfl (fun ls hl => ?_)
            have g := B45 x13 v2 h
            rw [hG] at g
            exact g H locs ls w (lv_sub hl [2, 0, 3] rfl)
  rw [f_X3_castBits] at h
  refine lv_iconst (v := 0) hx hb dX3_castBits_0 (by decide) ?_
  refine lv_istore_n (lv' := [(1, .int (0 : Int32)), (0, .ref (ad o))]) hx hb dX3_castBits_1 rfl hl (by decide) rfl (fun ls hl => ?_)
  refine lv_iconst (v := 0) hx hb dX3_castBits_2 (by decide) ?_
  refine lv_istore_n (lv' := [(2, .int (0 : Int32)), (1, .int (0 : Int32)), (0, .ref (ad o))]) hx hb dX3_castBits_3 rfl hl (by decide) rfl (fun ls hl => ?_)
  have g := L4 N (0 : Int32) (0 : Int32) h
  rw [hG] at g
  exact g H locs ls w (lv_sub hl [2, 1, 0] rfl)
def f_X4_worthAt_243 (N : Nat) (S : St) (o : Nat) (a1 : Nat) (a3 : Nat) (K19 : Vt → Int32 → Int32 → Option (Int32 × Vt)) (V : Vt) (v5 : Int32) (v6 : Int32) : Option (Int32 × Vt) := bd (v6 + (1 : Int32)) (fun x41 => K19 V v5 x41)
def f_X4_worthAt_208 (N : Nat) (S : St) (o : Nat) (a1 : Nat) (a3 : Nat) (K19 : Vt → Int32 → Int32 → Option (Int32 × Vt)) (V : Vt) (v5 : Int32) (v6 : Int32) (v8 : Int32) (s0 : Int32) (s1 : Int32) : Option (Int32 × Vt) := if s1 = s0 then f_X4_worthAt_243 N S o a1 a3 K19 V v8 v6 else bd (sF V o 1 ((V.1 o 1) - (1 : Int32))) (fun V40 => f_X4_worthAt_243 N S o a1 a3 K19 V40 v5 v6)
def f_X4_worthAt_185 (N : Nat) (S : St) (o : Nat) (a1 : Nat) (a3 : Nat) (K19 : Vt → Int32 → Int32 → Option (Int32 × Vt)) (V : Vt) (v5 : Int32) (v6 : Int32) (v7 : Int32) (v8 : Int32) : Option (Int32 × Vt) := ck ((V.1 o 1) - (1 : Int32)) 40 (if v7 = (13 : Int32) then f_X4_worthAt_208 N S o a1 a3 K19 V v5 v6 v8 (1 : Int32) (V.2.1 (o + 1) ((V.1 o 1) - (1 : Int32)).toNatClampNeg) else f_X4_worthAt_208 N S o a1 a3 K19 V v5 v6 v8 (0 : Int32) (V.2.1 (o + 1) ((V.1 o 1) - (1 : Int32)).toNatClampNeg))
def f_X4_worthAt_121 (N : Nat) (S : St) (o : Nat) (a1 : Nat) (a3 : Nat) (K19 : Vt → Int32 → Int32 → Option (Int32 × Vt)) (V : Vt) (v5 : Int32) (v6 : Int32) (s0 : Int32) : Option (Int32 × Vt) := obv (f_X4_push N S V o s0) (fun V53 => f_X4_worthAt_243 N S o a1 a3 K19 V53 v5 v6)
def f_X4_worthAt_19 (N : Nat) (S : St) (o : Nat) (a1 : Nat) (a3 : Nat) : Nat → Vt → Int32 → Int32 → Option (Int32 × Vt)
  | 0, _, _, _ => none
  | n + 1, V, v5, v6 => if (Nat.toInt32 ((S.2.2.1 a1))) ≤ v6 then some ((-2000000000 : Int32), V) else if v5 ≤ v6 then ck v6 (S.2.2.1 a1) (bd ((V.2.1 a1 v6.toNatClampNeg) &&& (255 : Int32)) (fun x28 => ck v6 (S.2.2.1 a1) (bd ((V.2.1 a1 v6.toNatClampNeg) >>> ((8 : Int32) &&& 31)) (fun x30 => if x28 = 0 then if (V.1 o 1) ≤ 0 then some ((-2000000000 : Int32), V) else ck ((V.1 o 1) - (1 : Int32)) 40 (some (V.2.1 (o + 1) ((V.1 o 1) - (1 : Int32)).toNatClampNeg, V)) else if x28 = (1 : Int32) then obv (f_X4_push N S V o x30) (fun V57 => f_X4_worthAt_243 N S o a1 a3 (f_X4_worthAt_19 N S o a1 a3 n) V57 v5 v6) else if x28 = (2 : Int32) then if (Nat.toInt32 ((S.2.2.1 a3))) ≤ x30 then f_X4_worthAt_121 N S o a1 a3 (f_X4_worthAt_19 N S o a1 a3 n) V v5 v6 (0 : Int32) else ck x30 (S.2.2.1 a3) (f_X4_worthAt_121 N S o a1 a3 (f_X4_worthAt_19 N S o a1 a3 n) V v5 v6 (V.2.1 a3 x30.toNatClampNeg)) else if (V.1 o 1) = 0 then some ((-2000000000 : Int32), V) else if x28 = (11 : Int32) then ck ((V.1 o 1) - (1 : Int32)) 40 (ck ((V.1 o 1) - (1 : Int32)) 40 (bd (sA V (o + 1) ((V.1 o 1) - (1 : Int32)).toNatClampNeg ((1 : Int32) - (V.2.1 (o + 1) ((V.1 o 1) - (1 : Int32)).toNatClampNeg))) (fun V49 => f_X4_worthAt_243 N S o a1 a3 (f_X4_worthAt_19 N S o a1 a3 n) V49 v5 v6))) else if x28 = (12 : Int32) then f_X4_worthAt_185 N S o a1 a3 (f_X4_worthAt_19 N S o a1 a3 n) V v5 v6 x28 x30 else if x28 = (13 : Int32) then f_X4_worthAt_185 N S o a1 a3 (f_X4_worthAt_19 N S o a1 a3 n) V v5 v6 x28 x30 else ob (f_X4_combine N S V o x28) (fun r43 V45 => if r43 = 0 then some ((-2000000000 : Int32), V45) else f_X4_worthAt_243 N S o a1 a3 (f_X4_worthAt_19 N S o a1 a3 n) V45 v5 v6))))) else f_X4_worthAt_243 N S o a1 a3 (f_X4_worthAt_19 N S o a1 a3 n) V v5 v6
def f_X4_worthAt (N : Nat) (S : St) (V : Vt) (o : Nat) (a1 : Nat) (a2 : Int32) (a3 : Nat) (a4 : Int32) : Option (Int32 × Vt) := if a2 = (-1 : Int32) then some (a4, V) else bd (sF V o 1 (0 : Int32)) (fun V24 => f_X4_worthAt_19 N S o a1 a3 N V24 a2 a2)
set_option maxHeartbeats 4000000 in
set_option maxRecDepth 100000 in
theorem c_X4_worthAt (l : Launch) (D : va_G) (cy : Nat → ClassId) (ad : Nat → Nat) (A : Nat → Prop) (Kc : State → Prop) (C0 : Cx ad A Kc) (N : Nat) (S : St) (V : Vt) (o : Nat) (hs : shp S o t4) (a1 : Nat) (hs_a1 : ash S a1) (a2 : Int32) (a3 : Nat) (hs_a3 : ash S a3) (a4 : Int32) (r : Int32) (V' : Vt) (h : f_X4_worthAt N S V o a1 a2 a3 a4 = some (r, V')) : Met l yX4_worthAt (mw yX4_worthAt cX4_worthAt 9 (some .int)) { frames := 1, cells := 0, slots := 0, locals := 27 } (PreM D cy ad Kc S V [.ref (ad o), .ref (ad a1), .int a2, .ref (ad a3), .int a4]) (QI D cy ad A r S V') 0 0 A := by
  refine ct_go C0 (own := RX4) rfl (by decide) rfl ?_
  intro p e s m below meth c ls H locs X hr hlocks hnm hl w
  have hx := X.1.1
  have hb := X.1.2.1
  have hown := X.2.1
  have hts := X.2.2.1
  have hl : lv_has ls 9 [(0, .ref (ad o)), (1, .ref (ad a1)), (2, .int a2), (3, .ref (ad a3)), (4, .int a4)] := hl
  obtain ⟨G, hG⟩ : ∃ G : Nat → Vt → List (Nat × Value) → List Value → Prop, G = fun pc V lv st => ∀ (H : Heap) (locs : List Loc) (ls : Array Slot), Wd D cy ad A s.heap S V H locs → lv_has ls 9 lv → W p l e { frames := 1, cells := 0, slots := 0, locals := 27 } s m ([.ref (ad o), .ref (ad a1), .int a2, .ref (ad a3), .int a4] : List Value).toArray below meth c H locs 0 0 (MQ below (QI D cy ad A r S V') ([.ref (ad o), .ref (ad a1), .int a2, .ref (ad a3), .int a4] : List Value).toArray s 0 0 A) (F0 m pc ls st) := ⟨_, rfl⟩
  have L19 : ∀ (n19 : Nat) (V : Vt) (v5 : Int32) (v6 : Int32), f_X4_worthAt_19 N S o a1 a3 n19 V v5 v6 = some (r, V') → G 19 V [(0, .ref (ad o)), (1, .ref (ad a1)), (3, .ref (ad a3)), (5, .int v5), (6, .int v6)] [] := by
    intro n19
    induction n19 with
    | zero => intro V v5 v6 h; rw [f_X4_worthAt_19] at h; cases h
    | succ n19 ih19 =>
      have B243 : ∀ (V : Vt) (v5 : Int32) (v6 : Int32), f_X4_worthAt_243 N S o a1 a3 (f_X4_worthAt_19 N S o a1 a3 n19) V v5 v6 = some (r, V') → G 243 V [(0, .ref (ad o)), (1, .ref (ad a1)), (3, .ref (ad a3)), (5, .int v5), (6, .int v6)] [] := by
        intro V v5 v6 h
        rw [hG]
        intro H locs ls w hl
        rw [f_X4_worthAt_243] at h
        obtain ⟨x41, ex41⟩ : ∃ y : Int32, y = v6 + (1 : Int32) := ⟨_, rfl⟩
        replace h := bdi h _ ex41
        refine lv_iinc (v := x41) (lv' := [(6, .int x41), (0, .ref (ad o)), (1, .ref (ad a1)), (3, .ref (ad a3)), (5, .int v5)]) hx hb dX4_worthAt_243 hl (k := 4) rfl (by rw [ex41]; rfl) (by decide) rfl (fun ls hl => ?_)
        refine lv_goto (tgt := 19) hx hb dX4_worthAt_246 (by decide) ?_
        have g := ih19 V v5 x41 h
        rw [hG] at g
        exact g H locs ls w (lv_sub hl [1, 2, 3, 4, 0] rfl)
      have B208 : ∀ (V : Vt) (v5 : Int32) (v6 : Int32) (v8 : Int32) (s0 : Int32) (s1 : Int32), f_X4_worthAt_208 N S o a1 a3 (f_X4_worthAt_19 N S o a1 a3 n19) V v5 v6 v8 s0 s1 = some (r, V') → G 208 V [(0, .ref (ad o)), (1, .ref (ad a1)), (3, .ref (ad a3)), (5, .int v5), (6, .int v6), (8, .int v8)] [.int s0, .int s1] := by
        intro V v5 v6 v8 s0 s1 h
        rw [hG]
        intro H locs ls w hl
        rw [f_X4_worthAt_208] at h
        refine lv_icmp_ne (tgt := 218) hx hb dX4_worthAt_208 (by decide) (fun c39 => ?_) (fun c39 => ?_)
        · replace h := ifF h c39
          refine lv_aload_n hx hb dX4_worthAt_218 rfl (lv_at hl 0 rfl) ?_
          refine lv_dup hx hb dX4_worthAt_219 rfl ?_
          refine m_get X w o (shn hs 0 rfl) (shk hs 0 rfl : S.2.1 o = 4) ci4 1 (by decide) (fvI (shk hs 0 rfl : S.2.1 o = 4) rfl) rfl fl_X4_15 dX4_worthAt_220 ?_
          refine lv_iconst (v := 1) hx hb dX4_worthAt_223 (by decide) ?_
          refine lv_isub hx hb dX4_worthAt_224 ?_
          refine m_put X w o (shn hs 0 rfl) (shk hs 0 rfl : S.2.1 o = 4) ci4 1 (by decide) rfl rfl rfl rfl rfl fl_X4_15 dX4_worthAt_225 (fun V40 H locs eV40 w => ?_)
          replace h := bdi h _ eV40
          refine lv_goto (tgt := 243) hx hb dX4_worthAt_228 (by decide) ?_
          have g := B243 V40 v5 v6 h
          rw [hG] at g
          exact g H locs ls w (lv_sub hl [0, 1, 2, 3, 4] rfl)
        · replace h := ifT h c39
          refine lv_iload hx hb dX4_worthAt_211 (lv_at hl 5 rfl) ?_
          refine lv_istore (lv' := [(5, .int v8), (0, .ref (ad o)), (1, .ref (ad a1)), (3, .ref (ad a3)), (6, .int v6), (8, .int v8)]) hx hb dX4_worthAt_213 hl (by decide) rfl (fun ls hl => ?_)
          refine lv_goto (tgt := 243) hx hb dX4_worthAt_215 (by decide) ?_
          have g := B243 V v8 v6 h
          rw [hG] at g
          exact g H locs ls w (lv_sub hl [1, 2, 3, 0, 4] rfl)
      have B185 : ∀ (V : Vt) (v5 : Int32) (v6 : Int32) (v7 : Int32) (v8 : Int32), f_X4_worthAt_185 N S o a1 a3 (f_X4_worthAt_19 N S o a1 a3 n19) V v5 v6 v7 v8 = some (r, V') → G 185 V [(0, .ref (ad o)), (1, .ref (ad a1)), (3, .ref (ad a3)), (5, .int v5), (6, .int v6), (7, .int v7), (8, .int v8)] [] := by
        intro V v5 v6 v7 v8 h
        rw [hG]
        intro H locs ls w hl
        rw [f_X4_worthAt_185] at h
        refine lv_aload_n hx hb dX4_worthAt_185 rfl (lv_at hl 0 rfl) ?_
        refine m_get X w o (shn hs 0 rfl) (shk hs 0 rfl : S.2.1 o = 4) ci4 0 (by decide) (fvR (shk hs 0 rfl : S.2.1 o = 4) rfl (shq hs 0 0 rfl rfl : S.2.2.2.1 o 0 = (o + 1) + 1)) rfl fl_X4_11 dX4_worthAt_186 ?_
        refine lv_aload_n hx hb dX4_worthAt_189 rfl (lv_at hl 0 rfl) ?_
        refine m_get X w o (shn hs 0 rfl) (shk hs 0 rfl : S.2.1 o = 4) ci4 1 (by decide) (fvI (shk hs 0 rfl : S.2.1 o = 4) rfl) rfl fl_X4_15 dX4_worthAt_190 ?_
        refine lv_iconst (v := 1) hx hb dX4_worthAt_193 (by decide) ?_
        refine lv_isub hx hb dX4_worthAt_194 ?_
        obtain ⟨g37, h⟩ := cki h
        refine m_iald X w (o + 1) (shn hs 1 rfl) (shk hs 1 rfl : S.2.1 (o + 1) = 11) (shz hs 1 rfl : S.2.2.1 (o + 1) = 40) g37 dX4_worthAt_195 ?_
        refine lv_iload hx hb dX4_worthAt_196 (lv_at hl 5 rfl) ?_
        refine lv_bipush (v := 13) hx hb dX4_worthAt_198 (by decide) ?_
        refine lv_icmp_ne (tgt := 207) hx hb dX4_worthAt_200 (by decide) (fun c38 => ?_) (fun c38 => ?_)
        · replace h := ifF h c38
          refine lv_iconst (v := 0) hx hb dX4_worthAt_207 (by decide) ?_
          have g := B208 V v5 v6 v8 (0 : Int32) (V.2.1 (o + 1) ((V.1 o 1) - (1 : Int32)).toNatClampNeg) h
          rw [hG] at g
          exact g H locs ls w (lv_sub hl [0, 1, 2, 3, 4, 6] rfl)
        · replace h := ifT h c38
          refine lv_iconst (v := 1) hx hb dX4_worthAt_203 (by decide) ?_
          refine lv_goto (tgt := 208) hx hb dX4_worthAt_204 (by decide) ?_
          have g := B208 V v5 v6 v8 (1 : Int32) (V.2.1 (o + 1) ((V.1 o 1) - (1 : Int32)).toNatClampNeg) h
          rw [hG] at g
          exact g H locs ls w (lv_sub hl [0, 1, 2, 3, 4, 6] rfl)
      have B121 : ∀ (V : Vt) (v5 : Int32) (v6 : Int32) (s0 : Int32), f_X4_worthAt_121 N S o a1 a3 (f_X4_worthAt_19 N S o a1 a3 n19) V v5 v6 s0 = some (r, V') → G 121 V [(0, .ref (ad o)), (1, .ref (ad a1)), (3, .ref (ad a3)), (5, .int v5), (6, .int v6)] [.int s0, .ref (ad o)] := by
        intro V v5 v6 s0 h
        rw [hG]
        intro H locs ls w hl
        rw [f_X4_worthAt_121] at h
        obtain ⟨V53, q52, h⟩ := obvi h
        refine m_cv (m_rV (As := [.int s0]) (rest := []) X w hl mi_X4_push ml_X4_20 o (shn hs 0 rfl) (shk hs 0 rfl : S.2.1 o = 4) rfl (c_X4_push l D cy ad A Kc C0 N S V o hs s0 V53 q52) ⟨⟨rfl, rfl, Nat.le_of_ble_eq_true rfl, Nat.le_of_ble_eq_true rfl⟩, Nat.le_of_ble_eq_true rfl, Nat.le_of_ble_eq_true rfl⟩ rfl rfl (Nat.le_of_ble_eq_true rfl) dX4_worthAt_121) w (fun H locs w => ?_)
        refine lv_goto (tgt := 243) hx hb dX4_worthAt_124 (by decide) ?_
        have g := B243 V53 v5 v6 h
        rw [hG] at g
        exact g H locs ls w (lv_sub hl [0, 1, 2, 3, 4] rfl)
      intro V v5 v6 h
      rw [hG]
      intro H locs ls w hl
      rw [f_X4_worthAt_19] at h
      refine lv_iload hx hb dX4_worthAt_19 (lv_at hl 4 rfl) ?_
      refine lv_aload_n hx hb dX4_worthAt_21 rfl (lv_at hl 1 rfl) ?_
      refine m_alenI (v := (Nat.toInt32 ((S.2.2.1 a1)))) X w a1 hs_a1.1 hs_a1.2 rfl (by first | decide | rfl) dX4_worthAt_22 ?_
      refine lv_icmp_ge (tgt := 249) hx hb dX4_worthAt_23 (by decide) (fun c25 => ?_) (fun c25 => ?_)
      · replace h := ifT h c25
        refine lv_ldc (v := (-2000000000)) hx hb hown (hts _ kc_X4_19) dX4_worthAt_249 ?_
        obtain ⟨rfl, rfl⟩ := reti h
        exact m_ri X w hr hlocks dX4_worthAt_251
      · replace h := ifF h c25
        refine lv_iload hx hb dX4_worthAt_26 (lv_at hl 4 rfl) ?_
        refine lv_iload hx hb dX4_worthAt_28 (lv_at hl 3 rfl) ?_
        refine lv_icmp_ge (tgt := 36) hx hb dX4_worthAt_30 (by decide) (fun c26 => ?_) (fun c26 => ?_)
        · replace h := ifT h c26
          refine lv_aload_n hx hb dX4_worthAt_36 rfl (lv_at hl 1 rfl) ?_
          refine lv_iload hx hb dX4_worthAt_37 (lv_at hl 4 rfl) ?_
          obtain ⟨g27, h⟩ := cki h
          refine m_iald X w a1 hs_a1.1 hs_a1.2 rfl g27 dX4_worthAt_39 ?_
          refine lv_sipush (v := 255) hx hb dX4_worthAt_40 (by decide) ?_
          refine lv_iand hx hb dX4_worthAt_43 ?_
          refine lv_topi (fun x28 ex28 => ?_)
          replace h := bdi h _ ex28
          refine lv_istore (lv' := [(7, .int x28), (0, .ref (ad o)), (1, .ref (ad a1)), (3, .ref (ad a3)), (5, .int v5), (6, .int v6)]) hx hb dX4_worthAt_44 hl (by decide) rfl (fun ls hl => ?_)
          refine lv_aload_n hx hb dX4_worthAt_46 rfl (lv_at hl 2 rfl) ?_
          refine lv_iload hx hb dX4_worthAt_47 (lv_at hl 5 rfl) ?_
          obtain ⟨g29, h⟩ := cki h
          refine m_iald X w a1 hs_a1.1 hs_a1.2 rfl g29 dX4_worthAt_49 ?_
          refine lv_bipush (v := 8) hx hb dX4_worthAt_50 (by decide) ?_
          refine lv_ishr hx hb dX4_worthAt_52 ?_
          refine lv_topi (fun x30 ex30 => ?_)
          replace h := bdi h _ ex30
          refine lv_istore (lv' := [(8, .int x30), (7, .int x28), (0, .ref (ad o)), (1, .ref (ad a1)), (3, .ref (ad a3)), (5, .int v5), (6, .int v6)]) hx hb dX4_worthAt_53 hl (by decide) rfl (fun ls hl => ?_)
          refine lv_iload hx hb dX4_worthAt_55 (lv_at hl 1 rfl) ?_
          refine lv_if_ne (tgt := 84) hx hb dX4_worthAt_57 (by decide) (fun c31 => ?_) (fun c31 => ?_)
          · replace h := ifF h c31
            refine lv_iload hx hb dX4_worthAt_84 (lv_at hl 1 rfl) ?_
            refine lv_iconst (v := 1) hx hb dX4_worthAt_86 (by decide) ?_
            refine lv_icmp_ne (tgt := 99) hx hb dX4_worthAt_87 (by decide) (fun c32 => ?_) (fun c32 => ?_)
            · replace h := ifF h c32
              refine lv_iload hx hb dX4_worthAt_99 (lv_at hl 1 rfl) ?_
              refine lv_iconst (v := 2) hx hb dX4_worthAt_101 (by decide) ?_
              refine lv_icmp_ne (tgt := 127) hx hb dX4_worthAt_102 (by decide) (fun c33 => ?_) (fun c33 => ?_)
              · replace h := ifF h c33
                refine lv_aload_n hx hb dX4_worthAt_127 rfl (lv_at hl 2 rfl) ?_
                refine m_get X w o (shn hs 0 rfl) (shk hs 0 rfl : S.2.1 o = 4) ci4 1 (by decide) (fvI (shk hs 0 rfl : S.2.1 o = 4) rfl) rfl fl_X4_15 dX4_worthAt_128 ?_
                refine lv_if_ne (tgt := 137) hx hb dX4_worthAt_131 (by decide) (fun c34 => ?_) (fun c34 => ?_)
                · replace h := ifF h c34
                  refine lv_iload hx hb dX4_worthAt_137 (lv_at hl 1 rfl) ?_
                  refine lv_bipush (v := 11) hx hb dX4_worthAt_139 (by decide) ?_
                  refine lv_icmp_ne (tgt := 171) hx hb dX4_worthAt_141 (by decide) (fun c35 => ?_) (fun c35 => ?_)
                  · replace h := ifF h c35
                    refine lv_iload hx hb dX4_worthAt_171 (lv_at hl 1 rfl) ?_
                    refine lv_bipush (v := 12) hx hb dX4_worthAt_173 (by decide) ?_
                    refine lv_icmp_eq (tgt := 185) hx hb dX4_worthAt_175 (by decide) (fun c36 => ?_) (fun c36 => ?_)
                    · replace h := ifT h c36
                      have g := B185 V v5 v6 x28 x30 h
                      rw [hG] at g
                      exact g H locs ls w (lv_sub hl [2, 3, 4, 5, 6, 1, 0] rfl)
                    · replace h := ifF h c36
                      refine lv_iload hx hb dX4_worthAt_178 (lv_at hl 1 rfl) ?_
                      refine lv_bipush (v := 13) hx hb dX4_worthAt_180 (by decide) ?_
                      refine lv_icmp_ne (tgt := 231) hx hb dX4_worthAt_182 (by decide) (fun c42 => ?_) (fun c42 => ?_)
                      · replace h := ifF h c42
                        refine lv_aload_n hx hb dX4_worthAt_231 rfl (lv_at hl 2 rfl) ?_
                        refine lv_iload hx hb dX4_worthAt_232 (lv_at hl 1 rfl) ?_
                        obtain ⟨r43, V45, q44, h⟩ := obi h
                        refine m_ci (m_rV (As := [.int x28]) (rest := []) X w hl mi_X4_combine ml_X4_24 o (shn hs 0 rfl) (shk hs 0 rfl : S.2.1 o = 4) rfl (c_X4_combine l D cy ad A Kc C0 N S V o hs x28 r43 V45 q44) ⟨⟨rfl, rfl, Nat.le_of_ble_eq_true rfl, Nat.le_of_ble_eq_true rfl⟩, Nat.le_of_ble_eq_true rfl, Nat.le_of_ble_eq_true rfl⟩ rfl rfl (Nat.le_of_ble_eq_true rfl) dX4_worthAt_234) w (fun H locs w => ?_)
                        refine lv_if_ne (tgt := 243) hx hb dX4_worthAt_237 (by decide) (fun c46 => ?_) (fun c46 => ?_)
                        · replace h := ifF h c46
                          have g := B243 V45 v5 v6 h
                          rw [hG] at g
                          exact g H locs ls w (lv_sub hl [2, 3, 4, 5, 6] rfl)
                        · replace h := ifT h c46
                          refine lv_ldc (v := (-2000000000)) hx hb hown (hts _ kc_X4_19) dX4_worthAt_240 ?_
                          obtain ⟨rfl, rfl⟩ := reti h
                          exact m_ri X w hr hlocks dX4_worthAt_242
                      · replace h := ifT h c42
                        have g := B185 V v5 v6 x28 x30 h
                        rw [hG] at g
                        exact g H locs ls w (lv_sub hl [2, 3, 4, 5, 6, 1, 0] rfl)
                  · replace h := ifT h c35
                    refine lv_aload_n hx hb dX4_worthAt_144 rfl (lv_at hl 2 rfl) ?_
                    refine m_get X w o (shn hs 0 rfl) (shk hs 0 rfl : S.2.1 o = 4) ci4 0 (by decide) (fvR (shk hs 0 rfl : S.2.1 o = 4) rfl (shq hs 0 0 rfl rfl : S.2.2.2.1 o 0 = (o + 1) + 1)) rfl fl_X4_11 dX4_worthAt_145 ?_
                    refine lv_aload_n hx hb dX4_worthAt_148 rfl (lv_at hl 2 rfl) ?_
                    refine m_get X w o (shn hs 0 rfl) (shk hs 0 rfl : S.2.1 o = 4) ci4 1 (by decide) (fvI (shk hs 0 rfl : S.2.1 o = 4) rfl) rfl fl_X4_15 dX4_worthAt_149 ?_
                    refine lv_iconst (v := 1) hx hb dX4_worthAt_152 (by decide) ?_
                    refine lv_isub hx hb dX4_worthAt_153 ?_
                    refine lv_iconst (v := 1) hx hb dX4_worthAt_154 (by decide) ?_
                    refine lv_aload_n hx hb dX4_worthAt_155 rfl (lv_at hl 2 rfl) ?_
                    refine m_get X w o (shn hs 0 rfl) (shk hs 0 rfl : S.2.1 o = 4) ci4 0 (by decide) (fvR (shk hs 0 rfl : S.2.1 o = 4) rfl (shq hs 0 0 rfl rfl : S.2.2.2.1 o 0 = (o + 1) + 1)) rfl fl_X4_11 dX4_worthAt_156 ?_
                    refine lv_aload_n hx hb dX4_worthAt_159 rfl (lv_at hl 2 rfl) ?_
                    refine m_get X w o (shn hs 0 rfl) (shk hs 0 rfl : S.2.1 o = 4) ci4 1 (by decide) (fvI (shk hs 0 rfl : S.2.1 o = 4) rfl) rfl fl_X4_15 dX4_worthAt_160 ?_
                    refine lv_iconst (v := 1) hx hb dX4_worthAt_163 (by decide) ?_
                    refine lv_isub hx hb dX4_worthAt_164 ?_
                    obtain ⟨g47, h⟩ := cki h
                    refine m_iald X w (o + 1) (shn hs 1 rfl) (shk hs 1 rfl : S.2.1 (o + 1) = 11) (shz hs 1 rfl : S.2.2.1 (o + 1) = 40) g47 dX4_worthAt_165 ?_
                    refine lv_isub hx hb dX4_worthAt_166 ?_
                    obtain ⟨g48, h⟩ := cki h
                    refine m_iast X w (o + 1) (shn hs 1 rfl) (shk hs 1 rfl : S.2.1 (o + 1) = 11) (shz hs 1 rfl : S.2.2.1 (o + 1) = 40) g48 dX4_worthAt_167 (fun V49 H locs eV49 w => ?_)
                    replace h := bdi h _ eV49
                    refine lv_goto (tgt := 243) hx hb dX4_worthAt_168 (by decide) ?_
                    have g := B243 V49 v5 v6 h
                    rw [hG] at g
                    exact g H locs ls w (lv_sub hl [2, 3, 4, 5, 6] rfl)
                · replace h := ifT h c34
                  refine lv_ldc (v := (-2000000000)) hx hb hown (hts _ kc_X4_19) dX4_worthAt_134 ?_
                  obtain ⟨rfl, rfl⟩ := reti h
                  exact m_ri X w hr hlocks dX4_worthAt_136
              · replace h := ifT h c33
                refine lv_aload_n hx hb dX4_worthAt_105 rfl (lv_at hl 2 rfl) ?_
                refine lv_iload hx hb dX4_worthAt_106 (lv_at hl 0 rfl) ?_
                refine lv_aload_n hx hb dX4_worthAt_108 rfl (lv_at hl 4 rfl) ?_
                refine m_alenI (v := (Nat.toInt32 ((S.2.2.1 a3)))) X w a3 hs_a3.1 hs_a3.2 rfl (by first | decide | rfl) dX4_worthAt_109 ?_
                refine lv_icmp_ge (tgt := 120) hx hb dX4_worthAt_110 (by decide) (fun c50 => ?_) (fun c50 => ?_)
                · replace h := ifT h c50
                  refine lv_iconst (v := 0) hx hb dX4_worthAt_120 (by decide) ?_
                  have g := B121 V v5 v6 (0 : Int32) h
                  rw [hG] at g
                  exact g H locs ls w (lv_sub hl [2, 3, 4, 5, 6] rfl)
                · replace h := ifF h c50
                  refine lv_aload_n hx hb dX4_worthAt_113 rfl (lv_at hl 4 rfl) ?_
                  refine lv_iload hx hb dX4_worthAt_114 (lv_at hl 0 rfl) ?_
                  obtain ⟨g54, h⟩ := cki h
                  refine m_iald X w a3 hs_a3.1 hs_a3.2 rfl g54 dX4_worthAt_116 ?_
                  refine lv_goto (tgt := 121) hx hb dX4_worthAt_117 (by decide) ?_
                  have g := B121 V v5 v6 (V.2.1 a3 x30.toNatClampNeg) h
                  rw [hG] at g
                  exact g H locs ls w (lv_sub hl [2, 3, 4, 5, 6] rfl)
            · replace h := ifT h c32
              refine lv_aload_n hx hb dX4_worthAt_90 rfl (lv_at hl 2 rfl) ?_
              refine lv_iload hx hb dX4_worthAt_91 (lv_at hl 0 rfl) ?_
              obtain ⟨V57, q56, h⟩ := obvi h
              refine m_cv (m_rV (As := [.int x30]) (rest := []) X w hl mi_X4_push ml_X4_20 o (shn hs 0 rfl) (shk hs 0 rfl : S.2.1 o = 4) rfl (c_X4_push l D cy ad A Kc C0 N S V o hs x30 V57 q56) ⟨⟨rfl, rfl, Nat.le_of_ble_eq_true rfl, Nat.le_of_ble_eq_true rfl⟩, Nat.le_of_ble_eq_true rfl, Nat.le_of_ble_eq_true rfl⟩ rfl rfl (Nat.le_of_ble_eq_true rfl) dX4_worthAt_93) w (fun H locs w => ?_)
              refine lv_goto (tgt := 243) hx hb dX4_worthAt_96 (by decide) ?_
              have g := B243 V57 v5 v6 h
              rw [hG] at g
              exact g H locs ls w (lv_sub hl [2, 3, 4, 5, 6] rfl)
          · replace h := ifT h c31
            refine lv_aload_n hx hb dX4_worthAt_60 rfl (lv_at hl 2 rfl) ?_
            refine m_get X w o (shn hs 0 rfl) (shk hs 0 rfl : S.2.1 o = 4) ci4 1 (by decide) (fvI (shk hs 0 rfl : S.2.1 o = 4) rfl) rfl fl_X4_15 dX4_worthAt_61 ?_
            refine lv_if_le (tgt := 81) hx hb dX4_worthAt_64 (by decide) (fun c58 => ?_) (fun c58 => ?_)
            · replace h := ifT h c58
              refine lv_ldc (v := (-2000000000)) hx hb hown (hts _ kc_X4_19) dX4_worthAt_81 ?_
              obtain ⟨rfl, rfl⟩ := reti h
              exact m_ri X w hr hlocks dX4_worthAt_83
            · replace h := ifF h c58
              refine lv_aload_n hx hb dX4_worthAt_67 rfl (lv_at hl 2 rfl) ?_
              refine m_get X w o (shn hs 0 rfl) (shk hs 0 rfl : S.2.1 o = 4) ci4 0 (by decide) (fvR (shk hs 0 rfl : S.2.1 o = 4) rfl (shq hs 0 0 rfl rfl : S.2.2.2.1 o 0 = (o + 1) + 1)) rfl fl_X4_11 dX4_worthAt_68 ?_
              refine lv_aload_n hx hb dX4_worthAt_71 rfl (lv_at hl 2 rfl) ?_
              refine m_get X w o (shn hs 0 rfl) (shk hs 0 rfl : S.2.1 o = 4) ci4 1 (by decide) (fvI (shk hs 0 rfl : S.2.1 o = 4) rfl) rfl fl_X4_15 dX4_worthAt_72 ?_
              refine lv_iconst (v := 1) hx hb dX4_worthAt_75 (by decide) ?_
              refine lv_isub hx hb dX4_worthAt_76 ?_
              obtain ⟨g59, h⟩ := cki h
              refine m_iald X w (o + 1) (shn hs 1 rfl) (shk hs 1 rfl : S.2.1 (o + 1) = 11) (shz hs 1 rfl : S.2.2.1 (o + 1) = 40) g59 dX4_worthAt_77 ?_
              refine lv_goto (tgt := 83) hx hb dX4_worthAt_78 (by decide) ?_
              obtain ⟨rfl, rfl⟩ := reti h
              exact m_ri X w hr hlocks dX4_worthAt_83
        · replace h := ifF h c26
          refine lv_goto (tgt := 243) hx hb dX4_worthAt_33 (by decide) ?_
          have g := B243 V v5 v6 h
          rw [hG] at g
          exact g H locs ls w (lv_sub hl [0, 1, 2, 3, 4] rfl)
  rw [f_X4_worthAt] at h
  refine lv_iload_n hx hb dX4_worthAt_0 rfl (lv_at hl 2 rfl) ?_
  refine lv_iconst (v := (-1)) hx hb dX4_worthAt_1 (by decide) ?_
  refine lv_icmp_ne (tgt := 8) hx hb dX4_worthAt_2 (by decide) (fun c23 => ?_) (fun c23 => ?_)
  · replace h := ifF h c23
    refine lv_aload_n hx hb dX4_worthAt_8 rfl (lv_at hl 0 rfl) ?_
    refine lv_iconst (v := 0) hx hb dX4_worthAt_9 (by decide) ?_
    refine m_put X w o (shn hs 0 rfl) (shk hs 0 rfl : S.2.1 o = 4) ci4 1 (by decide) rfl rfl rfl rfl rfl fl_X4_15 dX4_worthAt_10 (fun V24 H locs eV24 w => ?_)
    replace h := bdi h _ eV24
    refine lv_iload_n hx hb dX4_worthAt_13 rfl (lv_at hl 2 rfl) ?_
    refine lv_istore (lv' := [(5, .int a2), (0, .ref (ad o)), (1, .ref (ad a1)), (2, .int a2), (3, .ref (ad a3)), (4, .int a4)]) hx hb dX4_worthAt_14 hl (by decide) rfl (fun ls hl => ?_)
    refine lv_iload_n hx hb dX4_worthAt_16 rfl (lv_at hl 3 rfl) ?_
    refine lv_istore (lv' := [(6, .int a2), (5, .int a2), (0, .ref (ad o)), (1, .ref (ad a1)), (2, .int a2), (3, .ref (ad a3)), (4, .int a4)]) hx hb dX4_worthAt_17 hl (by decide) rfl (fun ls hl => ?_)
    have g := L19 N V24 a2 a2 h
    rw [hG] at g
    exact g H locs ls w (lv_sub hl [2, 3, 5, 1, 0] rfl)
  · replace h := ifT h c23
    refine lv_iload hx hb dX4_worthAt_5 (lv_at hl 4 rfl) ?_
    obtain ⟨rfl, rfl⟩ := reti h
    exact m_ri X w hr hlocks dX4_worthAt_7
def f_X5_openClause_10 (N : Nat) (S : St) (o : Nat) : Nat → Vt → Int32 → Int32 → Int32 → Option Vt
  | 0, _, _, _, _ => none
  | n + 1, V, v1, v2, v3 => if (6 : Int32) ≤ v3 then ck v2 72 (bd (sA V (o + 4) v2.toNatClampNeg v1) (fun V16 => ck (v2 + (1 : Int32)) 72 (bd (sA V16 (o + 4) (v2 + (1 : Int32)).toNatClampNeg (1 : Int32)) (fun V18 => bd (sF V18 o 11 ((V18.1 o 11) + (1 : Int32))) (fun V19 => obv (f_X5_move N S V19 o) (fun V22 => some V22)))))) else ck (v2 + v3) 72 (bd (sA V (o + 4) (v2 + v3).toNatClampNeg (-1 : Int32)) (fun V24 => bd (v3 + (1 : Int32)) (fun x25 => (f_X5_openClause_10 N S o n) V24 v1 v2 x25)))
def f_X5_openClause (N : Nat) (S : St) (V : Vt) (o : Nat) (a1 : Int32) : Option Vt := bd ((6 : Int32) * (V.1 o 11)) (fun x13 => f_X5_openClause_10 N S o N V a1 x13 (0 : Int32))
set_option maxHeartbeats 4000000 in
set_option maxRecDepth 100000 in
theorem c_X5_openClause (l : Launch) (D : va_G) (cy : Nat → ClassId) (ad : Nat → Nat) (A : Nat → Prop) (Kc : State → Prop) (C0 : Cx ad A Kc) (N : Nat) (S : St) (V : Vt) (o : Nat) (hs : shp S o t5) (a1 : Int32) (V' : Vt) (h : f_X5_openClause N S V o a1 = some V') : Met l yX5_openClause (mw yX5_openClause cX5_openClause 4 none) { frames := 1, cells := 0, slots := 0, locals := 21 } (PreM D cy ad Kc S V [.ref (ad o), .int a1]) (QV D cy ad A S V') 0 0 A := by
  refine ct_go C0 (own := RX5) rfl (by decide) rfl ?_
  intro p e s m below meth c ls H locs X hr hlocks hnm hl w
  have hx := X.1.1
  have hb := X.1.2.1
  have hown := X.2.1
  have hts := X.2.2.1
  have hl : lv_has ls 4 [(0, .ref (ad o)), (1, .int a1)] := hl
  obtain ⟨G, hG⟩ : ∃ G : Nat → Vt → List (Nat × Value) → List Value → Prop, G = fun pc V lv st => ∀ (H : Heap) (locs : List Loc) (ls : Array Slot), Wd D cy ad A s.heap S V H locs → lv_has ls 4 lv → W p l e { frames := 1, cells := 0, slots := 0, locals := 21 } s m ([.ref (ad o), .int a1] : List Value).toArray below meth c H locs 0 0 (MQ below (QV D cy ad A S V') ([.ref (ad o), .int a1] : List Value).toArray s 0 0 A) (F0 m pc ls st) := ⟨_, rfl⟩
  have L10 : ∀ (n10 : Nat) (V : Vt) (v1 : Int32) (v2 : Int32) (v3 : Int32), f_X5_openClause_10 N S o n10 V v1 v2 v3 = some V' → G 10 V [(0, .ref (ad o)), (1, .int v1), (2, .int v2), (3, .int v3)] [] := by
    intro n10
    induction n10 with
    | zero => intro V v1 v2 v3 h; rw [f_X5_openClause_10] at h; cases h
    | succ n10 ih10 =>
      intro V v1 v2 v3 h
      rw [hG]
      intro H locs ls w hl
      rw [f_X5_openClause_10] at h
      refine lv_iload_n hx hb dX5_openClause_10 rfl (lv_at hl 3 rfl) ?_
      refine lv_bipush (v := 6) hx hb dX5_openClause_11 (by decide) ?_
      refine lv_icmp_ge (tgt := 31) hx hb dX5_openClause_13 (by decide) (fun c14 => ?_) (fun c14 => ?_)
      · replace h := ifT h c14
        refine lv_aload_n hx hb dX5_openClause_31 rfl (lv_at hl 0 rfl) ?_
        refine m_get X w o (shn hs 0 rfl) (shk hs 0 rfl : S.2.1 o = 5) ci5 3 (by decide) (fvR (shk hs 0 rfl : S.2.1 o = 5) rfl (shq hs 0 3 rfl rfl : S.2.2.2.1 o 3 = (o + 4) + 1)) rfl fl_X5_23 dX5_openClause_32 ?_
        refine lv_iload_n hx hb dX5_openClause_35 rfl (lv_at hl 2 rfl) ?_
        refine lv_iload_n hx hb dX5_openClause_36 rfl (lv_at hl 1 rfl) ?_
        obtain ⟨g15, h⟩ := cki h
        refine m_iast X w (o + 4) (shn hs 4 rfl) (shk hs 4 rfl : S.2.1 (o + 4) = 11) (shz hs 4 rfl : S.2.2.1 (o + 4) = 72) g15 dX5_openClause_37 (fun V16 H locs eV16 w => ?_)
        replace h := bdi h _ eV16
        refine lv_aload_n hx hb dX5_openClause_38 rfl (lv_at hl 0 rfl) ?_
        refine m_get X w o (shn hs 0 rfl) (shk hs 0 rfl : S.2.1 o = 5) ci5 3 (by decide) (fvR (shk hs 0 rfl : S.2.1 o = 5) rfl (shq hs 0 3 rfl rfl : S.2.2.2.1 o 3 = (o + 4) + 1)) rfl fl_X5_23 dX5_openClause_39 ?_
        refine lv_iload_n hx hb dX5_openClause_42 rfl (lv_at hl 2 rfl) ?_
        refine lv_iconst (v := 1) hx hb dX5_openClause_43 (by decide) ?_
        refine lv_iadd hx hb dX5_openClause_44 ?_
        refine lv_iconst (v := 1) hx hb dX5_openClause_45 (by decide) ?_
        obtain ⟨g17, h⟩ := cki h
        refine m_iast X w (o + 4) (shn hs 4 rfl) (shk hs 4 rfl : S.2.1 (o + 4) = 11) (shz hs 4 rfl : S.2.2.1 (o + 4) = 72) g17 dX5_openClause_46 (fun V18 H locs eV18 w => ?_)
        replace h := bdi h _ eV18
        refine lv_aload_n hx hb dX5_openClause_47 rfl (lv_at hl 0 rfl) ?_
        refine lv_dup hx hb dX5_openClause_48 rfl ?_
        refine m_get X w o (shn hs 0 rfl) (shk hs 0 rfl : S.2.1 o = 5) ci5 11 (by decide) (fvI (shk hs 0 rfl : S.2.1 o = 5) rfl) rfl fl_X5_50 dX5_openClause_49 ?_
        refine lv_iconst (v := 1) hx hb dX5_openClause_52 (by decide) ?_
        refine lv_iadd hx hb dX5_openClause_53 ?_
        refine m_put X w o (shn hs 0 rfl) (shk hs 0 rfl : S.2.1 o = 5) ci5 11 (by decide) rfl rfl rfl rfl rfl fl_X5_50 dX5_openClause_54 (fun V19 H locs eV19 w => ?_)
        replace h := bdi h _ eV19
        refine lv_aload_n hx hb dX5_openClause_57 rfl (lv_at hl 0 rfl) ?_
        obtain ⟨V22, q21, h⟩ := obvi h
        refine m_cv (m_rV (As := []) (rest := []) X w hl mi_X5_move ml_X5_53 o (shn hs 0 rfl) (shk hs 0 rfl : S.2.1 o = 5) rfl (c_X5_move l D cy ad A Kc C0 N S V19 o hs V22 q21) ⟨⟨rfl, rfl, Nat.le_of_ble_eq_true rfl, Nat.le_of_ble_eq_true rfl⟩, Nat.le_of_ble_eq_true rfl, Nat.le_of_ble_eq_true rfl⟩ rfl rfl (Nat.le_of_ble_eq_true rfl) dX5_openClause_58) w (fun H locs w => ?_)
        obtain rfl := Option.some.inj h
        exact m_rv X w hr hlocks dX5_openClause_61
      · replace h := ifF h c14
        refine lv_aload_n hx hb dX5_openClause_16 rfl (lv_at hl 0 rfl) ?_
        refine m_get X w o (shn hs 0 rfl) (shk hs 0 rfl : S.2.1 o = 5) ci5 3 (by decide) (fvR (shk hs 0 rfl : S.2.1 o = 5) rfl (shq hs 0 3 rfl rfl : S.2.2.2.1 o 3 = (o + 4) + 1)) rfl fl_X5_23 dX5_openClause_17 ?_
        refine lv_iload_n hx hb dX5_openClause_20 rfl (lv_at hl 2 rfl) ?_
        refine lv_iload_n hx hb dX5_openClause_21 rfl (lv_at hl 3 rfl) ?_
        refine lv_iadd hx hb dX5_openClause_22 ?_
        refine lv_iconst (v := (-1)) hx hb dX5_openClause_23 (by decide) ?_
        obtain ⟨g23, h⟩ := cki h
        refine m_iast X w (o + 4) (shn hs 4 rfl) (shk hs 4 rfl : S.2.1 (o + 4) = 11) (shz hs 4 rfl : S.2.2.1 (o + 4) = 72) g23 dX5_openClause_24 (fun V24 H locs eV24 w => ?_)
        replace h := bdi h _ eV24
        obtain ⟨x25, ex25⟩ : ∃ y : Int32, y = v3 + (1 : Int32) := ⟨_, rfl⟩
        replace h := bdi h _ ex25
        refine lv_iinc (v := x25) (lv' := [(3, .int x25), (0, .ref (ad o)), (1, .int v1), (2, .int v2)]) hx hb dX5_openClause_25 hl (k := 3) rfl (by rw [ex25]; rfl) (by decide) rfl (fun ls hl => ?_)
        refine lv_goto (tgt := 10) hx hb dX5_openClause_28 (by decide) ?_
        have g := ih10 V24 v1 v2 x25 h
        rw [hG] at g
        exact g H locs ls w (lv_sub hl [1, 2, 3, 0] rfl)
  rw [f_X5_openClause] at h
  refine lv_bipush (v := 6) hx hb dX5_openClause_0 (by decide) ?_
  refine lv_aload_n hx hb dX5_openClause_2 rfl (lv_at hl 0 rfl) ?_
  refine m_get X w o (shn hs 0 rfl) (shk hs 0 rfl : S.2.1 o = 5) ci5 11 (by decide) (fvI (shk hs 0 rfl : S.2.1 o = 5) rfl) rfl fl_X5_50 dX5_openClause_3 ?_
  refine lv_imul hx hb dX5_openClause_6 ?_
  refine lv_topi (fun x13 ex13 => ?_)
  replace h := bdi h _ ex13
  refine lv_istore_n (lv' := [(2, .int x13), (0, .ref (ad o)), (1, .int a1)]) hx hb dX5_openClause_7 rfl hl (by decide) rfl (fun ls hl => ?_)
  refine lv_iconst (v := 0) hx hb dX5_openClause_8 (by decide) ?_
  refine lv_istore_n (lv' := [(3, .int (0 : Int32)), (2, .int x13), (0, .ref (ad o)), (1, .int a1)]) hx hb dX5_openClause_9 rfl hl (by decide) rfl (fun ls hl => ?_)
  have g := L10 N V a1 x13 (0 : Int32) h
  rw [hG] at g
  exact g H locs ls w (lv_sub hl [2, 3, 1, 0] rfl)
def f_X5_readWord_12 (N : Nat) (S : St) (o : Nat) (V : Vt) (v1 : Int32) : Option (Int32 × Vt) := ob (f_X5_put N S V o (2 : Int32) v1) (fun r16 V18 => some ((1 : Int32), V18))
def f_X5_readWord_75 (N : Nat) (S : St) (o : Nat) (V : Vt) (v3 : Int32) (s0 : Int32) : Option (Int32 × Vt) := ob (f_X5_put N S V o (2 : Int32) (s0 + v3)) (fun r26 V28 => obv (f_X5_move N S V28 o) (fun V31 => some ((1 : Int32), V31)))
def f_X5_readWord_43 (N : Nat) (S : St) (o : Nat) (V : Vt) (v1 : Int32) (v2 : Int32) (s0 : Int32) : Option (Int32 × Vt) := ob1 (f_X5_numberTo N S V o s0) (fun r22 => if r22 = (-1 : Int32) then ob (f_X5_fails N S V o) (fun r32 V34 => cb r32 (some (r32, V34))) else if v2 = 0 then f_X5_readWord_75 N S o V r22 ((28 : Int32) + ((5 : Int32) * ((v1 - (3 : Int32)) - (1 : Int32)))) else f_X5_readWord_75 N S o V r22 (3 : Int32))
def f_X5_readWord_31 (N : Nat) (S : St) (o : Nat) (V : Vt) (v1 : Int32) (s0 : Int32) : Option (Int32 × Vt) := if s0 = 0 then f_X5_readWord_43 N S o V v1 s0 (4 : Int32) else f_X5_readWord_43 N S o V v1 s0 (24 : Int32)
def f_X5_readWord (N : Nat) (S : St) (V : Vt) (o : Nat) (a1 : Int32) : Option (Int32 × Vt) := if (V.1 o 4) = 0 then if (3 : Int32) ≤ a1 then if a1 = (3 : Int32) then f_X5_readWord_31 N S o V a1 (1 : Int32) else f_X5_readWord_31 N S o V a1 (0 : Int32) else f_X5_readWord_12 N S o V a1 else f_X5_readWord_12 N S o V a1
set_option maxHeartbeats 4000000 in
set_option maxRecDepth 100000 in
theorem c_X5_readWord (l : Launch) (D : va_G) (cy : Nat → ClassId) (ad : Nat → Nat) (A : Nat → Prop) (Kc : State → Prop) (C0 : Cx ad A Kc) (N : Nat) (S : St) (V : Vt) (o : Nat) (hs : shp S o t5) (a1 : Int32) (r : Int32) (V' : Vt) (h : f_X5_readWord N S V o a1 = some (r, V')) : Met l yX5_readWord (mw yX5_readWord cX5_readWord 5 (some .boolean)) { frames := 2, cells := 0, slots := 0, locals := 63 } (PreM D cy ad Kc S V [.ref (ad o), .int a1]) (QI D cy ad A r S V') 0 0 A := by
  refine ct_go C0 (own := RX5) rfl (by decide) rfl ?_
  intro p e s m below meth c ls H locs X hr hlocks hnm hl w
  have hx := X.1.1
  have hb := X.1.2.1
  have hown := X.2.1
  have hts := X.2.2.1
  have hl : lv_has ls 5 [(0, .ref (ad o)), (1, .int a1)] := hl
  obtain ⟨G, hG⟩ : ∃ G : Nat → Vt → List (Nat × Value) → List Value → Prop, G = fun pc V lv st => ∀ (H : Heap) (locs : List Loc) (ls : Array Slot), Wd D cy ad A s.heap S V H locs → lv_has ls 5 lv → W p l e { frames := 2, cells := 0, slots := 0, locals := 63 } s m ([.ref (ad o), .int a1] : List Value).toArray below meth c H locs 0 0 (MQ below (QI D cy ad A r S V') ([.ref (ad o), .int a1] : List Value).toArray s 0 0 A) (F0 m pc ls st) := ⟨_, rfl⟩
  have B12 : ∀ (V : Vt) (v1 : Int32), f_X5_readWord_12 N S o V v1 = some (r, V') → G 12 V [(0, .ref (ad o)), (1, .int v1)] [] := by
    intro V v1 h
    rw [hG]
    intro H locs ls w hl
    rw [f_X5_readWord_12] at h
    refine lv_aload_n hx hb dX5_readWord_12 rfl (lv_at hl 0 rfl) ?_
    refine lv_iconst (v := 2) hx hb dX5_readWord_13 (by decide) ?_
    refine lv_iload_n hx hb dX5_readWord_14 rfl (lv_at hl 1 rfl) ?_
    obtain ⟨r16, V18, q17, h⟩ := obi h
    refine m_ci (m_rV (As := [.int (2 : Int32), .int v1]) (rest := []) X w hl mi_X5_put ml_X5_117 o (shn hs 0 rfl) (shk hs 0 rfl : S.2.1 o = 5) rfl (c_X5_put l D cy ad A Kc C0 N S V o hs (2 : Int32) v1 r16 V18 q17) ⟨⟨rfl, rfl, Nat.le_of_ble_eq_true rfl, Nat.le_of_ble_eq_true rfl⟩, Nat.le_of_ble_eq_true rfl, Nat.le_of_ble_eq_true rfl⟩ rfl rfl (Nat.le_of_ble_eq_true rfl) dX5_readWord_15) w (fun H locs w => ?_)
    refine lv_pop hx hb dX5_readWord_18 rfl ?_
    refine lv_iconst (v := 1) hx hb dX5_readWord_19 (by decide) ?_
    obtain ⟨rfl, rfl⟩ := reti h
    exact m_rz X w hr rfl hlocks dX5_readWord_20
  have B75 : ∀ (V : Vt) (v3 : Int32) (s0 : Int32), f_X5_readWord_75 N S o V v3 s0 = some (r, V') → G 75 V [(0, .ref (ad o)), (3, .int v3)] [.int s0] := by
    intro V v3 s0 h
    rw [hG]
    intro H locs ls w hl
    rw [f_X5_readWord_75] at h
    refine lv_istore (lv' := [(4, .int s0), (0, .ref (ad o)), (3, .int v3)]) hx hb dX5_readWord_75 hl (by decide) rfl (fun ls hl => ?_)
    refine lv_aload_n hx hb dX5_readWord_77 rfl (lv_at hl 1 rfl) ?_
    refine lv_iconst (v := 2) hx hb dX5_readWord_78 (by decide) ?_
    refine lv_iload hx hb dX5_readWord_79 (lv_at hl 0 rfl) ?_
    refine lv_iload_n hx hb dX5_readWord_81 rfl (lv_at hl 2 rfl) ?_
    refine lv_iadd hx hb dX5_readWord_82 ?_
    obtain ⟨r26, V28, q27, h⟩ := obi h
    refine m_ci (m_rV (As := [.int (2 : Int32), .int (s0 + v3)]) (rest := []) X w hl mi_X5_put ml_X5_117 o (shn hs 0 rfl) (shk hs 0 rfl : S.2.1 o = 5) rfl (c_X5_put l D cy ad A Kc C0 N S V o hs (2 : Int32) (s0 + v3) r26 V28 q27) ⟨⟨rfl, rfl, Nat.le_of_ble_eq_true rfl, Nat.le_of_ble_eq_true rfl⟩, Nat.le_of_ble_eq_true rfl, Nat.le_of_ble_eq_true rfl⟩ rfl rfl (Nat.le_of_ble_eq_true rfl) dX5_readWord_83) w (fun H locs w => ?_)
    refine lv_pop hx hb dX5_readWord_86 rfl ?_
    refine lv_aload_n hx hb dX5_readWord_87 rfl (lv_at hl 1 rfl) ?_
    obtain ⟨V31, q30, h⟩ := obvi h
    refine m_cv (m_rV (As := []) (rest := []) X w hl mi_X5_move ml_X5_53 o (shn hs 0 rfl) (shk hs 0 rfl : S.2.1 o = 5) rfl (c_X5_move l D cy ad A Kc C0 N S V28 o hs V31 q30) ⟨⟨rfl, rfl, Nat.le_of_ble_eq_true rfl, Nat.le_of_ble_eq_true rfl⟩, Nat.le_of_ble_eq_true rfl, Nat.le_of_ble_eq_true rfl⟩ rfl rfl (Nat.le_of_ble_eq_true rfl) dX5_readWord_88) w (fun H locs w => ?_)
    refine lv_iconst (v := 1) hx hb dX5_readWord_91 (by decide) ?_
    obtain ⟨rfl, rfl⟩ := reti h
    exact m_rz X w hr rfl hlocks dX5_readWord_92
  have B43 : ∀ (V : Vt) (v1 : Int32) (v2 : Int32) (s0 : Int32), f_X5_readWord_43 N S o V v1 v2 s0 = some (r, V') → G 43 V [(0, .ref (ad o)), (1, .int v1), (2, .int v2)] [.int s0, .ref (ad o)] := by
    intro V v1 v2 s0 h
    rw [hG]
    intro H locs ls w hl
    rw [f_X5_readWord_43] at h
    obtain ⟨r22, q23, h⟩ := ob1i h
    refine m_ci (m_rV (As := [.int s0]) (rest := []) X w hl mi_X5_numberTo ml_X5_123 o (shn hs 0 rfl) (shk hs 0 rfl : S.2.1 o = 5) rfl (c_X5_numberTo l D cy ad A Kc C0 N S V o hs s0 r22 q23) ⟨⟨rfl, rfl, Nat.le_of_ble_eq_true rfl, Nat.le_of_ble_eq_true rfl⟩, Nat.le_of_ble_eq_true rfl, Nat.le_of_ble_eq_true rfl⟩ rfl rfl (Nat.le_of_ble_eq_true rfl) dX5_readWord_43) w (fun H locs w => ?_)
    refine lv_istore_n (lv' := [(3, .int r22), (0, .ref (ad o)), (1, .int v1), (2, .int v2)]) hx hb dX5_readWord_46 rfl hl (by decide) rfl (fun ls hl => ?_)
    refine lv_iload_n hx hb dX5_readWord_47 rfl (lv_at hl 0 rfl) ?_
    refine lv_iconst (v := (-1)) hx hb dX5_readWord_48 (by decide) ?_
    refine lv_icmp_ne (tgt := 57) hx hb dX5_readWord_49 (by decide) (fun c24 => ?_) (fun c24 => ?_)
    · replace h := ifF h c24
      refine lv_iload_n hx hb dX5_readWord_57 rfl (lv_at hl 3 rfl) ?_
      refine lv_if_eq (tgt := 65) hx hb dX5_readWord_58 (by decide) (fun c25 => ?_) (fun c25 => ?_)
      · replace h := ifT h c25
        refine lv_bipush (v := 28) hx hb dX5_readWord_65 (by decide) ?_
        refine lv_iconst (v := 5) hx hb dX5_readWord_67 (by decide) ?_
        refine lv_iload_n hx hb dX5_readWord_68 rfl (lv_at hl 2 rfl) ?_
        refine lv_iconst (v := 3) hx hb dX5_readWord_69 (by decide) ?_
        refine lv_isub hx hb dX5_readWord_70 ?_
        refine lv_iconst (v := 1) hx hb dX5_readWord_71 (by decide) ?_
        refine lv_isub hx hb dX5_readWord_72 ?_
        refine lv_imul hx hb dX5_readWord_73 ?_
        refine lv_iadd hx hb dX5_readWord_74 ?_
        have g := B75 V r22 ((28 : Int32) + ((5 : Int32) * ((v1 - (3 : Int32)) - (1 : Int32)))) h
        rw [hG] at g
        exact g H locs ls w (lv_sub hl [1, 0] rfl)
      · replace h := ifF h c25
        refine lv_iconst (v := 3) hx hb dX5_readWord_61 (by decide) ?_
        refine lv_goto (tgt := 75) hx hb dX5_readWord_62 (by decide) ?_
        have g := B75 V r22 (3 : Int32) h
        rw [hG] at g
        exact g H locs ls w (lv_sub hl [1, 0] rfl)
    · replace h := ifT h c24
      refine lv_aload_n hx hb dX5_readWord_52 rfl (lv_at hl 1 rfl) ?_
      obtain ⟨r32, V34, q33, h⟩ := obi h
      refine m_ci (m_rV (As := []) (rest := []) X w hl mi_X5_fails ml_X5_81 o (shn hs 0 rfl) (shk hs 0 rfl : S.2.1 o = 5) rfl (c_X5_fails l D cy ad A Kc C0 N S V o hs r32 V34 q33) ⟨⟨rfl, rfl, Nat.le_of_ble_eq_true rfl, Nat.le_of_ble_eq_true rfl⟩, Nat.le_of_ble_eq_true rfl, Nat.le_of_ble_eq_true rfl⟩ rfl rfl (Nat.le_of_ble_eq_true rfl) dX5_readWord_53) w (fun H locs w => ?_)
      obtain ⟨g35, h⟩ := cbi h
      obtain ⟨rfl, rfl⟩ := reti h
      exact m_rz X w hr (nb01 g35) hlocks dX5_readWord_56
  have B31 : ∀ (V : Vt) (v1 : Int32) (s0 : Int32), f_X5_readWord_31 N S o V v1 s0 = some (r, V') → G 31 V [(0, .ref (ad o)), (1, .int v1)] [.int s0] := by
    intro V v1 s0 h
    rw [hG]
    intro H locs ls w hl
    rw [f_X5_readWord_31] at h
    refine lv_istore_n (lv' := [(2, .int s0), (0, .ref (ad o)), (1, .int v1)]) hx hb dX5_readWord_31 rfl hl (by decide) rfl (fun ls hl => ?_)
    refine lv_aload_n hx hb dX5_readWord_32 rfl (lv_at hl 1 rfl) ?_
    refine lv_iload_n hx hb dX5_readWord_33 rfl (lv_at hl 0 rfl) ?_
    refine lv_if_eq (tgt := 42) hx hb dX5_readWord_34 (by decide) (fun c21 => ?_) (fun c21 => ?_)
    · replace h := ifT h c21
      refine lv_iconst (v := 4) hx hb dX5_readWord_42 (by decide) ?_
      have g := B43 V v1 s0 (4 : Int32) h
      rw [hG] at g
      exact g H locs ls w (lv_sub hl [1, 2, 0] rfl)
    · replace h := ifF h c21
      refine lv_bipush (v := 24) hx hb dX5_readWord_37 (by decide) ?_
      refine lv_goto (tgt := 43) hx hb dX5_readWord_39 (by decide) ?_
      have g := B43 V v1 s0 (24 : Int32) h
      rw [hG] at g
      exact g H locs ls w (lv_sub hl [1, 2, 0] rfl)
  rw [f_X5_readWord] at h
  refine lv_aload_n hx hb dX5_readWord_0 rfl (lv_at hl 0 rfl) ?_
  refine m_get X w o (shn hs 0 rfl) (shk hs 0 rfl : S.2.1 o = 5) ci5 4 (by decide) (fvI (shk hs 0 rfl : S.2.1 o = 5) rfl) rfl fl_X5_34 dX5_readWord_1 ?_
  refine lv_if_ne (tgt := 12) hx hb dX5_readWord_4 (by decide) (fun c15 => ?_) (fun c15 => ?_)
  · replace h := ifF h c15
    have g := B12 V a1 h
    rw [hG] at g
    exact g H locs ls w (lv_sub hl [0, 1] rfl)
  · replace h := ifT h c15
    refine lv_iload_n hx hb dX5_readWord_7 rfl (lv_at hl 1 rfl) ?_
    refine lv_iconst (v := 3) hx hb dX5_readWord_8 (by decide) ?_
    refine lv_icmp_ge (tgt := 21) hx hb dX5_readWord_9 (by decide) (fun c19 => ?_) (fun c19 => ?_)
    · replace h := ifT h c19
      refine lv_iload_n hx hb dX5_readWord_21 rfl (lv_at hl 1 rfl) ?_
      refine lv_iconst (v := 3) hx hb dX5_readWord_22 (by decide) ?_
      refine lv_icmp_ne (tgt := 30) hx hb dX5_readWord_23 (by decide) (fun c20 => ?_) (fun c20 => ?_)
      · replace h := ifF h c20
        refine lv_iconst (v := 0) hx hb dX5_readWord_30 (by decide) ?_
        have g := B31 V a1 (0 : Int32) h
        rw [hG] at g
        exact g H locs ls w (lv_sub hl [0, 1] rfl)
      · replace h := ifT h c20
        refine lv_iconst (v := 1) hx hb dX5_readWord_26 (by decide) ?_
        refine lv_goto (tgt := 31) hx hb dX5_readWord_27 (by decide) ?_
        have g := B31 V a1 (1 : Int32) h
        rw [hG] at g
        exact g H locs ls w (lv_sub hl [0, 1] rfl)
    · replace h := ifF h c19
      have g := B12 V a1 h
      rw [hG] at g
      exact g H locs ls w (lv_sub hl [0, 1] rfl)
def f_X6_fillWorths_97 (N : Nat) (S : St) (o : Nat) (a1 : Nat) (V : Vt) (s0 : Int32) (s1 : Int32) : Option Vt := ck s1 10 (bd (sA V (o + 3) s1.toNatClampNeg s0) (fun V54 => ck (0 : Int32) 3 (ck (8 : Int32) 10 (bd (sA V54 (o + 3) (8 : Int32).toNatClampNeg (V54.2.1 (a1 + 6) (0 : Int32).toNatClampNeg)) (fun V57 => ck (2 : Int32) 3 (ck (9 : Int32) 10 (bd (sA V57 (o + 3) (9 : Int32).toNatClampNeg (V57.2.1 (a1 + 6) (2 : Int32).toNatClampNeg)) (fun V60 => some V60))))))))
def f_X6_fillWorths (N : Nat) (S : St) (V : Vt) (o : Nat) (a1 : Nat) (a2 : Int32) (a3 : Int32) : Option Vt := ck (0 : Int32) 10 (bd (sA V (o + 3) (0 : Int32).toNatClampNeg a2) (fun V32 => ck (1 : Int32) 10 (bd (sA V32 (o + 3) (1 : Int32).toNatClampNeg (a2 / (5 : Int32))) (fun V34 => ck (2 : Int32) 10 (bd (sA V34 (o + 3) (2 : Int32).toNatClampNeg (a2 - a2 / (5 : Int32) * (5 : Int32))) (fun V36 => ck a2 25 (ck (3 : Int32) 10 (bd (sA V36 (o + 3) (3 : Int32).toNatClampNeg (V36.2.1 (a1 + 1) a2.toNatClampNeg)) (fun V39 => ob1 (f_X0_gap N S V39 a1 (0 : Int32) (a2 / (5 : Int32))) (fun r40 => ck (4 : Int32) 10 (bd (sA V39 (o + 3) (4 : Int32).toNatClampNeg r40) (fun V43 => ob1 (f_X0_gap N S V43 a1 (1 : Int32) (a2 - a2 / (5 : Int32) * (5 : Int32))) (fun r44 => ck (5 : Int32) 10 (bd (sA V43 (o + 3) (5 : Int32).toNatClampNeg r44) (fun V47 => ck (6 : Int32) 10 (bd (sA V47 (o + 3) (6 : Int32).toNatClampNeg a3) (fun V49 => ob1 (f_X0_hasClerk N S V49 a1 a3) (fun r50 => if r50 = 0 then f_X6_fillWorths_97 N S o a1 V49 (-1 : Int32) (7 : Int32) else ck a3 5 (f_X6_fillWorths_97 N S o a1 V49 (V49.2.1 (a1 + 4) a3.toNatClampNeg) (7 : Int32))))))))))))))))))))
set_option maxHeartbeats 4000000 in
set_option maxRecDepth 100000 in
theorem c_X6_fillWorths (l : Launch) (D : va_G) (cy : Nat → ClassId) (ad : Nat → Nat) (A : Nat → Prop) (Kc : State → Prop) (C0 : Cx ad A Kc) (N : Nat) (S : St) (V : Vt) (o : Nat) (hs : shp S o t6) (a1 : Nat) (hs_a1 : shp S a1 t0) (a2 : Int32) (a3 : Int32) (V' : Vt) (h : f_X6_fillWorths N S V o a1 a2 a3 = some V') : Met l yX6_fillWorths (mw yX6_fillWorths cX6_fillWorths 4 none) { frames := 1, cells := 0, slots := 0, locals := 26 } (PreM D cy ad Kc S V [.ref (ad o), .ref (ad a1), .int a2, .int a3]) (QV D cy ad A S V') 0 0 A := by
  refine ct_go C0 (own := RX6) rfl (by decide) rfl ?_
  intro p e s m below meth c ls H locs X hr hlocks hnm hl w
  have hx := X.1.1
  have hb := X.1.2.1
  have hown := X.2.1
  have hts := X.2.2.1
  have hl : lv_has ls 4 [(0, .ref (ad o)), (1, .ref (ad a1)), (2, .int a2), (3, .int a3)] := hl
  obtain ⟨G, hG⟩ : ∃ G : Nat → Vt → List (Nat × Value) → List Value → Prop, G = fun pc V lv st => ∀ (H : Heap) (locs : List Loc) (ls : Array Slot), Wd D cy ad A s.heap S V H locs → lv_has ls 4 lv → W p l e { frames := 1, cells := 0, slots := 0, locals := 26 } s m ([.ref (ad o), .ref (ad a1), .int a2, .int a3] : List Value).toArray below meth c H locs 0 0 (MQ below (QV D cy ad A S V') ([.ref (ad o), .ref (ad a1), .int a2, .int a3] : List Value).toArray s 0 0 A) (F0 m pc ls st) := ⟨_, rfl⟩
  have B97 : ∀ (V : Vt) (s0 : Int32) (s1 : Int32), f_X6_fillWorths_97 N S o a1 V s0 s1 = some V' → G 97 V [(0, .ref (ad o)), (1, .ref (ad a1))] [.int s0, .int s1, .ref (ad (o + 3))] := by
    intro V s0 s1 h
    rw [hG]
    intro H locs ls w hl
    rw [f_X6_fillWorths_97] at h
    obtain ⟨g53, h⟩ := cki h
    refine m_iast X w (o + 3) (shn hs 3 rfl) (shk hs 3 rfl : S.2.1 (o + 3) = 11) (shz hs 3 rfl : S.2.2.1 (o + 3) = 10) g53 dX6_fillWorths_97 (fun V54 H locs eV54 w => ?_)
    replace h := bdi h _ eV54
    refine lv_aload_n hx hb dX6_fillWorths_98 rfl (lv_at hl 0 rfl) ?_
    refine m_get X w o (shn hs 0 rfl) (shk hs 0 rfl : S.2.1 o = 6) ci6 1 (by decide) (fvR (shk hs 0 rfl : S.2.1 o = 6) rfl (shq hs 0 1 rfl rfl : S.2.2.2.1 o 1 = (o + 3) + 1)) rfl fl_X6_18 dX6_fillWorths_99 ?_
    refine lv_bipush (v := 8) hx hb dX6_fillWorths_102 (by decide) ?_
    refine lv_aload_n hx hb dX6_fillWorths_104 rfl (lv_at hl 1 rfl) ?_
    refine m_getN X w a1 (shn hs_a1 0 rfl) (shk hs_a1 0 rfl : S.2.1 a1 = 0) ci0 5 (by decide) (fvR (shk hs_a1 0 rfl : S.2.1 a1 = 0) rfl (shq hs_a1 0 5 rfl rfl : S.2.2.2.1 a1 5 = (a1 + 6) + 1)) rfl nf_X6_66 dX6_fillWorths_105 ?_
    refine lv_iconst (v := 0) hx hb dX6_fillWorths_108 (by decide) ?_
    obtain ⟨g55, h⟩ := cki h
    refine m_iald X w (a1 + 6) (shn hs_a1 6 rfl) (shk hs_a1 6 rfl : S.2.1 (a1 + 6) = 11) (shz hs_a1 6 rfl : S.2.2.1 (a1 + 6) = 3) g55 dX6_fillWorths_109 ?_
    obtain ⟨g56, h⟩ := cki h
    refine m_iast X w (o + 3) (shn hs 3 rfl) (shk hs 3 rfl : S.2.1 (o + 3) = 11) (shz hs 3 rfl : S.2.2.1 (o + 3) = 10) g56 dX6_fillWorths_110 (fun V57 H locs eV57 w => ?_)
    replace h := bdi h _ eV57
    refine lv_aload_n hx hb dX6_fillWorths_111 rfl (lv_at hl 0 rfl) ?_
    refine m_get X w o (shn hs 0 rfl) (shk hs 0 rfl : S.2.1 o = 6) ci6 1 (by decide) (fvR (shk hs 0 rfl : S.2.1 o = 6) rfl (shq hs 0 1 rfl rfl : S.2.2.2.1 o 1 = (o + 3) + 1)) rfl fl_X6_18 dX6_fillWorths_112 ?_
    refine lv_bipush (v := 9) hx hb dX6_fillWorths_115 (by decide) ?_
    refine lv_aload_n hx hb dX6_fillWorths_117 rfl (lv_at hl 1 rfl) ?_
    refine m_getN X w a1 (shn hs_a1 0 rfl) (shk hs_a1 0 rfl : S.2.1 a1 = 0) ci0 5 (by decide) (fvR (shk hs_a1 0 rfl : S.2.1 a1 = 0) rfl (shq hs_a1 0 5 rfl rfl : S.2.2.2.1 a1 5 = (a1 + 6) + 1)) rfl nf_X6_66 dX6_fillWorths_118 ?_
    refine lv_iconst (v := 2) hx hb dX6_fillWorths_121 (by decide) ?_
    obtain ⟨g58, h⟩ := cki h
    refine m_iald X w (a1 + 6) (shn hs_a1 6 rfl) (shk hs_a1 6 rfl : S.2.1 (a1 + 6) = 11) (shz hs_a1 6 rfl : S.2.2.1 (a1 + 6) = 3) g58 dX6_fillWorths_122 ?_
    obtain ⟨g59, h⟩ := cki h
    refine m_iast X w (o + 3) (shn hs 3 rfl) (shk hs 3 rfl : S.2.1 (o + 3) = 11) (shz hs 3 rfl : S.2.2.1 (o + 3) = 10) g59 dX6_fillWorths_123 (fun V60 H locs eV60 w => ?_)
    replace h := bdi h _ eV60
    obtain rfl := Option.some.inj h
    exact m_rv X w hr hlocks dX6_fillWorths_124
  rw [f_X6_fillWorths] at h
  refine lv_aload_n hx hb dX6_fillWorths_0 rfl (lv_at hl 0 rfl) ?_
  refine m_get X w o (shn hs 0 rfl) (shk hs 0 rfl : S.2.1 o = 6) ci6 1 (by decide) (fvR (shk hs 0 rfl : S.2.1 o = 6) rfl (shq hs 0 1 rfl rfl : S.2.2.2.1 o 1 = (o + 3) + 1)) rfl fl_X6_18 dX6_fillWorths_1 ?_
  refine lv_iconst (v := 0) hx hb dX6_fillWorths_4 (by decide) ?_
  refine lv_iload_n hx hb dX6_fillWorths_5 rfl (lv_at hl 2 rfl) ?_
  obtain ⟨g31, h⟩ := cki h
  refine m_iast X w (o + 3) (shn hs 3 rfl) (shk hs 3 rfl : S.2.1 (o + 3) = 11) (shz hs 3 rfl : S.2.2.1 (o + 3) = 10) g31 dX6_fillWorths_6 (fun V32 H locs eV32 w => ?_)
  replace h := bdi h _ eV32
  refine lv_aload_n hx hb dX6_fillWorths_7 rfl (lv_at hl 0 rfl) ?_
  refine m_get X w o (shn hs 0 rfl) (shk hs 0 rfl : S.2.1 o = 6) ci6 1 (by decide) (fvR (shk hs 0 rfl : S.2.1 o = 6) rfl (shq hs 0 1 rfl rfl : S.2.2.2.1 o 1 = (o + 3) + 1)) rfl fl_X6_18 dX6_fillWorths_8 ?_
  refine lv_iconst (v := 1) hx hb dX6_fillWorths_11 (by decide) ?_
  refine lv_iload_n hx hb dX6_fillWorths_12 rfl (lv_at hl 2 rfl) ?_
  refine lv_iconst (v := 5) hx hb dX6_fillWorths_13 (by decide) ?_
  refine lv_idiv hx hb dX6_fillWorths_14 (by decide) ?_
  obtain ⟨g33, h⟩ := cki h
  refine m_iast X w (o + 3) (shn hs 3 rfl) (shk hs 3 rfl : S.2.1 (o + 3) = 11) (shz hs 3 rfl : S.2.2.1 (o + 3) = 10) g33 dX6_fillWorths_15 (fun V34 H locs eV34 w => ?_)
  replace h := bdi h _ eV34
  refine lv_aload_n hx hb dX6_fillWorths_16 rfl (lv_at hl 0 rfl) ?_
  refine m_get X w o (shn hs 0 rfl) (shk hs 0 rfl : S.2.1 o = 6) ci6 1 (by decide) (fvR (shk hs 0 rfl : S.2.1 o = 6) rfl (shq hs 0 1 rfl rfl : S.2.2.2.1 o 1 = (o + 3) + 1)) rfl fl_X6_18 dX6_fillWorths_17 ?_
  refine lv_iconst (v := 2) hx hb dX6_fillWorths_20 (by decide) ?_
  refine lv_iload_n hx hb dX6_fillWorths_21 rfl (lv_at hl 2 rfl) ?_
  refine lv_iconst (v := 5) hx hb dX6_fillWorths_22 (by decide) ?_
  refine lv_irem hx hb dX6_fillWorths_23 (by decide) ?_
  obtain ⟨g35, h⟩ := cki h
  refine m_iast X w (o + 3) (shn hs 3 rfl) (shk hs 3 rfl : S.2.1 (o + 3) = 11) (shz hs 3 rfl : S.2.2.1 (o + 3) = 10) g35 dX6_fillWorths_24 (fun V36 H locs eV36 w => ?_)
  replace h := bdi h _ eV36
  refine lv_aload_n hx hb dX6_fillWorths_25 rfl (lv_at hl 0 rfl) ?_
  refine m_get X w o (shn hs 0 rfl) (shk hs 0 rfl : S.2.1 o = 6) ci6 1 (by decide) (fvR (shk hs 0 rfl : S.2.1 o = 6) rfl (shq hs 0 1 rfl rfl : S.2.2.2.1 o 1 = (o + 3) + 1)) rfl fl_X6_18 dX6_fillWorths_26 ?_
  refine lv_iconst (v := 3) hx hb dX6_fillWorths_29 (by decide) ?_
  refine lv_aload_n hx hb dX6_fillWorths_30 rfl (lv_at hl 1 rfl) ?_
  refine m_getN X w a1 (shn hs_a1 0 rfl) (shk hs_a1 0 rfl : S.2.1 a1 = 0) ci0 0 (by decide) (fvR (shk hs_a1 0 rfl : S.2.1 a1 = 0) rfl (shq hs_a1 0 0 rfl rfl : S.2.2.2.1 a1 0 = (a1 + 1) + 1)) rfl nf_X6_51 dX6_fillWorths_31 ?_
  refine lv_iload_n hx hb dX6_fillWorths_34 rfl (lv_at hl 2 rfl) ?_
  obtain ⟨g37, h⟩ := cki h
  refine m_iald X w (a1 + 1) (shn hs_a1 1 rfl) (shk hs_a1 1 rfl : S.2.1 (a1 + 1) = 11) (shz hs_a1 1 rfl : S.2.2.1 (a1 + 1) = 25) g37 dX6_fillWorths_35 ?_
  obtain ⟨g38, h⟩ := cki h
  refine m_iast X w (o + 3) (shn hs 3 rfl) (shk hs 3 rfl : S.2.1 (o + 3) = 11) (shz hs 3 rfl : S.2.2.1 (o + 3) = 10) g38 dX6_fillWorths_36 (fun V39 H locs eV39 w => ?_)
  replace h := bdi h _ eV39
  refine lv_aload_n hx hb dX6_fillWorths_37 rfl (lv_at hl 0 rfl) ?_
  refine m_get X w o (shn hs 0 rfl) (shk hs 0 rfl : S.2.1 o = 6) ci6 1 (by decide) (fvR (shk hs 0 rfl : S.2.1 o = 6) rfl (shq hs 0 1 rfl rfl : S.2.2.2.1 o 1 = (o + 3) + 1)) rfl fl_X6_18 dX6_fillWorths_38 ?_
  refine lv_iconst (v := 4) hx hb dX6_fillWorths_41 (by decide) ?_
  refine lv_aload_n hx hb dX6_fillWorths_42 rfl (lv_at hl 1 rfl) ?_
  refine lv_iconst (v := 0) hx hb dX6_fillWorths_43 (by decide) ?_
  refine lv_iload_n hx hb dX6_fillWorths_44 rfl (lv_at hl 2 rfl) ?_
  refine lv_iconst (v := 5) hx hb dX6_fillWorths_45 (by decide) ?_
  refine lv_idiv hx hb dX6_fillWorths_46 (by decide) ?_
  obtain ⟨r40, q41, h⟩ := ob1i h
  refine m_ci (m_rV (As := [.int (0 : Int32), .int (a2 / (5 : Int32))]) (rest := [.int (4 : Int32), .ref (ad (o + 3))]) X w hl mi_X0_gap ml_X6_56 a1 (shn hs_a1 0 rfl) (shk hs_a1 0 rfl : S.2.1 a1 = 0) rfl (c_X0_gap l D cy ad A Kc C0 N S V39 a1 hs_a1 (0 : Int32) (a2 / (5 : Int32)) r40 q41) ⟨⟨rfl, rfl, Nat.le_of_ble_eq_true rfl, Nat.le_of_ble_eq_true rfl⟩, Nat.le_of_ble_eq_true rfl, Nat.le_of_ble_eq_true rfl⟩ rfl rfl (Nat.le_of_ble_eq_true rfl) dX6_fillWorths_47) w (fun H locs w => ?_)
  obtain ⟨g42, h⟩ := cki h
  refine m_iast X w (o + 3) (shn hs 3 rfl) (shk hs 3 rfl : S.2.1 (o + 3) = 11) (shz hs 3 rfl : S.2.2.1 (o + 3) = 10) g42 dX6_fillWorths_50 (fun V43 H locs eV43 w => ?_)
  replace h := bdi h _ eV43
  refine lv_aload_n hx hb dX6_fillWorths_51 rfl (lv_at hl 0 rfl) ?_
  refine m_get X w o (shn hs 0 rfl) (shk hs 0 rfl : S.2.1 o = 6) ci6 1 (by decide) (fvR (shk hs 0 rfl : S.2.1 o = 6) rfl (shq hs 0 1 rfl rfl : S.2.2.2.1 o 1 = (o + 3) + 1)) rfl fl_X6_18 dX6_fillWorths_52 ?_
  refine lv_iconst (v := 5) hx hb dX6_fillWorths_55 (by decide) ?_
  refine lv_aload_n hx hb dX6_fillWorths_56 rfl (lv_at hl 1 rfl) ?_
  refine lv_iconst (v := 1) hx hb dX6_fillWorths_57 (by decide) ?_
  refine lv_iload_n hx hb dX6_fillWorths_58 rfl (lv_at hl 2 rfl) ?_
  refine lv_iconst (v := 5) hx hb dX6_fillWorths_59 (by decide) ?_
  refine lv_irem hx hb dX6_fillWorths_60 (by decide) ?_
  obtain ⟨r44, q45, h⟩ := ob1i h
  refine m_ci (m_rV (As := [.int (1 : Int32), .int (a2 - a2 / (5 : Int32) * (5 : Int32))]) (rest := [.int (5 : Int32), .ref (ad (o + 3))]) X w hl mi_X0_gap ml_X6_56 a1 (shn hs_a1 0 rfl) (shk hs_a1 0 rfl : S.2.1 a1 = 0) rfl (c_X0_gap l D cy ad A Kc C0 N S V43 a1 hs_a1 (1 : Int32) (a2 - a2 / (5 : Int32) * (5 : Int32)) r44 q45) ⟨⟨rfl, rfl, Nat.le_of_ble_eq_true rfl, Nat.le_of_ble_eq_true rfl⟩, Nat.le_of_ble_eq_true rfl, Nat.le_of_ble_eq_true rfl⟩ rfl rfl (Nat.le_of_ble_eq_true rfl) dX6_fillWorths_61) w (fun H locs w => ?_)
  obtain ⟨g46, h⟩ := cki h
  refine m_iast X w (o + 3) (shn hs 3 rfl) (shk hs 3 rfl : S.2.1 (o + 3) = 11) (shz hs 3 rfl : S.2.2.1 (o + 3) = 10) g46 dX6_fillWorths_64 (fun V47 H locs eV47 w => ?_)
  replace h := bdi h _ eV47
  refine lv_aload_n hx hb dX6_fillWorths_65 rfl (lv_at hl 0 rfl) ?_
  refine m_get X w o (shn hs 0 rfl) (shk hs 0 rfl : S.2.1 o = 6) ci6 1 (by decide) (fvR (shk hs 0 rfl : S.2.1 o = 6) rfl (shq hs 0 1 rfl rfl : S.2.2.2.1 o 1 = (o + 3) + 1)) rfl fl_X6_18 dX6_fillWorths_66 ?_
  refine lv_bipush (v := 6) hx hb dX6_fillWorths_69 (by decide) ?_
  refine lv_iload_n hx hb dX6_fillWorths_71 rfl (lv_at hl 3 rfl) ?_
  obtain ⟨g48, h⟩ := cki h
  refine m_iast X w (o + 3) (shn hs 3 rfl) (shk hs 3 rfl : S.2.1 (o + 3) = 11) (shz hs 3 rfl : S.2.2.1 (o + 3) = 10) g48 dX6_fillWorths_72 (fun V49 H locs eV49 w => ?_)
  replace h := bdi h _ eV49
  refine lv_aload_n hx hb dX6_fillWorths_73 rfl (lv_at hl 0 rfl) ?_
  refine m_get X w o (shn hs 0 rfl) (shk hs 0 rfl : S.2.1 o = 6) ci6 1 (by decide) (fvR (shk hs 0 rfl : S.2.1 o = 6) rfl (shq hs 0 1 rfl rfl : S.2.2.2.1 o 1 = (o + 3) + 1)) rfl fl_X6_18 dX6_fillWorths_74 ?_
  refine lv_bipush (v := 7) hx hb dX6_fillWorths_77 (by decide) ?_
  refine lv_aload_n hx hb dX6_fillWorths_79 rfl (lv_at hl 1 rfl) ?_
  refine lv_iload_n hx hb dX6_fillWorths_80 rfl (lv_at hl 3 rfl) ?_
  obtain ⟨r50, q51, h⟩ := ob1i h
  refine m_ci (m_rV (As := [.int a3]) (rest := [.int (7 : Int32), .ref (ad (o + 3))]) X w hl mi_X0_hasClerk ml_X6_59 a1 (shn hs_a1 0 rfl) (shk hs_a1 0 rfl : S.2.1 a1 = 0) rfl (c_X0_hasClerk l D cy ad A Kc C0 N S V49 a1 hs_a1 a3 r50 q51) ⟨⟨rfl, rfl, Nat.le_of_ble_eq_true rfl, Nat.le_of_ble_eq_true rfl⟩, Nat.le_of_ble_eq_true rfl, Nat.le_of_ble_eq_true rfl⟩ rfl rfl (Nat.le_of_ble_eq_true rfl) dX6_fillWorths_81) w (fun H locs w => ?_)
  refine lv_if_eq (tgt := 96) hx hb dX6_fillWorths_84 (by decide) (fun c52 => ?_) (fun c52 => ?_)
  · replace h := ifT h c52
    refine lv_iconst (v := (-1)) hx hb dX6_fillWorths_96 (by decide) ?_
    have g := B97 V49 (-1 : Int32) (7 : Int32) h
    rw [hG] at g
    exact g H locs ls w (lv_sub hl [0, 1] rfl)
  · replace h := ifF h c52
    refine lv_aload_n hx hb dX6_fillWorths_87 rfl (lv_at hl 1 rfl) ?_
    refine m_getN X w a1 (shn hs_a1 0 rfl) (shk hs_a1 0 rfl : S.2.1 a1 = 0) ci0 3 (by decide) (fvR (shk hs_a1 0 rfl : S.2.1 a1 = 0) rfl (shq hs_a1 0 3 rfl rfl : S.2.2.2.1 a1 3 = (a1 + 4) + 1)) rfl nf_X6_63 dX6_fillWorths_88 ?_
    refine lv_iload_n hx hb dX6_fillWorths_91 rfl (lv_at hl 3 rfl) ?_
    obtain ⟨g61, h⟩ := cki h
    refine m_iald X w (a1 + 4) (shn hs_a1 4 rfl) (shk hs_a1 4 rfl : S.2.1 (a1 + 4) = 11) (shz hs_a1 4 rfl : S.2.2.1 (a1 + 4) = 5) g61 dX6_fillWorths_92 ?_
    refine lv_goto (tgt := 97) hx hb dX6_fillWorths_93 (by decide) ?_
    have g := B97 V49 (V49.2.1 (a1 + 4) a3.toNatClampNeg) (7 : Int32) h
    rw [hG] at g
    exact g H locs ls w (lv_sub hl [0, 1] rfl)
def f_X8_enter_18 (N : Nat) (S : St) (o : Nat) (V : Vt) : Option (Int32 × Vt) := ob (f_X8_refused N S V o (-1 : Int32)) (fun r21 V23 => some (r21, V23))
def f_X8_enter (N : Nat) (S : St) (V : Vt) (o : Nat) (a1 : Int32) (a2 : Int32) : Option (Int32 × Vt) := ob1 (f_X8_isCell N a1) (fun r18 => if r18 = 0 then f_X8_enter_18 N S o V  else ob1 (f_X8_isWithin N a2 (0 : Int32) (999 : Int32)) (fun r24 => if r24 = 0 then f_X8_enter_18 N S o V  else ck a1 25 (bd (V.2.1 (o + 2) a1.toNatClampNeg) (fun x28 => ck a1 25 (bd (sA V (o + 2) a1.toNatClampNeg a2) (fun V30 => obv (f_X1_clear N S V30 (o + 32)) (fun V33 => ob (f_X8_granted N S V33 o x28) (fun r34 V36 => some (r34, V36)))))))))
set_option maxHeartbeats 4000000 in
set_option maxRecDepth 100000 in
theorem c_X8_enter (l : Launch) (D : va_G) (cy : Nat → ClassId) (ad : Nat → Nat) (A : Nat → Prop) (Kc : State → Prop) (C0 : Cx ad A Kc) (N : Nat) (S : St) (V : Vt) (o : Nat) (hs : shp S o t8) (a1 : Int32) (a2 : Int32) (r : Int32) (V' : Vt) (h : f_X8_enter N S V o a1 a2 = some (r, V')) : Met l yX8_enter (mw yX8_enter cX8_enter 4 (some .int)) { frames := 1, cells := 0, slots := 0, locals := 22 } (PreM D cy ad Kc S V [.ref (ad o), .int a1, .int a2]) (QI D cy ad A r S V') 0 0 A := by
  refine ct_go C0 (own := RX8) rfl (by decide) rfl ?_
  intro p e s m below meth c ls H locs X hr hlocks hnm hl w
  have hx := X.1.1
  have hb := X.1.2.1
  have hown := X.2.1
  have hts := X.2.2.1
  have hl : lv_has ls 4 [(0, .ref (ad o)), (1, .int a1), (2, .int a2)] := hl
  obtain ⟨G, hG⟩ : ∃ G : Nat → Vt → List (Nat × Value) → List Value → Prop, G = fun pc V lv st => ∀ (H : Heap) (locs : List Loc) (ls : Array Slot), Wd D cy ad A s.heap S V H locs → lv_has ls 4 lv → W p l e { frames := 1, cells := 0, slots := 0, locals := 22 } s m ([.ref (ad o), .int a1, .int a2] : List Value).toArray below meth c H locs 0 0 (MQ below (QI D cy ad A r S V') ([.ref (ad o), .int a1, .int a2] : List Value).toArray s 0 0 A) (F0 m pc ls st) := ⟨_, rfl⟩
  have B18 : ∀ (V : Vt), f_X8_enter_18 N S o V  = some (r, V') → G 18 V [(0, .ref (ad o))] [] := by
    intro V  h
    rw [hG]
    intro H locs ls w hl
    rw [f_X8_enter_18] at h
    refine lv_aload_n hx hb dX8_enter_18 rfl (lv_at hl 0 rfl) ?_
    refine lv_iconst (v := (-1)) hx hb dX8_enter_19 (by decide) ?_
    obtain ⟨r21, V23, q22, h⟩ := obi h
    refine m_ci (m_rV (As := [.int (-1 : Int32)]) (rest := []) X w hl mi_X8_refused ml_X8_97 o (shn hs 0 rfl) (shk hs 0 rfl : S.2.1 o = 8) rfl (c_X8_refused l D cy ad A Kc C0 N S V o hs (-1 : Int32) r21 V23 q22) ⟨⟨rfl, rfl, Nat.le_of_ble_eq_true rfl, Nat.le_of_ble_eq_true rfl⟩, Nat.le_of_ble_eq_true rfl, Nat.le_of_ble_eq_true rfl⟩ rfl rfl (Nat.le_of_ble_eq_true rfl) dX8_enter_20) w (fun H locs w => ?_)
    obtain ⟨rfl, rfl⟩ := reti h
    exact m_ri X w hr hlocks dX8_enter_23
  rw [f_X8_enter] at h
  refine lv_iload_n hx hb dX8_enter_0 rfl (lv_at hl 1 rfl) ?_
  obtain ⟨r18, q19, h⟩ := ob1i h
  refine m_ci (m_rS (As := [.int a1]) (rest := []) X w hl mi_X8_isCell ml_X8_89 (c_X8_isCell l D cy ad A Kc C0 N S V a1 r18 q19) ⟨⟨rfl, rfl, Nat.le_of_ble_eq_true rfl, Nat.le_of_ble_eq_true rfl⟩, Nat.le_of_ble_eq_true rfl, Nat.le_of_ble_eq_true rfl⟩ rfl rfl (Nat.le_of_ble_eq_true rfl) dX8_enter_1) w (fun H locs w => ?_)
  refine lv_if_eq (tgt := 18) hx hb dX8_enter_4 (by decide) (fun c20 => ?_) (fun c20 => ?_)
  · replace h := ifT h c20
    have g := B18 V  h
    rw [hG] at g
    exact g H locs ls w (lv_sub hl [0] rfl)
  · replace h := ifF h c20
    refine lv_iload_n hx hb dX8_enter_7 rfl (lv_at hl 2 rfl) ?_
    refine lv_iconst (v := 0) hx hb dX8_enter_8 (by decide) ?_
    refine lv_sipush (v := 999) hx hb dX8_enter_9 (by decide) ?_
    obtain ⟨r24, q25, h⟩ := ob1i h
    refine m_ci (m_rS (As := [.int a2, .int (0 : Int32), .int (999 : Int32)]) (rest := []) X w hl mi_X8_isWithin ml_X8_93 (c_X8_isWithin l D cy ad A Kc C0 N S V a2 (0 : Int32) (999 : Int32) r24 q25) ⟨⟨rfl, rfl, Nat.le_of_ble_eq_true rfl, Nat.le_of_ble_eq_true rfl⟩, Nat.le_of_ble_eq_true rfl, Nat.le_of_ble_eq_true rfl⟩ rfl rfl (Nat.le_of_ble_eq_true rfl) dX8_enter_12) w (fun H locs w => ?_)
    refine lv_if_ne (tgt := 24) hx hb dX8_enter_15 (by decide) (fun c26 => ?_) (fun c26 => ?_)
    · replace h := ifF h c26
      refine lv_aload_n hx hb dX8_enter_24 rfl (lv_at hl 0 rfl) ?_
      refine m_get X w o (shn hs 0 rfl) (shk hs 0 rfl : S.2.1 o = 8) ci8 0 (by decide) (fvR (shk hs 0 rfl : S.2.1 o = 8) rfl (shq hs 0 0 rfl rfl : S.2.2.2.1 o 0 = (o + 1) + 1)) rfl fl_X8_12 dX8_enter_25 ?_
      refine m_getN X w (o + 1) (shn hs 1 rfl) (shk hs 1 rfl : S.2.1 (o + 1) = 0) ci0 0 (by decide) (fvR (shk hs 1 rfl : S.2.1 (o + 1) = 0) rfl (shq hs 1 0 rfl rfl : S.2.2.2.1 (o + 1) 0 = (o + 2) + 1)) rfl nf_X8_101 dX8_enter_28 ?_
      refine lv_iload_n hx hb dX8_enter_31 rfl (lv_at hl 1 rfl) ?_
      obtain ⟨g27, h⟩ := cki h
      refine m_iald X w (o + 2) (shn hs 2 rfl) (shk hs 2 rfl : S.2.1 (o + 2) = 11) (shz hs 2 rfl : S.2.2.1 (o + 2) = 25) g27 dX8_enter_32 ?_
      refine lv_topi (fun x28 ex28 => ?_)
      replace h := bdi h _ ex28
      refine lv_istore_n (lv' := [(3, .int x28), (0, .ref (ad o)), (1, .int a1), (2, .int a2)]) hx hb dX8_enter_33 rfl hl (by decide) rfl (fun ls hl => ?_)
      refine lv_aload_n hx hb dX8_enter_34 rfl (lv_at hl 1 rfl) ?_
      refine m_get X w o (shn hs 0 rfl) (shk hs 0 rfl : S.2.1 o = 8) ci8 0 (by decide) (fvR (shk hs 0 rfl : S.2.1 o = 8) rfl (shq hs 0 0 rfl rfl : S.2.2.2.1 o 0 = (o + 1) + 1)) rfl fl_X8_12 dX8_enter_35 ?_
      refine m_getN X w (o + 1) (shn hs 1 rfl) (shk hs 1 rfl : S.2.1 (o + 1) = 0) ci0 0 (by decide) (fvR (shk hs 1 rfl : S.2.1 (o + 1) = 0) rfl (shq hs 1 0 rfl rfl : S.2.2.2.1 (o + 1) 0 = (o + 2) + 1)) rfl nf_X8_101 dX8_enter_38 ?_
      refine lv_iload_n hx hb dX8_enter_41 rfl (lv_at hl 2 rfl) ?_
      refine lv_iload_n hx hb dX8_enter_42 rfl (lv_at hl 3 rfl) ?_
      obtain ⟨g29, h⟩ := cki h
      refine m_iast X w (o + 2) (shn hs 2 rfl) (shk hs 2 rfl : S.2.1 (o + 2) = 11) (shz hs 2 rfl : S.2.2.1 (o + 2) = 25) g29 dX8_enter_43 (fun V30 H locs eV30 w => ?_)
      replace h := bdi h _ eV30
      refine lv_aload_n hx hb dX8_enter_44 rfl (lv_at hl 1 rfl) ?_
      refine m_get X w o (shn hs 0 rfl) (shk hs 0 rfl : S.2.1 o = 8) ci8 4 (by decide) (fvR (shk hs 0 rfl : S.2.1 o = 8) rfl (shq hs 0 4 rfl rfl : S.2.2.2.1 o 4 = (o + 32) + 1)) rfl fl_X8_29 dX8_enter_45 ?_
      obtain ⟨V33, q32, h⟩ := obvi h
      refine m_cv (m_rV (As := []) (rest := []) X w hl mi_X1_clear ml_X8_104 (o + 32) (shn hs 32 rfl) (shk hs 32 rfl : S.2.1 (o + 32) = 1) rfl (c_X1_clear l D cy ad A Kc C0 N S V30 (o + 32) (sb_8_32 hs) V33 q32) ⟨⟨rfl, rfl, Nat.le_of_ble_eq_true rfl, Nat.le_of_ble_eq_true rfl⟩, Nat.le_of_ble_eq_true rfl, Nat.le_of_ble_eq_true rfl⟩ rfl rfl (Nat.le_of_ble_eq_true rfl) dX8_enter_48) w (fun H locs w => ?_)
      refine lv_aload_n hx hb dX8_enter_51 rfl (lv_at hl 1 rfl) ?_
      refine lv_iload_n hx hb dX8_enter_52 rfl (lv_at hl 0 rfl) ?_
      obtain ⟨r34, V36, q35, h⟩ := obi h
      refine m_ci (m_rV (As := [.int x28]) (rest := []) X w hl mi_X8_granted ml_X8_107 o (shn hs 0 rfl) (shk hs 0 rfl : S.2.1 o = 8) rfl (c_X8_granted l D cy ad A Kc C0 N S V33 o hs x28 r34 V36 q35) ⟨⟨rfl, rfl, Nat.le_of_ble_eq_true rfl, Nat.le_of_ble_eq_true rfl⟩, Nat.le_of_ble_eq_true rfl, Nat.le_of_ble_eq_true rfl⟩ rfl rfl (Nat.le_of_ble_eq_true rfl) dX8_enter_53) w (fun H locs w => ?_)
      obtain ⟨rfl, rfl⟩ := reti h
      exact m_ri X w hr hlocks dX8_enter_56
    · replace h := ifT h c26
      have g := B18 V  h
      rw [hG] at g
      exact g H locs ls w (lv_sub hl [0] rfl)
def f_X8_told_19 (N : Nat) (S : St) (o : Nat) (V : Vt) : Option (Int32 × Vt) := ob (f_X8_refused N S V o (-1 : Int32)) (fun r19 V21 => some (r19, V21))
def f_X8_told (N : Nat) (S : St) (V : Vt) (o : Nat) (a1 : Int32) (a2 : Int32) (a3 : Int32) : Option (Int32 × Vt) := ob1 (f_X8_isLine N a1 a2) (fun r16 => if r16 = 0 then f_X8_told_19 N S o V  else ob1 (f_X8_isWithin N a3 (0 : Int32) (9999 : Int32)) (fun r22 => if r22 = 0 then f_X8_told_19 N S o V  else bd ((a1 * (5 : Int32)) + a2) (fun x25 => ck x25 10 (bd (V.2.1 (o + 4) x25.toNatClampNeg) (fun x27 => ck x25 10 (bd (sA V (o + 4) x25.toNatClampNeg a3) (fun V29 => ob (f_X8_granted N S V29 o x27) (fun r30 V32 => some (r30, V32)))))))))
set_option maxHeartbeats 4000000 in
set_option maxRecDepth 100000 in
theorem c_X8_told (l : Launch) (D : va_G) (cy : Nat → ClassId) (ad : Nat → Nat) (A : Nat → Prop) (Kc : State → Prop) (C0 : Cx ad A Kc) (N : Nat) (S : St) (V : Vt) (o : Nat) (hs : shp S o t8) (a1 : Int32) (a2 : Int32) (a3 : Int32) (r : Int32) (V' : Vt) (h : f_X8_told N S V o a1 a2 a3 = some (r, V')) : Met l yX8_told (mw yX8_told cX8_told 6 (some .int)) { frames := 1, cells := 0, slots := 0, locals := 22 } (PreM D cy ad Kc S V [.ref (ad o), .int a1, .int a2, .int a3]) (QI D cy ad A r S V') 0 0 A := by
  refine ct_go C0 (own := RX8) rfl (by decide) rfl ?_
  intro p e s m below meth c ls H locs X hr hlocks hnm hl w
  have hx := X.1.1
  have hb := X.1.2.1
  have hown := X.2.1
  have hts := X.2.2.1
  have hl : lv_has ls 6 [(0, .ref (ad o)), (1, .int a1), (2, .int a2), (3, .int a3)] := hl
  obtain ⟨G, hG⟩ : ∃ G : Nat → Vt → List (Nat × Value) → List Value → Prop, G = fun pc V lv st => ∀ (H : Heap) (locs : List Loc) (ls : Array Slot), Wd D cy ad A s.heap S V H locs → lv_has ls 6 lv → W p l e { frames := 1, cells := 0, slots := 0, locals := 22 } s m ([.ref (ad o), .int a1, .int a2, .int a3] : List Value).toArray below meth c H locs 0 0 (MQ below (QI D cy ad A r S V') ([.ref (ad o), .int a1, .int a2, .int a3] : List Value).toArray s 0 0 A) (F0 m pc ls st) := ⟨_, rfl⟩
  have B19 : ∀ (V : Vt), f_X8_told_19 N S o V  = some (r, V') → G 19 V [(0, .ref (ad o))] [] := by
    intro V  h
    rw [hG]
    intro H locs ls w hl
    rw [f_X8_told_19] at h
    refine lv_aload_n hx hb dX8_told_19 rfl (lv_at hl 0 rfl) ?_
    refine lv_iconst (v := (-1)) hx hb dX8_told_20 (by decide) ?_
    obtain ⟨r19, V21, q20, h⟩ := obi h
    refine m_ci (m_rV (As := [.int (-1 : Int32)]) (rest := []) X w hl mi_X8_refused ml_X8_97 o (shn hs 0 rfl) (shk hs 0 rfl : S.2.1 o = 8) rfl (c_X8_refused l D cy ad A Kc C0 N S V o hs (-1 : Int32) r19 V21 q20) ⟨⟨rfl, rfl, Nat.le_of_ble_eq_true rfl, Nat.le_of_ble_eq_true rfl⟩, Nat.le_of_ble_eq_true rfl, Nat.le_of_ble_eq_true rfl⟩ rfl rfl (Nat.le_of_ble_eq_true rfl) dX8_told_21) w (fun H locs w => ?_)
    obtain ⟨rfl, rfl⟩ := reti h
    exact m_ri X w hr hlocks dX8_told_24
  rw [f_X8_told] at h
  refine lv_iload_n hx hb dX8_told_0 rfl (lv_at hl 1 rfl) ?_
  refine lv_iload_n hx hb dX8_told_1 rfl (lv_at hl 2 rfl) ?_
  obtain ⟨r16, q17, h⟩ := ob1i h
  refine m_ci (m_rS (As := [.int a1, .int a2]) (rest := []) X w hl mi_X8_isLine ml_X8_126 (c_X8_isLine l D cy ad A Kc C0 N S V a1 a2 r16 q17) ⟨⟨rfl, rfl, Nat.le_of_ble_eq_true rfl, Nat.le_of_ble_eq_true rfl⟩, Nat.le_of_ble_eq_true rfl, Nat.le_of_ble_eq_true rfl⟩ rfl rfl (Nat.le_of_ble_eq_true rfl) dX8_told_2) w (fun H locs w => ?_)
  refine lv_if_eq (tgt := 19) hx hb dX8_told_5 (by decide) (fun c18 => ?_) (fun c18 => ?_)
  · replace h := ifT h c18
    have g := B19 V  h
    rw [hG] at g
    exact g H locs ls w (lv_sub hl [0] rfl)
  · replace h := ifF h c18
    refine lv_iload_n hx hb dX8_told_8 rfl (lv_at hl 3 rfl) ?_
    refine lv_iconst (v := 0) hx hb dX8_told_9 (by decide) ?_
    refine lv_sipush (v := 9999) hx hb dX8_told_10 (by decide) ?_
    obtain ⟨r22, q23, h⟩ := ob1i h
    refine m_ci (m_rS (As := [.int a3, .int (0 : Int32), .int (9999 : Int32)]) (rest := []) X w hl mi_X8_isWithin ml_X8_93 (c_X8_isWithin l D cy ad A Kc C0 N S V a3 (0 : Int32) (9999 : Int32) r22 q23) ⟨⟨rfl, rfl, Nat.le_of_ble_eq_true rfl, Nat.le_of_ble_eq_true rfl⟩, Nat.le_of_ble_eq_true rfl, Nat.le_of_ble_eq_true rfl⟩ rfl rfl (Nat.le_of_ble_eq_true rfl) dX8_told_13) w (fun H locs w => ?_)
    refine lv_if_ne (tgt := 25) hx hb dX8_told_16 (by decide) (fun c24 => ?_) (fun c24 => ?_)
    · replace h := ifF h c24
      refine lv_iload_n hx hb dX8_told_25 rfl (lv_at hl 1 rfl) ?_
      refine lv_iconst (v := 5) hx hb dX8_told_26 (by decide) ?_
      refine lv_imul hx hb dX8_told_27 ?_
      refine lv_iload_n hx hb dX8_told_28 rfl (lv_at hl 2 rfl) ?_
      refine lv_iadd hx hb dX8_told_29 ?_
      refine lv_topi (fun x25 ex25 => ?_)
      replace h := bdi h _ ex25
      refine lv_istore (lv' := [(4, .int x25), (0, .ref (ad o)), (1, .int a1), (2, .int a2), (3, .int a3)]) hx hb dX8_told_30 hl (by decide) rfl (fun ls hl => ?_)
      refine lv_aload_n hx hb dX8_told_32 rfl (lv_at hl 1 rfl) ?_
      refine m_get X w o (shn hs 0 rfl) (shk hs 0 rfl : S.2.1 o = 8) ci8 0 (by decide) (fvR (shk hs 0 rfl : S.2.1 o = 8) rfl (shq hs 0 0 rfl rfl : S.2.2.2.1 o 0 = (o + 1) + 1)) rfl fl_X8_12 dX8_told_33 ?_
      refine m_getN X w (o + 1) (shn hs 1 rfl) (shk hs 1 rfl : S.2.1 (o + 1) = 0) ci0 2 (by decide) (fvR (shk hs 1 rfl : S.2.1 (o + 1) = 0) rfl (shq hs 1 2 rfl rfl : S.2.2.2.1 (o + 1) 2 = (o + 4) + 1)) rfl nf_X8_130 dX8_told_36 ?_
      refine lv_iload hx hb dX8_told_39 (lv_at hl 0 rfl) ?_
      obtain ⟨g26, h⟩ := cki h
      refine m_iald X w (o + 4) (shn hs 4 rfl) (shk hs 4 rfl : S.2.1 (o + 4) = 11) (shz hs 4 rfl : S.2.2.1 (o + 4) = 10) g26 dX8_told_41 ?_
      refine lv_topi (fun x27 ex27 => ?_)
      replace h := bdi h _ ex27
      refine lv_istore (lv' := [(5, .int x27), (4, .int x25), (0, .ref (ad o)), (1, .int a1), (2, .int a2), (3, .int a3)]) hx hb dX8_told_42 hl (by decide) rfl (fun ls hl => ?_)
      refine lv_aload_n hx hb dX8_told_44 rfl (lv_at hl 2 rfl) ?_
      refine m_get X w o (shn hs 0 rfl) (shk hs 0 rfl : S.2.1 o = 8) ci8 0 (by decide) (fvR (shk hs 0 rfl : S.2.1 o = 8) rfl (shq hs 0 0 rfl rfl : S.2.2.2.1 o 0 = (o + 1) + 1)) rfl fl_X8_12 dX8_told_45 ?_
      refine m_getN X w (o + 1) (shn hs 1 rfl) (shk hs 1 rfl : S.2.1 (o + 1) = 0) ci0 2 (by decide) (fvR (shk hs 1 rfl : S.2.1 (o + 1) = 0) rfl (shq hs 1 2 rfl rfl : S.2.2.2.1 (o + 1) 2 = (o + 4) + 1)) rfl nf_X8_130 dX8_told_48 ?_
      refine lv_iload hx hb dX8_told_51 (lv_at hl 1 rfl) ?_
      refine lv_iload_n hx hb dX8_told_53 rfl (lv_at hl 5 rfl) ?_
      obtain ⟨g28, h⟩ := cki h
      refine m_iast X w (o + 4) (shn hs 4 rfl) (shk hs 4 rfl : S.2.1 (o + 4) = 11) (shz hs 4 rfl : S.2.2.1 (o + 4) = 10) g28 dX8_told_54 (fun V29 H locs eV29 w => ?_)
      replace h := bdi h _ eV29
      refine lv_aload_n hx hb dX8_told_55 rfl (lv_at hl 2 rfl) ?_
      refine lv_iload hx hb dX8_told_56 (lv_at hl 0 rfl) ?_
      obtain ⟨r30, V32, q31, h⟩ := obi h
      refine m_ci (m_rV (As := [.int x27]) (rest := []) X w hl mi_X8_granted ml_X8_107 o (shn hs 0 rfl) (shk hs 0 rfl : S.2.1 o = 8) rfl (c_X8_granted l D cy ad A Kc C0 N S V29 o hs x27 r30 V32 q31) ⟨⟨rfl, rfl, Nat.le_of_ble_eq_true rfl, Nat.le_of_ble_eq_true rfl⟩, Nat.le_of_ble_eq_true rfl, Nat.le_of_ble_eq_true rfl⟩ rfl rfl (Nat.le_of_ble_eq_true rfl) dX8_told_58) w (fun H locs w => ?_)
      obtain ⟨rfl, rfl⟩ := reti h
      exact m_ri X w hr hlocks dX8_told_61
    · replace h := ifT h c24
      have g := B19 V  h
      rw [hG] at g
      exact g H locs ls w (lv_sub hl [0] rfl)
def f_X8_off (N : Nat) (S : St) (V : Vt) (o : Nat) (a1 : Int32) (a2 : Int32) : Option Int32 := ob1 (f_X8_isLine N a1 a2) (fun r5 => if r5 = 0 then some (-100000 : Int32) else ob1 (f_X0_gap N S V (o + 1) a1 a2) (fun r8 => some r8))
set_option maxHeartbeats 4000000 in
set_option maxRecDepth 100000 in
theorem c_X8_off (l : Launch) (D : va_G) (cy : Nat → ClassId) (ad : Nat → Nat) (A : Nat → Prop) (Kc : State → Prop) (C0 : Cx ad A Kc) (N : Nat) (S : St) (V : Vt) (o : Nat) (hs : shp S o t8) (a1 : Int32) (a2 : Int32) (r : Int32) (h : f_X8_off N S V o a1 a2 = some r) : Met l yX8_off (mw yX8_off cX8_off 3 (some .int)) { frames := 1, cells := 0, slots := 0, locals := 26 } (PreM D cy ad Kc S V [.ref (ad o), .int a1, .int a2]) (QI D cy ad A r S V) 0 0 A := by
  refine ct_go C0 (own := RX8) rfl (by decide) rfl ?_
  intro p e s m below meth c ls H locs X hr hlocks hnm hl w
  have hx := X.1.1
  have hb := X.1.2.1
  have hown := X.2.1
  have hts := X.2.2.1
  have hl : lv_has ls 3 [(0, .ref (ad o)), (1, .int a1), (2, .int a2)] := hl
  rw [f_X8_off] at h
  refine lv_iload_n hx hb dX8_off_0 rfl (lv_at hl 1 rfl) ?_
  refine lv_iload_n hx hb dX8_off_1 rfl (lv_at hl 2 rfl) ?_
  obtain ⟨r5, q6, h⟩ := ob1i h
  refine m_ci (m_rS (As := [.int a1, .int a2]) (rest := []) X w hl mi_X8_isLine ml_X8_126 (c_X8_isLine l D cy ad A Kc C0 N S V a1 a2 r5 q6) ⟨⟨rfl, rfl, Nat.le_of_ble_eq_true rfl, Nat.le_of_ble_eq_true rfl⟩, Nat.le_of_ble_eq_true rfl, Nat.le_of_ble_eq_true rfl⟩ rfl rfl (Nat.le_of_ble_eq_true rfl) dX8_off_2) w (fun H locs w => ?_)
  refine lv_if_eq (tgt := 20) hx hb dX8_off_5 (by decide) (fun c7 => ?_) (fun c7 => ?_)
  · replace h := ifT h c7
    refine lv_ldc (v := (-100000)) hx hb hown (hts _ kc_X8_137) dX8_off_20 ?_
    obtain rfl := Option.some.inj h
    exact m_ri X w hr hlocks dX8_off_22
  · replace h := ifF h c7
    refine lv_aload_n hx hb dX8_off_8 rfl (lv_at hl 0 rfl) ?_
    refine m_get X w o (shn hs 0 rfl) (shk hs 0 rfl : S.2.1 o = 8) ci8 0 (by decide) (fvR (shk hs 0 rfl : S.2.1 o = 8) rfl (shq hs 0 0 rfl rfl : S.2.2.2.1 o 0 = (o + 1) + 1)) rfl fl_X8_12 dX8_off_9 ?_
    refine lv_iload_n hx hb dX8_off_12 rfl (lv_at hl 1 rfl) ?_
    refine lv_iload_n hx hb dX8_off_13 rfl (lv_at hl 2 rfl) ?_
    obtain ⟨r8, q9, h⟩ := ob1i h
    refine m_ci (m_rV (As := [.int a1, .int a2]) (rest := []) X w hl mi_X0_gap ml_X8_133 (o + 1) (shn hs 1 rfl) (shk hs 1 rfl : S.2.1 (o + 1) = 0) rfl (c_X0_gap l D cy ad A Kc C0 N S V (o + 1) (sb_8_1 hs) a1 a2 r8 q9) ⟨⟨rfl, rfl, Nat.le_of_ble_eq_true rfl, Nat.le_of_ble_eq_true rfl⟩, Nat.le_of_ble_eq_true rfl, Nat.le_of_ble_eq_true rfl⟩ rfl rfl (Nat.le_of_ble_eq_true rfl) dX8_off_14) w (fun H locs w => ?_)
    refine lv_goto (tgt := 22) hx hb dX8_off_17 (by decide) ?_
    obtain rfl := Option.some.inj h
    exact m_ri X w hr hlocks dX8_off_22
def f_X8_clerk (N : Nat) (S : St) (V : Vt) (o : Nat) (a1 : Int32) : Option (Int32 × Vt) := ob1 (f_X8_isWithin N a1 (0 : Int32) (9 : Int32)) (fun r21 => if r21 = 0 then ob (f_X8_refused N S V o (-1 : Int32)) (fun r40 V42 => some (r40, V42)) else if (V.1 (o + 1) 9) < (5 : Int32) then bd (V.1 (o + 1) 9) (fun x25 => ck x25 5 (bd (sA V (o + 5) x25.toNatClampNeg a1) (fun V27 => ck x25 5 (bd (sA V27 (o + 6) x25.toNatClampNeg (0 : Int32)) (fun V29 => bd (sF V29 (o + 1) 9 (x25 + (1 : Int32))) (fun V30 => obv (f_X1_clear N S V30 (o + 32)) (fun V33 => ob (f_X8_granted N S V33 o x25) (fun r34 V36 => some (r34, V36))))))))) else ob (f_X8_refused N S V o (-5 : Int32)) (fun r37 V39 => some (r37, V39)))
set_option maxHeartbeats 4000000 in
set_option maxRecDepth 100000 in
theorem c_X8_clerk (l : Launch) (D : va_G) (cy : Nat → ClassId) (ad : Nat → Nat) (A : Nat → Prop) (Kc : State → Prop) (C0 : Cx ad A Kc) (N : Nat) (S : St) (V : Vt) (o : Nat) (hs : shp S o t8) (a1 : Int32) (r : Int32) (V' : Vt) (h : f_X8_clerk N S V o a1 = some (r, V')) : Met l yX8_clerk (mw yX8_clerk cX8_clerk 3 (some .int)) { frames := 1, cells := 0, slots := 0, locals := 22 } (PreM D cy ad Kc S V [.ref (ad o), .int a1]) (QI D cy ad A r S V') 0 0 A := by
  refine ct_go C0 (own := RX8) rfl (by decide) rfl ?_
  intro p e s m below meth c ls H locs X hr hlocks hnm hl w
  have hx := X.1.1
  have hb := X.1.2.1
  have hown := X.2.1
  have hts := X.2.2.1
  have hl : lv_has ls 3 [(0, .ref (ad o)), (1, .int a1)] := hl
  rw [f_X8_clerk] at h
  refine lv_iload_n hx hb dX8_clerk_0 rfl (lv_at hl 1 rfl) ?_
  refine lv_iconst (v := 0) hx hb dX8_clerk_1 (by decide) ?_
  refine lv_bipush (v := 9) hx hb dX8_clerk_2 (by decide) ?_
  obtain ⟨r21, q22, h⟩ := ob1i h
  refine m_ci (m_rS (As := [.int a1, .int (0 : Int32), .int (9 : Int32)]) (rest := []) X w hl mi_X8_isWithin ml_X8_93 (c_X8_isWithin l D cy ad A Kc C0 N S V a1 (0 : Int32) (9 : Int32) r21 q22) ⟨⟨rfl, rfl, Nat.le_of_ble_eq_true rfl, Nat.le_of_ble_eq_true rfl⟩, Nat.le_of_ble_eq_true rfl, Nat.le_of_ble_eq_true rfl⟩ rfl rfl (Nat.le_of_ble_eq_true rfl) dX8_clerk_4) w (fun H locs w => ?_)
  refine lv_if_ne (tgt := 16) hx hb dX8_clerk_7 (by decide) (fun c23 => ?_) (fun c23 => ?_)
  · replace h := ifF h c23
    refine lv_aload_n hx hb dX8_clerk_16 rfl (lv_at hl 0 rfl) ?_
    refine m_get X w o (shn hs 0 rfl) (shk hs 0 rfl : S.2.1 o = 8) ci8 0 (by decide) (fvR (shk hs 0 rfl : S.2.1 o = 8) rfl (shq hs 0 0 rfl rfl : S.2.2.2.1 o 0 = (o + 1) + 1)) rfl fl_X8_12 dX8_clerk_17 ?_
    refine m_getN X w (o + 1) (shn hs 1 rfl) (shk hs 1 rfl : S.2.1 (o + 1) = 0) ci0 9 (by decide) (fvI (shk hs 1 rfl : S.2.1 (o + 1) = 0) rfl) rfl nf_X8_138 dX8_clerk_20 ?_
    refine lv_iconst (v := 5) hx hb dX8_clerk_23 (by decide) ?_
    refine lv_icmp_lt (tgt := 34) hx hb dX8_clerk_24 (by decide) (fun c24 => ?_) (fun c24 => ?_)
    · replace h := ifT h c24
      refine lv_aload_n hx hb dX8_clerk_34 rfl (lv_at hl 0 rfl) ?_
      refine m_get X w o (shn hs 0 rfl) (shk hs 0 rfl : S.2.1 o = 8) ci8 0 (by decide) (fvR (shk hs 0 rfl : S.2.1 o = 8) rfl (shq hs 0 0 rfl rfl : S.2.2.2.1 o 0 = (o + 1) + 1)) rfl fl_X8_12 dX8_clerk_35 ?_
      refine m_getN X w (o + 1) (shn hs 1 rfl) (shk hs 1 rfl : S.2.1 (o + 1) = 0) ci0 9 (by decide) (fvI (shk hs 1 rfl : S.2.1 (o + 1) = 0) rfl) rfl nf_X8_138 dX8_clerk_38 ?_
      refine lv_topi (fun x25 ex25 => ?_)
      replace h := bdi h _ ex25
      refine lv_istore_n (lv' := [(2, .int x25), (0, .ref (ad o)), (1, .int a1)]) hx hb dX8_clerk_41 rfl hl (by decide) rfl (fun ls hl => ?_)
      refine lv_aload_n hx hb dX8_clerk_42 rfl (lv_at hl 1 rfl) ?_
      refine m_get X w o (shn hs 0 rfl) (shk hs 0 rfl : S.2.1 o = 8) ci8 0 (by decide) (fvR (shk hs 0 rfl : S.2.1 o = 8) rfl (shq hs 0 0 rfl rfl : S.2.2.2.1 o 0 = (o + 1) + 1)) rfl fl_X8_12 dX8_clerk_43 ?_
      refine m_getN X w (o + 1) (shn hs 1 rfl) (shk hs 1 rfl : S.2.1 (o + 1) = 0) ci0 3 (by decide) (fvR (shk hs 1 rfl : S.2.1 (o + 1) = 0) rfl (shq hs 1 3 rfl rfl : S.2.2.2.1 (o + 1) 3 = (o + 5) + 1)) rfl nf_X8_141 dX8_clerk_46 ?_
      refine lv_iload_n hx hb dX8_clerk_49 rfl (lv_at hl 0 rfl) ?_
      refine lv_iload_n hx hb dX8_clerk_50 rfl (lv_at hl 2 rfl) ?_
      obtain ⟨g26, h⟩ := cki h
      refine m_iast X w (o + 5) (shn hs 5 rfl) (shk hs 5 rfl : S.2.1 (o + 5) = 11) (shz hs 5 rfl : S.2.2.1 (o + 5) = 5) g26 dX8_clerk_51 (fun V27 H locs eV27 w => ?_)
      replace h := bdi h _ eV27
      refine lv_aload_n hx hb dX8_clerk_52 rfl (lv_at hl 1 rfl) ?_
      refine m_get X w o (shn hs 0 rfl) (shk hs 0 rfl : S.2.1 o = 8) ci8 0 (by decide) (fvR (shk hs 0 rfl : S.2.1 o = 8) rfl (shq hs 0 0 rfl rfl : S.2.2.2.1 o 0 = (o + 1) + 1)) rfl fl_X8_12 dX8_clerk_53 ?_
      refine m_getN X w (o + 1) (shn hs 1 rfl) (shk hs 1 rfl : S.2.1 (o + 1) = 0) ci0 4 (by decide) (fvR (shk hs 1 rfl : S.2.1 (o + 1) = 0) rfl (shq hs 1 4 rfl rfl : S.2.2.2.1 (o + 1) 4 = (o + 6) + 1)) rfl nf_X8_144 dX8_clerk_56 ?_
      refine lv_iload_n hx hb dX8_clerk_59 rfl (lv_at hl 0 rfl) ?_
      refine lv_iconst (v := 0) hx hb dX8_clerk_60 (by decide) ?_
      obtain ⟨g28, h⟩ := cki h
      refine m_iast X w (o + 6) (shn hs 6 rfl) (shk hs 6 rfl : S.2.1 (o + 6) = 11) (shz hs 6 rfl : S.2.2.1 (o + 6) = 5) g28 dX8_clerk_61 (fun V29 H locs eV29 w => ?_)
      replace h := bdi h _ eV29
      refine lv_aload_n hx hb dX8_clerk_62 rfl (lv_at hl 1 rfl) ?_
      refine m_get X w o (shn hs 0 rfl) (shk hs 0 rfl : S.2.1 o = 8) ci8 0 (by decide) (fvR (shk hs 0 rfl : S.2.1 o = 8) rfl (shq hs 0 0 rfl rfl : S.2.2.2.1 o 0 = (o + 1) + 1)) rfl fl_X8_12 dX8_clerk_63 ?_
      refine lv_iload_n hx hb dX8_clerk_66 rfl (lv_at hl 0 rfl) ?_
      refine lv_iconst (v := 1) hx hb dX8_clerk_67 (by decide) ?_
      refine lv_iadd hx hb dX8_clerk_68 ?_
      refine m_putN X w (o + 1) (shn hs 1 rfl) (shk hs 1 rfl : S.2.1 (o + 1) = 0) ci0 9 (by decide) rfl rfl rfl rfl rfl nf_X8_138 dX8_clerk_69 (fun V30 H locs eV30 w => ?_)
      replace h := bdi h _ eV30
      refine lv_aload_n hx hb dX8_clerk_72 rfl (lv_at hl 1 rfl) ?_
      refine m_get X w o (shn hs 0 rfl) (shk hs 0 rfl : S.2.1 o = 8) ci8 4 (by decide) (fvR (shk hs 0 rfl : S.2.1 o = 8) rfl (shq hs 0 4 rfl rfl : S.2.2.2.1 o 4 = (o + 32) + 1)) rfl fl_X8_29 dX8_clerk_73 ?_
      obtain ⟨V33, q32, h⟩ := obvi h
      refine m_cv (m_rV (As := []) (rest := []) X w hl mi_X1_clear ml_X8_104 (o + 32) (shn hs 32 rfl) (shk hs 32 rfl : S.2.1 (o + 32) = 1) rfl (c_X1_clear l D cy ad A Kc C0 N S V30 (o + 32) (sb_8_32 hs) V33 q32) ⟨⟨rfl, rfl, Nat.le_of_ble_eq_true rfl, Nat.le_of_ble_eq_true rfl⟩, Nat.le_of_ble_eq_true rfl, Nat.le_of_ble_eq_true rfl⟩ rfl rfl (Nat.le_of_ble_eq_true rfl) dX8_clerk_76) w (fun H locs w => ?_)
      refine lv_aload_n hx hb dX8_clerk_79 rfl (lv_at hl 1 rfl) ?_
      refine lv_iload_n hx hb dX8_clerk_80 rfl (lv_at hl 0 rfl) ?_
      obtain ⟨r34, V36, q35, h⟩ := obi h
      refine m_ci (m_rV (As := [.int x25]) (rest := []) X w hl mi_X8_granted ml_X8_107 o (shn hs 0 rfl) (shk hs 0 rfl : S.2.1 o = 8) rfl (c_X8_granted l D cy ad A Kc C0 N S V33 o hs x25 r34 V36 q35) ⟨⟨rfl, rfl, Nat.le_of_ble_eq_true rfl, Nat.le_of_ble_eq_true rfl⟩, Nat.le_of_ble_eq_true rfl, Nat.le_of_ble_eq_true rfl⟩ rfl rfl (Nat.le_of_ble_eq_true rfl) dX8_clerk_81) w (fun H locs w => ?_)
      obtain ⟨rfl, rfl⟩ := reti h
      exact m_ri X w hr hlocks dX8_clerk_84
    · replace h := ifF h c24
      refine lv_aload_n hx hb dX8_clerk_27 rfl (lv_at hl 0 rfl) ?_
      refine lv_bipush (v := (-5)) hx hb dX8_clerk_28 (by decide) ?_
      obtain ⟨r37, V39, q38, h⟩ := obi h
      refine m_ci (m_rV (As := [.int (-5 : Int32)]) (rest := []) X w hl mi_X8_refused ml_X8_97 o (shn hs 0 rfl) (shk hs 0 rfl : S.2.1 o = 8) rfl (c_X8_refused l D cy ad A Kc C0 N S V o hs (-5 : Int32) r37 V39 q38) ⟨⟨rfl, rfl, Nat.le_of_ble_eq_true rfl, Nat.le_of_ble_eq_true rfl⟩, Nat.le_of_ble_eq_true rfl, Nat.le_of_ble_eq_true rfl⟩ rfl rfl (Nat.le_of_ble_eq_true rfl) dX8_clerk_30) w (fun H locs w => ?_)
      obtain ⟨rfl, rfl⟩ := reti h
      exact m_ri X w hr hlocks dX8_clerk_33
  · replace h := ifT h c23
    refine lv_aload_n hx hb dX8_clerk_10 rfl (lv_at hl 0 rfl) ?_
    refine lv_iconst (v := (-1)) hx hb dX8_clerk_11 (by decide) ?_
    obtain ⟨r40, V42, q41, h⟩ := obi h
    refine m_ci (m_rV (As := [.int (-1 : Int32)]) (rest := []) X w hl mi_X8_refused ml_X8_97 o (shn hs 0 rfl) (shk hs 0 rfl : S.2.1 o = 8) rfl (c_X8_refused l D cy ad A Kc C0 N S V o hs (-1 : Int32) r40 V42 q41) ⟨⟨rfl, rfl, Nat.le_of_ble_eq_true rfl, Nat.le_of_ble_eq_true rfl⟩, Nat.le_of_ble_eq_true rfl, Nat.le_of_ble_eq_true rfl⟩ rfl rfl (Nat.le_of_ble_eq_true rfl) dX8_clerk_12) w (fun H locs w => ?_)
    obtain ⟨rfl, rfl⟩ := reti h
    exact m_ri X w hr hlocks dX8_clerk_15
def f_X8_feed (N : Nat) (S : St) (V : Vt) (o : Nat) (a1 : Int32) (a2 : Int32) (a3 : Int32) (a4 : Int32) (a5 : Int32) : Option (Int32 × Vt) := if ((V.1 o 15) + (20 : Int32)) ≤ (400 : Int32) then obv (f_X8_putBytes N S V o a1) (fun V19 => obv (f_X8_putBytes N S V19 o a2) (fun V22 => obv (f_X8_putBytes N S V22 o a3) (fun V25 => obv (f_X8_putBytes N S V25 o a4) (fun V28 => obv (f_X8_putBytes N S V28 o a5) (fun V31 => some (V31.1 o 15, V31)))))) else some ((-1 : Int32), V)
set_option maxHeartbeats 4000000 in
set_option maxRecDepth 100000 in
theorem c_X8_feed (l : Launch) (D : va_G) (cy : Nat → ClassId) (ad : Nat → Nat) (A : Nat → Prop) (Kc : State → Prop) (C0 : Cx ad A Kc) (N : Nat) (S : St) (V : Vt) (o : Nat) (hs : shp S o t8) (a1 : Int32) (a2 : Int32) (a3 : Int32) (a4 : Int32) (a5 : Int32) (r : Int32) (V' : Vt) (h : f_X8_feed N S V o a1 a2 a3 a4 a5 = some (r, V')) : Met l yX8_feed (mw yX8_feed cX8_feed 6 (some .int)) { frames := 1, cells := 0, slots := 0, locals := 22 } (PreM D cy ad Kc S V [.ref (ad o), .int a1, .int a2, .int a3, .int a4, .int a5]) (QI D cy ad A r S V') 0 0 A := by
  refine ct_go C0 (own := RX8) rfl (by decide) rfl ?_
  intro p e s m below meth c ls H locs X hr hlocks hnm hl w
  have hx := X.1.1
  have hb := X.1.2.1
  have hown := X.2.1
  have hts := X.2.2.1
  have hl : lv_has ls 6 [(0, .ref (ad o)), (1, .int a1), (2, .int a2), (3, .int a3), (4, .int a4), (5, .int a5)] := hl
  rw [f_X8_feed] at h
  refine lv_aload_n hx hb dX8_feed_0 rfl (lv_at hl 0 rfl) ?_
  refine m_get X w o (shn hs 0 rfl) (shk hs 0 rfl : S.2.1 o = 8) ci8 15 (by decide) (fvI (shk hs 0 rfl : S.2.1 o = 8) rfl) rfl fl_X8_159 dX8_feed_1 ?_
  refine lv_bipush (v := 20) hx hb dX8_feed_4 (by decide) ?_
  refine lv_iadd hx hb dX8_feed_6 ?_
  refine lv_sipush (v := 400) hx hb dX8_feed_7 (by decide) ?_
  refine lv_icmp_le (tgt := 15) hx hb dX8_feed_10 (by decide) (fun c16 => ?_) (fun c16 => ?_)
  · replace h := ifT h c16
    refine lv_aload_n hx hb dX8_feed_15 rfl (lv_at hl 0 rfl) ?_
    refine lv_iload_n hx hb dX8_feed_16 rfl (lv_at hl 1 rfl) ?_
    obtain ⟨V19, q18, h⟩ := obvi h
    refine m_cv (m_rV (As := [.int a1]) (rest := []) X w hl mi_X8_putBytes ml_X8_162 o (shn hs 0 rfl) (shk hs 0 rfl : S.2.1 o = 8) rfl (c_X8_putBytes l D cy ad A Kc C0 N S V o hs a1 V19 q18) ⟨⟨rfl, rfl, Nat.le_of_ble_eq_true rfl, Nat.le_of_ble_eq_true rfl⟩, Nat.le_of_ble_eq_true rfl, Nat.le_of_ble_eq_true rfl⟩ rfl rfl (Nat.le_of_ble_eq_true rfl) dX8_feed_17) w (fun H locs w => ?_)
    refine lv_aload_n hx hb dX8_feed_20 rfl (lv_at hl 0 rfl) ?_
    refine lv_iload_n hx hb dX8_feed_21 rfl (lv_at hl 2 rfl) ?_
    obtain ⟨V22, q21, h⟩ := obvi h
    refine m_cv (m_rV (As := [.int a2]) (rest := []) X w hl mi_X8_putBytes ml_X8_162 o (shn hs 0 rfl) (shk hs 0 rfl : S.2.1 o = 8) rfl (c_X8_putBytes l D cy ad A Kc C0 N S V19 o hs a2 V22 q21) ⟨⟨rfl, rfl, Nat.le_of_ble_eq_true rfl, Nat.le_of_ble_eq_true rfl⟩, Nat.le_of_ble_eq_true rfl, Nat.le_of_ble_eq_true rfl⟩ rfl rfl (Nat.le_of_ble_eq_true rfl) dX8_feed_22) w (fun H locs w => ?_)
    refine lv_aload_n hx hb dX8_feed_25 rfl (lv_at hl 0 rfl) ?_
    refine lv_iload_n hx hb dX8_feed_26 rfl (lv_at hl 3 rfl) ?_
    obtain ⟨V25, q24, h⟩ := obvi h
    refine m_cv (m_rV (As := [.int a3]) (rest := []) X w hl mi_X8_putBytes ml_X8_162 o (shn hs 0 rfl) (shk hs 0 rfl : S.2.1 o = 8) rfl (c_X8_putBytes l D cy ad A Kc C0 N S V22 o hs a3 V25 q24) ⟨⟨rfl, rfl, Nat.le_of_ble_eq_true rfl, Nat.le_of_ble_eq_true rfl⟩, Nat.le_of_ble_eq_true rfl, Nat.le_of_ble_eq_true rfl⟩ rfl rfl (Nat.le_of_ble_eq_true rfl) dX8_feed_27) w (fun H locs w => ?_)
    refine lv_aload_n hx hb dX8_feed_30 rfl (lv_at hl 0 rfl) ?_
    refine lv_iload hx hb dX8_feed_31 (lv_at hl 4 rfl) ?_
    obtain ⟨V28, q27, h⟩ := obvi h
    refine m_cv (m_rV (As := [.int a4]) (rest := []) X w hl mi_X8_putBytes ml_X8_162 o (shn hs 0 rfl) (shk hs 0 rfl : S.2.1 o = 8) rfl (c_X8_putBytes l D cy ad A Kc C0 N S V25 o hs a4 V28 q27) ⟨⟨rfl, rfl, Nat.le_of_ble_eq_true rfl, Nat.le_of_ble_eq_true rfl⟩, Nat.le_of_ble_eq_true rfl, Nat.le_of_ble_eq_true rfl⟩ rfl rfl (Nat.le_of_ble_eq_true rfl) dX8_feed_33) w (fun H locs w => ?_)
    refine lv_aload_n hx hb dX8_feed_36 rfl (lv_at hl 0 rfl) ?_
    refine lv_iload hx hb dX8_feed_37 (lv_at hl 5 rfl) ?_
    obtain ⟨V31, q30, h⟩ := obvi h
    refine m_cv (m_rV (As := [.int a5]) (rest := []) X w hl mi_X8_putBytes ml_X8_162 o (shn hs 0 rfl) (shk hs 0 rfl : S.2.1 o = 8) rfl (c_X8_putBytes l D cy ad A Kc C0 N S V28 o hs a5 V31 q30) ⟨⟨rfl, rfl, Nat.le_of_ble_eq_true rfl, Nat.le_of_ble_eq_true rfl⟩, Nat.le_of_ble_eq_true rfl, Nat.le_of_ble_eq_true rfl⟩ rfl rfl (Nat.le_of_ble_eq_true rfl) dX8_feed_39) w (fun H locs w => ?_)
    refine lv_aload_n hx hb dX8_feed_42 rfl (lv_at hl 0 rfl) ?_
    refine m_get X w o (shn hs 0 rfl) (shk hs 0 rfl : S.2.1 o = 8) ci8 15 (by decide) (fvI (shk hs 0 rfl : S.2.1 o = 8) rfl) rfl fl_X8_159 dX8_feed_43 ?_
    obtain ⟨rfl, rfl⟩ := reti h
    exact m_ri X w hr hlocks dX8_feed_46
  · replace h := ifF h c16
    refine lv_iconst (v := (-1)) hx hb dX8_feed_13 (by decide) ?_
    obtain ⟨rfl, rfl⟩ := reti h
    exact m_ri X w hr hlocks dX8_feed_14
def f_X8_end (N : Nat) (S : St) (V : Vt) (o : Nat) (a1 : Int32) : Option (Int32 × Vt) := ob1 (f_X8_isWithin N a1 (0 : Int32) (V.1 o 15)) (fun r4 => if r4 = 0 then some ((-1 : Int32), V) else bd (sF V o 15 a1) (fun V7 => some (a1, V7)))
set_option maxHeartbeats 4000000 in
set_option maxRecDepth 100000 in
theorem c_X8_end (l : Launch) (D : va_G) (cy : Nat → ClassId) (ad : Nat → Nat) (A : Nat → Prop) (Kc : State → Prop) (C0 : Cx ad A Kc) (N : Nat) (S : St) (V : Vt) (o : Nat) (hs : shp S o t8) (a1 : Int32) (r : Int32) (V' : Vt) (h : f_X8_end N S V o a1 = some (r, V')) : Met l yX8_end (mw yX8_end cX8_end 2 (some .int)) { frames := 1, cells := 0, slots := 0, locals := 22 } (PreM D cy ad Kc S V [.ref (ad o), .int a1]) (QI D cy ad A r S V') 0 0 A := by
  refine ct_go C0 (own := RX8) rfl (by decide) rfl ?_
  intro p e s m below meth c ls H locs X hr hlocks hnm hl w
  have hx := X.1.1
  have hb := X.1.2.1
  have hown := X.2.1
  have hts := X.2.2.1
  have hl : lv_has ls 2 [(0, .ref (ad o)), (1, .int a1)] := hl
  rw [f_X8_end] at h
  refine lv_iload_n hx hb dX8_end_0 rfl (lv_at hl 1 rfl) ?_
  refine lv_iconst (v := 0) hx hb dX8_end_1 (by decide) ?_
  refine lv_aload_n hx hb dX8_end_2 rfl (lv_at hl 0 rfl) ?_
  refine m_get X w o (shn hs 0 rfl) (shk hs 0 rfl : S.2.1 o = 8) ci8 15 (by decide) (fvI (shk hs 0 rfl : S.2.1 o = 8) rfl) rfl fl_X8_159 dX8_end_3 ?_
  obtain ⟨r4, q5, h⟩ := ob1i h
  refine m_ci (m_rS (As := [.int a1, .int (0 : Int32), .int (V.1 o 15)]) (rest := []) X w hl mi_X8_isWithin ml_X8_93 (c_X8_isWithin l D cy ad A Kc C0 N S V a1 (0 : Int32) (V.1 o 15) r4 q5) ⟨⟨rfl, rfl, Nat.le_of_ble_eq_true rfl, Nat.le_of_ble_eq_true rfl⟩, Nat.le_of_ble_eq_true rfl, Nat.le_of_ble_eq_true rfl⟩ rfl rfl (Nat.le_of_ble_eq_true rfl) dX8_end_6) w (fun H locs w => ?_)
  refine lv_if_ne (tgt := 14) hx hb dX8_end_9 (by decide) (fun c6 => ?_) (fun c6 => ?_)
  · replace h := ifF h c6
    refine lv_aload_n hx hb dX8_end_14 rfl (lv_at hl 0 rfl) ?_
    refine lv_iload_n hx hb dX8_end_15 rfl (lv_at hl 1 rfl) ?_
    refine m_put X w o (shn hs 0 rfl) (shk hs 0 rfl : S.2.1 o = 8) ci8 15 (by decide) rfl rfl rfl rfl rfl fl_X8_159 dX8_end_16 (fun V7 H locs eV7 w => ?_)
    replace h := bdi h _ eV7
    refine lv_iload_n hx hb dX8_end_19 rfl (lv_at hl 1 rfl) ?_
    obtain ⟨rfl, rfl⟩ := reti h
    exact m_ri X w hr hlocks dX8_end_20
  · replace h := ifT h c6
    refine lv_iconst (v := (-1)) hx hb dX8_end_12 (by decide) ?_
    obtain ⟨rfl, rfl⟩ := reti h
    exact m_ri X w hr hlocks dX8_end_13
def f_X8_row_129 (N : Nat) (S : St) (o : Nat) (K23 : Vt → Int32 → Int32 → Option (Int32 × Vt)) (V : Vt) (v1 : Int32) (v2 : Int32) : Option (Int32 × Vt) := bd (v2 + (3 : Int32)) (fun x37 => K23 V v1 x37)
def f_X8_row_119 (N : Nat) (S : St) (o : Nat) (K23 : Vt → Int32 → Int32 → Option (Int32 × Vt)) (V : Vt) (v1 : Int32) (v2 : Int32) : Option (Int32 × Vt) := bd (sF V o 16 ((V.1 o 16) + (1 : Int32))) (fun V36 => f_X8_row_129 N S o K23 V36 v1 v2)
def f_X8_row_23 (N : Nat) (S : St) (o : Nat) : Nat → Vt → Int32 → Int32 → Option (Int32 × Vt)
  | 0, _, _, _ => none
  | n + 1, V, v1, v2 => if (V.1 o 15) ≤ v2 then bd (sF V o 15 (0 : Int32)) (fun V28 => obv (f_X1_clear N S V28 (o + 32)) (fun V31 => ob (f_X8_granted N S V31 o v1) (fun r32 V34 => some (r32, V34)))) else if (V.1 o 15) ≤ (v2 + (2 : Int32)) then f_X8_row_119 N S o (f_X8_row_23 N S o n) V v1 v2 else ck v2 400 (ob1 (f_X8_isCell N (V.2.1 (o + 36) v2.toNatClampNeg)) (fun r39 => if r39 = 0 then f_X8_row_119 N S o (f_X8_row_23 N S o n) V v1 v2 else ck (v2 + (1 : Int32)) 400 (if (9 : Int32) < (V.2.1 (o + 36) (v2 + (1 : Int32)).toNatClampNeg) then f_X8_row_119 N S o (f_X8_row_23 N S o n) V v1 v2 else ck (v2 + (2 : Int32)) 400 (if (99 : Int32) < (V.2.1 (o + 36) (v2 + (2 : Int32)).toNatClampNeg) then f_X8_row_119 N S o (f_X8_row_23 N S o n) V v1 v2 else ck v2 400 (ck (v2 + (1 : Int32)) 400 (ck (v2 + (2 : Int32)) 400 (ck (V.2.1 (o + 36) v2.toNatClampNeg) 25 (bd (sA V (o + 2) (V.2.1 (o + 36) v2.toNatClampNeg).toNatClampNeg (((100 : Int32) * (V.2.1 (o + 36) (v2 + (1 : Int32)).toNatClampNeg)) + (V.2.1 (o + 36) (v2 + (2 : Int32)).toNatClampNeg))) (fun V50 => bd (v1 + (1 : Int32)) (fun x51 => f_X8_row_129 N S o (f_X8_row_23 N S o n) V50 x51 v2))))))))))
def f_X8_row (N : Nat) (S : St) (V : Vt) (o : Nat) : Option (Int32 × Vt) := if (V.1 o 15) = 0 then ob (f_X8_refused N S V o (-6 : Int32)) (fun r52 V54 => some (r52, V54)) else bd (sF V o 16 (0 : Int32)) (fun V26 => f_X8_row_23 N S o N V26 (0 : Int32) (0 : Int32))
set_option maxHeartbeats 4000000 in
set_option maxRecDepth 100000 in
theorem c_X8_row (l : Launch) (D : va_G) (cy : Nat → ClassId) (ad : Nat → Nat) (A : Nat → Prop) (Kc : State → Prop) (C0 : Cx ad A Kc) (N : Nat) (S : St) (V : Vt) (o : Nat) (hs : shp S o t8) (r : Int32) (V' : Vt) (h : f_X8_row N S V o = some (r, V')) : Met l yX8_row (mw yX8_row cX8_row 3 (some .int)) { frames := 1, cells := 0, slots := 0, locals := 21 } (PreM D cy ad Kc S V [.ref (ad o)]) (QI D cy ad A r S V') 0 0 A := by
  refine ct_go C0 (own := RX8) rfl (by decide) rfl ?_
  intro p e s m below meth c ls H locs X hr hlocks hnm hl w
  have hx := X.1.1
  have hb := X.1.2.1
  have hown := X.2.1
  have hts := X.2.2.1
  have hl : lv_has ls 3 [(0, .ref (ad o))] := hl
  obtain ⟨G, hG⟩ : ∃ G : Nat → Vt → List (Nat × Value) → List Value → Prop, G = fun pc V lv st => ∀ (H : Heap) (locs : List Loc) (ls : Array Slot), Wd D cy ad A s.heap S V H locs → lv_has ls 3 lv → W p l e { frames := 1, cells := 0, slots := 0, locals := 21 } s m ([.ref (ad o)] : List Value).toArray below meth c H locs 0 0 (MQ below (QI D cy ad A r S V') ([.ref (ad o)] : List Value).toArray s 0 0 A) (F0 m pc ls st) := ⟨_, rfl⟩
  have L23 : ∀ (n23 : Nat) (V : Vt) (v1 : Int32) (v2 : Int32), f_X8_row_23 N S o n23 V v1 v2 = some (r, V') → G 23 V [(0, .ref (ad o)), (1, .int v1), (2, .int v2)] [] := by
    intro n23
    induction n23 with
    | zero => intro V v1 v2 h; rw [f_X8_row_23] at h; cases h
    | succ n23 ih23 =>
      have B129 : ∀ (V : Vt) (v1 : Int32) (v2 : Int32), f_X8_row_129 N S o (f_X8_row_23 N S o n23) V v1 v2 = some (r, V') → G 129 V [(0, .ref (ad o)), (1, .int v1), (2, .int v2)] [] := by
        intro V v1 v2 h
        rw [hG]
        intro H locs ls w hl
        rw [f_X8_row_129] at h
        obtain ⟨x37, ex37⟩ : ∃ y : Int32, y = v2 + (3 : Int32) := ⟨_, rfl⟩
        replace h := bdi h _ ex37
        refine lv_iinc (v := x37) (lv' := [(2, .int x37), (0, .ref (ad o)), (1, .int v1)]) hx hb dX8_row_129 hl (k := 2) rfl (by rw [ex37]; rfl) (by decide) rfl (fun ls hl => ?_)
        refine lv_goto (tgt := 23) hx hb dX8_row_132 (by decide) ?_
        have g := ih23 V v1 x37 h
        rw [hG] at g
        exact g H locs ls w (lv_sub hl [1, 2, 0] rfl)
      have B119 : ∀ (V : Vt) (v1 : Int32) (v2 : Int32), f_X8_row_119 N S o (f_X8_row_23 N S o n23) V v1 v2 = some (r, V') → G 119 V [(0, .ref (ad o)), (1, .int v1), (2, .int v2)] [] := by
        intro V v1 v2 h
        rw [hG]
        intro H locs ls w hl
        rw [f_X8_row_119] at h
        refine lv_aload_n hx hb dX8_row_119 rfl (lv_at hl 0 rfl) ?_
        refine lv_dup hx hb dX8_row_120 rfl ?_
        refine m_get X w o (shn hs 0 rfl) (shk hs 0 rfl : S.2.1 o = 8) ci8 16 (by decide) (fvI (shk hs 0 rfl : S.2.1 o = 8) rfl) rfl fl_X8_166 dX8_row_121 ?_
        refine lv_iconst (v := 1) hx hb dX8_row_124 (by decide) ?_
        refine lv_iadd hx hb dX8_row_125 ?_
        refine m_put X w o (shn hs 0 rfl) (shk hs 0 rfl : S.2.1 o = 8) ci8 16 (by decide) rfl rfl rfl rfl rfl fl_X8_166 dX8_row_126 (fun V36 H locs eV36 w => ?_)
        replace h := bdi h _ eV36
        have g := B129 V36 v1 v2 h
        rw [hG] at g
        exact g H locs ls w (lv_sub hl [0, 1, 2] rfl)
      intro V v1 v2 h
      rw [hG]
      intro H locs ls w hl
      rw [f_X8_row_23] at h
      refine lv_iload_n hx hb dX8_row_23 rfl (lv_at hl 2 rfl) ?_
      refine lv_aload_n hx hb dX8_row_24 rfl (lv_at hl 0 rfl) ?_
      refine m_get X w o (shn hs 0 rfl) (shk hs 0 rfl : S.2.1 o = 8) ci8 15 (by decide) (fvI (shk hs 0 rfl : S.2.1 o = 8) rfl) rfl fl_X8_159 dX8_row_25 ?_
      refine lv_icmp_ge (tgt := 135) hx hb dX8_row_28 (by decide) (fun c27 => ?_) (fun c27 => ?_)
      · replace h := ifT h c27
        refine lv_aload_n hx hb dX8_row_135 rfl (lv_at hl 0 rfl) ?_
        refine lv_iconst (v := 0) hx hb dX8_row_136 (by decide) ?_
        refine m_put X w o (shn hs 0 rfl) (shk hs 0 rfl : S.2.1 o = 8) ci8 15 (by decide) rfl rfl rfl rfl rfl fl_X8_159 dX8_row_137 (fun V28 H locs eV28 w => ?_)
        replace h := bdi h _ eV28
        refine lv_aload_n hx hb dX8_row_140 rfl (lv_at hl 0 rfl) ?_
        refine m_get X w o (shn hs 0 rfl) (shk hs 0 rfl : S.2.1 o = 8) ci8 4 (by decide) (fvR (shk hs 0 rfl : S.2.1 o = 8) rfl (shq hs 0 4 rfl rfl : S.2.2.2.1 o 4 = (o + 32) + 1)) rfl fl_X8_29 dX8_row_141 ?_
        obtain ⟨V31, q30, h⟩ := obvi h
        refine m_cv (m_rV (As := []) (rest := []) X w hl mi_X1_clear ml_X8_104 (o + 32) (shn hs 32 rfl) (shk hs 32 rfl : S.2.1 (o + 32) = 1) rfl (c_X1_clear l D cy ad A Kc C0 N S V28 (o + 32) (sb_8_32 hs) V31 q30) ⟨⟨rfl, rfl, Nat.le_of_ble_eq_true rfl, Nat.le_of_ble_eq_true rfl⟩, Nat.le_of_ble_eq_true rfl, Nat.le_of_ble_eq_true rfl⟩ rfl rfl (Nat.le_of_ble_eq_true rfl) dX8_row_144) w (fun H locs w => ?_)
        refine lv_aload_n hx hb dX8_row_147 rfl (lv_at hl 0 rfl) ?_
        refine lv_iload_n hx hb dX8_row_148 rfl (lv_at hl 1 rfl) ?_
        obtain ⟨r32, V34, q33, h⟩ := obi h
        refine m_ci (m_rV (As := [.int v1]) (rest := []) X w hl mi_X8_granted ml_X8_107 o (shn hs 0 rfl) (shk hs 0 rfl : S.2.1 o = 8) rfl (c_X8_granted l D cy ad A Kc C0 N S V31 o hs v1 r32 V34 q33) ⟨⟨rfl, rfl, Nat.le_of_ble_eq_true rfl, Nat.le_of_ble_eq_true rfl⟩, Nat.le_of_ble_eq_true rfl, Nat.le_of_ble_eq_true rfl⟩ rfl rfl (Nat.le_of_ble_eq_true rfl) dX8_row_149) w (fun H locs w => ?_)
        obtain ⟨rfl, rfl⟩ := reti h
        exact m_ri X w hr hlocks dX8_row_152
      · replace h := ifF h c27
        refine lv_iload_n hx hb dX8_row_31 rfl (lv_at hl 2 rfl) ?_
        refine lv_iconst (v := 2) hx hb dX8_row_32 (by decide) ?_
        refine lv_iadd hx hb dX8_row_33 ?_
        refine lv_aload_n hx hb dX8_row_34 rfl (lv_at hl 0 rfl) ?_
        refine m_get X w o (shn hs 0 rfl) (shk hs 0 rfl : S.2.1 o = 8) ci8 15 (by decide) (fvI (shk hs 0 rfl : S.2.1 o = 8) rfl) rfl fl_X8_159 dX8_row_35 ?_
        refine lv_icmp_ge (tgt := 119) hx hb dX8_row_38 (by decide) (fun c35 => ?_) (fun c35 => ?_)
        · replace h := ifT h c35
          have g := B119 V v1 v2 h
          rw [hG] at g
          exact g H locs ls w (lv_sub hl [0, 1, 2] rfl)
        · replace h := ifF h c35
          refine lv_aload_n hx hb dX8_row_41 rfl (lv_at hl 0 rfl) ?_
          refine m_get X w o (shn hs 0 rfl) (shk hs 0 rfl : S.2.1 o = 8) ci8 6 (by decide) (fvR (shk hs 0 rfl : S.2.1 o = 8) rfl (shq hs 0 6 rfl rfl : S.2.2.2.1 o 6 = (o + 36) + 1)) rfl fl_X8_36 dX8_row_42 ?_
          refine lv_iload_n hx hb dX8_row_45 rfl (lv_at hl 2 rfl) ?_
          obtain ⟨g38, h⟩ := cki h
          refine m_iald X w (o + 36) (shn hs 36 rfl) (shk hs 36 rfl : S.2.1 (o + 36) = 11) (shz hs 36 rfl : S.2.2.1 (o + 36) = 400) g38 dX8_row_46 ?_
          obtain ⟨r39, q40, h⟩ := ob1i h
          refine m_ci (m_rS (As := [.int (V.2.1 (o + 36) v2.toNatClampNeg)]) (rest := []) X w hl mi_X8_isCell ml_X8_89 (c_X8_isCell l D cy ad A Kc C0 N S V (V.2.1 (o + 36) v2.toNatClampNeg) r39 q40) ⟨⟨rfl, rfl, Nat.le_of_ble_eq_true rfl, Nat.le_of_ble_eq_true rfl⟩, Nat.le_of_ble_eq_true rfl, Nat.le_of_ble_eq_true rfl⟩ rfl rfl (Nat.le_of_ble_eq_true rfl) dX8_row_47) w (fun H locs w => ?_)
          refine lv_if_eq (tgt := 119) hx hb dX8_row_50 (by decide) (fun c41 => ?_) (fun c41 => ?_)
          · replace h := ifT h c41
            have g := B119 V v1 v2 h
            rw [hG] at g
            exact g H locs ls w (lv_sub hl [0, 1, 2] rfl)
          · replace h := ifF h c41
            refine lv_aload_n hx hb dX8_row_53 rfl (lv_at hl 0 rfl) ?_
            refine m_get X w o (shn hs 0 rfl) (shk hs 0 rfl : S.2.1 o = 8) ci8 6 (by decide) (fvR (shk hs 0 rfl : S.2.1 o = 8) rfl (shq hs 0 6 rfl rfl : S.2.2.2.1 o 6 = (o + 36) + 1)) rfl fl_X8_36 dX8_row_54 ?_
            refine lv_iload_n hx hb dX8_row_57 rfl (lv_at hl 2 rfl) ?_
            refine lv_iconst (v := 1) hx hb dX8_row_58 (by decide) ?_
            refine lv_iadd hx hb dX8_row_59 ?_
            obtain ⟨g42, h⟩ := cki h
            refine m_iald X w (o + 36) (shn hs 36 rfl) (shk hs 36 rfl : S.2.1 (o + 36) = 11) (shz hs 36 rfl : S.2.2.1 (o + 36) = 400) g42 dX8_row_60 ?_
            refine lv_bipush (v := 9) hx hb dX8_row_61 (by decide) ?_
            refine lv_icmp_gt (tgt := 119) hx hb dX8_row_63 (by decide) (fun c43 => ?_) (fun c43 => ?_)
            · replace h := ifT h c43
              have g := B119 V v1 v2 h
              rw [hG] at g
              exact g H locs ls w (lv_sub hl [0, 1, 2] rfl)
            · replace h := ifF h c43
              refine lv_aload_n hx hb dX8_row_66 rfl (lv_at hl 0 rfl) ?_
              refine m_get X w o (shn hs 0 rfl) (shk hs 0 rfl : S.2.1 o = 8) ci8 6 (by decide) (fvR (shk hs 0 rfl : S.2.1 o = 8) rfl (shq hs 0 6 rfl rfl : S.2.2.2.1 o 6 = (o + 36) + 1)) rfl fl_X8_36 dX8_row_67 ?_
              refine lv_iload_n hx hb dX8_row_70 rfl (lv_at hl 2 rfl) ?_
              refine lv_iconst (v := 2) hx hb dX8_row_71 (by decide) ?_
              refine lv_iadd hx hb dX8_row_72 ?_
              obtain ⟨g44, h⟩ := cki h
              refine m_iald X w (o + 36) (shn hs 36 rfl) (shk hs 36 rfl : S.2.1 (o + 36) = 11) (shz hs 36 rfl : S.2.2.1 (o + 36) = 400) g44 dX8_row_73 ?_
              refine lv_bipush (v := 99) hx hb dX8_row_74 (by decide) ?_
              refine lv_icmp_gt (tgt := 119) hx hb dX8_row_76 (by decide) (fun c45 => ?_) (fun c45 => ?_)
              · replace h := ifT h c45
                have g := B119 V v1 v2 h
                rw [hG] at g
                exact g H locs ls w (lv_sub hl [0, 1, 2] rfl)
              · replace h := ifF h c45
                refine lv_aload_n hx hb dX8_row_79 rfl (lv_at hl 0 rfl) ?_
                refine m_get X w o (shn hs 0 rfl) (shk hs 0 rfl : S.2.1 o = 8) ci8 0 (by decide) (fvR (shk hs 0 rfl : S.2.1 o = 8) rfl (shq hs 0 0 rfl rfl : S.2.2.2.1 o 0 = (o + 1) + 1)) rfl fl_X8_12 dX8_row_80 ?_
                refine m_getN X w (o + 1) (shn hs 1 rfl) (shk hs 1 rfl : S.2.1 (o + 1) = 0) ci0 0 (by decide) (fvR (shk hs 1 rfl : S.2.1 (o + 1) = 0) rfl (shq hs 1 0 rfl rfl : S.2.2.2.1 (o + 1) 0 = (o + 2) + 1)) rfl nf_X8_101 dX8_row_83 ?_
                refine lv_aload_n hx hb dX8_row_86 rfl (lv_at hl 0 rfl) ?_
                refine m_get X w o (shn hs 0 rfl) (shk hs 0 rfl : S.2.1 o = 8) ci8 6 (by decide) (fvR (shk hs 0 rfl : S.2.1 o = 8) rfl (shq hs 0 6 rfl rfl : S.2.2.2.1 o 6 = (o + 36) + 1)) rfl fl_X8_36 dX8_row_87 ?_
                refine lv_iload_n hx hb dX8_row_90 rfl (lv_at hl 2 rfl) ?_
                obtain ⟨g46, h⟩ := cki h
                refine m_iald X w (o + 36) (shn hs 36 rfl) (shk hs 36 rfl : S.2.1 (o + 36) = 11) (shz hs 36 rfl : S.2.2.1 (o + 36) = 400) g46 dX8_row_91 ?_
                refine lv_bipush (v := 100) hx hb dX8_row_92 (by decide) ?_
                refine lv_aload_n hx hb dX8_row_94 rfl (lv_at hl 0 rfl) ?_
                refine m_get X w o (shn hs 0 rfl) (shk hs 0 rfl : S.2.1 o = 8) ci8 6 (by decide) (fvR (shk hs 0 rfl : S.2.1 o = 8) rfl (shq hs 0 6 rfl rfl : S.2.2.2.1 o 6 = (o + 36) + 1)) rfl fl_X8_36 dX8_row_95 ?_
                refine lv_iload_n hx hb dX8_row_98 rfl (lv_at hl 2 rfl) ?_
                refine lv_iconst (v := 1) hx hb dX8_row_99 (by decide) ?_
                refine lv_iadd hx hb dX8_row_100 ?_
                obtain ⟨g47, h⟩ := cki h
                refine m_iald X w (o + 36) (shn hs 36 rfl) (shk hs 36 rfl : S.2.1 (o + 36) = 11) (shz hs 36 rfl : S.2.2.1 (o + 36) = 400) g47 dX8_row_101 ?_
                refine lv_imul hx hb dX8_row_102 ?_
                refine lv_aload_n hx hb dX8_row_103 rfl (lv_at hl 0 rfl) ?_
                refine m_get X w o (shn hs 0 rfl) (shk hs 0 rfl : S.2.1 o = 8) ci8 6 (by decide) (fvR (shk hs 0 rfl : S.2.1 o = 8) rfl (shq hs 0 6 rfl rfl : S.2.2.2.1 o 6 = (o + 36) + 1)) rfl fl_X8_36 dX8_row_104 ?_
                refine lv_iload_n hx hb dX8_row_107 rfl (lv_at hl 2 rfl) ?_
                refine lv_iconst (v := 2) hx hb dX8_row_108 (by decide) ?_
                refine lv_iadd hx hb dX8_row_109 ?_
                obtain ⟨g48, h⟩ := cki h
                refine m_iald X w (o + 36) (shn hs 36 rfl) (shk hs 36 rfl : S.2.1 (o + 36) = 11) (shz hs 36 rfl : S.2.2.1 (o + 36) = 400) g48 dX8_row_110 ?_
                refine lv_iadd hx hb dX8_row_111 ?_
                obtain ⟨g49, h⟩ := cki h
                refine m_iast X w (o + 2) (shn hs 2 rfl) (shk hs 2 rfl : S.2.1 (o + 2) = 11) (shz hs 2 rfl : S.2.2.1 (o + 2) = 25) g49 dX8_row_112 (fun V50 H locs eV50 w => ?_)
                replace h := bdi h _ eV50
                obtain ⟨x51, ex51⟩ : ∃ y : Int32, y = v1 + (1 : Int32) := ⟨_, rfl⟩
                replace h := bdi h _ ex51
                refine lv_iinc (v := x51) (lv' := [(1, .int x51), (0, .ref (ad o)), (2, .int v2)]) hx hb dX8_row_113 hl (k := 1) rfl (by rw [ex51]; rfl) (by decide) rfl (fun ls hl => ?_)
                refine lv_goto (tgt := 129) hx hb dX8_row_116 (by decide) ?_
                have g := B129 V50 x51 v2 h
                rw [hG] at g
                exact g H locs ls w (lv_sub hl [1, 0, 2] rfl)
  rw [f_X8_row] at h
  refine lv_aload_n hx hb dX8_row_0 rfl (lv_at hl 0 rfl) ?_
  refine m_get X w o (shn hs 0 rfl) (shk hs 0 rfl : S.2.1 o = 8) ci8 15 (by decide) (fvI (shk hs 0 rfl : S.2.1 o = 8) rfl) rfl fl_X8_159 dX8_row_1 ?_
  refine lv_if_ne (tgt := 14) hx hb dX8_row_4 (by decide) (fun c25 => ?_) (fun c25 => ?_)
  · replace h := ifF h c25
    refine lv_iconst (v := 0) hx hb dX8_row_14 (by decide) ?_
    refine lv_istore_n (lv' := [(1, .int (0 : Int32)), (0, .ref (ad o))]) hx hb dX8_row_15 rfl hl (by decide) rfl (fun ls hl => ?_)
    refine lv_aload_n hx hb dX8_row_16 rfl (lv_at hl 1 rfl) ?_
    refine lv_iconst (v := 0) hx hb dX8_row_17 (by decide) ?_
    refine m_put X w o (shn hs 0 rfl) (shk hs 0 rfl : S.2.1 o = 8) ci8 16 (by decide) rfl rfl rfl rfl rfl fl_X8_166 dX8_row_18 (fun V26 H locs eV26 w => ?_)
    replace h := bdi h _ eV26
    refine lv_iconst (v := 0) hx hb dX8_row_21 (by decide) ?_
    refine lv_istore_n (lv' := [(2, .int (0 : Int32)), (1, .int (0 : Int32)), (0, .ref (ad o))]) hx hb dX8_row_22 rfl hl (by decide) rfl (fun ls hl => ?_)
    have g := L23 N V26 (0 : Int32) (0 : Int32) h
    rw [hG] at g
    exact g H locs ls w (lv_sub hl [2, 1, 0] rfl)
  · replace h := ifT h c25
    refine lv_aload_n hx hb dX8_row_7 rfl (lv_at hl 0 rfl) ?_
    refine lv_bipush (v := (-6)) hx hb dX8_row_8 (by decide) ?_
    obtain ⟨r52, V54, q53, h⟩ := obi h
    refine m_ci (m_rV (As := [.int (-6 : Int32)]) (rest := []) X w hl mi_X8_refused ml_X8_97 o (shn hs 0 rfl) (shk hs 0 rfl : S.2.1 o = 8) rfl (c_X8_refused l D cy ad A Kc C0 N S V o hs (-6 : Int32) r52 V54 q53) ⟨⟨rfl, rfl, Nat.le_of_ble_eq_true rfl, Nat.le_of_ble_eq_true rfl⟩, Nat.le_of_ble_eq_true rfl, Nat.le_of_ble_eq_true rfl⟩ rfl rfl (Nat.le_of_ble_eq_true rfl) dX8_row_10) w (fun H locs w => ?_)
    obtain ⟨rfl, rfl⟩ := reti h
    exact m_ri X w hr hlocks dX8_row_13
def f_X8_force (N : Nat) (S : St) (V : Vt) (o : Nat) (a1 : Int32) : Option (Int32 × Vt) := ob1 (f_X8_isWithin N a1 (-1 : Int32) ((V.1 (o + 1) 10) - (1 : Int32))) (fun r11 => if r11 = 0 then ob (f_X8_refused N S V o (-2 : Int32)) (fun r19 V21 => some (r19, V21)) else bd (V.1 (o + 1) 11) (fun x14 => bd (sF V (o + 1) 11 a1) (fun V15 => ob (f_X8_granted N S V15 o x14) (fun r16 V18 => some (r16, V18)))))
set_option maxHeartbeats 4000000 in
set_option maxRecDepth 100000 in
theorem c_X8_force (l : Launch) (D : va_G) (cy : Nat → ClassId) (ad : Nat → Nat) (A : Nat → Prop) (Kc : State → Prop) (C0 : Cx ad A Kc) (N : Nat) (S : St) (V : Vt) (o : Nat) (hs : shp S o t8) (a1 : Int32) (r : Int32) (V' : Vt) (h : f_X8_force N S V o a1 = some (r, V')) : Met l yX8_force (mw yX8_force cX8_force 3 (some .int)) { frames := 1, cells := 0, slots := 0, locals := 22 } (PreM D cy ad Kc S V [.ref (ad o), .int a1]) (QI D cy ad A r S V') 0 0 A := by
  refine ct_go C0 (own := RX8) rfl (by decide) rfl ?_
  intro p e s m below meth c ls H locs X hr hlocks hnm hl w
  have hx := X.1.1
  have hb := X.1.2.1
  have hown := X.2.1
  have hts := X.2.2.1
  have hl : lv_has ls 3 [(0, .ref (ad o)), (1, .int a1)] := hl
  rw [f_X8_force] at h
  refine lv_iload_n hx hb dX8_force_0 rfl (lv_at hl 1 rfl) ?_
  refine lv_iconst (v := (-1)) hx hb dX8_force_1 (by decide) ?_
  refine lv_aload_n hx hb dX8_force_2 rfl (lv_at hl 0 rfl) ?_
  refine m_get X w o (shn hs 0 rfl) (shk hs 0 rfl : S.2.1 o = 8) ci8 0 (by decide) (fvR (shk hs 0 rfl : S.2.1 o = 8) rfl (shq hs 0 0 rfl rfl : S.2.2.2.1 o 0 = (o + 1) + 1)) rfl fl_X8_12 dX8_force_3 ?_
  refine m_getN X w (o + 1) (shn hs 1 rfl) (shk hs 1 rfl : S.2.1 (o + 1) = 0) ci0 10 (by decide) (fvI (shk hs 1 rfl : S.2.1 (o + 1) = 0) rfl) rfl nf_X8_169 dX8_force_6 ?_
  refine lv_iconst (v := 1) hx hb dX8_force_9 (by decide) ?_
  refine lv_isub hx hb dX8_force_10 ?_
  obtain ⟨r11, q12, h⟩ := ob1i h
  refine m_ci (m_rS (As := [.int a1, .int (-1 : Int32), .int ((V.1 (o + 1) 10) - (1 : Int32))]) (rest := []) X w hl mi_X8_isWithin ml_X8_93 (c_X8_isWithin l D cy ad A Kc C0 N S V a1 (-1 : Int32) ((V.1 (o + 1) 10) - (1 : Int32)) r11 q12) ⟨⟨rfl, rfl, Nat.le_of_ble_eq_true rfl, Nat.le_of_ble_eq_true rfl⟩, Nat.le_of_ble_eq_true rfl, Nat.le_of_ble_eq_true rfl⟩ rfl rfl (Nat.le_of_ble_eq_true rfl) dX8_force_11) w (fun H locs w => ?_)
  refine lv_if_ne (tgt := 24) hx hb dX8_force_14 (by decide) (fun c13 => ?_) (fun c13 => ?_)
  · replace h := ifF h c13
    refine lv_aload_n hx hb dX8_force_24 rfl (lv_at hl 0 rfl) ?_
    refine m_get X w o (shn hs 0 rfl) (shk hs 0 rfl : S.2.1 o = 8) ci8 0 (by decide) (fvR (shk hs 0 rfl : S.2.1 o = 8) rfl (shq hs 0 0 rfl rfl : S.2.2.2.1 o 0 = (o + 1) + 1)) rfl fl_X8_12 dX8_force_25 ?_
    refine m_getN X w (o + 1) (shn hs 1 rfl) (shk hs 1 rfl : S.2.1 (o + 1) = 0) ci0 11 (by decide) (fvI (shk hs 1 rfl : S.2.1 (o + 1) = 0) rfl) rfl nf_X8_194 dX8_force_28 ?_
    refine lv_topi (fun x14 ex14 => ?_)
    replace h := bdi h _ ex14
    refine lv_istore_n (lv' := [(2, .int x14), (0, .ref (ad o)), (1, .int a1)]) hx hb dX8_force_31 rfl hl (by decide) rfl (fun ls hl => ?_)
    refine lv_aload_n hx hb dX8_force_32 rfl (lv_at hl 1 rfl) ?_
    refine m_get X w o (shn hs 0 rfl) (shk hs 0 rfl : S.2.1 o = 8) ci8 0 (by decide) (fvR (shk hs 0 rfl : S.2.1 o = 8) rfl (shq hs 0 0 rfl rfl : S.2.2.2.1 o 0 = (o + 1) + 1)) rfl fl_X8_12 dX8_force_33 ?_
    refine lv_iload_n hx hb dX8_force_36 rfl (lv_at hl 2 rfl) ?_
    refine m_putN X w (o + 1) (shn hs 1 rfl) (shk hs 1 rfl : S.2.1 (o + 1) = 0) ci0 11 (by decide) rfl rfl rfl rfl rfl nf_X8_194 dX8_force_37 (fun V15 H locs eV15 w => ?_)
    replace h := bdi h _ eV15
    refine lv_aload_n hx hb dX8_force_40 rfl (lv_at hl 1 rfl) ?_
    refine lv_iload_n hx hb dX8_force_41 rfl (lv_at hl 0 rfl) ?_
    obtain ⟨r16, V18, q17, h⟩ := obi h
    refine m_ci (m_rV (As := [.int x14]) (rest := []) X w hl mi_X8_granted ml_X8_107 o (shn hs 0 rfl) (shk hs 0 rfl : S.2.1 o = 8) rfl (c_X8_granted l D cy ad A Kc C0 N S V15 o hs x14 r16 V18 q17) ⟨⟨rfl, rfl, Nat.le_of_ble_eq_true rfl, Nat.le_of_ble_eq_true rfl⟩, Nat.le_of_ble_eq_true rfl, Nat.le_of_ble_eq_true rfl⟩ rfl rfl (Nat.le_of_ble_eq_true rfl) dX8_force_42) w (fun H locs w => ?_)
    obtain ⟨rfl, rfl⟩ := reti h
    exact m_ri X w hr hlocks dX8_force_45
  · replace h := ifT h c13
    refine lv_aload_n hx hb dX8_force_17 rfl (lv_at hl 0 rfl) ?_
    refine lv_bipush (v := (-2)) hx hb dX8_force_18 (by decide) ?_
    obtain ⟨r19, V21, q20, h⟩ := obi h
    refine m_ci (m_rV (As := [.int (-2 : Int32)]) (rest := []) X w hl mi_X8_refused ml_X8_97 o (shn hs 0 rfl) (shk hs 0 rfl : S.2.1 o = 8) rfl (c_X8_refused l D cy ad A Kc C0 N S V o hs (-2 : Int32) r19 V21 q20) ⟨⟨rfl, rfl, Nat.le_of_ble_eq_true rfl, Nat.le_of_ble_eq_true rfl⟩, Nat.le_of_ble_eq_true rfl, Nat.le_of_ble_eq_true rfl⟩ rfl rfl (Nat.le_of_ble_eq_true rfl) dX8_force_20) w (fun H locs w => ?_)
    obtain ⟨rfl, rfl⟩ := reti h
    exact m_ri X w hr hlocks dX8_force_23
def f_X8_seen_27 (N : Nat) (S : St) (o : Nat) (V : Vt) : Option (Int32 × Vt) := ob (f_X8_refused N S V o (-1 : Int32)) (fun r23 V25 => some (r23, V25))
def f_X8_seen (N : Nat) (S : St) (V : Vt) (o : Nat) (a1 : Int32) (a2 : Int32) (a3 : Int32) : Option (Int32 × Vt) := ob1 (f_X8_isCell N a1) (fun r20 => if r20 = 0 then f_X8_seen_27 N S o V  else ob1 (f_X8_isWithin N a2 (0 : Int32) (99 : Int32)) (fun r26 => if r26 = 0 then f_X8_seen_27 N S o V  else ob1 (f_X8_isWithin N a3 (0 : Int32) (25 : Int32)) (fun r29 => if r29 = 0 then f_X8_seen_27 N S o V  else if (V.1 (o + 1) 12) < (8 : Int32) then obv (f_X8_putThree N S V (o + 9) (V.1 (o + 1) 12) a1 a2 a3) (fun V35 => bd (sF V35 (o + 1) 12 ((V35.1 (o + 1) 12) + (1 : Int32))) (fun V36 => ob (f_X8_granted N S V36 o (V36.1 (o + 1) 12)) (fun r37 V39 => some (r37, V39)))) else ob (f_X8_refused N S V o (-5 : Int32)) (fun r40 V42 => some (r40, V42)))))
set_option maxHeartbeats 4000000 in
set_option maxRecDepth 100000 in
theorem c_X8_seen (l : Launch) (D : va_G) (cy : Nat → ClassId) (ad : Nat → Nat) (A : Nat → Prop) (Kc : State → Prop) (C0 : Cx ad A Kc) (N : Nat) (S : St) (V : Vt) (o : Nat) (hs : shp S o t8) (a1 : Int32) (a2 : Int32) (a3 : Int32) (r : Int32) (V' : Vt) (h : f_X8_seen N S V o a1 a2 a3 = some (r, V')) : Met l yX8_seen (mw yX8_seen cX8_seen 4 (some .int)) { frames := 1, cells := 0, slots := 0, locals := 24 } (PreM D cy ad Kc S V [.ref (ad o), .int a1, .int a2, .int a3]) (QI D cy ad A r S V') 0 0 A := by
  refine ct_go C0 (own := RX8) rfl (by decide) rfl ?_
  intro p e s m below meth c ls H locs X hr hlocks hnm hl w
  have hx := X.1.1
  have hb := X.1.2.1
  have hown := X.2.1
  have hts := X.2.2.1
  have hl : lv_has ls 4 [(0, .ref (ad o)), (1, .int a1), (2, .int a2), (3, .int a3)] := hl
  obtain ⟨G, hG⟩ : ∃ G : Nat → Vt → List (Nat × Value) → List Value → Prop, G = fun pc V lv st => ∀ (H : Heap) (locs : List Loc) (ls : Array Slot), Wd D cy ad A s.heap S V H locs → lv_has ls 4 lv → W p l e { frames := 1, cells := 0, slots := 0, locals := 24 } s m ([.ref (ad o), .int a1, .int a2, .int a3] : List Value).toArray below meth c H locs 0 0 (MQ below (QI D cy ad A r S V') ([.ref (ad o), .int a1, .int a2, .int a3] : List Value).toArray s 0 0 A) (F0 m pc ls st) := ⟨_, rfl⟩
  have B27 : ∀ (V : Vt), f_X8_seen_27 N S o V  = some (r, V') → G 27 V [(0, .ref (ad o))] [] := by
    intro V  h
    rw [hG]
    intro H locs ls w hl
    rw [f_X8_seen_27] at h
    refine lv_aload_n hx hb dX8_seen_27 rfl (lv_at hl 0 rfl) ?_
    refine lv_iconst (v := (-1)) hx hb dX8_seen_28 (by decide) ?_
    obtain ⟨r23, V25, q24, h⟩ := obi h
    refine m_ci (m_rV (As := [.int (-1 : Int32)]) (rest := []) X w hl mi_X8_refused ml_X8_97 o (shn hs 0 rfl) (shk hs 0 rfl : S.2.1 o = 8) rfl (c_X8_refused l D cy ad A Kc C0 N S V o hs (-1 : Int32) r23 V25 q24) ⟨⟨rfl, rfl, Nat.le_of_ble_eq_true rfl, Nat.le_of_ble_eq_true rfl⟩, Nat.le_of_ble_eq_true rfl, Nat.le_of_ble_eq_true rfl⟩ rfl rfl (Nat.le_of_ble_eq_true rfl) dX8_seen_29) w (fun H locs w => ?_)
    obtain ⟨rfl, rfl⟩ := reti h
    exact m_ri X w hr hlocks dX8_seen_32
  rw [f_X8_seen] at h
  refine lv_iload_n hx hb dX8_seen_0 rfl (lv_at hl 1 rfl) ?_
  obtain ⟨r20, q21, h⟩ := ob1i h
  refine m_ci (m_rS (As := [.int a1]) (rest := []) X w hl mi_X8_isCell ml_X8_89 (c_X8_isCell l D cy ad A Kc C0 N S V a1 r20 q21) ⟨⟨rfl, rfl, Nat.le_of_ble_eq_true rfl, Nat.le_of_ble_eq_true rfl⟩, Nat.le_of_ble_eq_true rfl, Nat.le_of_ble_eq_true rfl⟩ rfl rfl (Nat.le_of_ble_eq_true rfl) dX8_seen_1) w (fun H locs w => ?_)
  refine lv_if_eq (tgt := 27) hx hb dX8_seen_4 (by decide) (fun c22 => ?_) (fun c22 => ?_)
  · replace h := ifT h c22
    have g := B27 V  h
    rw [hG] at g
    exact g H locs ls w (lv_sub hl [0] rfl)
  · replace h := ifF h c22
    refine lv_iload_n hx hb dX8_seen_7 rfl (lv_at hl 2 rfl) ?_
    refine lv_iconst (v := 0) hx hb dX8_seen_8 (by decide) ?_
    refine lv_bipush (v := 99) hx hb dX8_seen_9 (by decide) ?_
    obtain ⟨r26, q27, h⟩ := ob1i h
    refine m_ci (m_rS (As := [.int a2, .int (0 : Int32), .int (99 : Int32)]) (rest := []) X w hl mi_X8_isWithin ml_X8_93 (c_X8_isWithin l D cy ad A Kc C0 N S V a2 (0 : Int32) (99 : Int32) r26 q27) ⟨⟨rfl, rfl, Nat.le_of_ble_eq_true rfl, Nat.le_of_ble_eq_true rfl⟩, Nat.le_of_ble_eq_true rfl, Nat.le_of_ble_eq_true rfl⟩ rfl rfl (Nat.le_of_ble_eq_true rfl) dX8_seen_11) w (fun H locs w => ?_)
    refine lv_if_eq (tgt := 27) hx hb dX8_seen_14 (by decide) (fun c28 => ?_) (fun c28 => ?_)
    · replace h := ifT h c28
      have g := B27 V  h
      rw [hG] at g
      exact g H locs ls w (lv_sub hl [0] rfl)
    · replace h := ifF h c28
      refine lv_iload_n hx hb dX8_seen_17 rfl (lv_at hl 3 rfl) ?_
      refine lv_iconst (v := 0) hx hb dX8_seen_18 (by decide) ?_
      refine lv_bipush (v := 25) hx hb dX8_seen_19 (by decide) ?_
      obtain ⟨r29, q30, h⟩ := ob1i h
      refine m_ci (m_rS (As := [.int a3, .int (0 : Int32), .int (25 : Int32)]) (rest := []) X w hl mi_X8_isWithin ml_X8_93 (c_X8_isWithin l D cy ad A Kc C0 N S V a3 (0 : Int32) (25 : Int32) r29 q30) ⟨⟨rfl, rfl, Nat.le_of_ble_eq_true rfl, Nat.le_of_ble_eq_true rfl⟩, Nat.le_of_ble_eq_true rfl, Nat.le_of_ble_eq_true rfl⟩ rfl rfl (Nat.le_of_ble_eq_true rfl) dX8_seen_21) w (fun H locs w => ?_)
      refine lv_if_ne (tgt := 33) hx hb dX8_seen_24 (by decide) (fun c31 => ?_) (fun c31 => ?_)
      · replace h := ifF h c31
        refine lv_aload_n hx hb dX8_seen_33 rfl (lv_at hl 0 rfl) ?_
        refine m_get X w o (shn hs 0 rfl) (shk hs 0 rfl : S.2.1 o = 8) ci8 0 (by decide) (fvR (shk hs 0 rfl : S.2.1 o = 8) rfl (shq hs 0 0 rfl rfl : S.2.2.2.1 o 0 = (o + 1) + 1)) rfl fl_X8_12 dX8_seen_34 ?_
        refine m_getN X w (o + 1) (shn hs 1 rfl) (shk hs 1 rfl : S.2.1 (o + 1) = 0) ci0 12 (by decide) (fvI (shk hs 1 rfl : S.2.1 (o + 1) = 0) rfl) rfl nf_X8_244 dX8_seen_37 ?_
        refine lv_bipush (v := 8) hx hb dX8_seen_40 (by decide) ?_
        refine lv_icmp_lt (tgt := 52) hx hb dX8_seen_42 (by decide) (fun c32 => ?_) (fun c32 => ?_)
        · replace h := ifT h c32
          refine lv_aload_n hx hb dX8_seen_52 rfl (lv_at hl 0 rfl) ?_
          refine m_get X w o (shn hs 0 rfl) (shk hs 0 rfl : S.2.1 o = 8) ci8 0 (by decide) (fvR (shk hs 0 rfl : S.2.1 o = 8) rfl (shq hs 0 0 rfl rfl : S.2.2.2.1 o 0 = (o + 1) + 1)) rfl fl_X8_12 dX8_seen_53 ?_
          refine m_getN X w (o + 1) (shn hs 1 rfl) (shk hs 1 rfl : S.2.1 (o + 1) = 0) ci0 7 (by decide) (fvR (shk hs 1 rfl : S.2.1 (o + 1) = 0) rfl (shq hs 1 7 rfl rfl : S.2.2.2.1 (o + 1) 7 = (o + 9) + 1)) rfl nf_X8_247 dX8_seen_56 ?_
          refine lv_aload_n hx hb dX8_seen_59 rfl (lv_at hl 0 rfl) ?_
          refine m_get X w o (shn hs 0 rfl) (shk hs 0 rfl : S.2.1 o = 8) ci8 0 (by decide) (fvR (shk hs 0 rfl : S.2.1 o = 8) rfl (shq hs 0 0 rfl rfl : S.2.2.2.1 o 0 = (o + 1) + 1)) rfl fl_X8_12 dX8_seen_60 ?_
          refine m_getN X w (o + 1) (shn hs 1 rfl) (shk hs 1 rfl : S.2.1 (o + 1) = 0) ci0 12 (by decide) (fvI (shk hs 1 rfl : S.2.1 (o + 1) = 0) rfl) rfl nf_X8_244 dX8_seen_63 ?_
          refine lv_iload_n hx hb dX8_seen_66 rfl (lv_at hl 1 rfl) ?_
          refine lv_iload_n hx hb dX8_seen_67 rfl (lv_at hl 2 rfl) ?_
          refine lv_iload_n hx hb dX8_seen_68 rfl (lv_at hl 3 rfl) ?_
          obtain ⟨V35, q34, h⟩ := obvi h
          refine m_cv (m_rS (As := [.ref (ad (o + 9)), .int (V.1 (o + 1) 12), .int a1, .int a2, .int a3]) (rest := []) X w hl mi_X8_putThree ml_X8_250 (c_X8_putThree l D cy ad A Kc C0 N S V (o + 9) ⟨(shn hs 9 rfl), (shk hs 9 rfl : S.2.1 (o + 9) = 11)⟩ (V.1 (o + 1) 12) a1 a2 a3 V35 q34) ⟨⟨rfl, rfl, Nat.le_of_ble_eq_true rfl, Nat.le_of_ble_eq_true rfl⟩, Nat.le_of_ble_eq_true rfl, Nat.le_of_ble_eq_true rfl⟩ rfl rfl (Nat.le_of_ble_eq_true rfl) dX8_seen_69) w (fun H locs w => ?_)
          refine lv_aload_n hx hb dX8_seen_72 rfl (lv_at hl 0 rfl) ?_
          refine m_get X w o (shn hs 0 rfl) (shk hs 0 rfl : S.2.1 o = 8) ci8 0 (by decide) (fvR (shk hs 0 rfl : S.2.1 o = 8) rfl (shq hs 0 0 rfl rfl : S.2.2.2.1 o 0 = (o + 1) + 1)) rfl fl_X8_12 dX8_seen_73 ?_
          refine lv_dup hx hb dX8_seen_76 rfl ?_
          refine m_getN X w (o + 1) (shn hs 1 rfl) (shk hs 1 rfl : S.2.1 (o + 1) = 0) ci0 12 (by decide) (fvI (shk hs 1 rfl : S.2.1 (o + 1) = 0) rfl) rfl nf_X8_244 dX8_seen_77 ?_
          refine lv_iconst (v := 1) hx hb dX8_seen_80 (by decide) ?_
          refine lv_iadd hx hb dX8_seen_81 ?_
          refine m_putN X w (o + 1) (shn hs 1 rfl) (shk hs 1 rfl : S.2.1 (o + 1) = 0) ci0 12 (by decide) rfl rfl rfl rfl rfl nf_X8_244 dX8_seen_82 (fun V36 H locs eV36 w => ?_)
          replace h := bdi h _ eV36
          refine lv_aload_n hx hb dX8_seen_85 rfl (lv_at hl 0 rfl) ?_
          refine lv_aload_n hx hb dX8_seen_86 rfl (lv_at hl 0 rfl) ?_
          refine m_get X w o (shn hs 0 rfl) (shk hs 0 rfl : S.2.1 o = 8) ci8 0 (by decide) (fvR (shk hs 0 rfl : S.2.1 o = 8) rfl (shq hs 0 0 rfl rfl : S.2.2.2.1 o 0 = (o + 1) + 1)) rfl fl_X8_12 dX8_seen_87 ?_
          refine m_getN X w (o + 1) (shn hs 1 rfl) (shk hs 1 rfl : S.2.1 (o + 1) = 0) ci0 12 (by decide) (fvI (shk hs 1 rfl : S.2.1 (o + 1) = 0) rfl) rfl nf_X8_244 dX8_seen_90 ?_
          obtain ⟨r37, V39, q38, h⟩ := obi h
          refine m_ci (m_rV (As := [.int (V36.1 (o + 1) 12)]) (rest := []) X w hl mi_X8_granted ml_X8_107 o (shn hs 0 rfl) (shk hs 0 rfl : S.2.1 o = 8) rfl (c_X8_granted l D cy ad A Kc C0 N S V36 o hs (V36.1 (o + 1) 12) r37 V39 q38) ⟨⟨rfl, rfl, Nat.le_of_ble_eq_true rfl, Nat.le_of_ble_eq_true rfl⟩, Nat.le_of_ble_eq_true rfl, Nat.le_of_ble_eq_true rfl⟩ rfl rfl (Nat.le_of_ble_eq_true rfl) dX8_seen_93) w (fun H locs w => ?_)
          obtain ⟨rfl, rfl⟩ := reti h
          exact m_ri X w hr hlocks dX8_seen_96
        · replace h := ifF h c32
          refine lv_aload_n hx hb dX8_seen_45 rfl (lv_at hl 0 rfl) ?_
          refine lv_bipush (v := (-5)) hx hb dX8_seen_46 (by decide) ?_
          obtain ⟨r40, V42, q41, h⟩ := obi h
          refine m_ci (m_rV (As := [.int (-5 : Int32)]) (rest := []) X w hl mi_X8_refused ml_X8_97 o (shn hs 0 rfl) (shk hs 0 rfl : S.2.1 o = 8) rfl (c_X8_refused l D cy ad A Kc C0 N S V o hs (-5 : Int32) r40 V42 q41) ⟨⟨rfl, rfl, Nat.le_of_ble_eq_true rfl, Nat.le_of_ble_eq_true rfl⟩, Nat.le_of_ble_eq_true rfl, Nat.le_of_ble_eq_true rfl⟩ rfl rfl (Nat.le_of_ble_eq_true rfl) dX8_seen_48) w (fun H locs w => ?_)
          obtain ⟨rfl, rfl⟩ := reti h
          exact m_ri X w hr hlocks dX8_seen_51
      · replace h := ifT h c31
        have g := B27 V  h
        rw [hG] at g
        exact g H locs ls w (lv_sub hl [0] rfl)
