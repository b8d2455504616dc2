def f_X5_readPiece (N : Nat) (S : St) (V : Vt) (o : Nat) (a1 : Int32) : Option (Int32 × Vt) := ck ((((6 : Int32) * ((V.1 o 11) - (1 : Int32))) + (2 : Int32)) + a1) 72 (bd (sA V (o + 4) ((((6 : Int32) * ((V.1 o 11) - (1 : Int32))) + (2 : Int32)) + a1).toNatClampNeg (V.1 o 10)) (fun V10 => ob (g_X5_readSum N S 40 0 V10 o (0 : Int32)) (fun r11 V13 => ob (f_X5_put N S V13 o (0 : Int32) (0 : Int32)) (fun r14 V16 => cb r11 (some (r11, V16))))))
set_option maxHeartbeats 4000000 in
set_option maxRecDepth 100000 in
theorem c_X5_readPiece (l : Launch) (D : va_G) (cy : Nat → ClassId) (ad : Nat → Nat) (A : Nat → Prop) (aK aV : Nat → Nat) (C0 : Cx ad A (KX A aK aV)) (N : Nat) (S : St) (V : Vt) (o : Nat) (hs : shp S o t5) (a1 : Int32) (r : Int32) (V' : Vt) (h : f_X5_readPiece N S V o a1 = some (r, V')) : Met l yX5_readPiece (mw yX5_readPiece cX5_readPiece 3 (some .boolean)) { frames := 47, cells := 0, slots := 0, locals := 2555 } (PreM D cy ad (KX A aK aV) S V [.ref (ad o), .int a1]) (QI D cy ad A r S V') 0 0 A := by
  refine ct_goK C0 (own := RX5) rfl (by decide) rfl ?_
  intro p e s m below meth c ls H locs hKc X hr hlocks hnm hl w
  have hx := X.1.1
  have hb := X.1.2.1
  have hown := X.2.1
  have hts := X.2.2.1
  have hl : lv_has ls 3 [(0, .ref (ad o)), (1, .int a1)] := hl
  rw [f_X5_readPiece] at h
  refine lv_aload_n hx hb dX5_readPiece_0 rfl (lv_at hl 0 rfl) ?_
  refine m_get X w o (shn hs 0 rfl) (shk hs 0 rfl : S.2.1 o = 5) ci5 3 (by decide) (fvR (shk hs 0 rfl : S.2.1 o = 5) rfl (shq hs 0 3 rfl rfl : S.2.2.2.1 o 3 = (o + 4) + 1)) rfl fl_X5_23 dX5_readPiece_1 ?_
  refine lv_bipush (v := 6) hx hb dX5_readPiece_4 (by decide) ?_
  refine lv_aload_n hx hb dX5_readPiece_6 rfl (lv_at hl 0 rfl) ?_
  refine m_get X w o (shn hs 0 rfl) (shk hs 0 rfl : S.2.1 o = 5) ci5 11 (by decide) (fvI (shk hs 0 rfl : S.2.1 o = 5) rfl) rfl fl_X5_50 dX5_readPiece_7 ?_
  refine lv_iconst (v := 1) hx hb dX5_readPiece_10 (by decide) ?_
  refine lv_isub hx hb dX5_readPiece_11 ?_
  refine lv_imul hx hb dX5_readPiece_12 ?_
  refine lv_iconst (v := 2) hx hb dX5_readPiece_13 (by decide) ?_
  refine lv_iadd hx hb dX5_readPiece_14 ?_
  refine lv_iload_n hx hb dX5_readPiece_15 rfl (lv_at hl 1 rfl) ?_
  refine lv_iadd hx hb dX5_readPiece_16 ?_
  refine lv_aload_n hx hb dX5_readPiece_17 rfl (lv_at hl 0 rfl) ?_
  refine m_get X w o (shn hs 0 rfl) (shk hs 0 rfl : S.2.1 o = 5) ci5 10 (by decide) (fvI (shk hs 0 rfl : S.2.1 o = 5) rfl) rfl fl_X5_47 dX5_readPiece_18 ?_
  obtain ⟨g9, h⟩ := cki h
  refine m_iast X w (o + 4) (shn hs 4 rfl) (shk hs 4 rfl : S.2.1 (o + 4) = 11) (shz hs 4 rfl : S.2.2.1 (o + 4) = 72) g9 dX5_readPiece_21 (fun V10 H locs eV10 w => ?_)
  replace h := bdi h _ eV10
  refine lv_aload_n hx hb dX5_readPiece_22 rfl (lv_at hl 0 rfl) ?_
  refine lv_iconst (v := 0) hx hb dX5_readPiece_23 (by decide) ?_
  obtain ⟨r11, V13, q12, h⟩ := obi h
  refine m_ci (m_rV (As := [.int (0 : Int32)]) (rest := []) X w hl mi_X5_readSum ml_X5_112 o (shn hs 0 rfl) (shk hs 0 rfl : S.2.1 o = 5) rfl ((cg_X5_readSum l D cy ad A aK aV C0 N S 40).1 V10 o hs (0 : Int32) r11 V13 q12) ⟨⟨rfl, rfl, Nat.le_of_ble_eq_true rfl, Nat.le_of_ble_eq_true rfl⟩, Nat.le_of_ble_eq_true rfl, Nat.le_of_ble_eq_true rfl⟩ rfl rfl (Nat.le_of_ble_eq_true rfl) dX5_readPiece_24) w (fun H locs w => ?_)
  refine lv_istore_n (lv' := [(2, .int r11), (0, .ref (ad o)), (1, .int a1)]) hx hb dX5_readPiece_27 rfl hl (by decide) rfl (fun ls hl => ?_)
  refine lv_aload_n hx hb dX5_readPiece_28 rfl (lv_at hl 1 rfl) ?_
  refine lv_iconst (v := 0) hx hb dX5_readPiece_29 (by decide) ?_
  refine lv_iconst (v := 0) hx hb dX5_readPiece_30 (by decide) ?_
  obtain ⟨r14, V16, q15, h⟩ := obi h
  refine m_ci (m_rV (As := [.int (0 : Int32), .int (0 : Int32)]) (rest := []) X w hl mi_X5_put ml_X5_117 o (shn hs 0 rfl) (shk hs 0 rfl : S.2.1 o = 5) rfl (c_X5_put l D cy ad A (KX A aK aV) C0 N S V13 o hs (0 : Int32) (0 : Int32) r14 V16 q15) ⟨⟨rfl, rfl, Nat.le_of_ble_eq_true rfl, Nat.le_of_ble_eq_true rfl⟩, Nat.le_of_ble_eq_true rfl, Nat.le_of_ble_eq_true rfl⟩ rfl rfl (Nat.le_of_ble_eq_true rfl) dX5_readPiece_31) w (fun H locs w => ?_)
  refine lv_pop hx hb dX5_readPiece_34 rfl ?_
  refine lv_iload_n hx hb dX5_readPiece_35 rfl (lv_at hl 0 rfl) ?_
  obtain ⟨g17, h⟩ := cbi h
  obtain ⟨rfl, rfl⟩ := reti h
  exact m_rz X w hr (nb01 g17) hlocks dX5_readPiece_36
