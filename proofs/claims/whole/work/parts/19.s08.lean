def f_X5_readCondition (N : Nat) (S : St) (V : Vt) (o : Nat) : Option (Int32 × Vt) := ob1 (f_X5_wordIn N S V o 7) (fun r14 => if r14 = (-1 : Int32) then some ((1 : Int32), V) else obv (f_X5_move N S V o) (fun V19 => ck (((6 : Int32) * ((V19.1 o 11) - (1 : Int32))) + (5 : Int32)) 72 (bd (sA V19 (o + 4) (((6 : Int32) * ((V19.1 o 11) - (1 : Int32))) + (5 : Int32)).toNatClampNeg (V19.1 o 10)) (fun V21 => ob (g_X5_readTest N S 40 0 V21 o (0 : Int32)) (fun r22 V24 => ob (f_X5_put N S V24 o (0 : Int32) (0 : Int32)) (fun r25 V27 => cb r22 (some (r22, V27))))))))
set_option maxHeartbeats 4000000 in
set_option maxRecDepth 100000 in
theorem c_X5_readCondition (l : Launch) (D : va_G) (cy : Nat → ClassId) (ad : Nat → Nat) (A : Nat → Prop) (aK aV : Nat → Nat) (C0 : Cx ad A (KX A aK aV)) (N : Nat) (S : St) (V : Vt) (o : Nat) (hs : shp S o t5) (r : Int32) (V' : Vt) (h : f_X5_readCondition N S V o = some (r, V')) : Met l yX5_readCondition (mw yX5_readCondition cX5_readCondition 2 (some .boolean)) { frames := 88, cells := 0, slots := 0, locals := 4979 } (PreM D cy ad (KX A aK aV) S V [.ref (ad o)]) (QI D cy ad A r S V') 0 0 A := by
  refine ct_goK C0 (own := RX5) rfl (by decide) rfl ?_
  intro p e s m below meth c ls H locs hKc X hr hlocks hnm hl w
  have hx := X.1.1
  have hb := X.1.2.1
  have hown := X.2.1
  have hts := X.2.2.1
  have hl : lv_has ls 2 [(0, .ref (ad o))] := hl
  rw [f_X5_readCondition] at h
  refine lv_aload_n hx hb dX5_readCondition_0 rfl (lv_at hl 0 rfl) ?_
  refine va_ldcS hx hb hown (ks_7 hKc) dX5_readCondition_1 ?_
  obtain ⟨r14, q15, h⟩ := ob1i h
  refine m_ci (m_rV (As := [.ref (aK 7)]) (rest := []) X w hl mi_X5_wordIn ml_X5_86 o (shn hs 0 rfl) (shk hs 0 rfl : S.2.1 o = 5) rfl (c_X5_wordIn l D cy ad A aK aV C0 N S V o hs 7 (Nat.le_of_ble_eq_true rfl) r14 q15) ⟨⟨rfl, rfl, Nat.le_of_ble_eq_true rfl, Nat.le_of_ble_eq_true rfl⟩, Nat.le_of_ble_eq_true rfl, Nat.le_of_ble_eq_true rfl⟩ rfl rfl (Nat.le_of_ble_eq_true rfl) dX5_readCondition_3) w (fun H locs w => ?_)
  refine lv_iconst (v := (-1)) hx hb dX5_readCondition_6 (by decide) ?_
  refine lv_icmp_ne (tgt := 12) hx hb dX5_readCondition_7 (by decide) (fun c16 => ?_) (fun c16 => ?_)
  · replace h := ifF h c16
    refine lv_aload_n hx hb dX5_readCondition_12 rfl (lv_at hl 0 rfl) ?_
    obtain ⟨V19, q18, h⟩ := obvi h
    refine m_cv (m_rV (As := []) (rest := []) X w hl mi_X5_move ml_X5_53 o (shn hs 0 rfl) (shk hs 0 rfl : S.2.1 o = 5) rfl (c_X5_move l D cy ad A (KX A aK aV) C0 N S V o hs V19 q18) ⟨⟨rfl, rfl, Nat.le_of_ble_eq_true rfl, Nat.le_of_ble_eq_true rfl⟩, Nat.le_of_ble_eq_true rfl, Nat.le_of_ble_eq_true rfl⟩ rfl rfl (Nat.le_of_ble_eq_true rfl) dX5_readCondition_13) w (fun H locs w => ?_)
    refine lv_aload_n hx hb dX5_readCondition_16 rfl (lv_at hl 0 rfl) ?_
    refine m_get X w o (shn hs 0 rfl) (shk hs 0 rfl : S.2.1 o = 5) ci5 3 (by decide) (fvR (shk hs 0 rfl : S.2.1 o = 5) rfl (shq hs 0 3 rfl rfl : S.2.2.2.1 o 3 = (o + 4) + 1)) rfl fl_X5_23 dX5_readCondition_17 ?_
    refine lv_bipush (v := 6) hx hb dX5_readCondition_20 (by decide) ?_
    refine lv_aload_n hx hb dX5_readCondition_22 rfl (lv_at hl 0 rfl) ?_
    refine m_get X w o (shn hs 0 rfl) (shk hs 0 rfl : S.2.1 o = 5) ci5 11 (by decide) (fvI (shk hs 0 rfl : S.2.1 o = 5) rfl) rfl fl_X5_50 dX5_readCondition_23 ?_
    refine lv_iconst (v := 1) hx hb dX5_readCondition_26 (by decide) ?_
    refine lv_isub hx hb dX5_readCondition_27 ?_
    refine lv_imul hx hb dX5_readCondition_28 ?_
    refine lv_iconst (v := 5) hx hb dX5_readCondition_29 (by decide) ?_
    refine lv_iadd hx hb dX5_readCondition_30 ?_
    refine lv_aload_n hx hb dX5_readCondition_31 rfl (lv_at hl 0 rfl) ?_
    refine m_get X w o (shn hs 0 rfl) (shk hs 0 rfl : S.2.1 o = 5) ci5 10 (by decide) (fvI (shk hs 0 rfl : S.2.1 o = 5) rfl) rfl fl_X5_47 dX5_readCondition_32 ?_
    obtain ⟨g20, h⟩ := cki h
    refine m_iast X w (o + 4) (shn hs 4 rfl) (shk hs 4 rfl : S.2.1 (o + 4) = 11) (shz hs 4 rfl : S.2.2.1 (o + 4) = 72) g20 dX5_readCondition_35 (fun V21 H locs eV21 w => ?_)
    replace h := bdi h _ eV21
    refine lv_aload_n hx hb dX5_readCondition_36 rfl (lv_at hl 0 rfl) ?_
    refine lv_iconst (v := 0) hx hb dX5_readCondition_37 (by decide) ?_
    obtain ⟨r22, V24, q23, h⟩ := obi h
    refine m_ci (m_rV (As := [.int (0 : Int32)]) (rest := []) X w hl mi_X5_readTest ml_X5_128 o (shn hs 0 rfl) (shk hs 0 rfl : S.2.1 o = 5) rfl ((cg_X5_readTest l D cy ad A aK aV C0 N S 40).1 V21 o hs (0 : Int32) r22 V24 q23) ⟨⟨rfl, rfl, Nat.le_of_ble_eq_true rfl, Nat.le_of_ble_eq_true rfl⟩, Nat.le_of_ble_eq_true rfl, Nat.le_of_ble_eq_true rfl⟩ rfl rfl (Nat.le_of_ble_eq_true rfl) dX5_readCondition_38) w (fun H locs w => ?_)
    refine lv_istore_n (lv' := [(1, .int r22), (0, .ref (ad o))]) hx hb dX5_readCondition_41 rfl hl (by decide) rfl (fun ls hl => ?_)
    refine lv_aload_n hx hb dX5_readCondition_42 rfl (lv_at hl 1 rfl) ?_
    refine lv_iconst (v := 0) hx hb dX5_readCondition_43 (by decide) ?_
    refine lv_iconst (v := 0) hx hb dX5_readCondition_44 (by decide) ?_
    obtain ⟨r25, V27, q26, h⟩ := obi h
    refine m_ci (m_rV (As := [.int (0 : Int32), .int (0 : Int32)]) (rest := []) X w hl mi_X5_put ml_X5_117 o (shn hs 0 rfl) (shk hs 0 rfl : S.2.1 o = 5) rfl (c_X5_put l D cy ad A (KX A aK aV) C0 N S V24 o hs (0 : Int32) (0 : Int32) r25 V27 q26) ⟨⟨rfl, rfl, Nat.le_of_ble_eq_true rfl, Nat.le_of_ble_eq_true rfl⟩, Nat.le_of_ble_eq_true rfl, Nat.le_of_ble_eq_true rfl⟩ rfl rfl (Nat.le_of_ble_eq_true rfl) dX5_readCondition_45) w (fun H locs w => ?_)
    refine lv_pop hx hb dX5_readCondition_48 rfl ?_
    refine lv_iload_n hx hb dX5_readCondition_49 rfl (lv_at hl 0 rfl) ?_
    obtain ⟨g28, h⟩ := cbi h
    obtain ⟨rfl, rfl⟩ := reti h
    exact m_rz X w hr (nb01 g28) hlocks dX5_readCondition_50
  · replace h := ifT h c16
    refine lv_iconst (v := 1) hx hb dX5_readCondition_10 (by decide) ?_
    obtain ⟨rfl, rfl⟩ := reti h
    exact m_rz X w hr rfl hlocks dX5_readCondition_11
def f_X5_readLawClause_41 (N : Nat) (S : St) (o : Nat) (V : Vt) : Option (Int32 × Vt) := ob (f_X5_readCondition N S V o) (fun r26 V28 => cb r26 (some (r26, V28)))
def f_X5_readLawClause_31 (N : Nat) (S : St) (o : Nat) (V : Vt) : Option (Int32 × Vt) := ob (f_X5_readPiece N S V o (0 : Int32)) (fun r22 V24 => if r22 = 0 then some ((0 : Int32), V24) else f_X5_readLawClause_41 N S o V24 )
def f_X5_readLawClause (N : Nat) (S : St) (V : Vt) (o : Nat) : Option (Int32 × Vt) := ob1 (f_X5_wordIn N S V o 0) (fun r15 => if r15 = (-1 : Int32) then ob (f_X5_fails N S V o) (fun r31 V33 => cb r31 (some (r31, V33))) else obv (f_X5_openClause N S V o r15) (fun V20 => if r15 = 0 then f_X5_readLawClause_31 N S o V20  else if r15 = (1 : Int32) then f_X5_readLawClause_31 N S o V20  else f_X5_readLawClause_41 N S o V20 ))
set_option maxHeartbeats 4000000 in
set_option maxRecDepth 100000 in
theorem c_X5_readLawClause (l : Launch) (D : va_G) (cy : Nat → ClassId) (ad : Nat → Nat) (A : Nat → Prop) (aK aV : Nat → Nat) (C0 : Cx ad A (KX A aK aV)) (N : Nat) (S : St) (V : Vt) (o : Nat) (hs : shp S o t5) (r : Int32) (V' : Vt) (h : f_X5_readLawClause N S V o = some (r, V')) : Met l yX5_readLawClause (mw yX5_readLawClause cX5_readLawClause 2 (some .boolean)) { frames := 89, cells := 0, slots := 0, locals := 5000 } (PreM D cy ad (KX A aK aV) S V [.ref (ad o)]) (QI D cy ad A r S V') 0 0 A := by
  refine ct_goK C0 (own := RX5) rfl (by decide) rfl ?_
  intro p e s m below meth c ls H locs hKc X hr hlocks hnm hl w
  have hx := X.1.1
  have hb := X.1.2.1
  have hown := X.2.1
  have hts := X.2.2.1
  have hl : lv_has ls 2 [(0, .ref (ad o))] := hl
  obtain ⟨G, hG⟩ : ∃ G : Nat → Vt → List (Nat × Value) → List Value → Prop, G = fun pc V lv st => ∀ (H : Heap) (locs : List Loc) (ls : Array Slot), Wd D cy ad A s.heap S V H locs → lv_has ls 2 lv → W p l e { frames := 89, cells := 0, slots := 0, locals := 5000 } s m ([.ref (ad o)] : List Value).toArray below meth c H locs 0 0 (MQ below (QI D cy ad A r S V') ([.ref (ad o)] : List Value).toArray s 0 0 A) (F0 m pc ls st) := ⟨_, rfl⟩
  have B41 : ∀ (V : Vt), f_X5_readLawClause_41 N S o V  = some (r, V') → G 41 V [(0, .ref (ad o))] [] := by
    intro V  h
    rw [hG]
    intro H locs ls w hl
    rw [f_X5_readLawClause_41] at h
    refine lv_aload_n hx hb dX5_readLawClause_41 rfl (lv_at hl 0 rfl) ?_
    obtain ⟨r26, V28, q27, h⟩ := obi h
    refine m_ci (m_rV (As := []) (rest := []) X w hl mi_X5_readCondition ml_X5_98 o (shn hs 0 rfl) (shk hs 0 rfl : S.2.1 o = 5) rfl (c_X5_readCondition l D cy ad A aK aV C0 N S V o hs r26 V28 q27) ⟨⟨rfl, rfl, Nat.le_of_ble_eq_true rfl, Nat.le_of_ble_eq_true rfl⟩, Nat.le_of_ble_eq_true rfl, Nat.le_of_ble_eq_true rfl⟩ rfl rfl (Nat.le_of_ble_eq_true rfl) dX5_readLawClause_42) w (fun H locs w => ?_)
    obtain ⟨g29, h⟩ := cbi h
    obtain ⟨rfl, rfl⟩ := reti h
    exact m_rz X w hr (nb01 g29) hlocks dX5_readLawClause_45
  have B31 : ∀ (V : Vt), f_X5_readLawClause_31 N S o V  = some (r, V') → G 31 V [(0, .ref (ad o))] [] := by
    intro V  h
    rw [hG]
    intro H locs ls w hl
    rw [f_X5_readLawClause_31] at h
    refine lv_aload_n hx hb dX5_readLawClause_31 rfl (lv_at hl 0 rfl) ?_
    refine lv_iconst (v := 0) hx hb dX5_readLawClause_32 (by decide) ?_
    obtain ⟨r22, V24, q23, h⟩ := obi h
    refine m_ci (m_rV (As := [.int (0 : Int32)]) (rest := []) X w hl mi_X5_readPiece ml_X5_94 o (shn hs 0 rfl) (shk hs 0 rfl : S.2.1 o = 5) rfl (c_X5_readPiece l D cy ad A aK aV C0 N S V o hs (0 : Int32) r22 V24 q23) ⟨⟨rfl, rfl, Nat.le_of_ble_eq_true rfl, Nat.le_of_ble_eq_true rfl⟩, Nat.le_of_ble_eq_true rfl, Nat.le_of_ble_eq_true rfl⟩ rfl rfl (Nat.le_of_ble_eq_true rfl) dX5_readLawClause_33) w (fun H locs w => ?_)
    refine lv_if_ne (tgt := 41) hx hb dX5_readLawClause_36 (by decide) (fun c25 => ?_) (fun c25 => ?_)
    · replace h := ifF h c25
      have g := B41 V24  h
      rw [hG] at g
      exact g H locs ls w (lv_sub hl [0] rfl)
    · replace h := ifT h c25
      refine lv_iconst (v := 0) hx hb dX5_readLawClause_39 (by decide) ?_
      obtain ⟨rfl, rfl⟩ := reti h
      exact m_rz X w hr rfl hlocks dX5_readLawClause_40
  rw [f_X5_readLawClause] at h
  refine lv_aload_n hx hb dX5_readLawClause_0 rfl (lv_at hl 0 rfl) ?_
  refine va_ldcS hx hb hown (ks_0 hKc) dX5_readLawClause_1 ?_
  obtain ⟨r15, q16, h⟩ := ob1i h
  refine m_ci (m_rV (As := [.ref (aK 0)]) (rest := []) X w hl mi_X5_wordIn ml_X5_86 o (shn hs 0 rfl) (shk hs 0 rfl : S.2.1 o = 5) rfl (c_X5_wordIn l D cy ad A aK aV C0 N S V o hs 0 (Nat.le_of_ble_eq_true rfl) r15 q16) ⟨⟨rfl, rfl, Nat.le_of_ble_eq_true rfl, Nat.le_of_ble_eq_true rfl⟩, Nat.le_of_ble_eq_true rfl, Nat.le_of_ble_eq_true rfl⟩ rfl rfl (Nat.le_of_ble_eq_true rfl) dX5_readLawClause_3) w (fun H locs w => ?_)
  refine lv_istore_n (lv' := [(1, .int r15), (0, .ref (ad o))]) hx hb dX5_readLawClause_6 rfl hl (by decide) rfl (fun ls hl => ?_)
  refine lv_iload_n hx hb dX5_readLawClause_7 rfl (lv_at hl 0 rfl) ?_
  refine lv_iconst (v := (-1)) hx hb dX5_readLawClause_8 (by decide) ?_
  refine lv_icmp_ne (tgt := 17) hx hb dX5_readLawClause_9 (by decide) (fun c17 => ?_) (fun c17 => ?_)
  · replace h := ifF h c17
    refine lv_aload_n hx hb dX5_readLawClause_17 rfl (lv_at hl 1 rfl) ?_
    refine lv_iload_n hx hb dX5_readLawClause_18 rfl (lv_at hl 0 rfl) ?_
    obtain ⟨V20, q19, h⟩ := obvi h
    refine m_cv (m_rV (As := [.int r15]) (rest := []) X w hl mi_X5_openClause ml_X5_90 o (shn hs 0 rfl) (shk hs 0 rfl : S.2.1 o = 5) rfl (c_X5_openClause l D cy ad A (KX A aK aV) C0 N S V o hs r15 V20 q19) ⟨⟨rfl, rfl, Nat.le_of_ble_eq_true rfl, Nat.le_of_ble_eq_true rfl⟩, Nat.le_of_ble_eq_true rfl, Nat.le_of_ble_eq_true rfl⟩ rfl rfl (Nat.le_of_ble_eq_true rfl) dX5_readLawClause_19) w (fun H locs w => ?_)
    refine lv_iload_n hx hb dX5_readLawClause_22 rfl (lv_at hl 0 rfl) ?_
    refine lv_if_eq (tgt := 31) hx hb dX5_readLawClause_23 (by decide) (fun c21 => ?_) (fun c21 => ?_)
    · replace h := ifT h c21
      have g := B31 V20  h
      rw [hG] at g
      exact g H locs ls w (lv_sub hl [1] rfl)
    · replace h := ifF h c21
      refine lv_iload_n hx hb dX5_readLawClause_26 rfl (lv_at hl 0 rfl) ?_
      refine lv_iconst (v := 1) hx hb dX5_readLawClause_27 (by decide) ?_
      refine lv_icmp_ne (tgt := 41) hx hb dX5_readLawClause_28 (by decide) (fun c30 => ?_) (fun c30 => ?_)
      · replace h := ifF h c30
        have g := B41 V20  h
        rw [hG] at g
        exact g H locs ls w (lv_sub hl [1] rfl)
      · replace h := ifT h c30
        have g := B31 V20  h
        rw [hG] at g
        exact g H locs ls w (lv_sub hl [1] rfl)
  · replace h := ifT h c17
    refine lv_aload_n hx hb dX5_readLawClause_12 rfl (lv_at hl 1 rfl) ?_
    obtain ⟨r31, V33, q32, h⟩ := obi h
    refine m_ci (m_rV (As := []) (rest := []) X w hl mi_X5_fails ml_X5_81 o (shn hs 0 rfl) (shk hs 0 rfl : S.2.1 o = 5) rfl (c_X5_fails l D cy ad A (KX A aK aV) C0 N S V o hs r31 V33 q32) ⟨⟨rfl, rfl, Nat.le_of_ble_eq_true rfl, Nat.le_of_ble_eq_true rfl⟩, Nat.le_of_ble_eq_true rfl, Nat.le_of_ble_eq_true rfl⟩ rfl rfl (Nat.le_of_ble_eq_true rfl) dX5_readLawClause_13) w (fun H locs w => ?_)
    obtain ⟨g34, h⟩ := cbi h
    obtain ⟨rfl, rfl⟩ := reti h
    exact m_rz X w hr (nb01 g34) hlocks dX5_readLawClause_16
