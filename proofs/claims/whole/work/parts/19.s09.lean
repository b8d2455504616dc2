def f_X5_readOrderClause_101 (N : Nat) (S : St) (o : Nat) (V : Vt) : Option (Int32 × Vt) := ob (f_X5_readTimes N S V o) (fun r45 V47 => if r45 = 0 then some ((0 : Int32), V47) else ob (f_X5_readCondition N S V47 o) (fun r49 V51 => if r49 = 0 then some ((0 : Int32), V51) else some ((1 : Int32), V51)))
def f_X5_readOrderClause_60 (N : Nat) (S : St) (o : Nat) (V : Vt) (v1 : Int32) : Option (Int32 × Vt) := if v1 = (1 : Int32) then ob (f_X5_readSign N S V o 16) (fun r53 V55 => if r53 = 0 then some ((0 : Int32), V55) else ob (f_X5_readPiece N S V55 o (1 : Int32)) (fun r57 V59 => if r57 = 0 then some ((0 : Int32), V59) else ob (f_X5_readSign N S V59 o 17) (fun r61 V63 => if r61 = 0 then some ((0 : Int32), V63) else ob (f_X5_readPiece N S V63 o (2 : Int32)) (fun r65 V67 => if r65 = 0 then some ((0 : Int32), V67) else f_X5_readOrderClause_101 N S o V67 )))) else f_X5_readOrderClause_101 N S o V 
def f_X5_readOrderClause_37 (N : Nat) (S : St) (o : Nat) (V : Vt) (v1 : Int32) : Option (Int32 × Vt) := if v1 = 0 then ob (f_X5_readSign N S V o 15) (fun r69 V71 => if r69 = 0 then some ((0 : Int32), V71) else ob (f_X5_readPiece N S V71 o (1 : Int32)) (fun r73 V75 => if r73 = 0 then some ((0 : Int32), V75) else f_X5_readOrderClause_60 N S o V75 v1)) else f_X5_readOrderClause_60 N S o V v1
def f_X5_readOrderClause (N : Nat) (S : St) (V : Vt) (o : Nat) : Option (Int32 × Vt) := ob1 (f_X5_wordIn N S V o 14) (fun r36 => if r36 = (-1 : Int32) then ob (f_X5_fails N S V o) (fun r81 V83 => cb r81 (some (r81, V83))) else obv (f_X5_openClause N S V o r36) (fun V41 => if r36 = (3 : Int32) then f_X5_readOrderClause_37 N S o V41 r36 else ob (f_X5_readPiece N S V41 o (0 : Int32)) (fun r77 V79 => if r77 = 0 then some ((0 : Int32), V79) else f_X5_readOrderClause_37 N S o V79 r36)))
set_option maxHeartbeats 4000000 in
set_option maxRecDepth 100000 in
theorem c_X5_readOrderClause (l : Launch) (D : va_G) (cy : Nat → ClassId) (ad : Nat → Nat) (A : Nat → Prop) (aK aV : Nat → Nat) (C0 : Cx ad A (KX A aK aV)) (N : Nat) (S : St) (V : Vt) (o : Nat) (hs : shp S o t5) (r : Int32) (V' : Vt) (h : f_X5_readOrderClause N S V o = some (r, V')) : Met l yX5_readOrderClause (mw yX5_readOrderClause cX5_readOrderClause 2 (some .boolean)) { frames := 89, cells := 0, slots := 0, locals := 5000 } (PreM D cy ad (KX A aK aV) S V [.ref (ad o)]) (QI D cy ad A r S V') 0 0 A := by
  refine ct_goK C0 (own := RX5) rfl (by decide) rfl ?_
  intro p e s m below meth c ls H locs hKc X hr hlocks hnm hl w
  have hx := X.1.1
  have hb := X.1.2.1
  have hown := X.2.1
  have hts := X.2.2.1
  have hl : lv_has ls 2 [(0, .ref (ad o))] := hl
  obtain ⟨G, hG⟩ : ∃ G : Nat → Vt → List (Nat × Value) → List Value → Prop, G = fun pc V lv st => ∀ (H : Heap) (locs : List Loc) (ls : Array Slot), Wd D cy ad A s.heap S V H locs → lv_has ls 2 lv → W p l e { frames := 89, cells := 0, slots := 0, locals := 5000 } s m ([.ref (ad o)] : List Value).toArray below meth c H locs 0 0 (MQ below (QI D cy ad A r S V') ([.ref (ad o)] : List Value).toArray s 0 0 A) (F0 m pc ls st) := ⟨_, rfl⟩
  have B101 : ∀ (V : Vt), f_X5_readOrderClause_101 N S o V  = some (r, V') → G 101 V [(0, .ref (ad o))] [] := by
    intro V  h
    rw [hG]
    intro H locs ls w hl
    rw [f_X5_readOrderClause_101] at h
    refine lv_aload_n hx hb dX5_readOrderClause_101 rfl (lv_at hl 0 rfl) ?_
    obtain ⟨r45, V47, q46, h⟩ := obi h
    refine m_ci (m_rV (As := []) (rest := []) X w hl mi_X5_readTimes ml_X5_109 o (shn hs 0 rfl) (shk hs 0 rfl : S.2.1 o = 5) rfl (c_X5_readTimes l D cy ad A aK aV C0 N S V o hs r45 V47 q46) ⟨⟨rfl, rfl, Nat.le_of_ble_eq_true rfl, Nat.le_of_ble_eq_true rfl⟩, Nat.le_of_ble_eq_true rfl, Nat.le_of_ble_eq_true rfl⟩ rfl rfl (Nat.le_of_ble_eq_true rfl) dX5_readOrderClause_102) w (fun H locs w => ?_)
    refine lv_if_eq (tgt := 119) hx hb dX5_readOrderClause_105 (by decide) (fun c48 => ?_) (fun c48 => ?_)
    · replace h := ifT h c48
      refine lv_iconst (v := 0) hx hb dX5_readOrderClause_119 (by decide) ?_
      obtain ⟨rfl, rfl⟩ := reti h
      exact m_rz X w hr rfl hlocks dX5_readOrderClause_120
    · replace h := ifF h c48
      refine lv_aload_n hx hb dX5_readOrderClause_108 rfl (lv_at hl 0 rfl) ?_
      obtain ⟨r49, V51, q50, h⟩ := obi h
      refine m_ci (m_rV (As := []) (rest := []) X w hl mi_X5_readCondition ml_X5_98 o (shn hs 0 rfl) (shk hs 0 rfl : S.2.1 o = 5) rfl (c_X5_readCondition l D cy ad A aK aV C0 N S V47 o hs r49 V51 q50) ⟨⟨rfl, rfl, Nat.le_of_ble_eq_true rfl, Nat.le_of_ble_eq_true rfl⟩, Nat.le_of_ble_eq_true rfl, Nat.le_of_ble_eq_true rfl⟩ rfl rfl (Nat.le_of_ble_eq_true rfl) dX5_readOrderClause_109) w (fun H locs w => ?_)
      refine lv_if_eq (tgt := 119) hx hb dX5_readOrderClause_112 (by decide) (fun c52 => ?_) (fun c52 => ?_)
      · replace h := ifT h c52
        refine lv_iconst (v := 0) hx hb dX5_readOrderClause_119 (by decide) ?_
        obtain ⟨rfl, rfl⟩ := reti h
        exact m_rz X w hr rfl hlocks dX5_readOrderClause_120
      · replace h := ifF h c52
        refine lv_iconst (v := 1) hx hb dX5_readOrderClause_115 (by decide) ?_
        refine lv_goto (tgt := 120) hx hb dX5_readOrderClause_116 (by decide) ?_
        obtain ⟨rfl, rfl⟩ := reti h
        exact m_rz X w hr rfl hlocks dX5_readOrderClause_120
  have B60 : ∀ (V : Vt) (v1 : Int32), f_X5_readOrderClause_60 N S o V v1 = some (r, V') → G 60 V [(0, .ref (ad o)), (1, .int v1)] [] := by
    intro V v1 h
    rw [hG]
    intro H locs ls w hl
    rw [f_X5_readOrderClause_60] at h
    refine lv_iload_n hx hb dX5_readOrderClause_60 rfl (lv_at hl 1 rfl) ?_
    refine lv_iconst (v := 1) hx hb dX5_readOrderClause_61 (by decide) ?_
    refine lv_icmp_ne (tgt := 101) hx hb dX5_readOrderClause_62 (by decide) (fun c44 => ?_) (fun c44 => ?_)
    · replace h := ifF h c44
      have g := B101 V  h
      rw [hG] at g
      exact g H locs ls w (lv_sub hl [0] rfl)
    · replace h := ifT h c44
      refine lv_aload_n hx hb dX5_readOrderClause_65 rfl (lv_at hl 0 rfl) ?_
      refine va_ldcS hx hb hown (ks_16 hKc) dX5_readOrderClause_66 ?_
      obtain ⟨r53, V55, q54, h⟩ := obi h
      refine m_ci (m_rV (As := [.ref (aK 16)]) (rest := []) X w hl mi_X5_readSign ml_X5_77 o (shn hs 0 rfl) (shk hs 0 rfl : S.2.1 o = 5) rfl (c_X5_readSign l D cy ad A aK aV C0 N S V o hs 16 (Nat.le_of_ble_eq_true rfl) r53 V55 q54) ⟨⟨rfl, rfl, Nat.le_of_ble_eq_true rfl, Nat.le_of_ble_eq_true rfl⟩, Nat.le_of_ble_eq_true rfl, Nat.le_of_ble_eq_true rfl⟩ rfl rfl (Nat.le_of_ble_eq_true rfl) dX5_readOrderClause_68) w (fun H locs w => ?_)
      refine lv_if_eq (tgt := 99) hx hb dX5_readOrderClause_71 (by decide) (fun c56 => ?_) (fun c56 => ?_)
      · replace h := ifT h c56
        refine lv_iconst (v := 0) hx hb dX5_readOrderClause_99 (by decide) ?_
        obtain ⟨rfl, rfl⟩ := reti h
        exact m_rz X w hr rfl hlocks dX5_readOrderClause_100
      · replace h := ifF h c56
        refine lv_aload_n hx hb dX5_readOrderClause_74 rfl (lv_at hl 0 rfl) ?_
        refine lv_iconst (v := 1) hx hb dX5_readOrderClause_75 (by decide) ?_
        obtain ⟨r57, V59, q58, h⟩ := obi h
        refine m_ci (m_rV (As := [.int (1 : Int32)]) (rest := []) X w hl mi_X5_readPiece ml_X5_94 o (shn hs 0 rfl) (shk hs 0 rfl : S.2.1 o = 5) rfl (c_X5_readPiece l D cy ad A aK aV C0 N S V55 o hs (1 : Int32) r57 V59 q58) ⟨⟨rfl, rfl, Nat.le_of_ble_eq_true rfl, Nat.le_of_ble_eq_true rfl⟩, Nat.le_of_ble_eq_true rfl, Nat.le_of_ble_eq_true rfl⟩ rfl rfl (Nat.le_of_ble_eq_true rfl) dX5_readOrderClause_76) w (fun H locs w => ?_)
        refine lv_if_eq (tgt := 99) hx hb dX5_readOrderClause_79 (by decide) (fun c60 => ?_) (fun c60 => ?_)
        · replace h := ifT h c60
          refine lv_iconst (v := 0) hx hb dX5_readOrderClause_99 (by decide) ?_
          obtain ⟨rfl, rfl⟩ := reti h
          exact m_rz X w hr rfl hlocks dX5_readOrderClause_100
        · replace h := ifF h c60
          refine lv_aload_n hx hb dX5_readOrderClause_82 rfl (lv_at hl 0 rfl) ?_
          refine va_ldcS hx hb hown (ks_17 hKc) dX5_readOrderClause_83 ?_
          obtain ⟨r61, V63, q62, h⟩ := obi h
          refine m_ci (m_rV (As := [.ref (aK 17)]) (rest := []) X w hl mi_X5_readSign ml_X5_77 o (shn hs 0 rfl) (shk hs 0 rfl : S.2.1 o = 5) rfl (c_X5_readSign l D cy ad A aK aV C0 N S V59 o hs 17 (Nat.le_of_ble_eq_true rfl) r61 V63 q62) ⟨⟨rfl, rfl, Nat.le_of_ble_eq_true rfl, Nat.le_of_ble_eq_true rfl⟩, Nat.le_of_ble_eq_true rfl, Nat.le_of_ble_eq_true rfl⟩ rfl rfl (Nat.le_of_ble_eq_true rfl) dX5_readOrderClause_85) w (fun H locs w => ?_)
          refine lv_if_eq (tgt := 99) hx hb dX5_readOrderClause_88 (by decide) (fun c64 => ?_) (fun c64 => ?_)
          · replace h := ifT h c64
            refine lv_iconst (v := 0) hx hb dX5_readOrderClause_99 (by decide) ?_
            obtain ⟨rfl, rfl⟩ := reti h
            exact m_rz X w hr rfl hlocks dX5_readOrderClause_100
          · replace h := ifF h c64
            refine lv_aload_n hx hb dX5_readOrderClause_91 rfl (lv_at hl 0 rfl) ?_
            refine lv_iconst (v := 2) hx hb dX5_readOrderClause_92 (by decide) ?_
            obtain ⟨r65, V67, q66, h⟩ := obi h
            refine m_ci (m_rV (As := [.int (2 : Int32)]) (rest := []) X w hl mi_X5_readPiece ml_X5_94 o (shn hs 0 rfl) (shk hs 0 rfl : S.2.1 o = 5) rfl (c_X5_readPiece l D cy ad A aK aV C0 N S V63 o hs (2 : Int32) r65 V67 q66) ⟨⟨rfl, rfl, Nat.le_of_ble_eq_true rfl, Nat.le_of_ble_eq_true rfl⟩, Nat.le_of_ble_eq_true rfl, Nat.le_of_ble_eq_true rfl⟩ rfl rfl (Nat.le_of_ble_eq_true rfl) dX5_readOrderClause_93) w (fun H locs w => ?_)
            refine lv_if_ne (tgt := 101) hx hb dX5_readOrderClause_96 (by decide) (fun c68 => ?_) (fun c68 => ?_)
            · replace h := ifF h c68
              have g := B101 V67  h
              rw [hG] at g
              exact g H locs ls w (lv_sub hl [0] rfl)
            · replace h := ifT h c68
              refine lv_iconst (v := 0) hx hb dX5_readOrderClause_99 (by decide) ?_
              obtain ⟨rfl, rfl⟩ := reti h
              exact m_rz X w hr rfl hlocks dX5_readOrderClause_100
  have B37 : ∀ (V : Vt) (v1 : Int32), f_X5_readOrderClause_37 N S o V v1 = some (r, V') → G 37 V [(0, .ref (ad o)), (1, .int v1)] [] := by
    intro V v1 h
    rw [hG]
    intro H locs ls w hl
    rw [f_X5_readOrderClause_37] at h
    refine lv_iload_n hx hb dX5_readOrderClause_37 rfl (lv_at hl 1 rfl) ?_
    refine lv_if_ne (tgt := 60) hx hb dX5_readOrderClause_38 (by decide) (fun c43 => ?_) (fun c43 => ?_)
    · replace h := ifF h c43
      have g := B60 V v1 h
      rw [hG] at g
      exact g H locs ls w (lv_sub hl [0, 1] rfl)
    · replace h := ifT h c43
      refine lv_aload_n hx hb dX5_readOrderClause_41 rfl (lv_at hl 0 rfl) ?_
      refine va_ldcS hx hb hown (ks_15 hKc) dX5_readOrderClause_42 ?_
      obtain ⟨r69, V71, q70, h⟩ := obi h
      refine m_ci (m_rV (As := [.ref (aK 15)]) (rest := []) X w hl mi_X5_readSign ml_X5_77 o (shn hs 0 rfl) (shk hs 0 rfl : S.2.1 o = 5) rfl (c_X5_readSign l D cy ad A aK aV C0 N S V o hs 15 (Nat.le_of_ble_eq_true rfl) r69 V71 q70) ⟨⟨rfl, rfl, Nat.le_of_ble_eq_true rfl, Nat.le_of_ble_eq_true rfl⟩, Nat.le_of_ble_eq_true rfl, Nat.le_of_ble_eq_true rfl⟩ rfl rfl (Nat.le_of_ble_eq_true rfl) dX5_readOrderClause_44) w (fun H locs w => ?_)
      refine lv_if_eq (tgt := 58) hx hb dX5_readOrderClause_47 (by decide) (fun c72 => ?_) (fun c72 => ?_)
      · replace h := ifT h c72
        refine lv_iconst (v := 0) hx hb dX5_readOrderClause_58 (by decide) ?_
        obtain ⟨rfl, rfl⟩ := reti h
        exact m_rz X w hr rfl hlocks dX5_readOrderClause_59
      · replace h := ifF h c72
        refine lv_aload_n hx hb dX5_readOrderClause_50 rfl (lv_at hl 0 rfl) ?_
        refine lv_iconst (v := 1) hx hb dX5_readOrderClause_51 (by decide) ?_
        obtain ⟨r73, V75, q74, h⟩ := obi h
        refine m_ci (m_rV (As := [.int (1 : Int32)]) (rest := []) X w hl mi_X5_readPiece ml_X5_94 o (shn hs 0 rfl) (shk hs 0 rfl : S.2.1 o = 5) rfl (c_X5_readPiece l D cy ad A aK aV C0 N S V71 o hs (1 : Int32) r73 V75 q74) ⟨⟨rfl, rfl, Nat.le_of_ble_eq_true rfl, Nat.le_of_ble_eq_true rfl⟩, Nat.le_of_ble_eq_true rfl, Nat.le_of_ble_eq_true rfl⟩ rfl rfl (Nat.le_of_ble_eq_true rfl) dX5_readOrderClause_52) w (fun H locs w => ?_)
        refine lv_if_ne (tgt := 60) hx hb dX5_readOrderClause_55 (by decide) (fun c76 => ?_) (fun c76 => ?_)
        · replace h := ifF h c76
          have g := B60 V75 v1 h
          rw [hG] at g
          exact g H locs ls w (lv_sub hl [0, 1] rfl)
        · replace h := ifT h c76
          refine lv_iconst (v := 0) hx hb dX5_readOrderClause_58 (by decide) ?_
          obtain ⟨rfl, rfl⟩ := reti h
          exact m_rz X w hr rfl hlocks dX5_readOrderClause_59
  rw [f_X5_readOrderClause] at h
  refine lv_aload_n hx hb dX5_readOrderClause_0 rfl (lv_at hl 0 rfl) ?_
  refine va_ldcS hx hb hown (ks_14 hKc) dX5_readOrderClause_1 ?_
  obtain ⟨r36, q37, h⟩ := ob1i h
  refine m_ci (m_rV (As := [.ref (aK 14)]) (rest := []) X w hl mi_X5_wordIn ml_X5_86 o (shn hs 0 rfl) (shk hs 0 rfl : S.2.1 o = 5) rfl (c_X5_wordIn l D cy ad A aK aV C0 N S V o hs 14 (Nat.le_of_ble_eq_true rfl) r36 q37) ⟨⟨rfl, rfl, Nat.le_of_ble_eq_true rfl, Nat.le_of_ble_eq_true rfl⟩, Nat.le_of_ble_eq_true rfl, Nat.le_of_ble_eq_true rfl⟩ rfl rfl (Nat.le_of_ble_eq_true rfl) dX5_readOrderClause_3) w (fun H locs w => ?_)
  refine lv_istore_n (lv' := [(1, .int r36), (0, .ref (ad o))]) hx hb dX5_readOrderClause_6 rfl hl (by decide) rfl (fun ls hl => ?_)
  refine lv_iload_n hx hb dX5_readOrderClause_7 rfl (lv_at hl 0 rfl) ?_
  refine lv_iconst (v := (-1)) hx hb dX5_readOrderClause_8 (by decide) ?_
  refine lv_icmp_ne (tgt := 17) hx hb dX5_readOrderClause_9 (by decide) (fun c38 => ?_) (fun c38 => ?_)
  · replace h := ifF h c38
    refine lv_aload_n hx hb dX5_readOrderClause_17 rfl (lv_at hl 1 rfl) ?_
    refine lv_iload_n hx hb dX5_readOrderClause_18 rfl (lv_at hl 0 rfl) ?_
    obtain ⟨V41, q40, h⟩ := obvi h
    refine m_cv (m_rV (As := [.int r36]) (rest := []) X w hl mi_X5_openClause ml_X5_90 o (shn hs 0 rfl) (shk hs 0 rfl : S.2.1 o = 5) rfl (c_X5_openClause l D cy ad A (KX A aK aV) C0 N S V o hs r36 V41 q40) ⟨⟨rfl, rfl, Nat.le_of_ble_eq_true rfl, Nat.le_of_ble_eq_true rfl⟩, Nat.le_of_ble_eq_true rfl, Nat.le_of_ble_eq_true rfl⟩ rfl rfl (Nat.le_of_ble_eq_true rfl) dX5_readOrderClause_19) w (fun H locs w => ?_)
    refine lv_iload_n hx hb dX5_readOrderClause_22 rfl (lv_at hl 0 rfl) ?_
    refine lv_iconst (v := 3) hx hb dX5_readOrderClause_23 (by decide) ?_
    refine lv_icmp_eq (tgt := 37) hx hb dX5_readOrderClause_24 (by decide) (fun c42 => ?_) (fun c42 => ?_)
    · replace h := ifT h c42
      have g := B37 V41 r36 h
      rw [hG] at g
      exact g H locs ls w (lv_sub hl [1, 0] rfl)
    · replace h := ifF h c42
      refine lv_aload_n hx hb dX5_readOrderClause_27 rfl (lv_at hl 1 rfl) ?_
      refine lv_iconst (v := 0) hx hb dX5_readOrderClause_28 (by decide) ?_
      obtain ⟨r77, V79, q78, h⟩ := obi h
      refine m_ci (m_rV (As := [.int (0 : Int32)]) (rest := []) X w hl mi_X5_readPiece ml_X5_94 o (shn hs 0 rfl) (shk hs 0 rfl : S.2.1 o = 5) rfl (c_X5_readPiece l D cy ad A aK aV C0 N S V41 o hs (0 : Int32) r77 V79 q78) ⟨⟨rfl, rfl, Nat.le_of_ble_eq_true rfl, Nat.le_of_ble_eq_true rfl⟩, Nat.le_of_ble_eq_true rfl, Nat.le_of_ble_eq_true rfl⟩ rfl rfl (Nat.le_of_ble_eq_true rfl) dX5_readOrderClause_29) w (fun H locs w => ?_)
      refine lv_if_ne (tgt := 37) hx hb dX5_readOrderClause_32 (by decide) (fun c80 => ?_) (fun c80 => ?_)
      · replace h := ifF h c80
        have g := B37 V79 r36 h
        rw [hG] at g
        exact g H locs ls w (lv_sub hl [1, 0] rfl)
      · replace h := ifT h c80
        refine lv_iconst (v := 0) hx hb dX5_readOrderClause_35 (by decide) ?_
        obtain ⟨rfl, rfl⟩ := reti h
        exact m_rz X w hr rfl hlocks dX5_readOrderClause_36
  · replace h := ifT h c38
    refine lv_aload_n hx hb dX5_readOrderClause_12 rfl (lv_at hl 1 rfl) ?_
    obtain ⟨r81, V83, q82, h⟩ := obi h
    refine m_ci (m_rV (As := []) (rest := []) X w hl mi_X5_fails ml_X5_81 o (shn hs 0 rfl) (shk hs 0 rfl : S.2.1 o = 5) rfl (c_X5_fails l D cy ad A (KX A aK aV) C0 N S V o hs r81 V83 q82) ⟨⟨rfl, rfl, Nat.le_of_ble_eq_true rfl, Nat.le_of_ble_eq_true rfl⟩, Nat.le_of_ble_eq_true rfl, Nat.le_of_ble_eq_true rfl⟩ rfl rfl (Nat.le_of_ble_eq_true rfl) dX5_readOrderClause_13) w (fun H locs w => ?_)
    obtain ⟨g84, h⟩ := cbi h
    obtain ⟨rfl, rfl⟩ := reti h
    exact m_rz X w hr (nb01 g84) hlocks dX5_readOrderClause_16
