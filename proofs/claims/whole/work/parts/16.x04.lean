def f_X8_takeAway (N : Nat) (S : St) (V : Vt) (o : Nat) (a1 : Nat) (a2 : Int32) (a3 : Int32) : Option (Int32 × Vt) := ob1 (f_X8_isCell N a2) (fun r24 => if r24 = 0 then some ((-1 : Int32), V) else ob1 (f_X0_hasClerk N S V a1 a3) (fun r27 => if r27 = 0 then some ((-2 : Int32), V) else ob1 (f_X0_lawInForce N S V a1) (fun r30 => nl r30 (ob (f_X6_lastTold_n N S V (o + 44) a1 (3 : Int32) a2 a3) (fun r34 V36 => if r34 = (-2000000000 : Int32) then ob (f_X6_lastTold_n N S V36 (o + 44) a1 (1 : Int32) a2 a3) (fun r38 V40 => ob1 (f_X8_nearest N r38 (99 : Int32) (10 : Int32)) (fun r41 => ck a2 25 (bd (mnI r41 (V40.2.1 (a1 + 1) a2.toNatClampNeg)) (fun x44 => if (1 : Int32) ≤ x44 then ck a2 25 (ck a2 25 (bd (sA V40 (a1 + 1) a2.toNatClampNeg ((V40.2.1 (a1 + 1) a2.toNatClampNeg) - x44)) (fun V48 => ck a3 5 (ck a3 5 (bd (sA V48 (a1 + 5) a3.toNatClampNeg (mnI (9999 : Int32) ((V48.2.1 (a1 + 5) a3.toNatClampNeg) + x44))) (fun V51 => some (x44, V51))))))) else some ((-3 : Int32), V40))))) else some ((-3 : Int32), V36))) (fun q32 => cg (tshB S q32) (ob (f_X6_lastTold_t N S V (o + 44) a1 q32 (3 : Int32) a2 a3) (fun r52 V54 => if r52 = (-2000000000 : Int32) then ob (f_X6_lastTold_t N S V54 (o + 44) a1 q32 (1 : Int32) a2 a3) (fun r56 V58 => ob1 (f_X8_nearest N r56 (99 : Int32) (10 : Int32)) (fun r59 => ck a2 25 (bd (mnI r59 (V58.2.1 (a1 + 1) a2.toNatClampNeg)) (fun x62 => if (1 : Int32) ≤ x62 then ck a2 25 (ck a2 25 (bd (sA V58 (a1 + 1) a2.toNatClampNeg ((V58.2.1 (a1 + 1) a2.toNatClampNeg) - x62)) (fun V66 => ck a3 5 (ck a3 5 (bd (sA V66 (a1 + 5) a3.toNatClampNeg (mnI (9999 : Int32) ((V66.2.1 (a1 + 5) a3.toNatClampNeg) + x62))) (fun V69 => some (x62, V69))))))) else some ((-3 : Int32), V58))))) else some ((-3 : Int32), V54)))))))
set_option maxHeartbeats 4000000 in
set_option maxRecDepth 100000 in
theorem c_X8_takeAway (l : Launch) (D : va_G) (cy : Nat → ClassId) (ad : Nat → Nat) (A : Nat → Prop) (Kc : State → Prop) (C0 : Cx ad A Kc) (N : Nat) (S : St) (V : Vt) (o : Nat) (hs : shp S o t8) (a1 : Nat) (hs_a1 : shp S a1 t0) (a2 : Int32) (a3 : Int32) (r : Int32) (V' : Vt) (h : f_X8_takeAway N S V o a1 a2 a3 = some (r, V')) : Met l yX8_takeAway (mw yX8_takeAway cX8_takeAway 7 (some .int)) { frames := 3, cells := 0, slots := 0, locals := 82 } (PreM D cy ad Kc S V [.ref (ad o), .ref (ad a1), .int a2, .int a3]) (QI D cy ad A r S V') 0 0 A := by
  refine ct_go C0 (own := RX8) rfl (by decide) rfl ?_
  intro p e s m below meth c ls H locs X hr hlocks hnm hl w
  have hx := X.1.1
  have hb := X.1.2.1
  have hown := X.2.1
  have hts := X.2.2.1
  have hl : lv_has ls 7 [(0, .ref (ad o)), (1, .ref (ad a1)), (2, .int a2), (3, .int a3)] := hl
  rw [f_X8_takeAway] at h
  refine lv_iload_n hx hb dX8_takeAway_0 rfl (lv_at hl 2 rfl) ?_
  obtain ⟨r24, q25, h⟩ := ob1i h
  refine m_ci (m_rS (As := [.int a2]) (rest := []) X w hl mi_X8_isCell ml_X8_89 (c_X8_isCell l D cy ad A Kc C0 N S V a2 r24 q25) ⟨⟨rfl, rfl, Nat.le_of_ble_eq_true rfl, Nat.le_of_ble_eq_true rfl⟩, Nat.le_of_ble_eq_true rfl, Nat.le_of_ble_eq_true rfl⟩ rfl rfl (Nat.le_of_ble_eq_true rfl) dX8_takeAway_1) w (fun H locs w => ?_)
  refine lv_if_ne (tgt := 9) hx hb dX8_takeAway_4 (by decide) (fun c26 => ?_) (fun c26 => ?_)
  · replace h := ifF h c26
    refine lv_aload_n hx hb dX8_takeAway_9 rfl (lv_at hl 1 rfl) ?_
    refine lv_iload_n hx hb dX8_takeAway_10 rfl (lv_at hl 3 rfl) ?_
    obtain ⟨r27, q28, h⟩ := ob1i h
    refine m_ci (m_rV (As := [.int a3]) (rest := []) X w hl mi_X0_hasClerk ml_X8_147 a1 (shn hs_a1 0 rfl) (shk hs_a1 0 rfl : S.2.1 a1 = 0) rfl (c_X0_hasClerk l D cy ad A Kc C0 N S V a1 hs_a1 a3 r27 q28) ⟨⟨rfl, rfl, Nat.le_of_ble_eq_true rfl, Nat.le_of_ble_eq_true rfl⟩, Nat.le_of_ble_eq_true rfl, Nat.le_of_ble_eq_true rfl⟩ rfl rfl (Nat.le_of_ble_eq_true rfl) dX8_takeAway_11) w (fun H locs w => ?_)
    refine lv_if_ne (tgt := 20) hx hb dX8_takeAway_14 (by decide) (fun c29 => ?_) (fun c29 => ?_)
    · replace h := ifF h c29
      refine lv_aload_n hx hb dX8_takeAway_20 rfl (lv_at hl 1 rfl) ?_
      obtain ⟨r30, q31, h⟩ := ob1i h
      refine m_cn (m_rV (As := []) (rest := []) X w hl mi_X0_lawInForce ml_X8_113 a1 (shn hs_a1 0 rfl) (shk hs_a1 0 rfl : S.2.1 a1 = 0) rfl (c_X0_lawInForce l D cy ad A Kc C0 N S V a1 hs_a1 r30 q31) ⟨⟨rfl, rfl, Nat.le_of_ble_eq_true rfl, Nat.le_of_ble_eq_true rfl⟩, Nat.le_of_ble_eq_true rfl, Nat.le_of_ble_eq_true rfl⟩ rfl rfl (Nat.le_of_ble_eq_true rfl) dX8_takeAway_21) w (fun H locs w => ?_)
      cases r30 with
      | zero =>
        replace h := nl0 h
        refine lv_astoreN (lv' := [(4, .null), (0, .ref (ad o)), (1, .ref (ad a1)), (2, .int a2), (3, .int a3)]) hx hb dX8_takeAway_24 hl (by decide) rfl (fun ls hl => ?_)
        refine lv_aload_n hx hb dX8_takeAway_26 rfl (lv_at hl 1 rfl) ?_
        refine m_get X w o (shn hs 0 rfl) (shk hs 0 rfl : S.2.1 o = 8) ci8 9 (by decide) (fvR (shk hs 0 rfl : S.2.1 o = 8) rfl (shq hs 0 9 rfl rfl : S.2.2.2.1 o 9 = (o + 44) + 1)) rfl fl_X8_57 dX8_takeAway_27 ?_
        refine lv_aload_n hx hb dX8_takeAway_30 rfl (lv_at hl 2 rfl) ?_
        refine lv_aloadN hx hb dX8_takeAway_31 (lv_at hl 0 rfl) ?_
        refine lv_iconst (v := 3) hx hb dX8_takeAway_33 (by decide) ?_
        refine lv_iload_n hx hb dX8_takeAway_34 rfl (lv_at hl 3 rfl) ?_
        refine lv_iload_n hx hb dX8_takeAway_35 rfl (lv_at hl 4 rfl) ?_
        obtain ⟨r34, V36, q35, h⟩ := obi h
        refine m_ci (m_rV (As := [.ref (ad a1), .null, .int (3 : Int32), .int a2, .int a3]) (rest := []) X w hl mi_X6_lastTold ml_X8_117 (o + 44) (shn hs 44 rfl) (shk hs 44 rfl : S.2.1 (o + 44) = 6) rfl (c_X6_lastTold_n l D cy ad A Kc C0 N S V (o + 44) (sb_8_44 hs) a1 hs_a1 (3 : Int32) a2 a3 r34 V36 q35) ⟨⟨rfl, rfl, Nat.le_of_ble_eq_true rfl, Nat.le_of_ble_eq_true rfl⟩, Nat.le_of_ble_eq_true rfl, Nat.le_of_ble_eq_true rfl⟩ rfl rfl (Nat.le_of_ble_eq_true rfl) dX8_takeAway_36) w (fun H locs w => ?_)
        refine lv_ldc (v := (-2000000000)) hx hb hown (hts _ kc_X8_125) dX8_takeAway_39 ?_
        refine lv_icmp_eq (tgt := 47) hx hb dX8_takeAway_41 (by decide) (fun c37 => ?_) (fun c37 => ?_)
        · replace h := ifT h c37
          refine lv_aload_n hx hb dX8_takeAway_47 rfl (lv_at hl 1 rfl) ?_
          refine m_get X w o (shn hs 0 rfl) (shk hs 0 rfl : S.2.1 o = 8) ci8 9 (by decide) (fvR (shk hs 0 rfl : S.2.1 o = 8) rfl (shq hs 0 9 rfl rfl : S.2.2.2.1 o 9 = (o + 44) + 1)) rfl fl_X8_57 dX8_takeAway_48 ?_
          refine lv_aload_n hx hb dX8_takeAway_51 rfl (lv_at hl 2 rfl) ?_
          refine lv_aloadN hx hb dX8_takeAway_52 (lv_at hl 0 rfl) ?_
          refine lv_iconst (v := 1) hx hb dX8_takeAway_54 (by decide) ?_
          refine lv_iload_n hx hb dX8_takeAway_55 rfl (lv_at hl 3 rfl) ?_
          refine lv_iload_n hx hb dX8_takeAway_56 rfl (lv_at hl 4 rfl) ?_
          obtain ⟨r38, V40, q39, h⟩ := obi h
          refine m_ci (m_rV (As := [.ref (ad a1), .null, .int (1 : Int32), .int a2, .int a3]) (rest := []) X w hl mi_X6_lastTold ml_X8_117 (o + 44) (shn hs 44 rfl) (shk hs 44 rfl : S.2.1 (o + 44) = 6) rfl (c_X6_lastTold_n l D cy ad A Kc C0 N S V36 (o + 44) (sb_8_44 hs) a1 hs_a1 (1 : Int32) a2 a3 r38 V40 q39) ⟨⟨rfl, rfl, Nat.le_of_ble_eq_true rfl, Nat.le_of_ble_eq_true rfl⟩, Nat.le_of_ble_eq_true rfl, Nat.le_of_ble_eq_true rfl⟩ rfl rfl (Nat.le_of_ble_eq_true rfl) dX8_takeAway_57) w (fun H locs w => ?_)
          refine lv_bipush (v := 99) hx hb dX8_takeAway_60 (by decide) ?_
          refine lv_bipush (v := 10) hx hb dX8_takeAway_62 (by decide) ?_
          obtain ⟨r41, q42, h⟩ := ob1i h
          refine m_ci (m_rS (As := [.int r38, .int (99 : Int32), .int (10 : Int32)]) (rest := []) X w hl mi_X8_nearest ml_X8_121 (c_X8_nearest l D cy ad A Kc C0 N S V40 r38 (99 : Int32) (10 : Int32) r41 q42) ⟨⟨rfl, rfl, Nat.le_of_ble_eq_true rfl, Nat.le_of_ble_eq_true rfl⟩, Nat.le_of_ble_eq_true rfl, Nat.le_of_ble_eq_true rfl⟩ rfl rfl (Nat.le_of_ble_eq_true rfl) dX8_takeAway_64) w (fun H locs w => ?_)
          refine lv_istore (lv' := [(5, .int r41), (4, .null), (0, .ref (ad o)), (1, .ref (ad a1)), (2, .int a2), (3, .int a3)]) hx hb dX8_takeAway_67 hl (by decide) rfl (fun ls hl => ?_)
          refine lv_iload hx hb dX8_takeAway_69 (lv_at hl 0 rfl) ?_
          refine lv_aload_n hx hb dX8_takeAway_71 rfl (lv_at hl 3 rfl) ?_
          refine m_getN X w a1 (shn hs_a1 0 rfl) (shk hs_a1 0 rfl : S.2.1 a1 = 0) ci0 0 (by decide) (fvR (shk hs_a1 0 rfl : S.2.1 a1 = 0) rfl (shq hs_a1 0 0 rfl rfl : S.2.2.2.1 a1 0 = (a1 + 1) + 1)) rfl nf_X8_101 dX8_takeAway_72 ?_
          refine lv_iload_n hx hb dX8_takeAway_75 rfl (lv_at hl 4 rfl) ?_
          obtain ⟨g43, h⟩ := cki h
          refine m_iald X w (a1 + 1) (shn hs_a1 1 rfl) (shk hs_a1 1 rfl : S.2.1 (a1 + 1) = 11) (shz hs_a1 1 rfl : S.2.2.1 (a1 + 1) = 25) g43 dX8_takeAway_76 ?_
          refine m_min (rest := []) X hl ml_X8_304 (Nat.le_of_ble_eq_true rfl) (Nat.le_of_ble_eq_true rfl) (Nat.le_of_ble_eq_true rfl) (Nat.le_of_ble_eq_true rfl) dX8_takeAway_77 ?_
          refine lv_topi (fun x44 ex44 => ?_)
          replace h := bdi h _ ex44
          refine lv_istore (lv' := [(6, .int x44), (5, .int r41), (4, .null), (0, .ref (ad o)), (1, .ref (ad a1)), (2, .int a2), (3, .int a3)]) hx hb dX8_takeAway_80 hl (by decide) rfl (fun ls hl => ?_)
          refine lv_iload hx hb dX8_takeAway_82 (lv_at hl 0 rfl) ?_
          refine lv_iconst (v := 1) hx hb dX8_takeAway_84 (by decide) ?_
          refine lv_icmp_ge (tgt := 91) hx hb dX8_takeAway_85 (by decide) (fun c45 => ?_) (fun c45 => ?_)
          · replace h := ifT h c45
            refine lv_aload_n hx hb dX8_takeAway_91 rfl (lv_at hl 4 rfl) ?_
            refine m_getN X w a1 (shn hs_a1 0 rfl) (shk hs_a1 0 rfl : S.2.1 a1 = 0) ci0 0 (by decide) (fvR (shk hs_a1 0 rfl : S.2.1 a1 = 0) rfl (shq hs_a1 0 0 rfl rfl : S.2.2.2.1 a1 0 = (a1 + 1) + 1)) rfl nf_X8_101 dX8_takeAway_92 ?_
            refine lv_iload_n hx hb dX8_takeAway_95 rfl (lv_at hl 5 rfl) ?_
            refine lv_dup2_11 hx hb dX8_takeAway_96 rfl rfl ?_
            obtain ⟨g46, h⟩ := cki h
            refine m_iald X w (a1 + 1) (shn hs_a1 1 rfl) (shk hs_a1 1 rfl : S.2.1 (a1 + 1) = 11) (shz hs_a1 1 rfl : S.2.2.1 (a1 + 1) = 25) g46 dX8_takeAway_97 ?_
            refine lv_iload hx hb dX8_takeAway_98 (lv_at hl 0 rfl) ?_
            refine lv_isub hx hb dX8_takeAway_100 ?_
            obtain ⟨g47, h⟩ := cki h
            refine m_iast X w (a1 + 1) (shn hs_a1 1 rfl) (shk hs_a1 1 rfl : S.2.1 (a1 + 1) = 11) (shz hs_a1 1 rfl : S.2.2.1 (a1 + 1) = 25) g47 dX8_takeAway_101 (fun V48 H locs eV48 w => ?_)
            replace h := bdi h _ eV48
            refine lv_aload_n hx hb dX8_takeAway_102 rfl (lv_at hl 4 rfl) ?_
            refine m_getN X w a1 (shn hs_a1 0 rfl) (shk hs_a1 0 rfl : S.2.1 a1 = 0) ci0 4 (by decide) (fvR (shk hs_a1 0 rfl : S.2.1 a1 = 0) rfl (shq hs_a1 0 4 rfl rfl : S.2.2.2.1 a1 4 = (a1 + 5) + 1)) rfl nf_X8_144 dX8_takeAway_103 ?_
            refine lv_iload_n hx hb dX8_takeAway_106 rfl (lv_at hl 6 rfl) ?_
            refine lv_sipush (v := 9999) hx hb dX8_takeAway_107 (by decide) ?_
            refine lv_aload_n hx hb dX8_takeAway_110 rfl (lv_at hl 4 rfl) ?_
            refine m_getN X w a1 (shn hs_a1 0 rfl) (shk hs_a1 0 rfl : S.2.1 a1 = 0) ci0 4 (by decide) (fvR (shk hs_a1 0 rfl : S.2.1 a1 = 0) rfl (shq hs_a1 0 4 rfl rfl : S.2.2.2.1 a1 4 = (a1 + 5) + 1)) rfl nf_X8_144 dX8_takeAway_111 ?_
            refine lv_iload_n hx hb dX8_takeAway_114 rfl (lv_at hl 6 rfl) ?_
            obtain ⟨g49, h⟩ := cki h
            refine m_iald X w (a1 + 5) (shn hs_a1 5 rfl) (shk hs_a1 5 rfl : S.2.1 (a1 + 5) = 11) (shz hs_a1 5 rfl : S.2.2.1 (a1 + 5) = 5) g49 dX8_takeAway_115 ?_
            refine lv_iload hx hb dX8_takeAway_116 (lv_at hl 0 rfl) ?_
            refine lv_iadd hx hb dX8_takeAway_118 ?_
            refine m_min (rest := [.int a3, .ref (ad (a1 + 5))]) X hl ml_X8_304 (Nat.le_of_ble_eq_true rfl) (Nat.le_of_ble_eq_true rfl) (Nat.le_of_ble_eq_true rfl) (Nat.le_of_ble_eq_true rfl) dX8_takeAway_119 ?_
            obtain ⟨g50, h⟩ := cki h
            refine m_iast X w (a1 + 5) (shn hs_a1 5 rfl) (shk hs_a1 5 rfl : S.2.1 (a1 + 5) = 11) (shz hs_a1 5 rfl : S.2.2.1 (a1 + 5) = 5) g50 dX8_takeAway_122 (fun V51 H locs eV51 w => ?_)
            replace h := bdi h _ eV51
            refine lv_iload hx hb dX8_takeAway_123 (lv_at hl 0 rfl) ?_
            obtain ⟨rfl, rfl⟩ := reti h
            exact m_ri X w hr hlocks dX8_takeAway_125
          · replace h := ifF h c45
            refine lv_bipush (v := (-3)) hx hb dX8_takeAway_88 (by decide) ?_
            obtain ⟨rfl, rfl⟩ := reti h
            exact m_ri X w hr hlocks dX8_takeAway_90
        · replace h := ifF h c37
          refine lv_bipush (v := (-3)) hx hb dX8_takeAway_44 (by decide) ?_
          obtain ⟨rfl, rfl⟩ := reti h
          exact m_ri X w hr hlocks dX8_takeAway_46
      | succ q32 =>
        replace h := nls h
        obtain ⟨g33, h⟩ := cgi h
        have hs_q32 := tsh_of g33
        refine lv_astore (lv' := [(4, .ref (ad q32)), (0, .ref (ad o)), (1, .ref (ad a1)), (2, .int a2), (3, .int a3)]) hx hb dX8_takeAway_24 hl (by decide) rfl (fun ls hl => ?_)
        refine lv_aload_n hx hb dX8_takeAway_26 rfl (lv_at hl 1 rfl) ?_
        refine m_get X w o (shn hs 0 rfl) (shk hs 0 rfl : S.2.1 o = 8) ci8 9 (by decide) (fvR (shk hs 0 rfl : S.2.1 o = 8) rfl (shq hs 0 9 rfl rfl : S.2.2.2.1 o 9 = (o + 44) + 1)) rfl fl_X8_57 dX8_takeAway_27 ?_
        refine lv_aload_n hx hb dX8_takeAway_30 rfl (lv_at hl 2 rfl) ?_
        refine lv_aload hx hb dX8_takeAway_31 (lv_at hl 0 rfl) ?_
        refine lv_iconst (v := 3) hx hb dX8_takeAway_33 (by decide) ?_
        refine lv_iload_n hx hb dX8_takeAway_34 rfl (lv_at hl 3 rfl) ?_
        refine lv_iload_n hx hb dX8_takeAway_35 rfl (lv_at hl 4 rfl) ?_
        obtain ⟨r52, V54, q53, h⟩ := obi h
        refine m_ci (m_rV (As := [.ref (ad a1), .ref (ad q32), .int (3 : Int32), .int a2, .int a3]) (rest := []) X w hl mi_X6_lastTold ml_X8_117 (o + 44) (shn hs 44 rfl) (shk hs 44 rfl : S.2.1 (o + 44) = 6) rfl (c_X6_lastTold_t l D cy ad A Kc C0 N S V (o + 44) (sb_8_44 hs) a1 hs_a1 q32 hs_q32 (3 : Int32) a2 a3 r52 V54 q53) ⟨⟨rfl, rfl, Nat.le_of_ble_eq_true rfl, Nat.le_of_ble_eq_true rfl⟩, Nat.le_of_ble_eq_true rfl, Nat.le_of_ble_eq_true rfl⟩ rfl rfl (Nat.le_of_ble_eq_true rfl) dX8_takeAway_36) w (fun H locs w => ?_)
        refine lv_ldc (v := (-2000000000)) hx hb hown (hts _ kc_X8_125) dX8_takeAway_39 ?_
        refine lv_icmp_eq (tgt := 47) hx hb dX8_takeAway_41 (by decide) (fun c55 => ?_) (fun c55 => ?_)
        · replace h := ifT h c55
          refine lv_aload_n hx hb dX8_takeAway_47 rfl (lv_at hl 1 rfl) ?_
          refine m_get X w o (shn hs 0 rfl) (shk hs 0 rfl : S.2.1 o = 8) ci8 9 (by decide) (fvR (shk hs 0 rfl : S.2.1 o = 8) rfl (shq hs 0 9 rfl rfl : S.2.2.2.1 o 9 = (o + 44) + 1)) rfl fl_X8_57 dX8_takeAway_48 ?_
          refine lv_aload_n hx hb dX8_takeAway_51 rfl (lv_at hl 2 rfl) ?_
          refine lv_aload hx hb dX8_takeAway_52 (lv_at hl 0 rfl) ?_
          refine lv_iconst (v := 1) hx hb dX8_takeAway_54 (by decide) ?_
          refine lv_iload_n hx hb dX8_takeAway_55 rfl (lv_at hl 3 rfl) ?_
          refine lv_iload_n hx hb dX8_takeAway_56 rfl (lv_at hl 4 rfl) ?_
          obtain ⟨r56, V58, q57, h⟩ := obi h
          refine m_ci (m_rV (As := [.ref (ad a1), .ref (ad q32), .int (1 : Int32), .int a2, .int a3]) (rest := []) X w hl mi_X6_lastTold ml_X8_117 (o + 44) (shn hs 44 rfl) (shk hs 44 rfl : S.2.1 (o + 44) = 6) rfl (c_X6_lastTold_t l D cy ad A Kc C0 N S V54 (o + 44) (sb_8_44 hs) a1 hs_a1 q32 hs_q32 (1 : Int32) a2 a3 r56 V58 q57) ⟨⟨rfl, rfl, Nat.le_of_ble_eq_true rfl, Nat.le_of_ble_eq_true rfl⟩, Nat.le_of_ble_eq_true rfl, Nat.le_of_ble_eq_true rfl⟩ rfl rfl (Nat.le_of_ble_eq_true rfl) dX8_takeAway_57) w (fun H locs w => ?_)
          refine lv_bipush (v := 99) hx hb dX8_takeAway_60 (by decide) ?_
          refine lv_bipush (v := 10) hx hb dX8_takeAway_62 (by decide) ?_
          obtain ⟨r59, q60, h⟩ := ob1i h
          refine m_ci (m_rS (As := [.int r56, .int (99 : Int32), .int (10 : Int32)]) (rest := []) X w hl mi_X8_nearest ml_X8_121 (c_X8_nearest l D cy ad A Kc C0 N S V58 r56 (99 : Int32) (10 : Int32) r59 q60) ⟨⟨rfl, rfl, Nat.le_of_ble_eq_true rfl, Nat.le_of_ble_eq_true rfl⟩, Nat.le_of_ble_eq_true rfl, Nat.le_of_ble_eq_true rfl⟩ rfl rfl (Nat.le_of_ble_eq_true rfl) dX8_takeAway_64) w (fun H locs w => ?_)
          refine lv_istore (lv' := [(5, .int r59), (4, .ref (ad q32)), (0, .ref (ad o)), (1, .ref (ad a1)), (2, .int a2), (3, .int a3)]) hx hb dX8_takeAway_67 hl (by decide) rfl (fun ls hl => ?_)
          refine lv_iload hx hb dX8_takeAway_69 (lv_at hl 0 rfl) ?_
          refine lv_aload_n hx hb dX8_takeAway_71 rfl (lv_at hl 3 rfl) ?_
          refine m_getN X w a1 (shn hs_a1 0 rfl) (shk hs_a1 0 rfl : S.2.1 a1 = 0) ci0 0 (by decide) (fvR (shk hs_a1 0 rfl : S.2.1 a1 = 0) rfl (shq hs_a1 0 0 rfl rfl : S.2.2.2.1 a1 0 = (a1 + 1) + 1)) rfl nf_X8_101 dX8_takeAway_72 ?_
          refine lv_iload_n hx hb dX8_takeAway_75 rfl (lv_at hl 4 rfl) ?_
          obtain ⟨g61, h⟩ := cki h
          refine m_iald X w (a1 + 1) (shn hs_a1 1 rfl) (shk hs_a1 1 rfl : S.2.1 (a1 + 1) = 11) (shz hs_a1 1 rfl : S.2.2.1 (a1 + 1) = 25) g61 dX8_takeAway_76 ?_
          refine m_min (rest := []) X hl ml_X8_304 (Nat.le_of_ble_eq_true rfl) (Nat.le_of_ble_eq_true rfl) (Nat.le_of_ble_eq_true rfl) (Nat.le_of_ble_eq_true rfl) dX8_takeAway_77 ?_
          refine lv_topi (fun x62 ex62 => ?_)
          replace h := bdi h _ ex62
          refine lv_istore (lv' := [(6, .int x62), (5, .int r59), (4, .ref (ad q32)), (0, .ref (ad o)), (1, .ref (ad a1)), (2, .int a2), (3, .int a3)]) hx hb dX8_takeAway_80 hl (by decide) rfl (fun ls hl => ?_)
          refine lv_iload hx hb dX8_takeAway_82 (lv_at hl 0 rfl) ?_
          refine lv_iconst (v := 1) hx hb dX8_takeAway_84 (by decide) ?_
          refine lv_icmp_ge (tgt := 91) hx hb dX8_takeAway_85 (by decide) (fun c63 => ?_) (fun c63 => ?_)
          · replace h := ifT h c63
            refine lv_aload_n hx hb dX8_takeAway_91 rfl (lv_at hl 4 rfl) ?_
            refine m_getN X w a1 (shn hs_a1 0 rfl) (shk hs_a1 0 rfl : S.2.1 a1 = 0) ci0 0 (by decide) (fvR (shk hs_a1 0 rfl : S.2.1 a1 = 0) rfl (shq hs_a1 0 0 rfl rfl : S.2.2.2.1 a1 0 = (a1 + 1) + 1)) rfl nf_X8_101 dX8_takeAway_92 ?_
            refine lv_iload_n hx hb dX8_takeAway_95 rfl (lv_at hl 5 rfl) ?_
            refine lv_dup2_11 hx hb dX8_takeAway_96 rfl rfl ?_
            obtain ⟨g64, h⟩ := cki h
            refine m_iald X w (a1 + 1) (shn hs_a1 1 rfl) (shk hs_a1 1 rfl : S.2.1 (a1 + 1) = 11) (shz hs_a1 1 rfl : S.2.2.1 (a1 + 1) = 25) g64 dX8_takeAway_97 ?_
            refine lv_iload hx hb dX8_takeAway_98 (lv_at hl 0 rfl) ?_
            refine lv_isub hx hb dX8_takeAway_100 ?_
            obtain ⟨g65, h⟩ := cki h
            refine m_iast X w (a1 + 1) (shn hs_a1 1 rfl) (shk hs_a1 1 rfl : S.2.1 (a1 + 1) = 11) (shz hs_a1 1 rfl : S.2.2.1 (a1 + 1) = 25) g65 dX8_takeAway_101 (fun V66 H locs eV66 w => ?_)
            replace h := bdi h _ eV66
            refine lv_aload_n hx hb dX8_takeAway_102 rfl (lv_at hl 4 rfl) ?_
            refine m_getN X w a1 (shn hs_a1 0 rfl) (shk hs_a1 0 rfl : S.2.1 a1 = 0) ci0 4 (by decide) (fvR (shk hs_a1 0 rfl : S.2.1 a1 = 0) rfl (shq hs_a1 0 4 rfl rfl : S.2.2.2.1 a1 4 = (a1 + 5) + 1)) rfl nf_X8_144 dX8_takeAway_103 ?_
            refine lv_iload_n hx hb dX8_takeAway_106 rfl (lv_at hl 6 rfl) ?_
            refine lv_sipush (v := 9999) hx hb dX8_takeAway_107 (by decide) ?_
            refine lv_aload_n hx hb dX8_takeAway_110 rfl (lv_at hl 4 rfl) ?_
            refine m_getN X w a1 (shn hs_a1 0 rfl) (shk hs_a1 0 rfl : S.2.1 a1 = 0) ci0 4 (by decide) (fvR (shk hs_a1 0 rfl : S.2.1 a1 = 0) rfl (shq hs_a1 0 4 rfl rfl : S.2.2.2.1 a1 4 = (a1 + 5) + 1)) rfl nf_X8_144 dX8_takeAway_111 ?_
            refine lv_iload_n hx hb dX8_takeAway_114 rfl (lv_at hl 6 rfl) ?_
            obtain ⟨g67, h⟩ := cki h
            refine m_iald X w (a1 + 5) (shn hs_a1 5 rfl) (shk hs_a1 5 rfl : S.2.1 (a1 + 5) = 11) (shz hs_a1 5 rfl : S.2.2.1 (a1 + 5) = 5) g67 dX8_takeAway_115 ?_
            refine lv_iload hx hb dX8_takeAway_116 (lv_at hl 0 rfl) ?_
            refine lv_iadd hx hb dX8_takeAway_118 ?_
            refine m_min (rest := [.int a3, .ref (ad (a1 + 5))]) X hl ml_X8_304 (Nat.le_of_ble_eq_true rfl) (Nat.le_of_ble_eq_true rfl) (Nat.le_of_ble_eq_true rfl) (Nat.le_of_ble_eq_true rfl) dX8_takeAway_119 ?_
            obtain ⟨g68, h⟩ := cki h
            refine m_iast X w (a1 + 5) (shn hs_a1 5 rfl) (shk hs_a1 5 rfl : S.2.1 (a1 + 5) = 11) (shz hs_a1 5 rfl : S.2.2.1 (a1 + 5) = 5) g68 dX8_takeAway_122 (fun V69 H locs eV69 w => ?_)
            replace h := bdi h _ eV69
            refine lv_iload hx hb dX8_takeAway_123 (lv_at hl 0 rfl) ?_
            obtain ⟨rfl, rfl⟩ := reti h
            exact m_ri X w hr hlocks dX8_takeAway_125
          · replace h := ifF h c63
            refine lv_bipush (v := (-3)) hx hb dX8_takeAway_88 (by decide) ?_
            obtain ⟨rfl, rfl⟩ := reti h
            exact m_ri X w hr hlocks dX8_takeAway_90
        · replace h := ifF h c55
          refine lv_bipush (v := (-3)) hx hb dX8_takeAway_44 (by decide) ?_
          obtain ⟨rfl, rfl⟩ := reti h
          exact m_ri X w hr hlocks dX8_takeAway_46
    · replace h := ifT h c29
      refine lv_bipush (v := (-2)) hx hb dX8_takeAway_17 (by decide) ?_
      obtain ⟨rfl, rfl⟩ := reti h
      exact m_ri X w hr hlocks dX8_takeAway_19
  · replace h := ifT h c26
    refine lv_iconst (v := (-1)) hx hb dX8_takeAway_7 (by decide) ?_
    obtain ⟨rfl, rfl⟩ := reti h
    exact m_ri X w hr hlocks dX8_takeAway_8
def f_X3_learn_n_2 (N : Nat) (S : St) (o : Nat) (a1 : Nat) : Nat → Vt → Int32 → Option Vt
  | 0, _, _ => none
  | n + 1, V, v3 => if (25 : Int32) ≤ v3 then ck (25 : Int32) 26 (bd (sA V (o + 5) (25 : Int32).toNatClampNeg (25 : Int32)) (fun V11 => some V11)) else ob (f_X3_stepFrom_n N S V o a1 v3) (fun r12 V14 => ck v3 26 (bd (sA V14 (o + 5) v3.toNatClampNeg r12) (fun V16 => bd (v3 + (1 : Int32)) (fun x17 => (f_X3_learn_n_2 N S o a1 n) V16 x17))))
def f_X3_learn_n (N : Nat) (S : St) (V : Vt) (o : Nat) (a1 : Nat) : Option Vt := f_X3_learn_n_2 N S o a1 N V (0 : Int32)
set_option maxHeartbeats 4000000 in
set_option maxRecDepth 100000 in
theorem c_X3_learn_n (l : Launch) (D : va_G) (cy : Nat → ClassId) (ad : Nat → Nat) (A : Nat → Prop) (Kc : State → Prop) (C0 : Cx ad A Kc) (N : Nat) (S : St) (V : Vt) (o : Nat) (hs : shp S o t3) (a1 : Nat) (hs_a1 : shp S a1 t0) (V' : Vt) (h : f_X3_learn_n N S V o a1 = some V') : Met l yX3_learn (mw yX3_learn cX3_learn 4 none) { frames := 4, cells := 0, slots := 0, locals := 108 } (PreM D cy ad Kc S V [.ref (ad o), .ref (ad a1), .null]) (QV D cy ad A S V') 0 0 A := by
  refine ct_go C0 (own := RX3) rfl (by decide) rfl ?_
  intro p e s m below meth c ls H locs X hr hlocks hnm hl w
  have hx := X.1.1
  have hb := X.1.2.1
  have hown := X.2.1
  have hts := X.2.2.1
  have hl : lv_has ls 4 [(0, .ref (ad o)), (1, .ref (ad a1)), (2, .null)] := hl
  obtain ⟨G, hG⟩ : ∃ G : Nat → Vt → List (Nat × Value) → List Value → Prop, G = fun pc V lv st => ∀ (H : Heap) (locs : List Loc) (ls : Array Slot), Wd D cy ad A s.heap S V H locs → lv_has ls 4 lv → W p l e { frames := 4, cells := 0, slots := 0, locals := 108 } s m ([.ref (ad o), .ref (ad a1), .null] : List Value).toArray below meth c H locs 0 0 (MQ below (QV D cy ad A S V') ([.ref (ad o), .ref (ad a1), .null] : List Value).toArray s 0 0 A) (F0 m pc ls st) := ⟨_, rfl⟩
  have L2 : ∀ (n2 : Nat) (V : Vt) (v3 : Int32), f_X3_learn_n_2 N S o a1 n2 V v3 = some V' → G 2 V [(0, .ref (ad o)), (1, .ref (ad a1)), (2, .null), (3, .int v3)] [] := by
    intro n2
    induction n2 with
    | zero => intro V v3 h; rw [f_X3_learn_n_2] at h; cases h
    | succ n2 ih2 =>
      intro V v3 h
      rw [hG]
      intro H locs ls w hl
      rw [f_X3_learn_n_2] at h
      refine lv_iload_n hx hb dX3_learn_2 rfl (lv_at hl 3 rfl) ?_
      refine lv_bipush (v := 25) hx hb dX3_learn_3 (by decide) ?_
      refine lv_icmp_ge (tgt := 27) hx hb dX3_learn_5 (by decide) (fun c9 => ?_) (fun c9 => ?_)
      · replace h := ifT h c9
        refine lv_aload_n hx hb dX3_learn_27 rfl (lv_at hl 0 rfl) ?_
        refine m_get X w o (shn hs 0 rfl) (shk hs 0 rfl : S.2.1 o = 3) ci3 1 (by decide) (fvR (shk hs 0 rfl : S.2.1 o = 3) rfl (shq hs 0 1 rfl rfl : S.2.2.2.1 o 1 = (o + 5) + 1)) rfl fl_X3_18 dX3_learn_28 ?_
        refine lv_bipush (v := 25) hx hb dX3_learn_31 (by decide) ?_
        refine lv_bipush (v := 25) hx hb dX3_learn_33 (by decide) ?_
        obtain ⟨g10, h⟩ := cki h
        refine m_iast X w (o + 5) (shn hs 5 rfl) (shk hs 5 rfl : S.2.1 (o + 5) = 11) (shz hs 5 rfl : S.2.2.1 (o + 5) = 26) g10 dX3_learn_35 (fun V11 H locs eV11 w => ?_)
        replace h := bdi h _ eV11
        obtain rfl := Option.some.inj h
        exact m_rv X w hr hlocks dX3_learn_36
      · replace h := ifF h c9
        refine lv_aload_n hx hb dX3_learn_8 rfl (lv_at hl 0 rfl) ?_
        refine m_get X w o (shn hs 0 rfl) (shk hs 0 rfl : S.2.1 o = 3) ci3 1 (by decide) (fvR (shk hs 0 rfl : S.2.1 o = 3) rfl (shq hs 0 1 rfl rfl : S.2.2.2.1 o 1 = (o + 5) + 1)) rfl fl_X3_18 dX3_learn_9 ?_
        refine lv_iload_n hx hb dX3_learn_12 rfl (lv_at hl 3 rfl) ?_
        refine lv_aload_n hx hb dX3_learn_13 rfl (lv_at hl 0 rfl) ?_
        refine lv_aload_n hx hb dX3_learn_14 rfl (lv_at hl 1 rfl) ?_
        refine lv_aload_nN hx hb dX3_learn_15 rfl (lv_at hl 2 rfl) ?_
        refine lv_iload_n hx hb dX3_learn_16 rfl (lv_at hl 3 rfl) ?_
        obtain ⟨r12, V14, q13, h⟩ := obi h
        refine m_ci (m_rV (As := [.ref (ad a1), .null, .int v3]) (rest := [.int v3, .ref (ad (o + 5))]) X w hl mi_X3_stepFrom ml_X3_31 o (shn hs 0 rfl) (shk hs 0 rfl : S.2.1 o = 3) rfl (c_X3_stepFrom_n l D cy ad A Kc C0 N S V o hs a1 hs_a1 v3 r12 V14 q13) ⟨⟨rfl, rfl, Nat.le_of_ble_eq_true rfl, Nat.le_of_ble_eq_true rfl⟩, Nat.le_of_ble_eq_true rfl, Nat.le_of_ble_eq_true rfl⟩ rfl rfl (Nat.le_of_ble_eq_true rfl) dX3_learn_17) w (fun H locs w => ?_)
        obtain ⟨g15, h⟩ := cki h
        refine m_iast X w (o + 5) (shn hs 5 rfl) (shk hs 5 rfl : S.2.1 (o + 5) = 11) (shz hs 5 rfl : S.2.2.1 (o + 5) = 26) g15 dX3_learn_20 (fun V16 H locs eV16 w => ?_)
        replace h := bdi h _ eV16
        obtain ⟨x17, ex17⟩ : ∃ y : Int32, y = v3 + (1 : Int32) := ⟨_, rfl⟩
        replace h := bdi h _ ex17
        refine lv_iinc (v := x17) (lv' := [(3, .int x17), (0, .ref (ad o)), (1, .ref (ad a1)), (2, .null)]) hx hb dX3_learn_21 hl (k := 3) rfl (by rw [ex17]; rfl) (by decide) rfl (fun ls hl => ?_)
        refine lv_goto (tgt := 2) hx hb dX3_learn_24 (by decide) ?_
        have g := ih2 V16 x17 h
        rw [hG] at g
        exact g H locs ls w (lv_sub hl [1, 2, 3, 0] rfl)
  rw [f_X3_learn_n] at h
  refine lv_iconst (v := 0) hx hb dX3_learn_0 (by decide) ?_
  refine lv_istore_n (lv' := [(3, .int (0 : Int32)), (0, .ref (ad o)), (1, .ref (ad a1)), (2, .null)]) hx hb dX3_learn_1 rfl hl (by decide) rfl (fun ls hl => ?_)
  have g := L2 N V (0 : Int32) h
  rw [hG] at g
  exact g H locs ls w (lv_sub hl [1, 2, 3, 0] rfl)
def f_X3_learn_t_2 (N : Nat) (S : St) (o : Nat) (a1 : Nat) (a2 : Nat) : Nat → Vt → Int32 → Option Vt
  | 0, _, _ => none
  | n + 1, V, v3 => if (25 : Int32) ≤ v3 then ck (25 : Int32) 26 (bd (sA V (o + 5) (25 : Int32).toNatClampNeg (25 : Int32)) (fun V11 => some V11)) else ob (f_X3_stepFrom_t N S V o a1 a2 v3) (fun r12 V14 => ck v3 26 (bd (sA V14 (o + 5) v3.toNatClampNeg r12) (fun V16 => bd (v3 + (1 : Int32)) (fun x17 => (f_X3_learn_t_2 N S o a1 a2 n) V16 x17))))
def f_X3_learn_t (N : Nat) (S : St) (V : Vt) (o : Nat) (a1 : Nat) (a2 : Nat) : Option Vt := f_X3_learn_t_2 N S o a1 a2 N V (0 : Int32)
set_option maxHeartbeats 4000000 in
set_option maxRecDepth 100000 in
theorem c_X3_learn_t (l : Launch) (D : va_G) (cy : Nat → ClassId) (ad : Nat → Nat) (A : Nat → Prop) (Kc : State → Prop) (C0 : Cx ad A Kc) (N : Nat) (S : St) (V : Vt) (o : Nat) (hs : shp S o t3) (a1 : Nat) (hs_a1 : shp S a1 t0) (a2 : Nat) (hs_a2 : tsh S a2) (V' : Vt) (h : f_X3_learn_t N S V o a1 a2 = some V') : Met l yX3_learn (mw yX3_learn cX3_learn 4 none) { frames := 4, cells := 0, slots := 0, locals := 108 } (PreM D cy ad Kc S V [.ref (ad o), .ref (ad a1), .ref (ad a2)]) (QV D cy ad A S V') 0 0 A := by
  refine ct_go C0 (own := RX3) rfl (by decide) rfl ?_
  intro p e s m below meth c ls H locs X hr hlocks hnm hl w
  have hx := X.1.1
  have hb := X.1.2.1
  have hown := X.2.1
  have hts := X.2.2.1
  have hl : lv_has ls 4 [(0, .ref (ad o)), (1, .ref (ad a1)), (2, .ref (ad a2))] := hl
  obtain ⟨G, hG⟩ : ∃ G : Nat → Vt → List (Nat × Value) → List Value → Prop, G = fun pc V lv st => ∀ (H : Heap) (locs : List Loc) (ls : Array Slot), Wd D cy ad A s.heap S V H locs → lv_has ls 4 lv → W p l e { frames := 4, cells := 0, slots := 0, locals := 108 } s m ([.ref (ad o), .ref (ad a1), .ref (ad a2)] : List Value).toArray below meth c H locs 0 0 (MQ below (QV D cy ad A S V') ([.ref (ad o), .ref (ad a1), .ref (ad a2)] : List Value).toArray s 0 0 A) (F0 m pc ls st) := ⟨_, rfl⟩
  have L2 : ∀ (n2 : Nat) (V : Vt) (v3 : Int32), f_X3_learn_t_2 N S o a1 a2 n2 V v3 = some V' → G 2 V [(0, .ref (ad o)), (1, .ref (ad a1)), (2, .ref (ad a2)), (3, .int v3)] [] := by
    intro n2
    induction n2 with
    | zero => intro V v3 h; rw [f_X3_learn_t_2] at h; cases h
    | succ n2 ih2 =>
      intro V v3 h
      rw [hG]
      intro H locs ls w hl
      rw [f_X3_learn_t_2] at h
      refine lv_iload_n hx hb dX3_learn_2 rfl (lv_at hl 3 rfl) ?_
      refine lv_bipush (v := 25) hx hb dX3_learn_3 (by decide) ?_
      refine lv_icmp_ge (tgt := 27) hx hb dX3_learn_5 (by decide) (fun c9 => ?_) (fun c9 => ?_)
      · replace h := ifT h c9
        refine lv_aload_n hx hb dX3_learn_27 rfl (lv_at hl 0 rfl) ?_
        refine m_get X w o (shn hs 0 rfl) (shk hs 0 rfl : S.2.1 o = 3) ci3 1 (by decide) (fvR (shk hs 0 rfl : S.2.1 o = 3) rfl (shq hs 0 1 rfl rfl : S.2.2.2.1 o 1 = (o + 5) + 1)) rfl fl_X3_18 dX3_learn_28 ?_
        refine lv_bipush (v := 25) hx hb dX3_learn_31 (by decide) ?_
        refine lv_bipush (v := 25) hx hb dX3_learn_33 (by decide) ?_
        obtain ⟨g10, h⟩ := cki h
        refine m_iast X w (o + 5) (shn hs 5 rfl) (shk hs 5 rfl : S.2.1 (o + 5) = 11) (shz hs 5 rfl : S.2.2.1 (o + 5) = 26) g10 dX3_learn_35 (fun V11 H locs eV11 w => ?_)
        replace h := bdi h _ eV11
        obtain rfl := Option.some.inj h
        exact m_rv X w hr hlocks dX3_learn_36
      · replace h := ifF h c9
        refine lv_aload_n hx hb dX3_learn_8 rfl (lv_at hl 0 rfl) ?_
        refine m_get X w o (shn hs 0 rfl) (shk hs 0 rfl : S.2.1 o = 3) ci3 1 (by decide) (fvR (shk hs 0 rfl : S.2.1 o = 3) rfl (shq hs 0 1 rfl rfl : S.2.2.2.1 o 1 = (o + 5) + 1)) rfl fl_X3_18 dX3_learn_9 ?_
        refine lv_iload_n hx hb dX3_learn_12 rfl (lv_at hl 3 rfl) ?_
        refine lv_aload_n hx hb dX3_learn_13 rfl (lv_at hl 0 rfl) ?_
        refine lv_aload_n hx hb dX3_learn_14 rfl (lv_at hl 1 rfl) ?_
        refine lv_aload_n hx hb dX3_learn_15 rfl (lv_at hl 2 rfl) ?_
        refine lv_iload_n hx hb dX3_learn_16 rfl (lv_at hl 3 rfl) ?_
        obtain ⟨r12, V14, q13, h⟩ := obi h
        refine m_ci (m_rV (As := [.ref (ad a1), .ref (ad a2), .int v3]) (rest := [.int v3, .ref (ad (o + 5))]) X w hl mi_X3_stepFrom ml_X3_31 o (shn hs 0 rfl) (shk hs 0 rfl : S.2.1 o = 3) rfl (c_X3_stepFrom_t l D cy ad A Kc C0 N S V o hs a1 hs_a1 a2 hs_a2 v3 r12 V14 q13) ⟨⟨rfl, rfl, Nat.le_of_ble_eq_true rfl, Nat.le_of_ble_eq_true rfl⟩, Nat.le_of_ble_eq_true rfl, Nat.le_of_ble_eq_true rfl⟩ rfl rfl (Nat.le_of_ble_eq_true rfl) dX3_learn_17) w (fun H locs w => ?_)
        obtain ⟨g15, h⟩ := cki h
        refine m_iast X w (o + 5) (shn hs 5 rfl) (shk hs 5 rfl : S.2.1 (o + 5) = 11) (shz hs 5 rfl : S.2.2.1 (o + 5) = 26) g15 dX3_learn_20 (fun V16 H locs eV16 w => ?_)
        replace h := bdi h _ eV16
        obtain ⟨x17, ex17⟩ : ∃ y : Int32, y = v3 + (1 : Int32) := ⟨_, rfl⟩
        replace h := bdi h _ ex17
        refine lv_iinc (v := x17) (lv' := [(3, .int x17), (0, .ref (ad o)), (1, .ref (ad a1)), (2, .ref (ad a2))]) hx hb dX3_learn_21 hl (k := 3) rfl (by rw [ex17]; rfl) (by decide) rfl (fun ls hl => ?_)
        refine lv_goto (tgt := 2) hx hb dX3_learn_24 (by decide) ?_
        have g := ih2 V16 x17 h
        rw [hG] at g
        exact g H locs ls w (lv_sub hl [1, 2, 3, 0] rfl)
  rw [f_X3_learn_t] at h
  refine lv_iconst (v := 0) hx hb dX3_learn_0 (by decide) ?_
  refine lv_istore_n (lv' := [(3, .int (0 : Int32)), (0, .ref (ad o)), (1, .ref (ad a1)), (2, .ref (ad a2))]) hx hb dX3_learn_1 rfl hl (by decide) rfl (fun ls hl => ?_)
  have g := L2 N V (0 : Int32) h
  rw [hG] at g
  exact g H locs ls w (lv_sub hl [1, 2, 3, 0] rfl)
def f_X8_carryOut_120 (N : Nat) (S : St) (o : Nat) (V : Vt) (v5 : Int32) (v6 : Int32) (s0 : Int32) (s1 : Int32) (s2 : Int32) (s3 : Int32) : Option (Int32 × Vt) := obv (f_X1_keep N S V (o + 32) s3 s2 s1 s0 v5) (fun V27 => some (v6, V27))
def f_X8_carryOut_97 (N : Nat) (S : St) (o : Nat) (V : Vt) (v1 : Int32) (v2 : Int32) (v3 : Int32) (v4 : Int32) (v5 : Int32) (v6 : Int32) : Option (Int32 × Vt) := if v6 < 0 then some (v6, V) else if v1 = 0 then f_X8_carryOut_120 N S o V v5 v6 v6 v3 v2 v1 else f_X8_carryOut_120 N S o V v5 v6 v4 v3 v2 v1
def f_X8_carryOut_16 (N : Nat) (S : St) (o : Nat) (V : Vt) (v1 : Int32) (v2 : Int32) (v3 : Int32) (v4 : Int32) (s0 : Int32) : Option (Int32 × Vt) := if v1 = (0 : Int32) then ob (f_X8_takeAway N S V o (o + 1) v2 v3) (fun r20 V22 => f_X8_carryOut_97 N S o V22 v1 v2 v3 v4 s0 r20) else if v1 = (1 : Int32) then ob (f_X0_moveEntry N S V (o + 1) v2 v3 v4) (fun r29 V31 => f_X8_carryOut_97 N S o V31 v1 v2 v3 v4 s0 r29) else if v1 = (2 : Int32) then ob (f_X0_turnFence N S V (o + 1) v2) (fun r33 V35 => f_X8_carryOut_97 N S o V35 v1 v2 v3 v4 s0 r33) else ob (f_X0_nextDay N S V (o + 1)) (fun r36 V38 => f_X8_carryOut_97 N S o V38 v1 v2 v3 v4 s0 r36)
def f_X8_carryOut (N : Nat) (S : St) (V : Vt) (o : Nat) (a1 : Int32) (a2 : Int32) (a3 : Int32) (a4 : Int32) : Option (Int32 × Vt) := if a1 = 0 then ob1 (f_X0_handOf N S V (o + 1) a3) (fun r39 => f_X8_carryOut_16 N S o V a1 a2 a3 a4 r39) else f_X8_carryOut_16 N S o V a1 a2 a3 a4 (-1 : Int32)
set_option maxHeartbeats 4000000 in
set_option maxRecDepth 100000 in
theorem c_X8_carryOut (l : Launch) (D : va_G) (cy : Nat → ClassId) (ad : Nat → Nat) (A : Nat → Prop) (Kc : State → Prop) (C0 : Cx ad A Kc) (N : Nat) (S : St) (V : Vt) (o : Nat) (hs : shp S o t8) (a1 : Int32) (a2 : Int32) (a3 : Int32) (a4 : Int32) (r : Int32) (V' : Vt) (h : f_X8_carryOut N S V o a1 a2 a3 a4 = some (r, V')) : Met l yX8_carryOut (mw yX8_carryOut cX8_carryOut 7 (some .int)) { frames := 4, cells := 0, slots := 0, locals := 108 } (PreM D cy ad Kc S V [.ref (ad o), .int a1, .int a2, .int a3, .int a4]) (QI D cy ad A r S V') 0 0 A := by
  refine ct_go C0 (own := RX8) rfl (by decide) rfl ?_
  intro p e s m below meth c ls H locs X hr hlocks hnm hl w
  have hx := X.1.1
  have hb := X.1.2.1
  have hown := X.2.1
  have hts := X.2.2.1
  have hl : lv_has ls 7 [(0, .ref (ad o)), (1, .int a1), (2, .int a2), (3, .int a3), (4, .int a4)] := hl
  obtain ⟨G, hG⟩ : ∃ G : Nat → Vt → List (Nat × Value) → List Value → Prop, G = fun pc V lv st => ∀ (H : Heap) (locs : List Loc) (ls : Array Slot), Wd D cy ad A s.heap S V H locs → lv_has ls 7 lv → W p l e { frames := 4, cells := 0, slots := 0, locals := 108 } s m ([.ref (ad o), .int a1, .int a2, .int a3, .int a4] : List Value).toArray below meth c H locs 0 0 (MQ below (QI D cy ad A r S V') ([.ref (ad o), .int a1, .int a2, .int a3, .int a4] : List Value).toArray s 0 0 A) (F0 m pc ls st) := ⟨_, rfl⟩
  have B120 : ∀ (V : Vt) (v5 : Int32) (v6 : Int32) (s0 : Int32) (s1 : Int32) (s2 : Int32) (s3 : Int32), f_X8_carryOut_120 N S o V v5 v6 s0 s1 s2 s3 = some (r, V') → G 120 V [(5, .int v5), (6, .int v6)] [.int s0, .int s1, .int s2, .int s3, .ref (ad (o + 32))] := by
    intro V v5 v6 s0 s1 s2 s3 h
    rw [hG]
    intro H locs ls w hl
    rw [f_X8_carryOut_120] at h
    refine lv_iload hx hb dX8_carryOut_120 (lv_at hl 0 rfl) ?_
    obtain ⟨V27, q26, h⟩ := obvi h
    refine m_cv (m_rV (As := [.int s3, .int s2, .int s1, .int s0, .int v5]) (rest := []) X w hl mi_X1_keep ml_X8_325 (o + 32) (shn hs 32 rfl) (shk hs 32 rfl : S.2.1 (o + 32) = 1) rfl (c_X1_keep l D cy ad A Kc C0 N S V (o + 32) (sb_8_32 hs) s3 s2 s1 s0 v5 V27 q26) ⟨⟨rfl, rfl, Nat.le_of_ble_eq_true rfl, Nat.le_of_ble_eq_true rfl⟩, Nat.le_of_ble_eq_true rfl, Nat.le_of_ble_eq_true rfl⟩ rfl rfl (Nat.le_of_ble_eq_true rfl) dX8_carryOut_122) w (fun H locs w => ?_)
    refine lv_iload hx hb dX8_carryOut_125 (lv_at hl 1 rfl) ?_
    obtain ⟨rfl, rfl⟩ := reti h
    exact m_ri X w hr hlocks dX8_carryOut_127
  have B97 : ∀ (V : Vt) (v1 : Int32) (v2 : Int32) (v3 : Int32) (v4 : Int32) (v5 : Int32) (v6 : Int32), f_X8_carryOut_97 N S o V v1 v2 v3 v4 v5 v6 = some (r, V') → G 97 V [(0, .ref (ad o)), (1, .int v1), (2, .int v2), (3, .int v3), (4, .int v4), (5, .int v5), (6, .int v6)] [] := by
    intro V v1 v2 v3 v4 v5 v6 h
    rw [hG]
    intro H locs ls w hl
    rw [f_X8_carryOut_97] at h
    refine lv_iload hx hb dX8_carryOut_97 (lv_at hl 6 rfl) ?_
    refine lv_if_lt (tgt := 125) hx hb dX8_carryOut_99 (by decide) (fun c23 => ?_) (fun c23 => ?_)
    · replace h := ifT h c23
      refine lv_iload hx hb dX8_carryOut_125 (lv_at hl 6 rfl) ?_
      obtain ⟨rfl, rfl⟩ := reti h
      exact m_ri X w hr hlocks dX8_carryOut_127
    · replace h := ifF h c23
      refine lv_aload_n hx hb dX8_carryOut_102 rfl (lv_at hl 0 rfl) ?_
      refine m_get X w o (shn hs 0 rfl) (shk hs 0 rfl : S.2.1 o = 8) ci8 4 (by decide) (fvR (shk hs 0 rfl : S.2.1 o = 8) rfl (shq hs 0 4 rfl rfl : S.2.2.2.1 o 4 = (o + 32) + 1)) rfl fl_X8_29 dX8_carryOut_103 ?_
      refine lv_iload_n hx hb dX8_carryOut_106 rfl (lv_at hl 1 rfl) ?_
      refine lv_iload_n hx hb dX8_carryOut_107 rfl (lv_at hl 2 rfl) ?_
      refine lv_iload_n hx hb dX8_carryOut_108 rfl (lv_at hl 3 rfl) ?_
      refine lv_iload_n hx hb dX8_carryOut_109 rfl (lv_at hl 1 rfl) ?_
      refine lv_if_ne (tgt := 118) hx hb dX8_carryOut_110 (by decide) (fun c24 => ?_) (fun c24 => ?_)
      · replace h := ifF h c24
        refine lv_iload hx hb dX8_carryOut_118 (lv_at hl 4 rfl) ?_
        have g := B120 V v5 v6 v4 v3 v2 v1 h
        rw [hG] at g
        exact g H locs ls w (lv_sub hl [5, 6] rfl)
      · replace h := ifT h c24
        refine lv_iload hx hb dX8_carryOut_113 (lv_at hl 6 rfl) ?_
        refine lv_goto (tgt := 120) hx hb dX8_carryOut_115 (by decide) ?_
        have g := B120 V v5 v6 v6 v3 v2 v1 h
        rw [hG] at g
        exact g H locs ls w (lv_sub hl [5, 6] rfl)
  have B16 : ∀ (V : Vt) (v1 : Int32) (v2 : Int32) (v3 : Int32) (v4 : Int32) (s0 : Int32), f_X8_carryOut_16 N S o V v1 v2 v3 v4 s0 = some (r, V') → G 16 V [(0, .ref (ad o)), (1, .int v1), (2, .int v2), (3, .int v3), (4, .int v4)] [.int s0] := by
    intro V v1 v2 v3 v4 s0 h
    rw [hG]
    intro H locs ls w hl
    rw [f_X8_carryOut_16] at h
    refine lv_istore (lv' := [(5, .int s0), (0, .ref (ad o)), (1, .int v1), (2, .int v2), (3, .int v3), (4, .int v4)]) hx hb dX8_carryOut_16 hl (by decide) rfl (fun ls hl => ?_)
    refine lv_iload_n hx hb dX8_carryOut_18 rfl (lv_at hl 2 rfl) ?_
    rcases Decidable.em (v1 = (0 : Int32)) with c19 | c19
    · replace h := ifT h c19
      refine lv_tableIn (tgt := 44) hx hb dX8_carryOut_19 (by rw [c19]; decide) (by rw [c19]; decide) (by rw [c19]; rfl) (by decide) ?_
      refine lv_aload_n hx hb dX8_carryOut_44 rfl (lv_at hl 1 rfl) ?_
      refine lv_aload_n hx hb dX8_carryOut_45 rfl (lv_at hl 1 rfl) ?_
      refine m_get X w o (shn hs 0 rfl) (shk hs 0 rfl : S.2.1 o = 8) ci8 0 (by decide) (fvR (shk hs 0 rfl : S.2.1 o = 8) rfl (shq hs 0 0 rfl rfl : S.2.2.2.1 o 0 = (o + 1) + 1)) rfl fl_X8_12 dX8_carryOut_46 ?_
      refine lv_iload_n hx hb dX8_carryOut_49 rfl (lv_at hl 3 rfl) ?_
      refine lv_iload_n hx hb dX8_carryOut_50 rfl (lv_at hl 4 rfl) ?_
      obtain ⟨r20, V22, q21, h⟩ := obi h
      refine m_ci (m_rV (As := [.ref (ad (o + 1)), .int v2, .int v3]) (rest := []) X w hl mi_X8_takeAway ml_X8_312 o (shn hs 0 rfl) (shk hs 0 rfl : S.2.1 o = 8) rfl (c_X8_takeAway l D cy ad A Kc C0 N S V o hs (o + 1) (sb_8_1 hs) v2 v3 r20 V22 q21) ⟨⟨rfl, rfl, Nat.le_of_ble_eq_true rfl, Nat.le_of_ble_eq_true rfl⟩, Nat.le_of_ble_eq_true rfl, Nat.le_of_ble_eq_true rfl⟩ rfl rfl (Nat.le_of_ble_eq_true rfl) dX8_carryOut_51) w (fun H locs w => ?_)
      refine lv_istore (lv' := [(6, .int r20), (5, .int s0), (0, .ref (ad o)), (1, .int v1), (2, .int v2), (3, .int v3), (4, .int v4)]) hx hb dX8_carryOut_54 hl (by decide) rfl (fun ls hl => ?_)
      refine lv_goto (tgt := 97) hx hb dX8_carryOut_56 (by decide) ?_
      have g := B97 V22 v1 v2 v3 v4 s0 r20 h
      rw [hG] at g
      exact g H locs ls w (lv_sub hl [2, 3, 4, 5, 6, 1, 0] rfl)
    · replace h := ifF h c19
      rcases Decidable.em (v1 = (1 : Int32)) with c28 | c28
      · replace h := ifT h c28
        refine lv_tableIn (tgt := 59) hx hb dX8_carryOut_19 (by rw [c28]; decide) (by rw [c28]; decide) (by rw [c28]; rfl) (by decide) ?_
        refine lv_aload_n hx hb dX8_carryOut_59 rfl (lv_at hl 1 rfl) ?_
        refine m_get X w o (shn hs 0 rfl) (shk hs 0 rfl : S.2.1 o = 8) ci8 0 (by decide) (fvR (shk hs 0 rfl : S.2.1 o = 8) rfl (shq hs 0 0 rfl rfl : S.2.2.2.1 o 0 = (o + 1) + 1)) rfl fl_X8_12 dX8_carryOut_60 ?_
        refine lv_iload_n hx hb dX8_carryOut_63 rfl (lv_at hl 3 rfl) ?_
        refine lv_iload_n hx hb dX8_carryOut_64 rfl (lv_at hl 4 rfl) ?_
        refine lv_iload hx hb dX8_carryOut_65 (lv_at hl 5 rfl) ?_
        obtain ⟨r29, V31, q30, h⟩ := obi h
        refine m_ci (m_rV (As := [.int v2, .int v3, .int v4]) (rest := []) X w hl mi_X0_moveEntry ml_X8_316 (o + 1) (shn hs 1 rfl) (shk hs 1 rfl : S.2.1 (o + 1) = 0) rfl (c_X0_moveEntry l D cy ad A Kc C0 N S V (o + 1) (sb_8_1 hs) v2 v3 v4 r29 V31 q30) ⟨⟨rfl, rfl, Nat.le_of_ble_eq_true rfl, Nat.le_of_ble_eq_true rfl⟩, Nat.le_of_ble_eq_true rfl, Nat.le_of_ble_eq_true rfl⟩ rfl rfl (Nat.le_of_ble_eq_true rfl) dX8_carryOut_67) w (fun H locs w => ?_)
        refine lv_istore (lv' := [(6, .int r29), (5, .int s0), (0, .ref (ad o)), (1, .int v1), (2, .int v2), (3, .int v3), (4, .int v4)]) hx hb dX8_carryOut_70 hl (by decide) rfl (fun ls hl => ?_)
        refine lv_goto (tgt := 97) hx hb dX8_carryOut_72 (by decide) ?_
        have g := B97 V31 v1 v2 v3 v4 s0 r29 h
        rw [hG] at g
        exact g H locs ls w (lv_sub hl [2, 3, 4, 5, 6, 1, 0] rfl)
      · replace h := ifF h c28
        rcases Decidable.em (v1 = (2 : Int32)) with c32 | c32
        · replace h := ifT h c32
          refine lv_tableIn (tgt := 75) hx hb dX8_carryOut_19 (by rw [c32]; decide) (by rw [c32]; decide) (by rw [c32]; rfl) (by decide) ?_
          refine lv_aload_n hx hb dX8_carryOut_75 rfl (lv_at hl 1 rfl) ?_
          refine m_get X w o (shn hs 0 rfl) (shk hs 0 rfl : S.2.1 o = 8) ci8 0 (by decide) (fvR (shk hs 0 rfl : S.2.1 o = 8) rfl (shq hs 0 0 rfl rfl : S.2.2.2.1 o 0 = (o + 1) + 1)) rfl fl_X8_12 dX8_carryOut_76 ?_
          refine lv_iload_n hx hb dX8_carryOut_79 rfl (lv_at hl 3 rfl) ?_
          obtain ⟨r33, V35, q34, h⟩ := obi h
          refine m_ci (m_rV (As := [.int v2]) (rest := []) X w hl mi_X0_turnFence ml_X8_319 (o + 1) (shn hs 1 rfl) (shk hs 1 rfl : S.2.1 (o + 1) = 0) rfl (c_X0_turnFence l D cy ad A Kc C0 N S V (o + 1) (sb_8_1 hs) v2 r33 V35 q34) ⟨⟨rfl, rfl, Nat.le_of_ble_eq_true rfl, Nat.le_of_ble_eq_true rfl⟩, Nat.le_of_ble_eq_true rfl, Nat.le_of_ble_eq_true rfl⟩ rfl rfl (Nat.le_of_ble_eq_true rfl) dX8_carryOut_80) w (fun H locs w => ?_)
          refine lv_istore (lv' := [(6, .int r33), (5, .int s0), (0, .ref (ad o)), (1, .int v1), (2, .int v2), (3, .int v3), (4, .int v4)]) hx hb dX8_carryOut_83 hl (by decide) rfl (fun ls hl => ?_)
          refine lv_goto (tgt := 97) hx hb dX8_carryOut_85 (by decide) ?_
          have g := B97 V35 v1 v2 v3 v4 s0 r33 h
          rw [hG] at g
          exact g H locs ls w (lv_sub hl [2, 3, 4, 5, 6, 1, 0] rfl)
        · replace h := ifF h c32
          refine lv_tableOut (tgt := 88) hx hb dX8_carryOut_19 (sw_out [(0 : Int32), (1 : Int32), (2 : Int32)] (by decide) (by intro q hq; simp only [List.mem_cons, List.not_mem_nil, or_false] at hq; rcases hq with rfl | rfl | rfl <;> assumption)) (by decide) ?_
          refine lv_aload_n hx hb dX8_carryOut_88 rfl (lv_at hl 1 rfl) ?_
          refine m_get X w o (shn hs 0 rfl) (shk hs 0 rfl : S.2.1 o = 8) ci8 0 (by decide) (fvR (shk hs 0 rfl : S.2.1 o = 8) rfl (shq hs 0 0 rfl rfl : S.2.2.2.1 o 0 = (o + 1) + 1)) rfl fl_X8_12 dX8_carryOut_89 ?_
          obtain ⟨r36, V38, q37, h⟩ := obi h
          refine m_ci (m_rV (As := []) (rest := []) X w hl mi_X0_nextDay ml_X8_322 (o + 1) (shn hs 1 rfl) (shk hs 1 rfl : S.2.1 (o + 1) = 0) rfl (c_X0_nextDay l D cy ad A Kc C0 N S V (o + 1) (sb_8_1 hs) r36 V38 q37) ⟨⟨rfl, rfl, Nat.le_of_ble_eq_true rfl, Nat.le_of_ble_eq_true rfl⟩, Nat.le_of_ble_eq_true rfl, Nat.le_of_ble_eq_true rfl⟩ rfl rfl (Nat.le_of_ble_eq_true rfl) dX8_carryOut_92) w (fun H locs w => ?_)
          refine lv_istore (lv' := [(6, .int r36), (5, .int s0), (0, .ref (ad o)), (1, .int v1), (2, .int v2), (3, .int v3), (4, .int v4)]) hx hb dX8_carryOut_95 hl (by decide) rfl (fun ls hl => ?_)
          have g := B97 V38 v1 v2 v3 v4 s0 r36 h
          rw [hG] at g
          exact g H locs ls w (lv_sub hl [2, 3, 4, 5, 6, 1, 0] rfl)
  rw [f_X8_carryOut] at h
  refine lv_iload_n hx hb dX8_carryOut_0 rfl (lv_at hl 1 rfl) ?_
  refine lv_if_ne (tgt := 15) hx hb dX8_carryOut_1 (by decide) (fun c18 => ?_) (fun c18 => ?_)
  · replace h := ifF h c18
    refine lv_iconst (v := (-1)) hx hb dX8_carryOut_15 (by decide) ?_
    have g := B16 V a1 a2 a3 a4 (-1 : Int32) h
    rw [hG] at g
    exact g H locs ls w (lv_sub hl [0, 1, 2, 3, 4] rfl)
  · replace h := ifT h c18
    refine lv_aload_n hx hb dX8_carryOut_4 rfl (lv_at hl 0 rfl) ?_
    refine m_get X w o (shn hs 0 rfl) (shk hs 0 rfl : S.2.1 o = 8) ci8 0 (by decide) (fvR (shk hs 0 rfl : S.2.1 o = 8) rfl (shq hs 0 0 rfl rfl : S.2.2.2.1 o 0 = (o + 1) + 1)) rfl fl_X8_12 dX8_carryOut_5 ?_
    refine lv_iload_n hx hb dX8_carryOut_8 rfl (lv_at hl 3 rfl) ?_
    obtain ⟨r39, q40, h⟩ := ob1i h
    refine m_ci (m_rV (As := [.int a3]) (rest := []) X w hl mi_X0_handOf ml_X8_150 (o + 1) (shn hs 1 rfl) (shk hs 1 rfl : S.2.1 (o + 1) = 0) rfl (c_X0_handOf l D cy ad A Kc C0 N S V (o + 1) (sb_8_1 hs) a3 r39 q40) ⟨⟨rfl, rfl, Nat.le_of_ble_eq_true rfl, Nat.le_of_ble_eq_true rfl⟩, Nat.le_of_ble_eq_true rfl, Nat.le_of_ble_eq_true rfl⟩ rfl rfl (Nat.le_of_ble_eq_true rfl) dX8_carryOut_9) w (fun H locs w => ?_)
    refine lv_goto (tgt := 16) hx hb dX8_carryOut_12 (by decide) ?_
    have g := B16 V a1 a2 a3 a4 r39 h
    rw [hG] at g
    exact g H locs ls w (lv_sub hl [0, 1, 2, 3, 4] rfl)
def f_X8_runWeeks_8 (N : Nat) (S : St) (o : Nat) : Nat → Vt → Int32 → Int32 → Int32 → Int32 → Option (Int32 × Vt)
  | 0, _, _, _, _, _ => none
  | n + 1, V, v2, v3, v4, v5 => if v2 ≤ v5 then some (v4, V) else ck (0 : Int32) 3 (if (999 : Int32) ≤ (V.2.1 (o + 28) (0 : Int32).toNatClampNeg) then some (v4, V) else ob1 (f_X8_drawAfter N v3) (fun r19 => cz (mxI (1 : Int32) (V.1 (o + 22) 9)) (bd (r19 - r19 / (mxI (1 : Int32) (V.1 (o + 22) 9)) * (mxI (1 : Int32) (V.1 (o + 22) 9))) (fun x22 => ob1 (f_X8_drawAfter N r19) (fun r23 => ob (f_X8_takeAway N S V o (o + 22) (r23 - r23 / (25 : Int32) * (25 : Int32)) x22) (fun r25 V27 => bd (v4 + (mxI (0 : Int32) r25)) (fun x28 => ck (0 : Int32) 3 (ck (0 : Int32) 3 (bd (sA V27 (o + 28) (0 : Int32).toNatClampNeg ((V27.2.1 (o + 28) (0 : Int32).toNatClampNeg) + (1 : Int32))) (fun V31 => bd (v5 + (1 : Int32)) (fun x32 => (f_X8_runWeeks_8 N S o n) V31 v2 r23 x28 x32)))))))))))
def f_X8_runWeeks (N : Nat) (S : St) (V : Vt) (o : Nat) (a1 : Int32) (a2 : Int32) : Option (Int32 × Vt) := f_X8_runWeeks_8 N S o N V a2 a1 (0 : Int32) (0 : Int32)
set_option maxHeartbeats 4000000 in
set_option maxRecDepth 100000 in
theorem c_X8_runWeeks (l : Launch) (D : va_G) (cy : Nat → ClassId) (ad : Nat → Nat) (A : Nat → Prop) (Kc : State → Prop) (C0 : Cx ad A Kc) (N : Nat) (S : St) (V : Vt) (o : Nat) (hs : shp S o t8) (a1 : Int32) (a2 : Int32) (r : Int32) (V' : Vt) (h : f_X8_runWeeks N S V o a1 a2 = some (r, V')) : Met l yX8_runWeeks (mw yX8_runWeeks cX8_runWeeks 7 (some .int)) { frames := 4, cells := 0, slots := 0, locals := 108 } (PreM D cy ad Kc S V [.ref (ad o), .int a1, .int a2]) (QI D cy ad A r S V') 0 0 A := by
  refine ct_go C0 (own := RX8) rfl (by decide) rfl ?_
  intro p e s m below meth c ls H locs X hr hlocks hnm hl w
  have hx := X.1.1
  have hb := X.1.2.1
  have hown := X.2.1
  have hts := X.2.2.1
  have hl : lv_has ls 7 [(0, .ref (ad o)), (1, .int a1), (2, .int a2)] := hl
  obtain ⟨G, hG⟩ : ∃ G : Nat → Vt → List (Nat × Value) → List Value → Prop, G = fun pc V lv st => ∀ (H : Heap) (locs : List Loc) (ls : Array Slot), Wd D cy ad A s.heap S V H locs → lv_has ls 7 lv → W p l e { frames := 4, cells := 0, slots := 0, locals := 108 } s m ([.ref (ad o), .int a1, .int a2] : List Value).toArray below meth c H locs 0 0 (MQ below (QI D cy ad A r S V') ([.ref (ad o), .int a1, .int a2] : List Value).toArray s 0 0 A) (F0 m pc ls st) := ⟨_, rfl⟩
  have L8 : ∀ (n8 : Nat) (V : Vt) (v2 : Int32) (v3 : Int32) (v4 : Int32) (v5 : Int32), f_X8_runWeeks_8 N S o n8 V v2 v3 v4 v5 = some (r, V') → G 8 V [(0, .ref (ad o)), (2, .int v2), (3, .int v3), (4, .int v4), (5, .int v5)] [] := by
    intro n8
    induction n8 with
    | zero => intro V v2 v3 v4 v5 h; rw [f_X8_runWeeks_8] at h; cases h
    | succ n8 ih8 =>
      intro V v2 v3 v4 v5 h
      rw [hG]
      intro H locs ls w hl
      rw [f_X8_runWeeks_8] at h
      refine lv_iload hx hb dX8_runWeeks_8 (lv_at hl 4 rfl) ?_
      refine lv_iload_n hx hb dX8_runWeeks_10 rfl (lv_at hl 1 rfl) ?_
      refine lv_icmp_ge (tgt := 96) hx hb dX8_runWeeks_11 (by decide) (fun c16 => ?_) (fun c16 => ?_)
      · replace h := ifT h c16
        refine lv_iload hx hb dX8_runWeeks_96 (lv_at hl 3 rfl) ?_
        obtain ⟨rfl, rfl⟩ := reti h
        exact m_ri X w hr hlocks dX8_runWeeks_98
      · replace h := ifF h c16
        refine lv_aload_n hx hb dX8_runWeeks_14 rfl (lv_at hl 0 rfl) ?_
        refine m_get X w o (shn hs 0 rfl) (shk hs 0 rfl : S.2.1 o = 8) ci8 3 (by decide) (fvR (shk hs 0 rfl : S.2.1 o = 8) rfl (shq hs 0 3 rfl rfl : S.2.2.2.1 o 3 = (o + 22) + 1)) rfl fl_X8_23 dX8_runWeeks_15 ?_
        refine m_getN X w (o + 22) (shn hs 22 rfl) (shk hs 22 rfl : S.2.1 (o + 22) = 0) ci0 5 (by decide) (fvR (shk hs 22 rfl : S.2.1 (o + 22) = 0) rfl (shq hs 22 5 rfl rfl : S.2.2.2.1 (o + 22) 5 = (o + 28) + 1)) rfl nf_X8_156 dX8_runWeeks_18 ?_
        refine lv_iconst (v := 0) hx hb dX8_runWeeks_21 (by decide) ?_
        obtain ⟨g17, h⟩ := cki h
        refine m_iald X w (o + 28) (shn hs 28 rfl) (shk hs 28 rfl : S.2.1 (o + 28) = 11) (shz hs 28 rfl : S.2.2.1 (o + 28) = 3) g17 dX8_runWeeks_22 ?_
        refine lv_sipush (v := 999) hx hb dX8_runWeeks_23 (by decide) ?_
        refine lv_icmp_ge (tgt := 96) hx hb dX8_runWeeks_26 (by decide) (fun c18 => ?_) (fun c18 => ?_)
        · replace h := ifT h c18
          refine lv_iload hx hb dX8_runWeeks_96 (lv_at hl 3 rfl) ?_
          obtain ⟨rfl, rfl⟩ := reti h
          exact m_ri X w hr hlocks dX8_runWeeks_98
        · replace h := ifF h c18
          refine lv_iload_n hx hb dX8_runWeeks_29 rfl (lv_at hl 2 rfl) ?_
          obtain ⟨r19, q20, h⟩ := ob1i h
          refine m_ci (m_rS (As := [.int v3]) (rest := []) X w hl mi_X8_drawAfter ml_X8_362 (c_X8_drawAfter l D cy ad A Kc C0 N S V v3 r19 q20) ⟨⟨rfl, rfl, Nat.le_of_ble_eq_true rfl, Nat.le_of_ble_eq_true rfl⟩, Nat.le_of_ble_eq_true rfl, Nat.le_of_ble_eq_true rfl⟩ rfl rfl (Nat.le_of_ble_eq_true rfl) dX8_runWeeks_30) w (fun H locs w => ?_)
          refine lv_istore_n (lv' := [(3, .int r19), (0, .ref (ad o)), (2, .int v2), (4, .int v4), (5, .int v5)]) hx hb dX8_runWeeks_33 rfl hl (by decide) rfl (fun ls hl => ?_)
          refine lv_iload_n hx hb dX8_runWeeks_34 rfl (lv_at hl 0 rfl) ?_
          refine lv_iconst (v := 1) hx hb dX8_runWeeks_35 (by decide) ?_
          refine lv_aload_n hx hb dX8_runWeeks_36 rfl (lv_at hl 1 rfl) ?_
          refine m_get X w o (shn hs 0 rfl) (shk hs 0 rfl : S.2.1 o = 8) ci8 3 (by decide) (fvR (shk hs 0 rfl : S.2.1 o = 8) rfl (shq hs 0 3 rfl rfl : S.2.2.2.1 o 3 = (o + 22) + 1)) rfl fl_X8_23 dX8_runWeeks_37 ?_
          refine m_getN X w (o + 22) (shn hs 22 rfl) (shk hs 22 rfl : S.2.1 (o + 22) = 0) ci0 9 (by decide) (fvI (shk hs 22 rfl : S.2.1 (o + 22) = 0) rfl) rfl nf_X8_138 dX8_runWeeks_40 ?_
          refine m_max (rest := [.int r19]) X hl ml_X8_309 (Nat.le_of_ble_eq_true rfl) (Nat.le_of_ble_eq_true rfl) (Nat.le_of_ble_eq_true rfl) (Nat.le_of_ble_eq_true rfl) dX8_runWeeks_43 ?_
          obtain ⟨g21, h⟩ := czi h
          refine lv_irem hx hb dX8_runWeeks_46 g21 ?_
          refine lv_topi (fun x22 ex22 => ?_)
          replace h := bdi h _ ex22
          refine lv_istore (lv' := [(6, .int x22), (3, .int r19), (0, .ref (ad o)), (2, .int v2), (4, .int v4), (5, .int v5)]) hx hb dX8_runWeeks_47 hl (by decide) rfl (fun ls hl => ?_)
          refine lv_iload_n hx hb dX8_runWeeks_49 rfl (lv_at hl 1 rfl) ?_
          obtain ⟨r23, q24, h⟩ := ob1i h
          refine m_ci (m_rS (As := [.int r19]) (rest := []) X w hl mi_X8_drawAfter ml_X8_362 (c_X8_drawAfter l D cy ad A Kc C0 N S V r19 r23 q24) ⟨⟨rfl, rfl, Nat.le_of_ble_eq_true rfl, Nat.le_of_ble_eq_true rfl⟩, Nat.le_of_ble_eq_true rfl, Nat.le_of_ble_eq_true rfl⟩ rfl rfl (Nat.le_of_ble_eq_true rfl) dX8_runWeeks_50) w (fun H locs w => ?_)
          refine lv_istore_n (lv' := [(3, .int r23), (6, .int x22), (0, .ref (ad o)), (2, .int v2), (4, .int v4), (5, .int v5)]) hx hb dX8_runWeeks_53 rfl hl (by decide) rfl (fun ls hl => ?_)
          refine lv_iload hx hb dX8_runWeeks_54 (lv_at hl 4 rfl) ?_
          refine lv_iconst (v := 0) hx hb dX8_runWeeks_56 (by decide) ?_
          refine lv_aload_n hx hb dX8_runWeeks_57 rfl (lv_at hl 2 rfl) ?_
          refine lv_aload_n hx hb dX8_runWeeks_58 rfl (lv_at hl 2 rfl) ?_
          refine m_get X w o (shn hs 0 rfl) (shk hs 0 rfl : S.2.1 o = 8) ci8 3 (by decide) (fvR (shk hs 0 rfl : S.2.1 o = 8) rfl (shq hs 0 3 rfl rfl : S.2.2.2.1 o 3 = (o + 22) + 1)) rfl fl_X8_23 dX8_runWeeks_59 ?_
          refine lv_iload_n hx hb dX8_runWeeks_62 rfl (lv_at hl 0 rfl) ?_
          refine lv_bipush (v := 25) hx hb dX8_runWeeks_63 (by decide) ?_
          refine lv_irem hx hb dX8_runWeeks_65 (by decide) ?_
          refine lv_iload hx hb dX8_runWeeks_66 (lv_at hl 1 rfl) ?_
          obtain ⟨r25, V27, q26, h⟩ := obi h
          refine m_ci (m_rV (As := [.ref (ad (o + 22)), .int (r23 - r23 / (25 : Int32) * (25 : Int32)), .int x22]) (rest := [.int (0 : Int32), .int v4]) X w hl mi_X8_takeAway ml_X8_312 o (shn hs 0 rfl) (shk hs 0 rfl : S.2.1 o = 8) rfl (c_X8_takeAway l D cy ad A Kc C0 N S V o hs (o + 22) (sb_8_22 hs) (r23 - r23 / (25 : Int32) * (25 : Int32)) x22 r25 V27 q26) ⟨⟨rfl, rfl, Nat.le_of_ble_eq_true rfl, Nat.le_of_ble_eq_true rfl⟩, Nat.le_of_ble_eq_true rfl, Nat.le_of_ble_eq_true rfl⟩ rfl rfl (Nat.le_of_ble_eq_true rfl) dX8_runWeeks_68) w (fun H locs w => ?_)
          refine m_max (rest := [.int v4]) X hl ml_X8_309 (Nat.le_of_ble_eq_true rfl) (Nat.le_of_ble_eq_true rfl) (Nat.le_of_ble_eq_true rfl) (Nat.le_of_ble_eq_true rfl) dX8_runWeeks_71 ?_
          refine lv_iadd hx hb dX8_runWeeks_74 ?_
          refine lv_topi (fun x28 ex28 => ?_)
          replace h := bdi h _ ex28
          refine lv_istore (lv' := [(4, .int x28), (3, .int r23), (6, .int x22), (0, .ref (ad o)), (2, .int v2), (5, .int v5)]) hx hb dX8_runWeeks_75 hl (by decide) rfl (fun ls hl => ?_)
          refine lv_aload_n hx hb dX8_runWeeks_77 rfl (lv_at hl 3 rfl) ?_
          refine m_get X w o (shn hs 0 rfl) (shk hs 0 rfl : S.2.1 o = 8) ci8 3 (by decide) (fvR (shk hs 0 rfl : S.2.1 o = 8) rfl (shq hs 0 3 rfl rfl : S.2.2.2.1 o 3 = (o + 22) + 1)) rfl fl_X8_23 dX8_runWeeks_78 ?_
          refine m_getN X w (o + 22) (shn hs 22 rfl) (shk hs 22 rfl : S.2.1 (o + 22) = 0) ci0 5 (by decide) (fvR (shk hs 22 rfl : S.2.1 (o + 22) = 0) rfl (shq hs 22 5 rfl rfl : S.2.2.2.1 (o + 22) 5 = (o + 28) + 1)) rfl nf_X8_156 dX8_runWeeks_81 ?_
          refine lv_iconst (v := 0) hx hb dX8_runWeeks_84 (by decide) ?_
          refine lv_dup2_11 hx hb dX8_runWeeks_85 rfl rfl ?_
          obtain ⟨g29, h⟩ := cki h
          refine m_iald X w (o + 28) (shn hs 28 rfl) (shk hs 28 rfl : S.2.1 (o + 28) = 11) (shz hs 28 rfl : S.2.2.1 (o + 28) = 3) g29 dX8_runWeeks_86 ?_
          refine lv_iconst (v := 1) hx hb dX8_runWeeks_87 (by decide) ?_
          refine lv_iadd hx hb dX8_runWeeks_88 ?_
          obtain ⟨g30, h⟩ := cki h
          refine m_iast X w (o + 28) (shn hs 28 rfl) (shk hs 28 rfl : S.2.1 (o + 28) = 11) (shz hs 28 rfl : S.2.2.1 (o + 28) = 3) g30 dX8_runWeeks_89 (fun V31 H locs eV31 w => ?_)
          replace h := bdi h _ eV31
          obtain ⟨x32, ex32⟩ : ∃ y : Int32, y = v5 + (1 : Int32) := ⟨_, rfl⟩
          replace h := bdi h _ ex32
          refine lv_iinc (v := x32) (lv' := [(5, .int x32), (4, .int x28), (3, .int r23), (6, .int x22), (0, .ref (ad o)), (2, .int v2)]) hx hb dX8_runWeeks_90 hl (k := 5) rfl (by rw [ex32]; rfl) (by decide) rfl (fun ls hl => ?_)
          refine lv_goto (tgt := 8) hx hb dX8_runWeeks_93 (by decide) ?_
          have g := ih8 V31 v2 r23 x28 x32 h
          rw [hG] at g
          exact g H locs ls w (lv_sub hl [4, 5, 2, 1, 0] rfl)
  rw [f_X8_runWeeks] at h
  refine lv_iload_n hx hb dX8_runWeeks_0 rfl (lv_at hl 1 rfl) ?_
  refine lv_istore_n (lv' := [(3, .int a1), (0, .ref (ad o)), (1, .int a1), (2, .int a2)]) hx hb dX8_runWeeks_1 rfl hl (by decide) rfl (fun ls hl => ?_)
  refine lv_iconst (v := 0) hx hb dX8_runWeeks_2 (by decide) ?_
  refine lv_istore (lv' := [(4, .int (0 : Int32)), (3, .int a1), (0, .ref (ad o)), (1, .int a1), (2, .int a2)]) hx hb dX8_runWeeks_3 hl (by decide) rfl (fun ls hl => ?_)
  refine lv_iconst (v := 0) hx hb dX8_runWeeks_5 (by decide) ?_
  refine lv_istore (lv' := [(5, .int (0 : Int32)), (4, .int (0 : Int32)), (3, .int a1), (0, .ref (ad o)), (1, .int a1), (2, .int a2)]) hx hb dX8_runWeeks_6 hl (by decide) rfl (fun ls hl => ?_)
  have g := L8 N V a2 a1 (0 : Int32) (0 : Int32) h
  rw [hG] at g
  exact g H locs ls w (lv_sub hl [3, 5, 2, 1, 0] rfl)
def f_X3_fitting_105 (N : Nat) (S : St) (o : Nat) (a1 : Nat) (K4 : Vt → Int32 → Int32 → Option (Int32 × Vt)) (V : Vt) (v2 : Int32) (v3 : Int32) : Option (Int32 × Vt) := bd (v3 + (1 : Int32)) (fun x25 => K4 V v2 x25)
def f_X3_fitting_94 (N : Nat) (S : St) (o : Nat) (a1 : Nat) (K4 : Vt → Int32 → Int32 → Option (Int32 × Vt)) (V : Vt) (v2 : Int32) (v3 : Int32) (v4 : Int32) : Option (Int32 × Vt) := if v4 = 0 then f_X3_fitting_105 N S o a1 K4 V v2 v3 else bd (v2 ||| ((1 : Int32) <<< (v3 &&& 31))) (fun x26 => f_X3_fitting_105 N S o a1 K4 V x26 v3)
def f_X3_fitting_86 (N : Nat) (S : St) (o : Nat) (a1 : Nat) (K29 : Vt → Int32 → Int32 → Int32 → Int32 → Option (Int32 × Vt)) (V : Vt) (v2 : Int32) (v3 : Int32) (v5 : Int32) (s0 : Int32) : Option (Int32 × Vt) := bd (v5 + (1 : Int32)) (fun x34 => K29 V v2 v3 s0 x34)
def f_X3_fitting_29 (N : Nat) (S : St) (o : Nat) (a1 : Nat) (K4 : Vt → Int32 → Int32 → Option (Int32 × Vt)) : Nat → Vt → Int32 → Int32 → Int32 → Int32 → Option (Int32 × Vt)
  | 0, _, _, _, _, _ => none
  | n + 1, V, v2, v3, v4, v5 => if (V.1 a1 12) ≤ v5 then f_X3_fitting_94 N S o a1 K4 V v2 v3 v4 else if v4 = 0 then f_X3_fitting_94 N S o a1 K4 V v2 v3 v4 else ck ((3 : Int32) * v5) 24 (ck (((3 : Int32) * v5) + (1 : Int32)) 24 (ob1 (f_X3_placeAfter N S V o (V.2.1 (a1 + 8) ((3 : Int32) * v5).toNatClampNeg) (V.2.1 (a1 + 8) (((3 : Int32) * v5) + (1 : Int32)).toNatClampNeg)) (fun r30 => ck (((3 : Int32) * v5) + (2 : Int32)) 24 (if r30 = (V.2.1 (a1 + 8) (((3 : Int32) * v5) + (2 : Int32)).toNatClampNeg) then f_X3_fitting_86 N S o a1 (f_X3_fitting_29 N S o a1 K4 n) V v2 v3 v5 (1 : Int32) else f_X3_fitting_86 N S o a1 (f_X3_fitting_29 N S o a1 K4 n) V v2 v3 v5 (0 : Int32)))))
def f_X3_fitting_4 (N : Nat) (S : St) (o : Nat) (a1 : Nat) : Nat → Vt → Int32 → Int32 → Option (Int32 × Vt)
  | 0, _, _, _ => none
  | n + 1, V, v2, v3 => if (V.1 a1 10) ≤ v3 then some (v2, V) else ck v3 6 (bd (V.2.2.2 (a1 + 7) v3.toNatClampNeg) (fun t17 => nl t17 (obv (f_X3_learn_n N S V o a1) (fun V22 => f_X3_fitting_29 N S o a1 (f_X3_fitting_4 N S o a1 n) N V22 v2 v3 (1 : Int32) (0 : Int32))) (fun q18 => cg (tshB S q18) (obv (f_X3_learn_t N S V o a1 q18) (fun V37 => f_X3_fitting_29 N S o a1 (f_X3_fitting_4 N S o a1 n) N V37 v2 v3 (1 : Int32) (0 : Int32))))))
def f_X3_fitting (N : Nat) (S : St) (V : Vt) (o : Nat) (a1 : Nat) : Option (Int32 × Vt) := f_X3_fitting_4 N S o a1 N V (0 : Int32) (0 : Int32)
set_option maxHeartbeats 4000000 in
set_option maxRecDepth 100000 in
theorem c_X3_fitting (l : Launch) (D : va_G) (cy : Nat → ClassId) (ad : Nat → Nat) (A : Nat → Prop) (Kc : State → Prop) (C0 : Cx ad A Kc) (N : Nat) (S : St) (V : Vt) (o : Nat) (hs : shp S o t3) (a1 : Nat) (hs_a1 : shp S a1 t0) (r : Int32) (V' : Vt) (h : f_X3_fitting N S V o a1 = some (r, V')) : Met l yX3_fitting (mw yX3_fitting cX3_fitting 6 (some .int)) { frames := 5, cells := 0, slots := 0, locals := 131 } (PreM D cy ad Kc S V [.ref (ad o), .ref (ad a1)]) (QI D cy ad A r S V') 0 0 A := by
  refine ct_go C0 (own := RX3) rfl (by decide) rfl ?_
  intro p e s m below meth c ls H locs X hr hlocks hnm hl w
  have hx := X.1.1
  have hb := X.1.2.1
  have hown := X.2.1
  have hts := X.2.2.1
  have hl : lv_has ls 6 [(0, .ref (ad o)), (1, .ref (ad a1))] := hl
  obtain ⟨G, hG⟩ : ∃ G : Nat → Vt → List (Nat × Value) → List Value → Prop, G = fun pc V lv st => ∀ (H : Heap) (locs : List Loc) (ls : Array Slot), Wd D cy ad A s.heap S V H locs → lv_has ls 6 lv → W p l e { frames := 5, cells := 0, slots := 0, locals := 131 } s m ([.ref (ad o), .ref (ad a1)] : List Value).toArray below meth c H locs 0 0 (MQ below (QI D cy ad A r S V') ([.ref (ad o), .ref (ad a1)] : List Value).toArray s 0 0 A) (F0 m pc ls st) := ⟨_, rfl⟩
  have L4 : ∀ (n4 : Nat) (V : Vt) (v2 : Int32) (v3 : Int32), f_X3_fitting_4 N S o a1 n4 V v2 v3 = some (r, V') → G 4 V [(0, .ref (ad o)), (1, .ref (ad a1)), (2, .int v2), (3, .int v3)] [] := by
    intro n4
    induction n4 with
    | zero => intro V v2 v3 h; rw [f_X3_fitting_4] at h; cases h
    | succ n4 ih4 =>
      have B105 : ∀ (V : Vt) (v2 : Int32) (v3 : Int32), f_X3_fitting_105 N S o a1 (f_X3_fitting_4 N S o a1 n4) V v2 v3 = some (r, V') → G 105 V [(0, .ref (ad o)), (1, .ref (ad a1)), (2, .int v2), (3, .int v3)] [] := by
        intro V v2 v3 h
        rw [hG]
        intro H locs ls w hl
        rw [f_X3_fitting_105] at h
        obtain ⟨x25, ex25⟩ : ∃ y : Int32, y = v3 + (1 : Int32) := ⟨_, rfl⟩
        replace h := bdi h _ ex25
        refine lv_iinc (v := x25) (lv' := [(3, .int x25), (0, .ref (ad o)), (1, .ref (ad a1)), (2, .int v2)]) hx hb dX3_fitting_105 hl (k := 3) rfl (by rw [ex25]; rfl) (by decide) rfl (fun ls hl => ?_)
        refine lv_goto (tgt := 4) hx hb dX3_fitting_108 (by decide) ?_
        have g := ih4 V v2 x25 h
        rw [hG] at g
        exact g H locs ls w (lv_sub hl [1, 2, 3, 0] rfl)
      have B94 : ∀ (V : Vt) (v2 : Int32) (v3 : Int32) (v4 : Int32), f_X3_fitting_94 N S o a1 (f_X3_fitting_4 N S o a1 n4) V v2 v3 v4 = some (r, V') → G 94 V [(0, .ref (ad o)), (1, .ref (ad a1)), (2, .int v2), (3, .int v3), (4, .int v4)] [] := by
        intro V v2 v3 v4 h
        rw [hG]
        intro H locs ls w hl
        rw [f_X3_fitting_94] at h
        refine lv_iload hx hb dX3_fitting_94 (lv_at hl 4 rfl) ?_
        refine lv_if_eq (tgt := 105) hx hb dX3_fitting_96 (by decide) (fun c24 => ?_) (fun c24 => ?_)
        · replace h := ifT h c24
          have g := B105 V v2 v3 h
          rw [hG] at g
          exact g H locs ls w (lv_sub hl [0, 1, 2, 3] rfl)
        · replace h := ifF h c24
          refine lv_iload_n hx hb dX3_fitting_99 rfl (lv_at hl 2 rfl) ?_
          refine lv_iconst (v := 1) hx hb dX3_fitting_100 (by decide) ?_
          refine lv_iload_n hx hb dX3_fitting_101 rfl (lv_at hl 3 rfl) ?_
          refine lv_ishl hx hb dX3_fitting_102 ?_
          refine lv_ior hx hb dX3_fitting_103 ?_
          refine lv_topi (fun x26 ex26 => ?_)
          replace h := bdi h _ ex26
          refine lv_istore_n (lv' := [(2, .int x26), (0, .ref (ad o)), (1, .ref (ad a1)), (3, .int v3), (4, .int v4)]) hx hb dX3_fitting_104 rfl hl (by decide) rfl (fun ls hl => ?_)
          have g := B105 V x26 v3 h
          rw [hG] at g
          exact g H locs ls w (lv_sub hl [1, 2, 0, 3] rfl)
      have L29 : ∀ (n29 : Nat) (V : Vt) (v2 : Int32) (v3 : Int32) (v4 : Int32) (v5 : Int32), f_X3_fitting_29 N S o a1 (f_X3_fitting_4 N S o a1 n4) n29 V v2 v3 v4 v5 = some (r, V') → G 29 V [(0, .ref (ad o)), (1, .ref (ad a1)), (2, .int v2), (3, .int v3), (4, .int v4), (5, .int v5)] [] := by
        intro n29
        induction n29 with
        | zero => intro V v2 v3 v4 v5 h; rw [f_X3_fitting_29] at h; cases h
        | succ n29 ih29 =>
          have B86 : ∀ (V : Vt) (v2 : Int32) (v3 : Int32) (v5 : Int32) (s0 : Int32), f_X3_fitting_86 N S o a1 (f_X3_fitting_29 N S o a1 (f_X3_fitting_4 N S o a1 n4) n29) V v2 v3 v5 s0 = some (r, V') → G 86 V [(0, .ref (ad o)), (1, .ref (ad a1)), (2, .int v2), (3, .int v3), (5, .int v5)] [.int s0] := by
            intro V v2 v3 v5 s0 h
            rw [hG]
            intro H locs ls w hl
            rw [f_X3_fitting_86] at h
            refine lv_istore (lv' := [(4, .int s0), (0, .ref (ad o)), (1, .ref (ad a1)), (2, .int v2), (3, .int v3), (5, .int v5)]) hx hb dX3_fitting_86 hl (by decide) rfl (fun ls hl => ?_)
            obtain ⟨x34, ex34⟩ : ∃ y : Int32, y = v5 + (1 : Int32) := ⟨_, rfl⟩
            replace h := bdi h _ ex34
            refine lv_iinc (v := x34) (lv' := [(5, .int x34), (4, .int s0), (0, .ref (ad o)), (1, .ref (ad a1)), (2, .int v2), (3, .int v3)]) hx hb dX3_fitting_88 hl (k := 5) rfl (by rw [ex34]; rfl) (by decide) rfl (fun ls hl => ?_)
            refine lv_goto (tgt := 29) hx hb dX3_fitting_91 (by decide) ?_
            have g := ih29 V v2 v3 s0 x34 h
            rw [hG] at g
            exact g H locs ls w (lv_sub hl [2, 3, 4, 5, 1, 0] rfl)
          intro V v2 v3 v4 v5 h
          rw [hG]
          intro H locs ls w hl
          rw [f_X3_fitting_29] at h
          refine lv_iload hx hb dX3_fitting_29 (lv_at hl 5 rfl) ?_
          refine lv_aload_n hx hb dX3_fitting_31 rfl (lv_at hl 1 rfl) ?_
          refine m_getN X w a1 (shn hs_a1 0 rfl) (shk hs_a1 0 rfl : S.2.1 a1 = 0) ci0 12 (by decide) (fvI (shk hs_a1 0 rfl : S.2.1 a1 = 0) rfl) rfl nf_X3_71 dX3_fitting_32 ?_
          refine lv_icmp_ge (tgt := 94) hx hb dX3_fitting_35 (by decide) (fun c23 => ?_) (fun c23 => ?_)
          · replace h := ifT h c23
            have g := B94 V v2 v3 v4 h
            rw [hG] at g
            exact g H locs ls w (lv_sub hl [0, 1, 2, 3, 4] rfl)
          · replace h := ifF h c23
            refine lv_iload hx hb dX3_fitting_38 (lv_at hl 4 rfl) ?_
            refine lv_if_eq (tgt := 94) hx hb dX3_fitting_40 (by decide) (fun c27 => ?_) (fun c27 => ?_)
            · replace h := ifT h c27
              have g := B94 V v2 v3 v4 h
              rw [hG] at g
              exact g H locs ls w (lv_sub hl [0, 1, 2, 3, 4] rfl)
            · replace h := ifF h c27
              refine lv_aload_n hx hb dX3_fitting_43 rfl (lv_at hl 0 rfl) ?_
              refine lv_aload_n hx hb dX3_fitting_44 rfl (lv_at hl 1 rfl) ?_
              refine m_getN X w a1 (shn hs_a1 0 rfl) (shk hs_a1 0 rfl : S.2.1 a1 = 0) ci0 7 (by decide) (fvR (shk hs_a1 0 rfl : S.2.1 a1 = 0) rfl (shq hs_a1 0 7 rfl rfl : S.2.2.2.1 a1 7 = (a1 + 8) + 1)) rfl nf_X3_74 dX3_fitting_45 ?_
              refine lv_iconst (v := 3) hx hb dX3_fitting_48 (by decide) ?_
              refine lv_iload hx hb dX3_fitting_49 (lv_at hl 5 rfl) ?_
              refine lv_imul hx hb dX3_fitting_51 ?_
              obtain ⟨g28, h⟩ := cki h
              refine m_iald X w (a1 + 8) (shn hs_a1 8 rfl) (shk hs_a1 8 rfl : S.2.1 (a1 + 8) = 11) (shz hs_a1 8 rfl : S.2.2.1 (a1 + 8) = 24) g28 dX3_fitting_52 ?_
              refine lv_aload_n hx hb dX3_fitting_53 rfl (lv_at hl 1 rfl) ?_
              refine m_getN X w a1 (shn hs_a1 0 rfl) (shk hs_a1 0 rfl : S.2.1 a1 = 0) ci0 7 (by decide) (fvR (shk hs_a1 0 rfl : S.2.1 a1 = 0) rfl (shq hs_a1 0 7 rfl rfl : S.2.2.2.1 a1 7 = (a1 + 8) + 1)) rfl nf_X3_74 dX3_fitting_54 ?_
              refine lv_iconst (v := 3) hx hb dX3_fitting_57 (by decide) ?_
              refine lv_iload hx hb dX3_fitting_58 (lv_at hl 5 rfl) ?_
              refine lv_imul hx hb dX3_fitting_60 ?_
              refine lv_iconst (v := 1) hx hb dX3_fitting_61 (by decide) ?_
              refine lv_iadd hx hb dX3_fitting_62 ?_
              obtain ⟨g29, h⟩ := cki h
              refine m_iald X w (a1 + 8) (shn hs_a1 8 rfl) (shk hs_a1 8 rfl : S.2.1 (a1 + 8) = 11) (shz hs_a1 8 rfl : S.2.2.1 (a1 + 8) = 24) g29 dX3_fitting_63 ?_
              obtain ⟨r30, q31, h⟩ := ob1i h
              refine m_ci (m_rV (As := [.int (V.2.1 (a1 + 8) ((3 : Int32) * v5).toNatClampNeg), .int (V.2.1 (a1 + 8) (((3 : Int32) * v5) + (1 : Int32)).toNatClampNeg)]) (rest := []) X w hl mi_X3_placeAfter ml_X3_77 o (shn hs 0 rfl) (shk hs 0 rfl : S.2.1 o = 3) rfl (c_X3_placeAfter l D cy ad A Kc C0 N S V o hs (V.2.1 (a1 + 8) ((3 : Int32) * v5).toNatClampNeg) (V.2.1 (a1 + 8) (((3 : Int32) * v5) + (1 : Int32)).toNatClampNeg) r30 q31) ⟨⟨rfl, rfl, Nat.le_of_ble_eq_true rfl, Nat.le_of_ble_eq_true rfl⟩, Nat.le_of_ble_eq_true rfl, Nat.le_of_ble_eq_true rfl⟩ rfl rfl (Nat.le_of_ble_eq_true rfl) dX3_fitting_64) w (fun H locs w => ?_)
              refine lv_aload_n hx hb dX3_fitting_67 rfl (lv_at hl 1 rfl) ?_
              refine m_getN X w a1 (shn hs_a1 0 rfl) (shk hs_a1 0 rfl : S.2.1 a1 = 0) ci0 7 (by decide) (fvR (shk hs_a1 0 rfl : S.2.1 a1 = 0) rfl (shq hs_a1 0 7 rfl rfl : S.2.2.2.1 a1 7 = (a1 + 8) + 1)) rfl nf_X3_74 dX3_fitting_68 ?_
              refine lv_iconst (v := 3) hx hb dX3_fitting_71 (by decide) ?_
              refine lv_iload hx hb dX3_fitting_72 (lv_at hl 5 rfl) ?_
              refine lv_imul hx hb dX3_fitting_74 ?_
              refine lv_iconst (v := 2) hx hb dX3_fitting_75 (by decide) ?_
              refine lv_iadd hx hb dX3_fitting_76 ?_
              obtain ⟨g32, h⟩ := cki h
              refine m_iald X w (a1 + 8) (shn hs_a1 8 rfl) (shk hs_a1 8 rfl : S.2.1 (a1 + 8) = 11) (shz hs_a1 8 rfl : S.2.2.1 (a1 + 8) = 24) g32 dX3_fitting_77 ?_
              refine lv_icmp_ne (tgt := 85) hx hb dX3_fitting_78 (by decide) (fun c33 => ?_) (fun c33 => ?_)
              · replace h := ifF h c33
                refine lv_iconst (v := 0) hx hb dX3_fitting_85 (by decide) ?_
                have g := B86 V v2 v3 v5 (0 : Int32) h
                rw [hG] at g
                exact g H locs ls w (lv_sub hl [0, 1, 2, 3, 5] rfl)
              · replace h := ifT h c33
                refine lv_iconst (v := 1) hx hb dX3_fitting_81 (by decide) ?_
                refine lv_goto (tgt := 86) hx hb dX3_fitting_82 (by decide) ?_
                have g := B86 V v2 v3 v5 (1 : Int32) h
                rw [hG] at g
                exact g H locs ls w (lv_sub hl [0, 1, 2, 3, 5] rfl)
      intro V v2 v3 h
      rw [hG]
      intro H locs ls w hl
      rw [f_X3_fitting_4] at h
      refine lv_iload_n hx hb dX3_fitting_4 rfl (lv_at hl 3 rfl) ?_
      refine lv_aload_n hx hb dX3_fitting_5 rfl (lv_at hl 1 rfl) ?_
      refine m_getN X w a1 (shn hs_a1 0 rfl) (shk hs_a1 0 rfl : S.2.1 a1 = 0) ci0 10 (by decide) (fvI (shk hs_a1 0 rfl : S.2.1 a1 = 0) rfl) rfl nf_X3_59 dX3_fitting_6 ?_
      refine lv_icmp_ge (tgt := 111) hx hb dX3_fitting_9 (by decide) (fun c15 => ?_) (fun c15 => ?_)
      · replace h := ifT h c15
        refine lv_iload_n hx hb dX3_fitting_111 rfl (lv_at hl 2 rfl) ?_
        obtain ⟨rfl, rfl⟩ := reti h
        exact m_ri X w hr hlocks dX3_fitting_112
      · replace h := ifF h c15
        refine lv_aload_n hx hb dX3_fitting_12 rfl (lv_at hl 0 rfl) ?_
        refine lv_aload_n hx hb dX3_fitting_13 rfl (lv_at hl 1 rfl) ?_
        refine lv_aload_n hx hb dX3_fitting_14 rfl (lv_at hl 1 rfl) ?_
        refine m_getN X w a1 (shn hs_a1 0 rfl) (shk hs_a1 0 rfl : S.2.1 a1 = 0) ci0 6 (by decide) (fvR (shk hs_a1 0 rfl : S.2.1 a1 = 0) rfl (shq hs_a1 0 6 rfl rfl : S.2.2.2.1 a1 6 = (a1 + 7) + 1)) rfl nf_X3_63 dX3_fitting_15 ?_
        refine lv_iload_n hx hb dX3_fitting_18 rfl (lv_at hl 3 rfl) ?_
        obtain ⟨g16, h⟩ := cki h
        refine m_aald X w (a1 + 7) (shn hs_a1 7 rfl) (shk hs_a1 7 rfl : S.2.1 (a1 + 7) = 15) 5 rfl rfl rfl rfl (shz hs_a1 7 rfl : S.2.2.1 (a1 + 7) = 6) g16 dX3_fitting_19 ?_
        obtain ⟨t17, et17⟩ : ∃ y : Nat, y = V.2.2.2 (a1 + 7) v3.toNatClampNeg := ⟨_, rfl⟩
        rw [← et17]
        replace h := bdi h _ et17
        cases t17 with
        | zero =>
          replace h := nl0 h
          obtain ⟨V22, q21, h⟩ := obvi h
          refine m_cv (m_rV (As := [.ref (ad a1), .null]) (rest := []) X w hl mi_X3_learn ml_X3_67 o (shn hs 0 rfl) (shk hs 0 rfl : S.2.1 o = 3) rfl (c_X3_learn_n l D cy ad A Kc C0 N S V o hs a1 hs_a1 V22 q21) ⟨⟨rfl, rfl, Nat.le_of_ble_eq_true rfl, Nat.le_of_ble_eq_true rfl⟩, Nat.le_of_ble_eq_true rfl, Nat.le_of_ble_eq_true rfl⟩ rfl rfl (Nat.le_of_ble_eq_true rfl) dX3_fitting_20) w (fun H locs w => ?_)
          refine lv_iconst (v := 1) hx hb dX3_fitting_23 (by decide) ?_
          refine lv_istore (lv' := [(4, .int (1 : Int32)), (0, .ref (ad o)), (1, .ref (ad a1)), (2, .int v2), (3, .int v3)]) hx hb dX3_fitting_24 hl (by decide) rfl (fun ls hl => ?_)
          refine lv_iconst (v := 0) hx hb dX3_fitting_26 (by decide) ?_
          refine lv_istore (lv' := [(5, .int (0 : Int32)), (4, .int (1 : Int32)), (0, .ref (ad o)), (1, .ref (ad a1)), (2, .int v2), (3, .int v3)]) hx hb dX3_fitting_27 hl (by decide) rfl (fun ls hl => ?_)
          have g := L29 N V22 v2 v3 (1 : Int32) (0 : Int32) h
          rw [hG] at g
          exact g H locs ls w (lv_sub hl [2, 3, 4, 5, 1, 0] rfl)
        | succ q18 =>
          replace h := nls h
          obtain ⟨g19, h⟩ := cgi h
          have hs_q18 := tsh_of g19
          obtain ⟨V37, q36, h⟩ := obvi h
          refine m_cv (m_rV (As := [.ref (ad a1), .ref (ad q18)]) (rest := []) X w hl mi_X3_learn ml_X3_67 o (shn hs 0 rfl) (shk hs 0 rfl : S.2.1 o = 3) rfl (c_X3_learn_t l D cy ad A Kc C0 N S V o hs a1 hs_a1 q18 hs_q18 V37 q36) ⟨⟨rfl, rfl, Nat.le_of_ble_eq_true rfl, Nat.le_of_ble_eq_true rfl⟩, Nat.le_of_ble_eq_true rfl, Nat.le_of_ble_eq_true rfl⟩ rfl rfl (Nat.le_of_ble_eq_true rfl) dX3_fitting_20) w (fun H locs w => ?_)
          refine lv_iconst (v := 1) hx hb dX3_fitting_23 (by decide) ?_
          refine lv_istore (lv' := [(4, .int (1 : Int32)), (0, .ref (ad o)), (1, .ref (ad a1)), (2, .int v2), (3, .int v3)]) hx hb dX3_fitting_24 hl (by decide) rfl (fun ls hl => ?_)
          refine lv_iconst (v := 0) hx hb dX3_fitting_26 (by decide) ?_
          refine lv_istore (lv' := [(5, .int (0 : Int32)), (4, .int (1 : Int32)), (0, .ref (ad o)), (1, .ref (ad a1)), (2, .int v2), (3, .int v3)]) hx hb dX3_fitting_27 hl (by decide) rfl (fun ls hl => ?_)
          have g := L29 N V37 v2 v3 (1 : Int32) (0 : Int32) h
          rw [hG] at g
          exact g H locs ls w (lv_sub hl [2, 3, 4, 5, 1, 0] rfl)
  rw [f_X3_fitting] at h
  refine lv_iconst (v := 0) hx hb dX3_fitting_0 (by decide) ?_
  refine lv_istore_n (lv' := [(2, .int (0 : Int32)), (0, .ref (ad o)), (1, .ref (ad a1))]) hx hb dX3_fitting_1 rfl hl (by decide) rfl (fun ls hl => ?_)
  refine lv_iconst (v := 0) hx hb dX3_fitting_2 (by decide) ?_
  refine lv_istore_n (lv' := [(3, .int (0 : Int32)), (2, .int (0 : Int32)), (0, .ref (ad o)), (1, .ref (ad a1))]) hx hb dX3_fitting_3 rfl hl (by decide) rfl (fun ls hl => ?_)
  have g := L4 N V (0 : Int32) (0 : Int32) h
  rw [hG] at g
  exact g H locs ls w (lv_sub hl [2, 3, 1, 0] rfl)
def f_X3_learnPlaces_70 (N : Nat) (S : St) (o : Nat) (a1 : Nat) (K3 : Vt → Int32 → Int32 → Int32 → Option Vt) (V : Vt) (v2 : Int32) (v3 : Int32) (v4 : Int32) : Option Vt := bd (v4 + (1 : Int32)) (fun x15 => K3 V v2 v3 x15)
def f_X3_learnPlaces_37 (N : Nat) (S : St) (o : Nat) (a1 : Nat) (K3 : Vt → Int32 → Int32 → Int32 → Option Vt) : Nat → Vt → Int32 → Int32 → Int32 → Int32 → Option Vt
  | 0, _, _, _, _, _ => none
  | n + 1, V, v2, v3, v4, v5 => if (25 : Int32) ≤ v5 then f_X3_learnPlaces_70 N S o a1 K3 V v2 v3 v4 else ob1 (f_X3_placeAfter N S V o v5 v3) (fun r24 => ck ((v4 * (25 : Int32)) + v5) 150 (bd (sA V (o + 8) ((v4 * (25 : Int32)) + v5).toNatClampNeg r24) (fun V27 => bd (v5 + (1 : Int32)) (fun x28 => (f_X3_learnPlaces_37 N S o a1 K3 n) V27 v2 v3 v4 x28))))
def f_X3_learnPlaces_3 (N : Nat) (S : St) (o : Nat) (a1 : Nat) : Nat → Vt → Int32 → Int32 → Int32 → Option Vt
  | 0, _, _, _, _ => none
  | n + 1, V, v2, v3, v4 => if (V.1 a1 10) ≤ v4 then some V else if ((v2 >>> (v4 &&& 31)) &&& (1 : Int32)) = (1 : Int32) then ck v4 6 (bd (V.2.2.2 (a1 + 7) v4.toNatClampNeg) (fun t17 => nl t17 (obv (f_X3_learn_n N S V o a1) (fun V22 => f_X3_learnPlaces_37 N S o a1 (f_X3_learnPlaces_3 N S o a1 n) N V22 v2 v3 v4 (0 : Int32))) (fun q18 => cg (tshB S q18) (obv (f_X3_learn_t N S V o a1 q18) (fun V31 => f_X3_learnPlaces_37 N S o a1 (f_X3_learnPlaces_3 N S o a1 n) N V31 v2 v3 v4 (0 : Int32)))))) else f_X3_learnPlaces_70 N S o a1 (f_X3_learnPlaces_3 N S o a1 n) V v2 v3 v4
def f_X3_learnPlaces (N : Nat) (S : St) (V : Vt) (o : Nat) (a1 : Nat) (a2 : Int32) (a3 : Int32) : Option Vt := f_X3_learnPlaces_3 N S o a1 N V a2 a3 (0 : Int32)
set_option maxHeartbeats 4000000 in
set_option maxRecDepth 100000 in
theorem c_X3_learnPlaces (l : Launch) (D : va_G) (cy : Nat → ClassId) (ad : Nat → Nat) (A : Nat → Prop) (Kc : State → Prop) (C0 : Cx ad A Kc) (N : Nat) (S : St) (V : Vt) (o : Nat) (hs : shp S o t3) (a1 : Nat) (hs_a1 : shp S a1 t0) (a2 : Int32) (a3 : Int32) (V' : Vt) (h : f_X3_learnPlaces N S V o a1 a2 a3 = some V') : Met l yX3_learnPlaces (mw yX3_learnPlaces cX3_learnPlaces 6 none) { frames := 5, cells := 0, slots := 0, locals := 131 } (PreM D cy ad Kc S V [.ref (ad o), .ref (ad a1), .int a2, .int a3]) (QV D cy ad A S V') 0 0 A := by
  refine ct_go C0 (own := RX3) rfl (by decide) rfl ?_
  intro p e s m below meth c ls H locs X hr hlocks hnm hl w
  have hx := X.1.1
  have hb := X.1.2.1
  have hown := X.2.1
  have hts := X.2.2.1
  have hl : lv_has ls 6 [(0, .ref (ad o)), (1, .ref (ad a1)), (2, .int a2), (3, .int a3)] := hl
  obtain ⟨G, hG⟩ : ∃ G : Nat → Vt → List (Nat × Value) → List Value → Prop, G = fun pc V lv st => ∀ (H : Heap) (locs : List Loc) (ls : Array Slot), Wd D cy ad A s.heap S V H locs → lv_has ls 6 lv → W p l e { frames := 5, cells := 0, slots := 0, locals := 131 } s m ([.ref (ad o), .ref (ad a1), .int a2, .int a3] : List Value).toArray below meth c H locs 0 0 (MQ below (QV D cy ad A S V') ([.ref (ad o), .ref (ad a1), .int a2, .int a3] : List Value).toArray s 0 0 A) (F0 m pc ls st) := ⟨_, rfl⟩
  have L3 : ∀ (n3 : Nat) (V : Vt) (v2 : Int32) (v3 : Int32) (v4 : Int32), f_X3_learnPlaces_3 N S o a1 n3 V v2 v3 v4 = some V' → G 3 V [(0, .ref (ad o)), (1, .ref (ad a1)), (2, .int v2), (3, .int v3), (4, .int v4)] [] := by
    intro n3
    induction n3 with
    | zero => intro V v2 v3 v4 h; rw [f_X3_learnPlaces_3] at h; cases h
    | succ n3 ih3 =>
      have B70 : ∀ (V : Vt) (v2 : Int32) (v3 : Int32) (v4 : Int32), f_X3_learnPlaces_70 N S o a1 (f_X3_learnPlaces_3 N S o a1 n3) V v2 v3 v4 = some V' → G 70 V [(0, .ref (ad o)), (1, .ref (ad a1)), (2, .int v2), (3, .int v3), (4, .int v4)] [] := by
        intro V v2 v3 v4 h
        rw [hG]
        intro H locs ls w hl
        rw [f_X3_learnPlaces_70] at h
        obtain ⟨x15, ex15⟩ : ∃ y : Int32, y = v4 + (1 : Int32) := ⟨_, rfl⟩
        replace h := bdi h _ ex15
        refine lv_iinc (v := x15) (lv' := [(4, .int x15), (0, .ref (ad o)), (1, .ref (ad a1)), (2, .int v2), (3, .int v3)]) hx hb dX3_learnPlaces_70 hl (k := 4) rfl (by rw [ex15]; rfl) (by decide) rfl (fun ls hl => ?_)
        refine lv_goto (tgt := 3) hx hb dX3_learnPlaces_73 (by decide) ?_
        have g := ih3 V v2 v3 x15 h
        rw [hG] at g
        exact g H locs ls w (lv_sub hl [1, 2, 3, 4, 0] rfl)
      have L37 : ∀ (n37 : Nat) (V : Vt) (v2 : Int32) (v3 : Int32) (v4 : Int32) (v5 : Int32), f_X3_learnPlaces_37 N S o a1 (f_X3_learnPlaces_3 N S o a1 n3) n37 V v2 v3 v4 v5 = some V' → G 37 V [(0, .ref (ad o)), (1, .ref (ad a1)), (2, .int v2), (3, .int v3), (4, .int v4), (5, .int v5)] [] := by
        intro n37
        induction n37 with
        | zero => intro V v2 v3 v4 v5 h; rw [f_X3_learnPlaces_37] at h; cases h
        | succ n37 ih37 =>
          intro V v2 v3 v4 v5 h
          rw [hG]
          intro H locs ls w hl
          rw [f_X3_learnPlaces_37] at h
          refine lv_iload hx hb dX3_learnPlaces_37 (lv_at hl 5 rfl) ?_
          refine lv_bipush (v := 25) hx hb dX3_learnPlaces_39 (by decide) ?_
          refine lv_icmp_ge (tgt := 70) hx hb dX3_learnPlaces_41 (by decide) (fun c23 => ?_) (fun c23 => ?_)
          · replace h := ifT h c23
            have g := B70 V v2 v3 v4 h
            rw [hG] at g
            exact g H locs ls w (lv_sub hl [0, 1, 2, 3, 4] rfl)
          · replace h := ifF h c23
            refine lv_aload_n hx hb dX3_learnPlaces_44 rfl (lv_at hl 0 rfl) ?_
            refine m_get X w o (shn hs 0 rfl) (shk hs 0 rfl : S.2.1 o = 3) ci3 4 (by decide) (fvR (shk hs 0 rfl : S.2.1 o = 3) rfl (shq hs 0 4 rfl rfl : S.2.2.2.1 o 4 = (o + 8) + 1)) rfl fl_X3_28 dX3_learnPlaces_45 ?_
            refine lv_iload hx hb dX3_learnPlaces_48 (lv_at hl 4 rfl) ?_
            refine lv_bipush (v := 25) hx hb dX3_learnPlaces_50 (by decide) ?_
            refine lv_imul hx hb dX3_learnPlaces_52 ?_
            refine lv_iload hx hb dX3_learnPlaces_53 (lv_at hl 5 rfl) ?_
            refine lv_iadd hx hb dX3_learnPlaces_55 ?_
            refine lv_aload_n hx hb dX3_learnPlaces_56 rfl (lv_at hl 0 rfl) ?_
            refine lv_iload hx hb dX3_learnPlaces_57 (lv_at hl 5 rfl) ?_
            refine lv_iload_n hx hb dX3_learnPlaces_59 rfl (lv_at hl 3 rfl) ?_
            obtain ⟨r24, q25, h⟩ := ob1i h
            refine m_ci (m_rV (As := [.int v5, .int v3]) (rest := [.int ((v4 * (25 : Int32)) + v5), .ref (ad (o + 8))]) X w hl mi_X3_placeAfter ml_X3_77 o (shn hs 0 rfl) (shk hs 0 rfl : S.2.1 o = 3) rfl (c_X3_placeAfter l D cy ad A Kc C0 N S V o hs v5 v3 r24 q25) ⟨⟨rfl, rfl, Nat.le_of_ble_eq_true rfl, Nat.le_of_ble_eq_true rfl⟩, Nat.le_of_ble_eq_true rfl, Nat.le_of_ble_eq_true rfl⟩ rfl rfl (Nat.le_of_ble_eq_true rfl) dX3_learnPlaces_60) w (fun H locs w => ?_)
            obtain ⟨g26, h⟩ := cki h
            refine m_iast X w (o + 8) (shn hs 8 rfl) (shk hs 8 rfl : S.2.1 (o + 8) = 11) (shz hs 8 rfl : S.2.2.1 (o + 8) = 150) g26 dX3_learnPlaces_63 (fun V27 H locs eV27 w => ?_)
            replace h := bdi h _ eV27
            obtain ⟨x28, ex28⟩ : ∃ y : Int32, y = v5 + (1 : Int32) := ⟨_, rfl⟩
            replace h := bdi h _ ex28
            refine lv_iinc (v := x28) (lv' := [(5, .int x28), (0, .ref (ad o)), (1, .ref (ad a1)), (2, .int v2), (3, .int v3), (4, .int v4)]) hx hb dX3_learnPlaces_64 hl (k := 5) rfl (by rw [ex28]; rfl) (by decide) rfl (fun ls hl => ?_)
            refine lv_goto (tgt := 37) hx hb dX3_learnPlaces_67 (by decide) ?_
            have g := ih37 V27 v2 v3 v4 x28 h
            rw [hG] at g
            exact g H locs ls w (lv_sub hl [1, 2, 3, 4, 5, 0] rfl)
      intro V v2 v3 v4 h
      rw [hG]
      intro H locs ls w hl
      rw [f_X3_learnPlaces_3] at h
      refine lv_iload hx hb dX3_learnPlaces_3 (lv_at hl 4 rfl) ?_
      refine lv_aload_n hx hb dX3_learnPlaces_5 rfl (lv_at hl 1 rfl) ?_
      refine m_getN X w a1 (shn hs_a1 0 rfl) (shk hs_a1 0 rfl : S.2.1 a1 = 0) ci0 10 (by decide) (fvI (shk hs_a1 0 rfl : S.2.1 a1 = 0) rfl) rfl nf_X3_59 dX3_learnPlaces_6 ?_
      refine lv_icmp_ge (tgt := 76) hx hb dX3_learnPlaces_9 (by decide) (fun c13 => ?_) (fun c13 => ?_)
      · replace h := ifT h c13
        obtain rfl := Option.some.inj h
        exact m_rv X w hr hlocks dX3_learnPlaces_76
      · replace h := ifF h c13
        refine lv_iload_n hx hb dX3_learnPlaces_12 rfl (lv_at hl 2 rfl) ?_
        refine lv_iload hx hb dX3_learnPlaces_13 (lv_at hl 4 rfl) ?_
        refine lv_ishr hx hb dX3_learnPlaces_15 ?_
        refine lv_iconst (v := 1) hx hb dX3_learnPlaces_16 (by decide) ?_
        refine lv_iand hx hb dX3_learnPlaces_17 ?_
        refine lv_iconst (v := 1) hx hb dX3_learnPlaces_18 (by decide) ?_
        refine lv_icmp_ne (tgt := 70) hx hb dX3_learnPlaces_19 (by decide) (fun c14 => ?_) (fun c14 => ?_)
        · replace h := ifF h c14
          have g := B70 V v2 v3 v4 h
          rw [hG] at g
          exact g H locs ls w (lv_sub hl [0, 1, 2, 3, 4] rfl)
        · replace h := ifT h c14
          refine lv_aload_n hx hb dX3_learnPlaces_22 rfl (lv_at hl 0 rfl) ?_
          refine lv_aload_n hx hb dX3_learnPlaces_23 rfl (lv_at hl 1 rfl) ?_
          refine lv_aload_n hx hb dX3_learnPlaces_24 rfl (lv_at hl 1 rfl) ?_
          refine m_getN X w a1 (shn hs_a1 0 rfl) (shk hs_a1 0 rfl : S.2.1 a1 = 0) ci0 6 (by decide) (fvR (shk hs_a1 0 rfl : S.2.1 a1 = 0) rfl (shq hs_a1 0 6 rfl rfl : S.2.2.2.1 a1 6 = (a1 + 7) + 1)) rfl nf_X3_63 dX3_learnPlaces_25 ?_
          refine lv_iload hx hb dX3_learnPlaces_28 (lv_at hl 4 rfl) ?_
          obtain ⟨g16, h⟩ := cki h
          refine m_aald X w (a1 + 7) (shn hs_a1 7 rfl) (shk hs_a1 7 rfl : S.2.1 (a1 + 7) = 15) 5 rfl rfl rfl rfl (shz hs_a1 7 rfl : S.2.2.1 (a1 + 7) = 6) g16 dX3_learnPlaces_30 ?_
          obtain ⟨t17, et17⟩ : ∃ y : Nat, y = V.2.2.2 (a1 + 7) v4.toNatClampNeg := ⟨_, rfl⟩
          rw [← et17]
          replace h := bdi h _ et17
          cases t17 with
          | zero =>
            replace h := nl0 h
            obtain ⟨V22, q21, h⟩ := obvi h
            refine m_cv (m_rV (As := [.ref (ad a1), .null]) (rest := []) X w hl mi_X3_learn ml_X3_67 o (shn hs 0 rfl) (shk hs 0 rfl : S.2.1 o = 3) rfl (c_X3_learn_n l D cy ad A Kc C0 N S V o hs a1 hs_a1 V22 q21) ⟨⟨rfl, rfl, Nat.le_of_ble_eq_true rfl, Nat.le_of_ble_eq_true rfl⟩, Nat.le_of_ble_eq_true rfl, Nat.le_of_ble_eq_true rfl⟩ rfl rfl (Nat.le_of_ble_eq_true rfl) dX3_learnPlaces_31) w (fun H locs w => ?_)
            refine lv_iconst (v := 0) hx hb dX3_learnPlaces_34 (by decide) ?_
            refine lv_istore (lv' := [(5, .int (0 : Int32)), (0, .ref (ad o)), (1, .ref (ad a1)), (2, .int v2), (3, .int v3), (4, .int v4)]) hx hb dX3_learnPlaces_35 hl (by decide) rfl (fun ls hl => ?_)
            have g := L37 N V22 v2 v3 v4 (0 : Int32) h
            rw [hG] at g
            exact g H locs ls w (lv_sub hl [1, 2, 3, 4, 5, 0] rfl)
          | succ q18 =>
            replace h := nls h
            obtain ⟨g19, h⟩ := cgi h
            have hs_q18 := tsh_of g19
            obtain ⟨V31, q30, h⟩ := obvi h
            refine m_cv (m_rV (As := [.ref (ad a1), .ref (ad q18)]) (rest := []) X w hl mi_X3_learn ml_X3_67 o (shn hs 0 rfl) (shk hs 0 rfl : S.2.1 o = 3) rfl (c_X3_learn_t l D cy ad A Kc C0 N S V o hs a1 hs_a1 q18 hs_q18 V31 q30) ⟨⟨rfl, rfl, Nat.le_of_ble_eq_true rfl, Nat.le_of_ble_eq_true rfl⟩, Nat.le_of_ble_eq_true rfl, Nat.le_of_ble_eq_true rfl⟩ rfl rfl (Nat.le_of_ble_eq_true rfl) dX3_learnPlaces_31) w (fun H locs w => ?_)
            refine lv_iconst (v := 0) hx hb dX3_learnPlaces_34 (by decide) ?_
            refine lv_istore (lv' := [(5, .int (0 : Int32)), (0, .ref (ad o)), (1, .ref (ad a1)), (2, .int v2), (3, .int v3), (4, .int v4)]) hx hb dX3_learnPlaces_35 hl (by decide) rfl (fun ls hl => ?_)
            have g := L37 N V31 v2 v3 v4 (0 : Int32) h
            rw [hG] at g
            exact g H locs ls w (lv_sub hl [1, 2, 3, 4, 5, 0] rfl)
  rw [f_X3_learnPlaces] at h
  refine lv_iconst (v := 0) hx hb dX3_learnPlaces_0 (by decide) ?_
  refine lv_istore (lv' := [(4, .int (0 : Int32)), (0, .ref (ad o)), (1, .ref (ad a1)), (2, .int a2), (3, .int a3)]) hx hb dX3_learnPlaces_1 hl (by decide) rfl (fun ls hl => ?_)
  have g := L3 N V a2 a3 (0 : Int32) h
  rw [hG] at g
  exact g H locs ls w (lv_sub hl [1, 2, 3, 4, 0] rfl)
def f_X8_take (N : Nat) (S : St) (V : Vt) (o : Nat) (a1 : Int32) (a2 : Int32) : Option (Int32 × Vt) := ob (f_X8_carryOut N S V o (0 : Int32) a1 a2 (0 : Int32)) (fun r7 V9 => ob (f_X8_judged N S V9 o r7) (fun r10 V12 => some (r10, V12)))
set_option maxHeartbeats 4000000 in
set_option maxRecDepth 100000 in
theorem c_X8_take (l : Launch) (D : va_G) (cy : Nat → ClassId) (ad : Nat → Nat) (A : Nat → Prop) (Kc : State → Prop) (C0 : Cx ad A Kc) (N : Nat) (S : St) (V : Vt) (o : Nat) (hs : shp S o t8) (a1 : Int32) (a2 : Int32) (r : Int32) (V' : Vt) (h : f_X8_take N S V o a1 a2 = some (r, V')) : Met l yX8_take (mw yX8_take cX8_take 3 (some .int)) { frames := 5, cells := 0, slots := 0, locals := 134 } (PreM D cy ad Kc S V [.ref (ad o), .int a1, .int a2]) (QI D cy ad A r S V') 0 0 A := by
  refine ct_go C0 (own := RX8) rfl (by decide) rfl ?_
  intro p e s m below meth c ls H locs X hr hlocks hnm hl w
  have hx := X.1.1
  have hb := X.1.2.1
  have hown := X.2.1
  have hts := X.2.2.1
  have hl : lv_has ls 3 [(0, .ref (ad o)), (1, .int a1), (2, .int a2)] := hl
  rw [f_X8_take] at h
  refine lv_aload_n hx hb dX8_take_0 rfl (lv_at hl 0 rfl) ?_
  refine lv_aload_n hx hb dX8_take_1 rfl (lv_at hl 0 rfl) ?_
  refine lv_iconst (v := 0) hx hb dX8_take_2 (by decide) ?_
  refine lv_iload_n hx hb dX8_take_3 rfl (lv_at hl 1 rfl) ?_
  refine lv_iload_n hx hb dX8_take_4 rfl (lv_at hl 2 rfl) ?_
  refine lv_iconst (v := 0) hx hb dX8_take_5 (by decide) ?_
  obtain ⟨r7, V9, q8, h⟩ := obi h
  refine m_ci (m_rV (As := [.int (0 : Int32), .int a1, .int a2, .int (0 : Int32)]) (rest := [.ref (ad o)]) X w hl mi_X8_carryOut ml_X8_197 o (shn hs 0 rfl) (shk hs 0 rfl : S.2.1 o = 8) rfl (c_X8_carryOut l D cy ad A Kc C0 N S V o hs (0 : Int32) a1 a2 (0 : Int32) r7 V9 q8) ⟨⟨rfl, rfl, Nat.le_of_ble_eq_true rfl, Nat.le_of_ble_eq_true rfl⟩, Nat.le_of_ble_eq_true rfl, Nat.le_of_ble_eq_true rfl⟩ rfl rfl (Nat.le_of_ble_eq_true rfl) dX8_take_6) w (fun H locs w => ?_)
  obtain ⟨r10, V12, q11, h⟩ := obi h
  refine m_ci (m_rV (As := [.int r7]) (rest := []) X w hl mi_X8_judged ml_X8_201 o (shn hs 0 rfl) (shk hs 0 rfl : S.2.1 o = 8) rfl (c_X8_judged l D cy ad A Kc C0 N S V9 o hs r7 r10 V12 q11) ⟨⟨rfl, rfl, Nat.le_of_ble_eq_true rfl, Nat.le_of_ble_eq_true rfl⟩, Nat.le_of_ble_eq_true rfl, Nat.le_of_ble_eq_true rfl⟩ rfl rfl (Nat.le_of_ble_eq_true rfl) dX8_take_9) w (fun H locs w => ?_)
  obtain ⟨rfl, rfl⟩ := reti h
  exact m_ri X w hr hlocks dX8_take_12
def f_X8_shift (N : Nat) (S : St) (V : Vt) (o : Nat) (a1 : Int32) (a2 : Int32) (a3 : Int32) : Option (Int32 × Vt) := ob (f_X8_carryOut N S V o (1 : Int32) a1 a2 a3) (fun r7 V9 => ob (f_X8_judged N S V9 o r7) (fun r10 V12 => some (r10, V12)))
set_option maxHeartbeats 4000000 in
set_option maxRecDepth 100000 in
theorem c_X8_shift (l : Launch) (D : va_G) (cy : Nat → ClassId) (ad : Nat → Nat) (A : Nat → Prop) (Kc : State → Prop) (C0 : Cx ad A Kc) (N : Nat) (S : St) (V : Vt) (o : Nat) (hs : shp S o t8) (a1 : Int32) (a2 : Int32) (a3 : Int32) (r : Int32) (V' : Vt) (h : f_X8_shift N S V o a1 a2 a3 = some (r, V')) : Met l yX8_shift (mw yX8_shift cX8_shift 4 (some .int)) { frames := 5, cells := 0, slots := 0, locals := 134 } (PreM D cy ad Kc S V [.ref (ad o), .int a1, .int a2, .int a3]) (QI D cy ad A r S V') 0 0 A := by
  refine ct_go C0 (own := RX8) rfl (by decide) rfl ?_
  intro p e s m below meth c ls H locs X hr hlocks hnm hl w
  have hx := X.1.1
  have hb := X.1.2.1
  have hown := X.2.1
  have hts := X.2.2.1
  have hl : lv_has ls 4 [(0, .ref (ad o)), (1, .int a1), (2, .int a2), (3, .int a3)] := hl
  rw [f_X8_shift] at h
  refine lv_aload_n hx hb dX8_shift_0 rfl (lv_at hl 0 rfl) ?_
  refine lv_aload_n hx hb dX8_shift_1 rfl (lv_at hl 0 rfl) ?_
  refine lv_iconst (v := 1) hx hb dX8_shift_2 (by decide) ?_
  refine lv_iload_n hx hb dX8_shift_3 rfl (lv_at hl 1 rfl) ?_
  refine lv_iload_n hx hb dX8_shift_4 rfl (lv_at hl 2 rfl) ?_
  refine lv_iload_n hx hb dX8_shift_5 rfl (lv_at hl 3 rfl) ?_
  obtain ⟨r7, V9, q8, h⟩ := obi h
  refine m_ci (m_rV (As := [.int (1 : Int32), .int a1, .int a2, .int a3]) (rest := [.ref (ad o)]) X w hl mi_X8_carryOut ml_X8_197 o (shn hs 0 rfl) (shk hs 0 rfl : S.2.1 o = 8) rfl (c_X8_carryOut l D cy ad A Kc C0 N S V o hs (1 : Int32) a1 a2 a3 r7 V9 q8) ⟨⟨rfl, rfl, Nat.le_of_ble_eq_true rfl, Nat.le_of_ble_eq_true rfl⟩, Nat.le_of_ble_eq_true rfl, Nat.le_of_ble_eq_true rfl⟩ rfl rfl (Nat.le_of_ble_eq_true rfl) dX8_shift_6) w (fun H locs w => ?_)
  obtain ⟨r10, V12, q11, h⟩ := obi h
  refine m_ci (m_rV (As := [.int r7]) (rest := []) X w hl mi_X8_judged ml_X8_201 o (shn hs 0 rfl) (shk hs 0 rfl : S.2.1 o = 8) rfl (c_X8_judged l D cy ad A Kc C0 N S V9 o hs r7 r10 V12 q11) ⟨⟨rfl, rfl, Nat.le_of_ble_eq_true rfl, Nat.le_of_ble_eq_true rfl⟩, Nat.le_of_ble_eq_true rfl, Nat.le_of_ble_eq_true rfl⟩ rfl rfl (Nat.le_of_ble_eq_true rfl) dX8_shift_9) w (fun H locs w => ?_)
  obtain ⟨rfl, rfl⟩ := reti h
  exact m_ri X w hr hlocks dX8_shift_12
def f_X8_fence (N : Nat) (S : St) (V : Vt) (o : Nat) (a1 : Int32) : Option (Int32 × Vt) := ob (f_X8_carryOut N S V o (2 : Int32) a1 (0 : Int32) (0 : Int32)) (fun r7 V9 => ob (f_X8_judged N S V9 o r7) (fun r10 V12 => some (r10, V12)))
set_option maxHeartbeats 4000000 in
set_option maxRecDepth 100000 in
theorem c_X8_fence (l : Launch) (D : va_G) (cy : Nat → ClassId) (ad : Nat → Nat) (A : Nat → Prop) (Kc : State → Prop) (C0 : Cx ad A Kc) (N : Nat) (S : St) (V : Vt) (o : Nat) (hs : shp S o t8) (a1 : Int32) (r : Int32) (V' : Vt) (h : f_X8_fence N S V o a1 = some (r, V')) : Met l yX8_fence (mw yX8_fence cX8_fence 2 (some .int)) { frames := 5, cells := 0, slots := 0, locals := 134 } (PreM D cy ad Kc S V [.ref (ad o), .int a1]) (QI D cy ad A r S V') 0 0 A := by
  refine ct_go C0 (own := RX8) rfl (by decide) rfl ?_
  intro p e s m below meth c ls H locs X hr hlocks hnm hl w
  have hx := X.1.1
  have hb := X.1.2.1
  have hown := X.2.1
  have hts := X.2.2.1
  have hl : lv_has ls 2 [(0, .ref (ad o)), (1, .int a1)] := hl
  rw [f_X8_fence] at h
  refine lv_aload_n hx hb dX8_fence_0 rfl (lv_at hl 0 rfl) ?_
  refine lv_aload_n hx hb dX8_fence_1 rfl (lv_at hl 0 rfl) ?_
  refine lv_iconst (v := 2) hx hb dX8_fence_2 (by decide) ?_
  refine lv_iload_n hx hb dX8_fence_3 rfl (lv_at hl 1 rfl) ?_
  refine lv_iconst (v := 0) hx hb dX8_fence_4 (by decide) ?_
  refine lv_iconst (v := 0) hx hb dX8_fence_5 (by decide) ?_
  obtain ⟨r7, V9, q8, h⟩ := obi h
  refine m_ci (m_rV (As := [.int (2 : Int32), .int a1, .int (0 : Int32), .int (0 : Int32)]) (rest := [.ref (ad o)]) X w hl mi_X8_carryOut ml_X8_197 o (shn hs 0 rfl) (shk hs 0 rfl : S.2.1 o = 8) rfl (c_X8_carryOut l D cy ad A Kc C0 N S V o hs (2 : Int32) a1 (0 : Int32) (0 : Int32) r7 V9 q8) ⟨⟨rfl, rfl, Nat.le_of_ble_eq_true rfl, Nat.le_of_ble_eq_true rfl⟩, Nat.le_of_ble_eq_true rfl, Nat.le_of_ble_eq_true rfl⟩ rfl rfl (Nat.le_of_ble_eq_true rfl) dX8_fence_6) w (fun H locs w => ?_)
  obtain ⟨r10, V12, q11, h⟩ := obi h
  refine m_ci (m_rV (As := [.int r7]) (rest := []) X w hl mi_X8_judged ml_X8_201 o (shn hs 0 rfl) (shk hs 0 rfl : S.2.1 o = 8) rfl (c_X8_judged l D cy ad A Kc C0 N S V9 o hs r7 r10 V12 q11) ⟨⟨rfl, rfl, Nat.le_of_ble_eq_true rfl, Nat.le_of_ble_eq_true rfl⟩, Nat.le_of_ble_eq_true rfl, Nat.le_of_ble_eq_true rfl⟩ rfl rfl (Nat.le_of_ble_eq_true rfl) dX8_fence_9) w (fun H locs w => ?_)
  obtain ⟨rfl, rfl⟩ := reti h
  exact m_ri X w hr hlocks dX8_fence_12
def f_X8_pass (N : Nat) (S : St) (V : Vt) (o : Nat) : Option (Int32 × Vt) := ob (f_X8_carryOut N S V o (3 : Int32) (0 : Int32) (0 : Int32) (0 : Int32)) (fun r7 V9 => ob (f_X8_judged N S V9 o r7) (fun r10 V12 => some (r10, V12)))
set_option maxHeartbeats 4000000 in
set_option maxRecDepth 100000 in
theorem c_X8_pass (l : Launch) (D : va_G) (cy : Nat → ClassId) (ad : Nat → Nat) (A : Nat → Prop) (Kc : State → Prop) (C0 : Cx ad A Kc) (N : Nat) (S : St) (V : Vt) (o : Nat) (hs : shp S o t8) (r : Int32) (V' : Vt) (h : f_X8_pass N S V o = some (r, V')) : Met l yX8_pass (mw yX8_pass cX8_pass 1 (some .int)) { frames := 5, cells := 0, slots := 0, locals := 134 } (PreM D cy ad Kc S V [.ref (ad o)]) (QI D cy ad A r S V') 0 0 A := by
  refine ct_go C0 (own := RX8) rfl (by decide) rfl ?_
  intro p e s m below meth c ls H locs X hr hlocks hnm hl w
  have hx := X.1.1
  have hb := X.1.2.1
  have hown := X.2.1
  have hts := X.2.2.1
  have hl : lv_has ls 1 [(0, .ref (ad o))] := hl
  rw [f_X8_pass] at h
  refine lv_aload_n hx hb dX8_pass_0 rfl (lv_at hl 0 rfl) ?_
  refine lv_aload_n hx hb dX8_pass_1 rfl (lv_at hl 0 rfl) ?_
  refine lv_iconst (v := 3) hx hb dX8_pass_2 (by decide) ?_
  refine lv_iconst (v := 0) hx hb dX8_pass_3 (by decide) ?_
  refine lv_iconst (v := 0) hx hb dX8_pass_4 (by decide) ?_
  refine lv_iconst (v := 0) hx hb dX8_pass_5 (by decide) ?_
  obtain ⟨r7, V9, q8, h⟩ := obi h
  refine m_ci (m_rV (As := [.int (3 : Int32), .int (0 : Int32), .int (0 : Int32), .int (0 : Int32)]) (rest := [.ref (ad o)]) X w hl mi_X8_carryOut ml_X8_197 o (shn hs 0 rfl) (shk hs 0 rfl : S.2.1 o = 8) rfl (c_X8_carryOut l D cy ad A Kc C0 N S V o hs (3 : Int32) (0 : Int32) (0 : Int32) (0 : Int32) r7 V9 q8) ⟨⟨rfl, rfl, Nat.le_of_ble_eq_true rfl, Nat.le_of_ble_eq_true rfl⟩, Nat.le_of_ble_eq_true rfl, Nat.le_of_ble_eq_true rfl⟩ rfl rfl (Nat.le_of_ble_eq_true rfl) dX8_pass_6) w (fun H locs w => ?_)
  obtain ⟨r10, V12, q11, h⟩ := obi h
  refine m_ci (m_rV (As := [.int r7]) (rest := []) X w hl mi_X8_judged ml_X8_201 o (shn hs 0 rfl) (shk hs 0 rfl : S.2.1 o = 8) rfl (c_X8_judged l D cy ad A Kc C0 N S V9 o hs r7 r10 V12 q11) ⟨⟨rfl, rfl, Nat.le_of_ble_eq_true rfl, Nat.le_of_ble_eq_true rfl⟩, Nat.le_of_ble_eq_true rfl, Nat.le_of_ble_eq_true rfl⟩ rfl rfl (Nat.le_of_ble_eq_true rfl) dX8_pass_9) w (fun H locs w => ?_)
  obtain ⟨rfl, rfl⟩ := reti h
  exact m_ri X w hr hlocks dX8_pass_12
def f_X8_hound (N : Nat) (S : St) (V : Vt) (o : Nat) (a1 : Int32) (a2 : Int32) : Option (Int32 × Vt) := ob1 (f_X8_isCell N a1) (fun r13 => if r13 = 0 then some ((-1 : Int32), V) else ob1 (f_X8_isWithin N a2 (0 : Int32) (99 : Int32)) (fun r16 => if r16 = 0 then some ((-1 : Int32), V) else ob1 (f_X0_lawInForce N S V (o + 1)) (fun r19 => nl r19 (obv (f_X3_learn_n N S V (o + 48) (o + 1)) (fun V25 => ob1 (f_X3_placeAfter N S V25 (o + 48) a1 a2) (fun r26 => some (r26, V25)))) (fun q21 => cg (tshB S q21) (obv (f_X3_learn_t N S V (o + 48) (o + 1) q21) (fun V30 => ob1 (f_X3_placeAfter N S V30 (o + 48) a1 a2) (fun r31 => some (r31, V30))))))))
set_option maxHeartbeats 4000000 in
set_option maxRecDepth 100000 in
theorem c_X8_hound (l : Launch) (D : va_G) (cy : Nat → ClassId) (ad : Nat → Nat) (A : Nat → Prop) (Kc : State → Prop) (C0 : Cx ad A Kc) (N : Nat) (S : St) (V : Vt) (o : Nat) (hs : shp S o t8) (a1 : Int32) (a2 : Int32) (r : Int32) (V' : Vt) (h : f_X8_hound N S V o a1 a2 = some (r, V')) : Met l yX8_hound (mw yX8_hound cX8_hound 3 (some .int)) { frames := 5, cells := 0, slots := 0, locals := 131 } (PreM D cy ad Kc S V [.ref (ad o), .int a1, .int a2]) (QI D cy ad A r S V') 0 0 A := by
  refine ct_go C0 (own := RX8) rfl (by decide) rfl ?_
  intro p e s m below meth c ls H locs X hr hlocks hnm hl w
  have hx := X.1.1
  have hb := X.1.2.1
  have hown := X.2.1
  have hts := X.2.2.1
  have hl : lv_has ls 3 [(0, .ref (ad o)), (1, .int a1), (2, .int a2)] := hl
  rw [f_X8_hound] at h
  refine lv_iload_n hx hb dX8_hound_0 rfl (lv_at hl 1 rfl) ?_
  obtain ⟨r13, q14, h⟩ := ob1i h
  refine m_ci (m_rS (As := [.int a1]) (rest := []) X w hl mi_X8_isCell ml_X8_89 (c_X8_isCell l D cy ad A Kc C0 N S V a1 r13 q14) ⟨⟨rfl, rfl, Nat.le_of_ble_eq_true rfl, Nat.le_of_ble_eq_true rfl⟩, Nat.le_of_ble_eq_true rfl, Nat.le_of_ble_eq_true rfl⟩ rfl rfl (Nat.le_of_ble_eq_true rfl) dX8_hound_1) w (fun H locs w => ?_)
  refine lv_if_eq (tgt := 17) hx hb dX8_hound_4 (by decide) (fun c15 => ?_) (fun c15 => ?_)
  · replace h := ifT h c15
    refine lv_iconst (v := (-1)) hx hb dX8_hound_17 (by decide) ?_
    obtain ⟨rfl, rfl⟩ := reti h
    exact m_ri X w hr hlocks dX8_hound_18
  · replace h := ifF h c15
    refine lv_iload_n hx hb dX8_hound_7 rfl (lv_at hl 2 rfl) ?_
    refine lv_iconst (v := 0) hx hb dX8_hound_8 (by decide) ?_
    refine lv_bipush (v := 99) hx hb dX8_hound_9 (by decide) ?_
    obtain ⟨r16, q17, h⟩ := ob1i h
    refine m_ci (m_rS (As := [.int a2, .int (0 : Int32), .int (99 : Int32)]) (rest := []) X w hl mi_X8_isWithin ml_X8_93 (c_X8_isWithin l D cy ad A Kc C0 N S V a2 (0 : Int32) (99 : Int32) r16 q17) ⟨⟨rfl, rfl, Nat.le_of_ble_eq_true rfl, Nat.le_of_ble_eq_true rfl⟩, Nat.le_of_ble_eq_true rfl, Nat.le_of_ble_eq_true rfl⟩ rfl rfl (Nat.le_of_ble_eq_true rfl) dX8_hound_11) w (fun H locs w => ?_)
    refine lv_if_ne (tgt := 19) hx hb dX8_hound_14 (by decide) (fun c18 => ?_) (fun c18 => ?_)
    · replace h := ifF h c18
      refine lv_aload_n hx hb dX8_hound_19 rfl (lv_at hl 0 rfl) ?_
      refine m_get X w o (shn hs 0 rfl) (shk hs 0 rfl : S.2.1 o = 8) ci8 10 (by decide) (fvR (shk hs 0 rfl : S.2.1 o = 8) rfl (shq hs 0 10 rfl rfl : S.2.2.2.1 o 10 = (o + 48) + 1)) rfl fl_X8_64 dX8_hound_20 ?_
      refine lv_aload_n hx hb dX8_hound_23 rfl (lv_at hl 0 rfl) ?_
      refine m_get X w o (shn hs 0 rfl) (shk hs 0 rfl : S.2.1 o = 8) ci8 0 (by decide) (fvR (shk hs 0 rfl : S.2.1 o = 8) rfl (shq hs 0 0 rfl rfl : S.2.2.2.1 o 0 = (o + 1) + 1)) rfl fl_X8_12 dX8_hound_24 ?_
      refine lv_aload_n hx hb dX8_hound_27 rfl (lv_at hl 0 rfl) ?_
      refine m_get X w o (shn hs 0 rfl) (shk hs 0 rfl : S.2.1 o = 8) ci8 0 (by decide) (fvR (shk hs 0 rfl : S.2.1 o = 8) rfl (shq hs 0 0 rfl rfl : S.2.2.2.1 o 0 = (o + 1) + 1)) rfl fl_X8_12 dX8_hound_28 ?_
      obtain ⟨r19, q20, h⟩ := ob1i h
      refine m_cn (m_rV (As := []) (rest := [.ref (ad (o + 1)), .ref (ad (o + 48))]) X w hl mi_X0_lawInForce ml_X8_113 (o + 1) (shn hs 1 rfl) (shk hs 1 rfl : S.2.1 (o + 1) = 0) rfl (c_X0_lawInForce l D cy ad A Kc C0 N S V (o + 1) (sb_8_1 hs) r19 q20) ⟨⟨rfl, rfl, Nat.le_of_ble_eq_true rfl, Nat.le_of_ble_eq_true rfl⟩, Nat.le_of_ble_eq_true rfl, Nat.le_of_ble_eq_true rfl⟩ rfl rfl (Nat.le_of_ble_eq_true rfl) dX8_hound_31) w (fun H locs w => ?_)
      cases r19 with
      | zero =>
        replace h := nl0 h
        obtain ⟨V25, q24, h⟩ := obvi h
        refine m_cv (m_rV (As := [.ref (ad (o + 1)), .null]) (rest := []) X w hl mi_X3_learn ml_X8_218 (o + 48) (shn hs 48 rfl) (shk hs 48 rfl : S.2.1 (o + 48) = 3) rfl (c_X3_learn_n l D cy ad A Kc C0 N S V (o + 48) (sb_8_48 hs) (o + 1) (sb_8_1 hs) V25 q24) ⟨⟨rfl, rfl, Nat.le_of_ble_eq_true rfl, Nat.le_of_ble_eq_true rfl⟩, Nat.le_of_ble_eq_true rfl, Nat.le_of_ble_eq_true rfl⟩ rfl rfl (Nat.le_of_ble_eq_true rfl) dX8_hound_34) w (fun H locs w => ?_)
        refine lv_aload_n hx hb dX8_hound_37 rfl (lv_at hl 0 rfl) ?_
        refine m_get X w o (shn hs 0 rfl) (shk hs 0 rfl : S.2.1 o = 8) ci8 10 (by decide) (fvR (shk hs 0 rfl : S.2.1 o = 8) rfl (shq hs 0 10 rfl rfl : S.2.2.2.1 o 10 = (o + 48) + 1)) rfl fl_X8_64 dX8_hound_38 ?_
        refine lv_iload_n hx hb dX8_hound_41 rfl (lv_at hl 1 rfl) ?_
        refine lv_iload_n hx hb dX8_hound_42 rfl (lv_at hl 2 rfl) ?_
        obtain ⟨r26, q27, h⟩ := ob1i h
        refine m_ci (m_rV (As := [.int a1, .int a2]) (rest := []) X w hl mi_X3_placeAfter ml_X8_222 (o + 48) (shn hs 48 rfl) (shk hs 48 rfl : S.2.1 (o + 48) = 3) rfl (c_X3_placeAfter l D cy ad A Kc C0 N S V25 (o + 48) (sb_8_48 hs) a1 a2 r26 q27) ⟨⟨rfl, rfl, Nat.le_of_ble_eq_true rfl, Nat.le_of_ble_eq_true rfl⟩, Nat.le_of_ble_eq_true rfl, Nat.le_of_ble_eq_true rfl⟩ rfl rfl (Nat.le_of_ble_eq_true rfl) dX8_hound_43) w (fun H locs w => ?_)
        obtain ⟨rfl, rfl⟩ := reti h
        exact m_ri X w hr hlocks dX8_hound_46
      | succ q21 =>
        replace h := nls h
        obtain ⟨g22, h⟩ := cgi h
        have hs_q21 := tsh_of g22
        obtain ⟨V30, q29, h⟩ := obvi h
        refine m_cv (m_rV (As := [.ref (ad (o + 1)), .ref (ad q21)]) (rest := []) X w hl mi_X3_learn ml_X8_218 (o + 48) (shn hs 48 rfl) (shk hs 48 rfl : S.2.1 (o + 48) = 3) rfl (c_X3_learn_t l D cy ad A Kc C0 N S V (o + 48) (sb_8_48 hs) (o + 1) (sb_8_1 hs) q21 hs_q21 V30 q29) ⟨⟨rfl, rfl, Nat.le_of_ble_eq_true rfl, Nat.le_of_ble_eq_true rfl⟩, Nat.le_of_ble_eq_true rfl, Nat.le_of_ble_eq_true rfl⟩ rfl rfl (Nat.le_of_ble_eq_true rfl) dX8_hound_34) w (fun H locs w => ?_)
        refine lv_aload_n hx hb dX8_hound_37 rfl (lv_at hl 0 rfl) ?_
        refine m_get X w o (shn hs 0 rfl) (shk hs 0 rfl : S.2.1 o = 8) ci8 10 (by decide) (fvR (shk hs 0 rfl : S.2.1 o = 8) rfl (shq hs 0 10 rfl rfl : S.2.2.2.1 o 10 = (o + 48) + 1)) rfl fl_X8_64 dX8_hound_38 ?_
        refine lv_iload_n hx hb dX8_hound_41 rfl (lv_at hl 1 rfl) ?_
        refine lv_iload_n hx hb dX8_hound_42 rfl (lv_at hl 2 rfl) ?_
        obtain ⟨r31, q32, h⟩ := ob1i h
        refine m_ci (m_rV (As := [.int a1, .int a2]) (rest := []) X w hl mi_X3_placeAfter ml_X8_222 (o + 48) (shn hs 48 rfl) (shk hs 48 rfl : S.2.1 (o + 48) = 3) rfl (c_X3_placeAfter l D cy ad A Kc C0 N S V30 (o + 48) (sb_8_48 hs) a1 a2 r31 q32) ⟨⟨rfl, rfl, Nat.le_of_ble_eq_true rfl, Nat.le_of_ble_eq_true rfl⟩, Nat.le_of_ble_eq_true rfl, Nat.le_of_ble_eq_true rfl⟩ rfl rfl (Nat.le_of_ble_eq_true rfl) dX8_hound_43) w (fun H locs w => ?_)
        obtain ⟨rfl, rfl⟩ := reti h
        exact m_ri X w hr hlocks dX8_hound_46
    · replace h := ifT h c18
      refine lv_iconst (v := (-1)) hx hb dX8_hound_17 (by decide) ?_
      obtain ⟨rfl, rfl⟩ := reti h
      exact m_ri X w hr hlocks dX8_hound_18
def f_X8_ring_51 (N : Nat) (S : St) (o : Nat) (V : Vt) (s0 : Int32) (s1 : Int32) : Option (Int32 × Vt) := ob (f_X3_ringOf N S V (o + 48) s1 s0) (fun r28 V30 => some (r28, V30))
def f_X8_ring (N : Nat) (S : St) (V : Vt) (o : Nat) (a1 : Int32) (a2 : Int32) : Option (Int32 × Vt) := ob1 (f_X8_isCell N a1) (fun r14 => if r14 = 0 then some ((-1 : Int32), V) else ob1 (f_X8_isWithin N a2 (0 : Int32) (1 : Int32)) (fun r17 => if r17 = 0 then some ((-1 : Int32), V) else ob1 (f_X0_lawInForce N S V (o + 1)) (fun r20 => nl r20 (obv (f_X3_learn_n N S V (o + 48) (o + 1)) (fun V26 => if a2 = (1 : Int32) then f_X8_ring_51 N S o V26 (1 : Int32) a1 else f_X8_ring_51 N S o V26 (0 : Int32) a1)) (fun q22 => cg (tshB S q22) (obv (f_X3_learn_t N S V (o + 48) (o + 1) q22) (fun V33 => if a2 = (1 : Int32) then f_X8_ring_51 N S o V33 (1 : Int32) a1 else f_X8_ring_51 N S o V33 (0 : Int32) a1))))))
set_option maxHeartbeats 4000000 in
set_option maxRecDepth 100000 in
theorem c_X8_ring (l : Launch) (D : va_G) (cy : Nat → ClassId) (ad : Nat → Nat) (A : Nat → Prop) (Kc : State → Prop) (C0 : Cx ad A Kc) (N : Nat) (S : St) (V : Vt) (o : Nat) (hs : shp S o t8) (a1 : Int32) (a2 : Int32) (r : Int32) (V' : Vt) (h : f_X8_ring N S V o a1 a2 = some (r, V')) : Met l yX8_ring (mw yX8_ring cX8_ring 3 (some .int)) { frames := 5, cells := 0, slots := 0, locals := 131 } (PreM D cy ad Kc S V [.ref (ad o), .int a1, .int a2]) (QI D cy ad A r S V') 0 0 A := by
  refine ct_go C0 (own := RX8) rfl (by decide) rfl ?_
  intro p e s m below meth c ls H locs X hr hlocks hnm hl w
  have hx := X.1.1
  have hb := X.1.2.1
  have hown := X.2.1
  have hts := X.2.2.1
  have hl : lv_has ls 3 [(0, .ref (ad o)), (1, .int a1), (2, .int a2)] := hl
  obtain ⟨G, hG⟩ : ∃ G : Nat → Vt → List (Nat × Value) → List Value → Prop, G = fun pc V lv st => ∀ (H : Heap) (locs : List Loc) (ls : Array Slot), Wd D cy ad A s.heap S V H locs → lv_has ls 3 lv → W p l e { frames := 5, cells := 0, slots := 0, locals := 131 } s m ([.ref (ad o), .int a1, .int a2] : List Value).toArray below meth c H locs 0 0 (MQ below (QI D cy ad A r S V') ([.ref (ad o), .int a1, .int a2] : List Value).toArray s 0 0 A) (F0 m pc ls st) := ⟨_, rfl⟩
  have B51 : ∀ (V : Vt) (s0 : Int32) (s1 : Int32), f_X8_ring_51 N S o V s0 s1 = some (r, V') → G 51 V [] [.int s0, .int s1, .ref (ad (o + 48))] := by
    intro V s0 s1 h
    rw [hG]
    intro H locs ls w hl
    rw [f_X8_ring_51] at h
    obtain ⟨r28, V30, q29, h⟩ := obi h
    refine m_ci (m_rV (As := [.int s1, .int s0]) (rest := []) X w hl mi_X3_ringOf ml_X8_225 (o + 48) (shn hs 48 rfl) (shk hs 48 rfl : S.2.1 (o + 48) = 3) rfl (c_X3_ringOf l D cy ad A Kc C0 N S V (o + 48) (sb_8_48 hs) s1 s0 r28 V30 q29) ⟨⟨rfl, rfl, Nat.le_of_ble_eq_true rfl, Nat.le_of_ble_eq_true rfl⟩, Nat.le_of_ble_eq_true rfl, Nat.le_of_ble_eq_true rfl⟩ rfl rfl (Nat.le_of_ble_eq_true rfl) dX8_ring_51) w (fun H locs w => ?_)
    obtain ⟨rfl, rfl⟩ := reti h
    exact m_ri X w hr hlocks dX8_ring_54
  rw [f_X8_ring] at h
  refine lv_iload_n hx hb dX8_ring_0 rfl (lv_at hl 1 rfl) ?_
  obtain ⟨r14, q15, h⟩ := ob1i h
  refine m_ci (m_rS (As := [.int a1]) (rest := []) X w hl mi_X8_isCell ml_X8_89 (c_X8_isCell l D cy ad A Kc C0 N S V a1 r14 q15) ⟨⟨rfl, rfl, Nat.le_of_ble_eq_true rfl, Nat.le_of_ble_eq_true rfl⟩, Nat.le_of_ble_eq_true rfl, Nat.le_of_ble_eq_true rfl⟩ rfl rfl (Nat.le_of_ble_eq_true rfl) dX8_ring_1) w (fun H locs w => ?_)
  refine lv_if_eq (tgt := 16) hx hb dX8_ring_4 (by decide) (fun c16 => ?_) (fun c16 => ?_)
  · replace h := ifT h c16
    refine lv_iconst (v := (-1)) hx hb dX8_ring_16 (by decide) ?_
    obtain ⟨rfl, rfl⟩ := reti h
    exact m_ri X w hr hlocks dX8_ring_17
  · replace h := ifF h c16
    refine lv_iload_n hx hb dX8_ring_7 rfl (lv_at hl 2 rfl) ?_
    refine lv_iconst (v := 0) hx hb dX8_ring_8 (by decide) ?_
    refine lv_iconst (v := 1) hx hb dX8_ring_9 (by decide) ?_
    obtain ⟨r17, q18, h⟩ := ob1i h
    refine m_ci (m_rS (As := [.int a2, .int (0 : Int32), .int (1 : Int32)]) (rest := []) X w hl mi_X8_isWithin ml_X8_93 (c_X8_isWithin l D cy ad A Kc C0 N S V a2 (0 : Int32) (1 : Int32) r17 q18) ⟨⟨rfl, rfl, Nat.le_of_ble_eq_true rfl, Nat.le_of_ble_eq_true rfl⟩, Nat.le_of_ble_eq_true rfl, Nat.le_of_ble_eq_true rfl⟩ rfl rfl (Nat.le_of_ble_eq_true rfl) dX8_ring_10) w (fun H locs w => ?_)
    refine lv_if_ne (tgt := 18) hx hb dX8_ring_13 (by decide) (fun c19 => ?_) (fun c19 => ?_)
    · replace h := ifF h c19
      refine lv_aload_n hx hb dX8_ring_18 rfl (lv_at hl 0 rfl) ?_
      refine m_get X w o (shn hs 0 rfl) (shk hs 0 rfl : S.2.1 o = 8) ci8 10 (by decide) (fvR (shk hs 0 rfl : S.2.1 o = 8) rfl (shq hs 0 10 rfl rfl : S.2.2.2.1 o 10 = (o + 48) + 1)) rfl fl_X8_64 dX8_ring_19 ?_
      refine lv_aload_n hx hb dX8_ring_22 rfl (lv_at hl 0 rfl) ?_
      refine m_get X w o (shn hs 0 rfl) (shk hs 0 rfl : S.2.1 o = 8) ci8 0 (by decide) (fvR (shk hs 0 rfl : S.2.1 o = 8) rfl (shq hs 0 0 rfl rfl : S.2.2.2.1 o 0 = (o + 1) + 1)) rfl fl_X8_12 dX8_ring_23 ?_
      refine lv_aload_n hx hb dX8_ring_26 rfl (lv_at hl 0 rfl) ?_
      refine m_get X w o (shn hs 0 rfl) (shk hs 0 rfl : S.2.1 o = 8) ci8 0 (by decide) (fvR (shk hs 0 rfl : S.2.1 o = 8) rfl (shq hs 0 0 rfl rfl : S.2.2.2.1 o 0 = (o + 1) + 1)) rfl fl_X8_12 dX8_ring_27 ?_
      obtain ⟨r20, q21, h⟩ := ob1i h
      refine m_cn (m_rV (As := []) (rest := [.ref (ad (o + 1)), .ref (ad (o + 48))]) X w hl mi_X0_lawInForce ml_X8_113 (o + 1) (shn hs 1 rfl) (shk hs 1 rfl : S.2.1 (o + 1) = 0) rfl (c_X0_lawInForce l D cy ad A Kc C0 N S V (o + 1) (sb_8_1 hs) r20 q21) ⟨⟨rfl, rfl, Nat.le_of_ble_eq_true rfl, Nat.le_of_ble_eq_true rfl⟩, Nat.le_of_ble_eq_true rfl, Nat.le_of_ble_eq_true rfl⟩ rfl rfl (Nat.le_of_ble_eq_true rfl) dX8_ring_30) w (fun H locs w => ?_)
      cases r20 with
      | zero =>
        replace h := nl0 h
        obtain ⟨V26, q25, h⟩ := obvi h
        refine m_cv (m_rV (As := [.ref (ad (o + 1)), .null]) (rest := []) X w hl mi_X3_learn ml_X8_218 (o + 48) (shn hs 48 rfl) (shk hs 48 rfl : S.2.1 (o + 48) = 3) rfl (c_X3_learn_n l D cy ad A Kc C0 N S V (o + 48) (sb_8_48 hs) (o + 1) (sb_8_1 hs) V26 q25) ⟨⟨rfl, rfl, Nat.le_of_ble_eq_true rfl, Nat.le_of_ble_eq_true rfl⟩, Nat.le_of_ble_eq_true rfl, Nat.le_of_ble_eq_true rfl⟩ rfl rfl (Nat.le_of_ble_eq_true rfl) dX8_ring_33) w (fun H locs w => ?_)
        refine lv_aload_n hx hb dX8_ring_36 rfl (lv_at hl 0 rfl) ?_
        refine m_get X w o (shn hs 0 rfl) (shk hs 0 rfl : S.2.1 o = 8) ci8 10 (by decide) (fvR (shk hs 0 rfl : S.2.1 o = 8) rfl (shq hs 0 10 rfl rfl : S.2.2.2.1 o 10 = (o + 48) + 1)) rfl fl_X8_64 dX8_ring_37 ?_
        refine lv_iload_n hx hb dX8_ring_40 rfl (lv_at hl 1 rfl) ?_
        refine lv_iload_n hx hb dX8_ring_41 rfl (lv_at hl 2 rfl) ?_
        refine lv_iconst (v := 1) hx hb dX8_ring_42 (by decide) ?_
        refine lv_icmp_ne (tgt := 50) hx hb dX8_ring_43 (by decide) (fun c27 => ?_) (fun c27 => ?_)
        · replace h := ifF h c27
          refine lv_iconst (v := 0) hx hb dX8_ring_50 (by decide) ?_
          have g := B51 V26 (0 : Int32) a1 h
          rw [hG] at g
          exact g H locs ls w (lv_sub hl [] rfl)
        · replace h := ifT h c27
          refine lv_iconst (v := 1) hx hb dX8_ring_46 (by decide) ?_
          refine lv_goto (tgt := 51) hx hb dX8_ring_47 (by decide) ?_
          have g := B51 V26 (1 : Int32) a1 h
          rw [hG] at g
          exact g H locs ls w (lv_sub hl [] rfl)
      | succ q22 =>
        replace h := nls h
        obtain ⟨g23, h⟩ := cgi h
        have hs_q22 := tsh_of g23
        obtain ⟨V33, q32, h⟩ := obvi h
        refine m_cv (m_rV (As := [.ref (ad (o + 1)), .ref (ad q22)]) (rest := []) X w hl mi_X3_learn ml_X8_218 (o + 48) (shn hs 48 rfl) (shk hs 48 rfl : S.2.1 (o + 48) = 3) rfl (c_X3_learn_t l D cy ad A Kc C0 N S V (o + 48) (sb_8_48 hs) (o + 1) (sb_8_1 hs) q22 hs_q22 V33 q32) ⟨⟨rfl, rfl, Nat.le_of_ble_eq_true rfl, Nat.le_of_ble_eq_true rfl⟩, Nat.le_of_ble_eq_true rfl, Nat.le_of_ble_eq_true rfl⟩ rfl rfl (Nat.le_of_ble_eq_true rfl) dX8_ring_33) w (fun H locs w => ?_)
        refine lv_aload_n hx hb dX8_ring_36 rfl (lv_at hl 0 rfl) ?_
        refine m_get X w o (shn hs 0 rfl) (shk hs 0 rfl : S.2.1 o = 8) ci8 10 (by decide) (fvR (shk hs 0 rfl : S.2.1 o = 8) rfl (shq hs 0 10 rfl rfl : S.2.2.2.1 o 10 = (o + 48) + 1)) rfl fl_X8_64 dX8_ring_37 ?_
        refine lv_iload_n hx hb dX8_ring_40 rfl (lv_at hl 1 rfl) ?_
        refine lv_iload_n hx hb dX8_ring_41 rfl (lv_at hl 2 rfl) ?_
        refine lv_iconst (v := 1) hx hb dX8_ring_42 (by decide) ?_
        refine lv_icmp_ne (tgt := 50) hx hb dX8_ring_43 (by decide) (fun c34 => ?_) (fun c34 => ?_)
        · replace h := ifF h c34
          refine lv_iconst (v := 0) hx hb dX8_ring_50 (by decide) ?_
          have g := B51 V33 (0 : Int32) a1 h
          rw [hG] at g
          exact g H locs ls w (lv_sub hl [] rfl)
        · replace h := ifT h c34
          refine lv_iconst (v := 1) hx hb dX8_ring_46 (by decide) ?_
          refine lv_goto (tgt := 51) hx hb dX8_ring_47 (by decide) ?_
          have g := B51 V33 (1 : Int32) a1 h
          rw [hG] at g
          exact g H locs ls w (lv_sub hl [] rfl)
    · replace h := ifT h c19
      refine lv_iconst (v := (-1)) hx hb dX8_ring_16 (by decide) ?_
      obtain ⟨rfl, rfl⟩ := reti h
      exact m_ri X w hr hlocks dX8_ring_17
def f_X8_sources (N : Nat) (S : St) (V : Vt) (o : Nat) (a1 : Int32) : Option (Int32 × Vt) := ob1 (f_X8_isCell N a1) (fun r14 => if r14 = 0 then some ((-1 : Int32), V) else ob1 (f_X0_lawInForce N S V (o + 1)) (fun r17 => nl r17 (obv (f_X3_learn_n N S V (o + 48) (o + 1)) (fun V23 => obv (f_X3_learnReach N S V23 (o + 48)) (fun V26 => ob1 (f_X3_sourceBits N S V26 (o + 48) a1) (fun r27 => some (r27, V26))))) (fun q19 => cg (tshB S q19) (obv (f_X3_learn_t N S V (o + 48) (o + 1) q19) (fun V31 => obv (f_X3_learnReach N S V31 (o + 48)) (fun V34 => ob1 (f_X3_sourceBits N S V34 (o + 48) a1) (fun r35 => some (r35, V34))))))))
set_option maxHeartbeats 4000000 in
set_option maxRecDepth 100000 in
theorem c_X8_sources (l : Launch) (D : va_G) (cy : Nat → ClassId) (ad : Nat → Nat) (A : Nat → Prop) (Kc : State → Prop) (C0 : Cx ad A Kc) (N : Nat) (S : St) (V : Vt) (o : Nat) (hs : shp S o t8) (a1 : Int32) (r : Int32) (V' : Vt) (h : f_X8_sources N S V o a1 = some (r, V')) : Met l yX8_sources (mw yX8_sources cX8_sources 2 (some .int)) { frames := 5, cells := 0, slots := 0, locals := 131 } (PreM D cy ad Kc S V [.ref (ad o), .int a1]) (QI D cy ad A r S V') 0 0 A := by
  refine ct_go C0 (own := RX8) rfl (by decide) rfl ?_
  intro p e s m below meth c ls H locs X hr hlocks hnm hl w
  have hx := X.1.1
  have hb := X.1.2.1
  have hown := X.2.1
  have hts := X.2.2.1
  have hl : lv_has ls 2 [(0, .ref (ad o)), (1, .int a1)] := hl
  rw [f_X8_sources] at h
  refine lv_iload_n hx hb dX8_sources_0 rfl (lv_at hl 1 rfl) ?_
  obtain ⟨r14, q15, h⟩ := ob1i h
  refine m_ci (m_rS (As := [.int a1]) (rest := []) X w hl mi_X8_isCell ml_X8_89 (c_X8_isCell l D cy ad A Kc C0 N S V a1 r14 q15) ⟨⟨rfl, rfl, Nat.le_of_ble_eq_true rfl, Nat.le_of_ble_eq_true rfl⟩, Nat.le_of_ble_eq_true rfl, Nat.le_of_ble_eq_true rfl⟩ rfl rfl (Nat.le_of_ble_eq_true rfl) dX8_sources_1) w (fun H locs w => ?_)
  refine lv_if_ne (tgt := 9) hx hb dX8_sources_4 (by decide) (fun c16 => ?_) (fun c16 => ?_)
  · replace h := ifF h c16
    refine lv_aload_n hx hb dX8_sources_9 rfl (lv_at hl 0 rfl) ?_
    refine m_get X w o (shn hs 0 rfl) (shk hs 0 rfl : S.2.1 o = 8) ci8 10 (by decide) (fvR (shk hs 0 rfl : S.2.1 o = 8) rfl (shq hs 0 10 rfl rfl : S.2.2.2.1 o 10 = (o + 48) + 1)) rfl fl_X8_64 dX8_sources_10 ?_
    refine lv_aload_n hx hb dX8_sources_13 rfl (lv_at hl 0 rfl) ?_
    refine m_get X w o (shn hs 0 rfl) (shk hs 0 rfl : S.2.1 o = 8) ci8 0 (by decide) (fvR (shk hs 0 rfl : S.2.1 o = 8) rfl (shq hs 0 0 rfl rfl : S.2.2.2.1 o 0 = (o + 1) + 1)) rfl fl_X8_12 dX8_sources_14 ?_
    refine lv_aload_n hx hb dX8_sources_17 rfl (lv_at hl 0 rfl) ?_
    refine m_get X w o (shn hs 0 rfl) (shk hs 0 rfl : S.2.1 o = 8) ci8 0 (by decide) (fvR (shk hs 0 rfl : S.2.1 o = 8) rfl (shq hs 0 0 rfl rfl : S.2.2.2.1 o 0 = (o + 1) + 1)) rfl fl_X8_12 dX8_sources_18 ?_
    obtain ⟨r17, q18, h⟩ := ob1i h
    refine m_cn (m_rV (As := []) (rest := [.ref (ad (o + 1)), .ref (ad (o + 48))]) X w hl mi_X0_lawInForce ml_X8_113 (o + 1) (shn hs 1 rfl) (shk hs 1 rfl : S.2.1 (o + 1) = 0) rfl (c_X0_lawInForce l D cy ad A Kc C0 N S V (o + 1) (sb_8_1 hs) r17 q18) ⟨⟨rfl, rfl, Nat.le_of_ble_eq_true rfl, Nat.le_of_ble_eq_true rfl⟩, Nat.le_of_ble_eq_true rfl, Nat.le_of_ble_eq_true rfl⟩ rfl rfl (Nat.le_of_ble_eq_true rfl) dX8_sources_21) w (fun H locs w => ?_)
    cases r17 with
    | zero =>
      replace h := nl0 h
      obtain ⟨V23, q22, h⟩ := obvi h
      refine m_cv (m_rV (As := [.ref (ad (o + 1)), .null]) (rest := []) X w hl mi_X3_learn ml_X8_218 (o + 48) (shn hs 48 rfl) (shk hs 48 rfl : S.2.1 (o + 48) = 3) rfl (c_X3_learn_n l D cy ad A Kc C0 N S V (o + 48) (sb_8_48 hs) (o + 1) (sb_8_1 hs) V23 q22) ⟨⟨rfl, rfl, Nat.le_of_ble_eq_true rfl, Nat.le_of_ble_eq_true rfl⟩, Nat.le_of_ble_eq_true rfl, Nat.le_of_ble_eq_true rfl⟩ rfl rfl (Nat.le_of_ble_eq_true rfl) dX8_sources_24) w (fun H locs w => ?_)
      refine lv_aload_n hx hb dX8_sources_27 rfl (lv_at hl 0 rfl) ?_
      refine m_get X w o (shn hs 0 rfl) (shk hs 0 rfl : S.2.1 o = 8) ci8 10 (by decide) (fvR (shk hs 0 rfl : S.2.1 o = 8) rfl (shq hs 0 10 rfl rfl : S.2.2.2.1 o 10 = (o + 48) + 1)) rfl fl_X8_64 dX8_sources_28 ?_
      obtain ⟨V26, q25, h⟩ := obvi h
      refine m_cv (m_rV (As := []) (rest := []) X w hl mi_X3_learnReach ml_X8_229 (o + 48) (shn hs 48 rfl) (shk hs 48 rfl : S.2.1 (o + 48) = 3) rfl (c_X3_learnReach l D cy ad A Kc C0 N S V23 (o + 48) (sb_8_48 hs) V26 q25) ⟨⟨rfl, rfl, Nat.le_of_ble_eq_true rfl, Nat.le_of_ble_eq_true rfl⟩, Nat.le_of_ble_eq_true rfl, Nat.le_of_ble_eq_true rfl⟩ rfl rfl (Nat.le_of_ble_eq_true rfl) dX8_sources_31) w (fun H locs w => ?_)
      refine lv_aload_n hx hb dX8_sources_34 rfl (lv_at hl 0 rfl) ?_
      refine m_get X w o (shn hs 0 rfl) (shk hs 0 rfl : S.2.1 o = 8) ci8 10 (by decide) (fvR (shk hs 0 rfl : S.2.1 o = 8) rfl (shq hs 0 10 rfl rfl : S.2.2.2.1 o 10 = (o + 48) + 1)) rfl fl_X8_64 dX8_sources_35 ?_
      refine lv_iload_n hx hb dX8_sources_38 rfl (lv_at hl 1 rfl) ?_
      obtain ⟨r27, q28, h⟩ := ob1i h
      refine m_ci (m_rV (As := [.int a1]) (rest := []) X w hl mi_X3_sourceBits ml_X8_232 (o + 48) (shn hs 48 rfl) (shk hs 48 rfl : S.2.1 (o + 48) = 3) rfl (c_X3_sourceBits l D cy ad A Kc C0 N S V26 (o + 48) (sb_8_48 hs) a1 r27 q28) ⟨⟨rfl, rfl, Nat.le_of_ble_eq_true rfl, Nat.le_of_ble_eq_true rfl⟩, Nat.le_of_ble_eq_true rfl, Nat.le_of_ble_eq_true rfl⟩ rfl rfl (Nat.le_of_ble_eq_true rfl) dX8_sources_39) w (fun H locs w => ?_)
      obtain ⟨rfl, rfl⟩ := reti h
      exact m_ri X w hr hlocks dX8_sources_42
    | succ q19 =>
      replace h := nls h
      obtain ⟨g20, h⟩ := cgi h
      have hs_q19 := tsh_of g20
      obtain ⟨V31, q30, h⟩ := obvi h
      refine m_cv (m_rV (As := [.ref (ad (o + 1)), .ref (ad q19)]) (rest := []) X w hl mi_X3_learn ml_X8_218 (o + 48) (shn hs 48 rfl) (shk hs 48 rfl : S.2.1 (o + 48) = 3) rfl (c_X3_learn_t l D cy ad A Kc C0 N S V (o + 48) (sb_8_48 hs) (o + 1) (sb_8_1 hs) q19 hs_q19 V31 q30) ⟨⟨rfl, rfl, Nat.le_of_ble_eq_true rfl, Nat.le_of_ble_eq_true rfl⟩, Nat.le_of_ble_eq_true rfl, Nat.le_of_ble_eq_true rfl⟩ rfl rfl (Nat.le_of_ble_eq_true rfl) dX8_sources_24) w (fun H locs w => ?_)
      refine lv_aload_n hx hb dX8_sources_27 rfl (lv_at hl 0 rfl) ?_
      refine m_get X w o (shn hs 0 rfl) (shk hs 0 rfl : S.2.1 o = 8) ci8 10 (by decide) (fvR (shk hs 0 rfl : S.2.1 o = 8) rfl (shq hs 0 10 rfl rfl : S.2.2.2.1 o 10 = (o + 48) + 1)) rfl fl_X8_64 dX8_sources_28 ?_
      obtain ⟨V34, q33, h⟩ := obvi h
      refine m_cv (m_rV (As := []) (rest := []) X w hl mi_X3_learnReach ml_X8_229 (o + 48) (shn hs 48 rfl) (shk hs 48 rfl : S.2.1 (o + 48) = 3) rfl (c_X3_learnReach l D cy ad A Kc C0 N S V31 (o + 48) (sb_8_48 hs) V34 q33) ⟨⟨rfl, rfl, Nat.le_of_ble_eq_true rfl, Nat.le_of_ble_eq_true rfl⟩, Nat.le_of_ble_eq_true rfl, Nat.le_of_ble_eq_true rfl⟩ rfl rfl (Nat.le_of_ble_eq_true rfl) dX8_sources_31) w (fun H locs w => ?_)
      refine lv_aload_n hx hb dX8_sources_34 rfl (lv_at hl 0 rfl) ?_
      refine m_get X w o (shn hs 0 rfl) (shk hs 0 rfl : S.2.1 o = 8) ci8 10 (by decide) (fvR (shk hs 0 rfl : S.2.1 o = 8) rfl (shq hs 0 10 rfl rfl : S.2.2.2.1 o 10 = (o + 48) + 1)) rfl fl_X8_64 dX8_sources_35 ?_
      refine lv_iload_n hx hb dX8_sources_38 rfl (lv_at hl 1 rfl) ?_
      obtain ⟨r35, q36, h⟩ := ob1i h
      refine m_ci (m_rV (As := [.int a1]) (rest := []) X w hl mi_X3_sourceBits ml_X8_232 (o + 48) (shn hs 48 rfl) (shk hs 48 rfl : S.2.1 (o + 48) = 3) rfl (c_X3_sourceBits l D cy ad A Kc C0 N S V34 (o + 48) (sb_8_48 hs) a1 r35 q36) ⟨⟨rfl, rfl, Nat.le_of_ble_eq_true rfl, Nat.le_of_ble_eq_true rfl⟩, Nat.le_of_ble_eq_true rfl, Nat.le_of_ble_eq_true rfl⟩ rfl rfl (Nat.le_of_ble_eq_true rfl) dX8_sources_39) w (fun H locs w => ?_)
      obtain ⟨rfl, rfl⟩ := reti h
      exact m_ri X w hr hlocks dX8_sources_42
  · replace h := ifT h c16
    refine lv_iconst (v := (-1)) hx hb dX8_sources_7 (by decide) ?_
    obtain ⟨rfl, rfl⟩ := reti h
    exact m_ri X w hr hlocks dX8_sources_8
def f_X8_casts (N : Nat) (S : St) (V : Vt) (o : Nat) (a1 : Int32) : Option (Int32 × Vt) := ob1 (f_X8_isWithin N a1 (0 : Int32) (1 : Int32)) (fun r16 => if r16 = 0 then some ((-1 : Int32), V) else ob1 (f_X0_lawInForce N S V (o + 1)) (fun r19 => nl r19 (obv (f_X3_learn_n N S V (o + 48) (o + 1)) (fun V25 => obv (f_X3_learnReach N S V25 (o + 48)) (fun V28 => ob1 (f_X3_castBits N S V28 (o + 48)) (fun r29 => if a1 = 0 then ob1 (f_J6_bitCount_0f7a4 N r29) (fun r32 => some (r32, V28)) else some (r29, V28))))) (fun q21 => cg (tshB S q21) (obv (f_X3_learn_t N S V (o + 48) (o + 1) q21) (fun V36 => obv (f_X3_learnReach N S V36 (o + 48)) (fun V39 => ob1 (f_X3_castBits N S V39 (o + 48)) (fun r40 => if a1 = 0 then ob1 (f_J6_bitCount_0f7a4 N r40) (fun r43 => some (r43, V39)) else some (r40, V39))))))))
set_option maxHeartbeats 4000000 in
set_option maxRecDepth 100000 in
theorem c_X8_casts (l : Launch) (D : va_G) (cy : Nat → ClassId) (ad : Nat → Nat) (A : Nat → Prop) (Kc : State → Prop) (C0 : Cx ad A Kc) (N : Nat) (S : St) (V : Vt) (o : Nat) (hs : shp S o t8) (a1 : Int32) (r : Int32) (V' : Vt) (h : f_X8_casts N S V o a1 = some (r, V')) : Met l yX8_casts (mw yX8_casts cX8_casts 3 (some .int)) { frames := 5, cells := 0, slots := 0, locals := 131 } (PreM D cy ad Kc S V [.ref (ad o), .int a1]) (QI D cy ad A r S V') 0 0 A := by
  refine ct_go C0 (own := RX8) rfl (by decide) rfl ?_
  intro p e s m below meth c ls H locs X hr hlocks hnm hl w
  have hx := X.1.1
  have hb := X.1.2.1
  have hown := X.2.1
  have hts := X.2.2.1
  have hl : lv_has ls 3 [(0, .ref (ad o)), (1, .int a1)] := hl
  rw [f_X8_casts] at h
  refine lv_iload_n hx hb dX8_casts_0 rfl (lv_at hl 1 rfl) ?_
  refine lv_iconst (v := 0) hx hb dX8_casts_1 (by decide) ?_
  refine lv_iconst (v := 1) hx hb dX8_casts_2 (by decide) ?_
  obtain ⟨r16, q17, h⟩ := ob1i h
  refine m_ci (m_rS (As := [.int a1, .int (0 : Int32), .int (1 : Int32)]) (rest := []) X w hl mi_X8_isWithin ml_X8_93 (c_X8_isWithin l D cy ad A Kc C0 N S V a1 (0 : Int32) (1 : Int32) r16 q17) ⟨⟨rfl, rfl, Nat.le_of_ble_eq_true rfl, Nat.le_of_ble_eq_true rfl⟩, Nat.le_of_ble_eq_true rfl, Nat.le_of_ble_eq_true rfl⟩ rfl rfl (Nat.le_of_ble_eq_true rfl) dX8_casts_3) w (fun H locs w => ?_)
  refine lv_if_ne (tgt := 11) hx hb dX8_casts_6 (by decide) (fun c18 => ?_) (fun c18 => ?_)
  · replace h := ifF h c18
    refine lv_aload_n hx hb dX8_casts_11 rfl (lv_at hl 0 rfl) ?_
    refine m_get X w o (shn hs 0 rfl) (shk hs 0 rfl : S.2.1 o = 8) ci8 10 (by decide) (fvR (shk hs 0 rfl : S.2.1 o = 8) rfl (shq hs 0 10 rfl rfl : S.2.2.2.1 o 10 = (o + 48) + 1)) rfl fl_X8_64 dX8_casts_12 ?_
    refine lv_aload_n hx hb dX8_casts_15 rfl (lv_at hl 0 rfl) ?_
    refine m_get X w o (shn hs 0 rfl) (shk hs 0 rfl : S.2.1 o = 8) ci8 0 (by decide) (fvR (shk hs 0 rfl : S.2.1 o = 8) rfl (shq hs 0 0 rfl rfl : S.2.2.2.1 o 0 = (o + 1) + 1)) rfl fl_X8_12 dX8_casts_16 ?_
    refine lv_aload_n hx hb dX8_casts_19 rfl (lv_at hl 0 rfl) ?_
    refine m_get X w o (shn hs 0 rfl) (shk hs 0 rfl : S.2.1 o = 8) ci8 0 (by decide) (fvR (shk hs 0 rfl : S.2.1 o = 8) rfl (shq hs 0 0 rfl rfl : S.2.2.2.1 o 0 = (o + 1) + 1)) rfl fl_X8_12 dX8_casts_20 ?_
    obtain ⟨r19, q20, h⟩ := ob1i h
    refine m_cn (m_rV (As := []) (rest := [.ref (ad (o + 1)), .ref (ad (o + 48))]) X w hl mi_X0_lawInForce ml_X8_113 (o + 1) (shn hs 1 rfl) (shk hs 1 rfl : S.2.1 (o + 1) = 0) rfl (c_X0_lawInForce l D cy ad A Kc C0 N S V (o + 1) (sb_8_1 hs) r19 q20) ⟨⟨rfl, rfl, Nat.le_of_ble_eq_true rfl, Nat.le_of_ble_eq_true rfl⟩, Nat.le_of_ble_eq_true rfl, Nat.le_of_ble_eq_true rfl⟩ rfl rfl (Nat.le_of_ble_eq_true rfl) dX8_casts_23) w (fun H locs w => ?_)
    cases r19 with
    | zero =>
      replace h := nl0 h
      obtain ⟨V25, q24, h⟩ := obvi h
      refine m_cv (m_rV (As := [.ref (ad (o + 1)), .null]) (rest := []) X w hl mi_X3_learn ml_X8_218 (o + 48) (shn hs 48 rfl) (shk hs 48 rfl : S.2.1 (o + 48) = 3) rfl (c_X3_learn_n l D cy ad A Kc C0 N S V (o + 48) (sb_8_48 hs) (o + 1) (sb_8_1 hs) V25 q24) ⟨⟨rfl, rfl, Nat.le_of_ble_eq_true rfl, Nat.le_of_ble_eq_true rfl⟩, Nat.le_of_ble_eq_true rfl, Nat.le_of_ble_eq_true rfl⟩ rfl rfl (Nat.le_of_ble_eq_true rfl) dX8_casts_26) w (fun H locs w => ?_)
      refine lv_aload_n hx hb dX8_casts_29 rfl (lv_at hl 0 rfl) ?_
      refine m_get X w o (shn hs 0 rfl) (shk hs 0 rfl : S.2.1 o = 8) ci8 10 (by decide) (fvR (shk hs 0 rfl : S.2.1 o = 8) rfl (shq hs 0 10 rfl rfl : S.2.2.2.1 o 10 = (o + 48) + 1)) rfl fl_X8_64 dX8_casts_30 ?_
      obtain ⟨V28, q27, h⟩ := obvi h
      refine m_cv (m_rV (As := []) (rest := []) X w hl mi_X3_learnReach ml_X8_229 (o + 48) (shn hs 48 rfl) (shk hs 48 rfl : S.2.1 (o + 48) = 3) rfl (c_X3_learnReach l D cy ad A Kc C0 N S V25 (o + 48) (sb_8_48 hs) V28 q27) ⟨⟨rfl, rfl, Nat.le_of_ble_eq_true rfl, Nat.le_of_ble_eq_true rfl⟩, Nat.le_of_ble_eq_true rfl, Nat.le_of_ble_eq_true rfl⟩ rfl rfl (Nat.le_of_ble_eq_true rfl) dX8_casts_33) w (fun H locs w => ?_)
      refine lv_aload_n hx hb dX8_casts_36 rfl (lv_at hl 0 rfl) ?_
      refine m_get X w o (shn hs 0 rfl) (shk hs 0 rfl : S.2.1 o = 8) ci8 10 (by decide) (fvR (shk hs 0 rfl : S.2.1 o = 8) rfl (shq hs 0 10 rfl rfl : S.2.2.2.1 o 10 = (o + 48) + 1)) rfl fl_X8_64 dX8_casts_37 ?_
      obtain ⟨r29, q30, h⟩ := ob1i h
      refine m_ci (m_rV (As := []) (rest := []) X w hl mi_X3_castBits ml_X8_235 (o + 48) (shn hs 48 rfl) (shk hs 48 rfl : S.2.1 (o + 48) = 3) rfl (c_X3_castBits l D cy ad A Kc C0 N S V28 (o + 48) (sb_8_48 hs) r29 q30) ⟨⟨rfl, rfl, Nat.le_of_ble_eq_true rfl, Nat.le_of_ble_eq_true rfl⟩, Nat.le_of_ble_eq_true rfl, Nat.le_of_ble_eq_true rfl⟩ rfl rfl (Nat.le_of_ble_eq_true rfl) dX8_casts_40) w (fun H locs w => ?_)
      refine lv_istore_n (lv' := [(2, .int r29), (0, .ref (ad o)), (1, .int a1)]) hx hb dX8_casts_43 rfl hl (by decide) rfl (fun ls hl => ?_)
      refine lv_iload_n hx hb dX8_casts_44 rfl (lv_at hl 2 rfl) ?_
      refine lv_if_ne (tgt := 55) hx hb dX8_casts_45 (by decide) (fun c31 => ?_) (fun c31 => ?_)
      · replace h := ifF h c31
        refine lv_iload_n hx hb dX8_casts_55 rfl (lv_at hl 0 rfl) ?_
        obtain ⟨rfl, rfl⟩ := reti h
        exact m_ri X w hr hlocks dX8_casts_56
      · replace h := ifT h c31
        refine lv_iload_n hx hb dX8_casts_48 rfl (lv_at hl 0 rfl) ?_
        obtain ⟨r32, q33, h⟩ := ob1i h
        refine m_ci (m_rS (As := [.int r29]) (rest := []) X w hl mi_J6_bitCount_0f7a4 ml_X8_239 (c_J6_bitCount_0f7a4 l D cy ad A Kc C0 N S V28 r29 r32 q33) ⟨⟨rfl, rfl, Nat.le_of_ble_eq_true rfl, Nat.le_of_ble_eq_true rfl⟩, Nat.le_of_ble_eq_true rfl, Nat.le_of_ble_eq_true rfl⟩ rfl rfl (Nat.le_of_ble_eq_true rfl) dX8_casts_49) w (fun H locs w => ?_)
        refine lv_goto (tgt := 56) hx hb dX8_casts_52 (by decide) ?_
        obtain ⟨rfl, rfl⟩ := reti h
        exact m_ri X w hr hlocks dX8_casts_56
    | succ q21 =>
      replace h := nls h
      obtain ⟨g22, h⟩ := cgi h
      have hs_q21 := tsh_of g22
      obtain ⟨V36, q35, h⟩ := obvi h
      refine m_cv (m_rV (As := [.ref (ad (o + 1)), .ref (ad q21)]) (rest := []) X w hl mi_X3_learn ml_X8_218 (o + 48) (shn hs 48 rfl) (shk hs 48 rfl : S.2.1 (o + 48) = 3) rfl (c_X3_learn_t l D cy ad A Kc C0 N S V (o + 48) (sb_8_48 hs) (o + 1) (sb_8_1 hs) q21 hs_q21 V36 q35) ⟨⟨rfl, rfl, Nat.le_of_ble_eq_true rfl, Nat.le_of_ble_eq_true rfl⟩, Nat.le_of_ble_eq_true rfl, Nat.le_of_ble_eq_true rfl⟩ rfl rfl (Nat.le_of_ble_eq_true rfl) dX8_casts_26) w (fun H locs w => ?_)
      refine lv_aload_n hx hb dX8_casts_29 rfl (lv_at hl 0 rfl) ?_
      refine m_get X w o (shn hs 0 rfl) (shk hs 0 rfl : S.2.1 o = 8) ci8 10 (by decide) (fvR (shk hs 0 rfl : S.2.1 o = 8) rfl (shq hs 0 10 rfl rfl : S.2.2.2.1 o 10 = (o + 48) + 1)) rfl fl_X8_64 dX8_casts_30 ?_
      obtain ⟨V39, q38, h⟩ := obvi h
      refine m_cv (m_rV (As := []) (rest := []) X w hl mi_X3_learnReach ml_X8_229 (o + 48) (shn hs 48 rfl) (shk hs 48 rfl : S.2.1 (o + 48) = 3) rfl (c_X3_learnReach l D cy ad A Kc C0 N S V36 (o + 48) (sb_8_48 hs) V39 q38) ⟨⟨rfl, rfl, Nat.le_of_ble_eq_true rfl, Nat.le_of_ble_eq_true rfl⟩, Nat.le_of_ble_eq_true rfl, Nat.le_of_ble_eq_true rfl⟩ rfl rfl (Nat.le_of_ble_eq_true rfl) dX8_casts_33) w (fun H locs w => ?_)
      refine lv_aload_n hx hb dX8_casts_36 rfl (lv_at hl 0 rfl) ?_
      refine m_get X w o (shn hs 0 rfl) (shk hs 0 rfl : S.2.1 o = 8) ci8 10 (by decide) (fvR (shk hs 0 rfl : S.2.1 o = 8) rfl (shq hs 0 10 rfl rfl : S.2.2.2.1 o 10 = (o + 48) + 1)) rfl fl_X8_64 dX8_casts_37 ?_
      obtain ⟨r40, q41, h⟩ := ob1i h
      refine m_ci (m_rV (As := []) (rest := []) X w hl mi_X3_castBits ml_X8_235 (o + 48) (shn hs 48 rfl) (shk hs 48 rfl : S.2.1 (o + 48) = 3) rfl (c_X3_castBits l D cy ad A Kc C0 N S V39 (o + 48) (sb_8_48 hs) r40 q41) ⟨⟨rfl, rfl, Nat.le_of_ble_eq_true rfl, Nat.le_of_ble_eq_true rfl⟩, Nat.le_of_ble_eq_true rfl, Nat.le_of_ble_eq_true rfl⟩ rfl rfl (Nat.le_of_ble_eq_true rfl) dX8_casts_40) w (fun H locs w => ?_)
      refine lv_istore_n (lv' := [(2, .int r40), (0, .ref (ad o)), (1, .int a1)]) hx hb dX8_casts_43 rfl hl (by decide) rfl (fun ls hl => ?_)
      refine lv_iload_n hx hb dX8_casts_44 rfl (lv_at hl 2 rfl) ?_
      refine lv_if_ne (tgt := 55) hx hb dX8_casts_45 (by decide) (fun c42 => ?_) (fun c42 => ?_)
      · replace h := ifF h c42
        refine lv_iload_n hx hb dX8_casts_55 rfl (lv_at hl 0 rfl) ?_
        obtain ⟨rfl, rfl⟩ := reti h
        exact m_ri X w hr hlocks dX8_casts_56
      · replace h := ifT h c42
        refine lv_iload_n hx hb dX8_casts_48 rfl (lv_at hl 0 rfl) ?_
        obtain ⟨r43, q44, h⟩ := ob1i h
        refine m_ci (m_rS (As := [.int r40]) (rest := []) X w hl mi_J6_bitCount_0f7a4 ml_X8_239 (c_J6_bitCount_0f7a4 l D cy ad A Kc C0 N S V39 r40 r43 q44) ⟨⟨rfl, rfl, Nat.le_of_ble_eq_true rfl, Nat.le_of_ble_eq_true rfl⟩, Nat.le_of_ble_eq_true rfl, Nat.le_of_ble_eq_true rfl⟩ rfl rfl (Nat.le_of_ble_eq_true rfl) dX8_casts_49) w (fun H locs w => ?_)
        refine lv_goto (tgt := 56) hx hb dX8_casts_52 (by decide) ?_
        obtain ⟨rfl, rfl⟩ := reti h
        exact m_ri X w hr hlocks dX8_casts_56
  · replace h := ifT h c18
    refine lv_iconst (v := (-1)) hx hb dX8_casts_9 (by decide) ?_
    obtain ⟨rfl, rfl⟩ := reti h
    exact m_ri X w hr hlocks dX8_casts_10
def f_X8_weeks_21 (N : Nat) (S : St) (o : Nat) (V : Vt) : Option (Int32 × Vt) := ob (f_X8_refused N S V o (-1 : Int32)) (fun r23 V25 => some (r23, V25))
def f_X8_weeks (N : Nat) (S : St) (V : Vt) (o : Nat) (a1 : Int32) (a2 : Int32) : Option (Int32 × Vt) := ob1 (f_X8_isWithin N a1 (0 : Int32) (1000000 : Int32)) (fun r20 => if r20 = 0 then f_X8_weeks_21 N S o V  else ob1 (f_X8_isWithin N a2 (1 : Int32) (60 : Int32)) (fun r26 => if r26 = 0 then f_X8_weeks_21 N S o V  else if (V.1 (o + 1) 9) = 0 then ob (f_X8_refused N S V o (-3 : Int32)) (fun r39 V41 => some (r39, V41)) else obv (f_X0_copyFrom N S V (o + 22) (o + 1)) (fun V32 => ob (f_X8_runWeeks N S V32 o a1 a2) (fun r33 V35 => ob (f_X8_granted N S V35 o r33) (fun r36 V38 => some (r36, V38))))))
set_option maxHeartbeats 4000000 in
set_option maxRecDepth 100000 in
theorem c_X8_weeks (l : Launch) (D : va_G) (cy : Nat → ClassId) (ad : Nat → Nat) (A : Nat → Prop) (Kc : State → Prop) (C0 : Cx ad A Kc) (N : Nat) (S : St) (V : Vt) (o : Nat) (hs : shp S o t8) (a1 : Int32) (a2 : Int32) (r : Int32) (V' : Vt) (h : f_X8_weeks N S V o a1 a2 = some (r, V')) : Met l yX8_weeks (mw yX8_weeks cX8_weeks 3 (some .int)) { frames := 5, cells := 0, slots := 0, locals := 134 } (PreM D cy ad Kc S V [.ref (ad o), .int a1, .int a2]) (QI D cy ad A r S V') 0 0 A := by
  refine ct_go C0 (own := RX8) rfl (by decide) rfl ?_
  intro p e s m below meth c ls H locs X hr hlocks hnm hl w
  have hx := X.1.1
  have hb := X.1.2.1
  have hown := X.2.1
  have hts := X.2.2.1
  have hl : lv_has ls 3 [(0, .ref (ad o)), (1, .int a1), (2, .int a2)] := hl
  obtain ⟨G, hG⟩ : ∃ G : Nat → Vt → List (Nat × Value) → List Value → Prop, G = fun pc V lv st => ∀ (H : Heap) (locs : List Loc) (ls : Array Slot), Wd D cy ad A s.heap S V H locs → lv_has ls 3 lv → W p l e { frames := 5, cells := 0, slots := 0, locals := 134 } s m ([.ref (ad o), .int a1, .int a2] : List Value).toArray below meth c H locs 0 0 (MQ below (QI D cy ad A r S V') ([.ref (ad o), .int a1, .int a2] : List Value).toArray s 0 0 A) (F0 m pc ls st) := ⟨_, rfl⟩
  have B21 : ∀ (V : Vt), f_X8_weeks_21 N S o V  = some (r, V') → G 21 V [(0, .ref (ad o))] [] := by
    intro V  h
    rw [hG]
    intro H locs ls w hl
    rw [f_X8_weeks_21] at h
    refine lv_aload_n hx hb dX8_weeks_21 rfl (lv_at hl 0 rfl) ?_
    refine lv_iconst (v := (-1)) hx hb dX8_weeks_22 (by decide) ?_
    obtain ⟨r23, V25, q24, h⟩ := obi h
    refine m_ci (m_rV (As := [.int (-1 : Int32)]) (rest := []) X w hl mi_X8_refused ml_X8_97 o (shn hs 0 rfl) (shk hs 0 rfl : S.2.1 o = 8) rfl (c_X8_refused l D cy ad A Kc C0 N S V o hs (-1 : Int32) r23 V25 q24) ⟨⟨rfl, rfl, Nat.le_of_ble_eq_true rfl, Nat.le_of_ble_eq_true rfl⟩, Nat.le_of_ble_eq_true rfl, Nat.le_of_ble_eq_true rfl⟩ rfl rfl (Nat.le_of_ble_eq_true rfl) dX8_weeks_23) w (fun H locs w => ?_)
    obtain ⟨rfl, rfl⟩ := reti h
    exact m_ri X w hr hlocks dX8_weeks_26
  rw [f_X8_weeks] at h
  refine lv_iload_n hx hb dX8_weeks_0 rfl (lv_at hl 1 rfl) ?_
  refine lv_iconst (v := 0) hx hb dX8_weeks_1 (by decide) ?_
  refine lv_ldcw (v := 1000000) hx hb hown (hts _ kc_X8_291) dX8_weeks_2 ?_
  obtain ⟨r20, q21, h⟩ := ob1i h
  refine m_ci (m_rS (As := [.int a1, .int (0 : Int32), .int (1000000 : Int32)]) (rest := []) X w hl mi_X8_isWithin ml_X8_93 (c_X8_isWithin l D cy ad A Kc C0 N S V a1 (0 : Int32) (1000000 : Int32) r20 q21) ⟨⟨rfl, rfl, Nat.le_of_ble_eq_true rfl, Nat.le_of_ble_eq_true rfl⟩, Nat.le_of_ble_eq_true rfl, Nat.le_of_ble_eq_true rfl⟩ rfl rfl (Nat.le_of_ble_eq_true rfl) dX8_weeks_5) w (fun H locs w => ?_)
  refine lv_if_eq (tgt := 21) hx hb dX8_weeks_8 (by decide) (fun c22 => ?_) (fun c22 => ?_)
  · replace h := ifT h c22
    have g := B21 V  h
    rw [hG] at g
    exact g H locs ls w (lv_sub hl [0] rfl)
  · replace h := ifF h c22
    refine lv_iload_n hx hb dX8_weeks_11 rfl (lv_at hl 2 rfl) ?_
    refine lv_iconst (v := 1) hx hb dX8_weeks_12 (by decide) ?_
    refine lv_bipush (v := 60) hx hb dX8_weeks_13 (by decide) ?_
    obtain ⟨r26, q27, h⟩ := ob1i h
    refine m_ci (m_rS (As := [.int a2, .int (1 : Int32), .int (60 : Int32)]) (rest := []) X w hl mi_X8_isWithin ml_X8_93 (c_X8_isWithin l D cy ad A Kc C0 N S V a2 (1 : Int32) (60 : Int32) r26 q27) ⟨⟨rfl, rfl, Nat.le_of_ble_eq_true rfl, Nat.le_of_ble_eq_true rfl⟩, Nat.le_of_ble_eq_true rfl, Nat.le_of_ble_eq_true rfl⟩ rfl rfl (Nat.le_of_ble_eq_true rfl) dX8_weeks_15) w (fun H locs w => ?_)
    refine lv_if_ne (tgt := 27) hx hb dX8_weeks_18 (by decide) (fun c28 => ?_) (fun c28 => ?_)
    · replace h := ifF h c28
      refine lv_aload_n hx hb dX8_weeks_27 rfl (lv_at hl 0 rfl) ?_
      refine m_get X w o (shn hs 0 rfl) (shk hs 0 rfl : S.2.1 o = 8) ci8 0 (by decide) (fvR (shk hs 0 rfl : S.2.1 o = 8) rfl (shq hs 0 0 rfl rfl : S.2.2.2.1 o 0 = (o + 1) + 1)) rfl fl_X8_12 dX8_weeks_28 ?_
      refine m_getN X w (o + 1) (shn hs 1 rfl) (shk hs 1 rfl : S.2.1 (o + 1) = 0) ci0 9 (by decide) (fvI (shk hs 1 rfl : S.2.1 (o + 1) = 0) rfl) rfl nf_X8_138 dX8_weeks_31 ?_
      refine lv_if_ne (tgt := 44) hx hb dX8_weeks_34 (by decide) (fun c29 => ?_) (fun c29 => ?_)
      · replace h := ifF h c29
        refine lv_aload_n hx hb dX8_weeks_44 rfl (lv_at hl 0 rfl) ?_
        refine m_get X w o (shn hs 0 rfl) (shk hs 0 rfl : S.2.1 o = 8) ci8 3 (by decide) (fvR (shk hs 0 rfl : S.2.1 o = 8) rfl (shq hs 0 3 rfl rfl : S.2.2.2.1 o 3 = (o + 22) + 1)) rfl fl_X8_23 dX8_weeks_45 ?_
        refine lv_aload_n hx hb dX8_weeks_48 rfl (lv_at hl 0 rfl) ?_
        refine m_get X w o (shn hs 0 rfl) (shk hs 0 rfl : S.2.1 o = 8) ci8 0 (by decide) (fvR (shk hs 0 rfl : S.2.1 o = 8) rfl (shq hs 0 0 rfl rfl : S.2.2.2.1 o 0 = (o + 1) + 1)) rfl fl_X8_12 dX8_weeks_49 ?_
        obtain ⟨V32, q31, h⟩ := obvi h
        refine m_cv (m_rV (As := [.ref (ad (o + 1))]) (rest := []) X w hl mi_X0_copyFrom ml_X8_180 (o + 22) (shn hs 22 rfl) (shk hs 22 rfl : S.2.1 (o + 22) = 0) rfl (c_X0_copyFrom l D cy ad A Kc C0 N S V (o + 22) (sb_8_22 hs) (o + 1) (sb_8_1 hs) V32 q31) ⟨⟨rfl, rfl, Nat.le_of_ble_eq_true rfl, Nat.le_of_ble_eq_true rfl⟩, Nat.le_of_ble_eq_true rfl, Nat.le_of_ble_eq_true rfl⟩ rfl rfl (Nat.le_of_ble_eq_true rfl) dX8_weeks_52) w (fun H locs w => ?_)
        refine lv_aload_n hx hb dX8_weeks_55 rfl (lv_at hl 0 rfl) ?_
        refine lv_aload_n hx hb dX8_weeks_56 rfl (lv_at hl 0 rfl) ?_
        refine lv_iload_n hx hb dX8_weeks_57 rfl (lv_at hl 1 rfl) ?_
        refine lv_iload_n hx hb dX8_weeks_58 rfl (lv_at hl 2 rfl) ?_
        obtain ⟨r33, V35, q34, h⟩ := obi h
        refine m_ci (m_rV (As := [.int a1, .int a2]) (rest := [.ref (ad o)]) X w hl mi_X8_runWeeks ml_X8_292 o (shn hs 0 rfl) (shk hs 0 rfl : S.2.1 o = 8) rfl (c_X8_runWeeks l D cy ad A Kc C0 N S V32 o hs a1 a2 r33 V35 q34) ⟨⟨rfl, rfl, Nat.le_of_ble_eq_true rfl, Nat.le_of_ble_eq_true rfl⟩, Nat.le_of_ble_eq_true rfl, Nat.le_of_ble_eq_true rfl⟩ rfl rfl (Nat.le_of_ble_eq_true rfl) dX8_weeks_59) w (fun H locs w => ?_)
        obtain ⟨r36, V38, q37, h⟩ := obi h
        refine m_ci (m_rV (As := [.int r33]) (rest := []) X w hl mi_X8_granted ml_X8_107 o (shn hs 0 rfl) (shk hs 0 rfl : S.2.1 o = 8) rfl (c_X8_granted l D cy ad A Kc C0 N S V35 o hs r33 r36 V38 q37) ⟨⟨rfl, rfl, Nat.le_of_ble_eq_true rfl, Nat.le_of_ble_eq_true rfl⟩, Nat.le_of_ble_eq_true rfl, Nat.le_of_ble_eq_true rfl⟩ rfl rfl (Nat.le_of_ble_eq_true rfl) dX8_weeks_62) w (fun H locs w => ?_)
        obtain ⟨rfl, rfl⟩ := reti h
        exact m_ri X w hr hlocks dX8_weeks_65
      · replace h := ifT h c29
        refine lv_aload_n hx hb dX8_weeks_37 rfl (lv_at hl 0 rfl) ?_
        refine lv_bipush (v := (-3)) hx hb dX8_weeks_38 (by decide) ?_
        obtain ⟨r39, V41, q40, h⟩ := obi h
        refine m_ci (m_rV (As := [.int (-3 : Int32)]) (rest := []) X w hl mi_X8_refused ml_X8_97 o (shn hs 0 rfl) (shk hs 0 rfl : S.2.1 o = 8) rfl (c_X8_refused l D cy ad A Kc C0 N S V o hs (-3 : Int32) r39 V41 q40) ⟨⟨rfl, rfl, Nat.le_of_ble_eq_true rfl, Nat.le_of_ble_eq_true rfl⟩, Nat.le_of_ble_eq_true rfl, Nat.le_of_ble_eq_true rfl⟩ rfl rfl (Nat.le_of_ble_eq_true rfl) dX8_weeks_40) w (fun H locs w => ?_)
        obtain ⟨rfl, rfl⟩ := reti h
        exact m_ri X w hr hlocks dX8_weeks_43
    · replace h := ifT h c28
      have g := B21 V  h
      rw [hG] at g
      exact g H locs ls w (lv_sub hl [0] rfl)
def f_X8_runOrders_n_7 (N : Nat) (S : St) (o : Nat) : Nat → Vt → Int32 → Int32 → Int32 → Option (Int32 × Vt)
  | 0, _, _, _, _ => none
  | n + 1, V, v2, v3, v4 => none
def f_X8_runOrders_n (N : Nat) (S : St) (V : Vt) (o : Nat) : Option (Int32 × Vt) := f_X8_runOrders_n_7 N S o N V (0 : Int32) (-1 : Int32) (0 : Int32)
set_option maxHeartbeats 4000000 in
set_option maxRecDepth 100000 in
theorem c_X8_runOrders_n (l : Launch) (D : va_G) (cy : Nat → ClassId) (ad : Nat → Nat) (A : Nat → Prop) (Kc : State → Prop) (C0 : Cx ad A Kc) (N : Nat) (S : St) (V : Vt) (o : Nat) (hs : shp S o t8) (r : Int32) (V' : Vt) (h : f_X8_runOrders_n N S V o = some (r, V')) : Met l yX8_runOrders (mw yX8_runOrders cX8_runOrders 12 (some .int)) { frames := 5, cells := 0, slots := 0, locals := 134 } (PreM D cy ad Kc S V [.ref (ad o), .null]) (QI D cy ad A r S V') 0 0 A := by
  refine ct_go C0 (own := RX8) rfl (by decide) rfl ?_
  intro p e s m below meth c ls H locs X hr hlocks hnm hl w
  have hx := X.1.1
  have hb := X.1.2.1
  have hown := X.2.1
  have hts := X.2.2.1
  have hl : lv_has ls 12 [(0, .ref (ad o)), (1, .null)] := hl
  obtain ⟨G, hG⟩ : ∃ G : Nat → Vt → List (Nat × Value) → List Value → Prop, G = fun pc V lv st => ∀ (H : Heap) (locs : List Loc) (ls : Array Slot), Wd D cy ad A s.heap S V H locs → lv_has ls 12 lv → W p l e { frames := 5, cells := 0, slots := 0, locals := 134 } s m ([.ref (ad o), .null] : List Value).toArray below meth c H locs 0 0 (MQ below (QI D cy ad A r S V') ([.ref (ad o), .null] : List Value).toArray s 0 0 A) (F0 m pc ls st) := ⟨_, rfl⟩
  have L7 : ∀ (n7 : Nat) (V : Vt) (v2 : Int32) (v3 : Int32) (v4 : Int32), f_X8_runOrders_n_7 N S o n7 V v2 v3 v4 = some (r, V') → G 7 V [(0, .ref (ad o)), (1, .null), (2, .int v2), (3, .int v3), (4, .int v4)] [] := by
    intro n7
    induction n7 with
    | zero => intro V v2 v3 v4 h; rw [f_X8_runOrders_n_7] at h; cases h
    | succ n7 ih7 =>
      intro V v2 v3 v4 h
      rw [hG]
      intro H locs ls w hl
      rw [f_X8_runOrders_n_7] at h
      refine lv_iload hx hb dX8_runOrders_7 (lv_at hl 4 rfl) ?_
      refine lv_aload_nN hx hb dX8_runOrders_9 rfl (lv_at hl 1 rfl) ?_
      cases h
  rw [f_X8_runOrders_n] at h
  refine lv_iconst (v := 0) hx hb dX8_runOrders_0 (by decide) ?_
  refine lv_istore_n (lv' := [(2, .int (0 : Int32)), (0, .ref (ad o)), (1, .null)]) hx hb dX8_runOrders_1 rfl hl (by decide) rfl (fun ls hl => ?_)
  refine lv_iconst (v := (-1)) hx hb dX8_runOrders_2 (by decide) ?_
  refine lv_istore_n (lv' := [(3, .int (-1 : Int32)), (2, .int (0 : Int32)), (0, .ref (ad o)), (1, .null)]) hx hb dX8_runOrders_3 rfl hl (by decide) rfl (fun ls hl => ?_)
  refine lv_iconst (v := 0) hx hb dX8_runOrders_4 (by decide) ?_
  refine lv_istore (lv' := [(4, .int (0 : Int32)), (3, .int (-1 : Int32)), (2, .int (0 : Int32)), (0, .ref (ad o)), (1, .null)]) hx hb dX8_runOrders_5 hl (by decide) rfl (fun ls hl => ?_)
  have g := L7 N V (0 : Int32) (-1 : Int32) (0 : Int32) h
  rw [hG] at g
  exact g H locs ls w (lv_sub hl [3, 4, 2, 1, 0] rfl)
def f_X8_runOrders_t_195 (N : Nat) (S : St) (o : Nat) (a1 : Nat) (K35 : Vt → Int32 → Int32 → Int32 → Int32 → Int32 → Int32 → Option (Int32 × Vt)) (V : Vt) (v2 : Int32) (v3 : Int32) (v4 : Int32) (v5 : Int32) (v6 : Int32) (v7 : Int32) : Option (Int32 × Vt) := bd (v7 + (1 : Int32)) (fun x72 => K35 V v2 v3 v4 v5 v6 x72)
def f_X8_runOrders_t_194 (N : Nat) (S : St) (o : Nat) (a1 : Nat) (K35 : Vt → Int32 → Int32 → Int32 → Int32 → Int32 → Int32 → Option (Int32 × Vt)) (V : Vt) (v2 : Int32) (v4 : Int32) (v5 : Int32) (v6 : Int32) (v7 : Int32) (s0 : Int32) : Option (Int32 × Vt) := f_X8_runOrders_t_195 N S o a1 K35 V v2 s0 v4 v5 v6 v7
def f_X8_runOrders_t_35 (N : Nat) (S : St) (o : Nat) (a1 : Nat) (K7 : Vt → Int32 → Int32 → Int32 → Option (Int32 × Vt)) : Nat → Vt → Int32 → Int32 → Int32 → Int32 → Int32 → Int32 → Option (Int32 × Vt)
  | 0, _, _, _, _, _, _, _ => none
  | n + 1, V, v2, v3, v4, v5, v6, v7 => if v6 ≤ v7 then bd (v4 + (1 : Int32)) (fun x41 => K7 V v2 v3 x41) else obv (f_X8_fillOrderWorths N S V o v2 v3) (fun V44 => ob1 (f_X7_testPlace N S V44 a1 v4) (fun r45 => ob (f_X4_worthAt N S V44 (o + 42) (a1 + 1) r45 (o + 61) (1 : Int32)) (fun r47 V49 => if r47 = (1 : Int32) then ob1 (f_X7_sumPlace N S V49 a1 v4 (0 : Int32)) (fun r51 => ob (f_X4_worthAt N S V49 (o + 42) (a1 + 1) r51 (o + 61) (0 : Int32)) (fun r53 V55 => ob1 (f_X7_sumPlace N S V55 a1 v4 (1 : Int32)) (fun r56 => ob (f_X4_worthAt N S V55 (o + 42) (a1 + 1) r56 (o + 61) (0 : Int32)) (fun r58 V60 => ob1 (f_X7_sumPlace N S V60 a1 v4 (2 : Int32)) (fun r61 => ob (f_X4_worthAt N S V60 (o + 42) (a1 + 1) r61 (o + 61) (0 : Int32)) (fun r63 V65 => ob (f_X8_carryOut N S V65 o v5 r53 r58 r63) (fun r66 V68 => if 0 ≤ r66 then bd (v2 + (1 : Int32)) (fun x70 => if v5 = 0 then f_X8_runOrders_t_194 N S o a1 (f_X8_runOrders_t_35 N S o a1 K7 n) V68 x70 v4 v5 v6 v7 r66 else f_X8_runOrders_t_194 N S o a1 (f_X8_runOrders_t_35 N S o a1 K7 n) V68 x70 v4 v5 v6 v7 v3) else bd (sF V68 o 17 v4) (fun V73 => some ((-3 : Int32), V73))))))))) else f_X8_runOrders_t_195 N S o a1 (f_X8_runOrders_t_35 N S o a1 K7 n) V49 v2 v3 v4 v5 v6 v7)))
def f_X8_runOrders_t_7 (N : Nat) (S : St) (o : Nat) (a1 : Nat) : Nat → Vt → Int32 → Int32 → Int32 → Option (Int32 × Vt)
  | 0, _, _, _, _ => none
  | n + 1, V, v2, v3, v4 => if (V.1 a1 2) ≤ v4 then some (v2, V) else ob1 (f_X7_kindOf N S V a1 v4) (fun r36 => ob1 (f_X7_timesOf N S V a1 v4) (fun r38 => f_X8_runOrders_t_35 N S o a1 (f_X8_runOrders_t_7 N S o a1 n) N V v2 v3 v4 r36 r38 (0 : Int32)))
def f_X8_runOrders_t (N : Nat) (S : St) (V : Vt) (o : Nat) (a1 : Nat) : Option (Int32 × Vt) := f_X8_runOrders_t_7 N S o a1 N V (0 : Int32) (-1 : Int32) (0 : Int32)
set_option maxHeartbeats 4000000 in
set_option maxRecDepth 100000 in
theorem c_X8_runOrders_t (l : Launch) (D : va_G) (cy : Nat → ClassId) (ad : Nat → Nat) (A : Nat → Prop) (Kc : State → Prop) (C0 : Cx ad A Kc) (N : Nat) (S : St) (V : Vt) (o : Nat) (hs : shp S o t8) (a1 : Nat) (hs_a1 : tsh S a1) (r : Int32) (V' : Vt) (h : f_X8_runOrders_t N S V o a1 = some (r, V')) : Met l yX8_runOrders (mw yX8_runOrders cX8_runOrders 12 (some .int)) { frames := 5, cells := 0, slots := 0, locals := 134 } (PreM D cy ad Kc S V [.ref (ad o), .ref (ad a1)]) (QI D cy ad A r S V') 0 0 A := by
  refine ct_go C0 (own := RX8) rfl (by decide) rfl ?_
  intro p e s m below meth c ls H locs X hr hlocks hnm hl w
  have hx := X.1.1
  have hb := X.1.2.1
  have hown := X.2.1
  have hts := X.2.2.1
  have hl : lv_has ls 12 [(0, .ref (ad o)), (1, .ref (ad a1))] := hl
  obtain ⟨G, hG⟩ : ∃ G : Nat → Vt → List (Nat × Value) → List Value → Prop, G = fun pc V lv st => ∀ (H : Heap) (locs : List Loc) (ls : Array Slot), Wd D cy ad A s.heap S V H locs → lv_has ls 12 lv → W p l e { frames := 5, cells := 0, slots := 0, locals := 134 } s m ([.ref (ad o), .ref (ad a1)] : List Value).toArray below meth c H locs 0 0 (MQ below (QI D cy ad A r S V') ([.ref (ad o), .ref (ad a1)] : List Value).toArray s 0 0 A) (F0 m pc ls st) := ⟨_, rfl⟩
  have L7 : ∀ (n7 : Nat) (V : Vt) (v2 : Int32) (v3 : Int32) (v4 : Int32), f_X8_runOrders_t_7 N S o a1 n7 V v2 v3 v4 = some (r, V') → G 7 V [(0, .ref (ad o)), (1, .ref (ad a1)), (2, .int v2), (3, .int v3), (4, .int v4)] [] := by
    intro n7
    induction n7 with
    | zero => intro V v2 v3 v4 h; rw [f_X8_runOrders_t_7] at h; cases h
    | succ n7 ih7 =>
      have L35 : ∀ (n35 : Nat) (V : Vt) (v2 : Int32) (v3 : Int32) (v4 : Int32) (v5 : Int32) (v6 : Int32) (v7 : Int32), f_X8_runOrders_t_35 N S o a1 (f_X8_runOrders_t_7 N S o a1 n7) n35 V v2 v3 v4 v5 v6 v7 = some (r, V') → G 35 V [(0, .ref (ad o)), (1, .ref (ad a1)), (2, .int v2), (3, .int v3), (4, .int v4), (5, .int v5), (6, .int v6), (7, .int v7)] [] := by
        intro n35
        induction n35 with
        | zero => intro V v2 v3 v4 v5 v6 v7 h; rw [f_X8_runOrders_t_35] at h; cases h
        | succ n35 ih35 =>
          have B195 : ∀ (V : Vt) (v2 : Int32) (v3 : Int32) (v4 : Int32) (v5 : Int32) (v6 : Int32) (v7 : Int32), f_X8_runOrders_t_195 N S o a1 (f_X8_runOrders_t_35 N S o a1 (f_X8_runOrders_t_7 N S o a1 n7) n35) V v2 v3 v4 v5 v6 v7 = some (r, V') → G 195 V [(0, .ref (ad o)), (1, .ref (ad a1)), (2, .int v2), (3, .int v3), (4, .int v4), (5, .int v5), (6, .int v6), (7, .int v7)] [] := by
            intro V v2 v3 v4 v5 v6 v7 h
            rw [hG]
            intro H locs ls w hl
            rw [f_X8_runOrders_t_195] at h
            obtain ⟨x72, ex72⟩ : ∃ y : Int32, y = v7 + (1 : Int32) := ⟨_, rfl⟩
            replace h := bdi h _ ex72
            refine lv_iinc (v := x72) (lv' := [(7, .int x72), (0, .ref (ad o)), (1, .ref (ad a1)), (2, .int v2), (3, .int v3), (4, .int v4), (5, .int v5), (6, .int v6)]) hx hb dX8_runOrders_195 hl (k := 7) rfl (by rw [ex72]; rfl) (by decide) rfl (fun ls hl => ?_)
            refine lv_goto (tgt := 35) hx hb dX8_runOrders_198 (by decide) ?_
            have g := ih35 V v2 v3 v4 v5 v6 x72 h
            rw [hG] at g
            exact g H locs ls w (lv_sub hl [1, 2, 3, 4, 5, 6, 7, 0] rfl)
          have B194 : ∀ (V : Vt) (v2 : Int32) (v4 : Int32) (v5 : Int32) (v6 : Int32) (v7 : Int32) (s0 : Int32), f_X8_runOrders_t_194 N S o a1 (f_X8_runOrders_t_35 N S o a1 (f_X8_runOrders_t_7 N S o a1 n7) n35) V v2 v4 v5 v6 v7 s0 = some (r, V') → G 194 V [(0, .ref (ad o)), (1, .ref (ad a1)), (2, .int v2), (4, .int v4), (5, .int v5), (6, .int v6), (7, .int v7)] [.int s0] := by
            intro V v2 v4 v5 v6 v7 s0 h
            rw [hG]
            intro H locs ls w hl
            rw [f_X8_runOrders_t_194] at h
            refine lv_istore_n (lv' := [(3, .int s0), (0, .ref (ad o)), (1, .ref (ad a1)), (2, .int v2), (4, .int v4), (5, .int v5), (6, .int v6), (7, .int v7)]) hx hb dX8_runOrders_194 rfl hl (by decide) rfl (fun ls hl => ?_)
            have g := B195 V v2 s0 v4 v5 v6 v7 h
            rw [hG] at g
            exact g H locs ls w (lv_sub hl [1, 2, 3, 0, 4, 5, 6, 7] rfl)
          intro V v2 v3 v4 v5 v6 v7 h
          rw [hG]
          intro H locs ls w hl
          rw [f_X8_runOrders_t_35] at h
          refine lv_iload hx hb dX8_runOrders_35 (lv_at hl 7 rfl) ?_
          refine lv_iload hx hb dX8_runOrders_37 (lv_at hl 6 rfl) ?_
          refine lv_icmp_ge (tgt := 201) hx hb dX8_runOrders_39 (by decide) (fun c40 => ?_) (fun c40 => ?_)
          · replace h := ifT h c40
            obtain ⟨x41, ex41⟩ : ∃ y : Int32, y = v4 + (1 : Int32) := ⟨_, rfl⟩
            replace h := bdi h _ ex41
            refine lv_iinc (v := x41) (lv' := [(4, .int x41), (0, .ref (ad o)), (1, .ref (ad a1)), (2, .int v2), (3, .int v3), (5, .int v5), (6, .int v6), (7, .int v7)]) hx hb dX8_runOrders_201 hl (k := 4) rfl (by rw [ex41]; rfl) (by decide) rfl (fun ls hl => ?_)
            refine lv_goto (tgt := 7) hx hb dX8_runOrders_204 (by decide) ?_
            have g := ih7 V v2 v3 x41 h
            rw [hG] at g
            exact g H locs ls w (lv_sub hl [1, 2, 3, 4, 0] rfl)
          · replace h := ifF h c40
            refine lv_aload_n hx hb dX8_runOrders_42 rfl (lv_at hl 0 rfl) ?_
            refine lv_iload_n hx hb dX8_runOrders_43 rfl (lv_at hl 2 rfl) ?_
            refine lv_iload_n hx hb dX8_runOrders_44 rfl (lv_at hl 3 rfl) ?_
            obtain ⟨V44, q43, h⟩ := obvi h
            refine m_cv (m_rV (As := [.int v2, .int v3]) (rest := []) X w hl mi_X8_fillOrderWorths ml_X8_340 o (shn hs 0 rfl) (shk hs 0 rfl : S.2.1 o = 8) rfl (c_X8_fillOrderWorths l D cy ad A Kc C0 N S V o hs v2 v3 V44 q43) ⟨⟨rfl, rfl, Nat.le_of_ble_eq_true rfl, Nat.le_of_ble_eq_true rfl⟩, Nat.le_of_ble_eq_true rfl, Nat.le_of_ble_eq_true rfl⟩ rfl rfl (Nat.le_of_ble_eq_true rfl) dX8_runOrders_45) w (fun H locs w => ?_)
            refine lv_aload_n hx hb dX8_runOrders_48 rfl (lv_at hl 0 rfl) ?_
            refine m_get X w o (shn hs 0 rfl) (shk hs 0 rfl : S.2.1 o = 8) ci8 8 (by decide) (fvR (shk hs 0 rfl : S.2.1 o = 8) rfl (shq hs 0 8 rfl rfl : S.2.2.2.1 o 8 = (o + 42) + 1)) rfl fl_X8_50 dX8_runOrders_49 ?_
            refine lv_aload_n hx hb dX8_runOrders_52 rfl (lv_at hl 1 rfl) ?_
            refine m_getN X w a1 (Nat.lt_of_le_of_lt (Nat.le_add_right a1 2) hs_a1.1.1) hs_a1.1.2 ci7 0 (by decide) (fvR hs_a1.1.2 rfl hs_a1.2.1.1) rfl nf_X8_343 dX8_runOrders_53 ?_
            refine lv_aload_n hx hb dX8_runOrders_56 rfl (lv_at hl 1 rfl) ?_
            refine lv_iload hx hb dX8_runOrders_57 (lv_at hl 4 rfl) ?_
            obtain ⟨r45, q46, h⟩ := ob1i h
            refine m_ci (m_rV (As := [.int v4]) (rest := [.ref (ad (a1 + 1)), .ref (ad (o + 42))]) X w hl mi_X7_testPlace ml_X8_346 a1 (Nat.lt_of_le_of_lt (Nat.le_add_right a1 2) hs_a1.1.1) hs_a1.1.2 rfl (c_X7_testPlace l D cy ad A Kc C0 N S V44 a1 hs_a1 v4 r45 q46) ⟨⟨rfl, rfl, Nat.le_of_ble_eq_true rfl, Nat.le_of_ble_eq_true rfl⟩, Nat.le_of_ble_eq_true rfl, Nat.le_of_ble_eq_true rfl⟩ rfl rfl (Nat.le_of_ble_eq_true rfl) dX8_runOrders_59) w (fun H locs w => ?_)
            refine lv_aload_n hx hb dX8_runOrders_62 rfl (lv_at hl 0 rfl) ?_
            refine m_get X w o (shn hs 0 rfl) (shk hs 0 rfl : S.2.1 o = 8) ci8 12 (by decide) (fvR (shk hs 0 rfl : S.2.1 o = 8) rfl (shq hs 0 12 rfl rfl : S.2.2.2.1 o 12 = (o + 61) + 1)) rfl fl_X8_75 dX8_runOrders_63 ?_
            refine lv_iconst (v := 1) hx hb dX8_runOrders_66 (by decide) ?_
            obtain ⟨r47, V49, q48, h⟩ := obi h
            refine m_ci (m_rV (As := [.ref (ad (a1 + 1)), .int r45, .ref (ad (o + 61)), .int (1 : Int32)]) (rest := []) X w hl mi_X4_worthAt ml_X8_349 (o + 42) (shn hs 42 rfl) (shk hs 42 rfl : S.2.1 (o + 42) = 4) rfl (c_X4_worthAt l D cy ad A Kc C0 N S V44 (o + 42) (sb_8_42 hs) (a1 + 1) ⟨(Nat.lt_of_succ_lt hs_a1.1.1), hs_a1.2.2.1⟩ r45 (o + 61) ⟨(shn hs 61 rfl), (shk hs 61 rfl : S.2.1 (o + 61) = 11)⟩ (1 : Int32) r47 V49 q48) ⟨⟨rfl, rfl, Nat.le_of_ble_eq_true rfl, Nat.le_of_ble_eq_true rfl⟩, Nat.le_of_ble_eq_true rfl, Nat.le_of_ble_eq_true rfl⟩ rfl rfl (Nat.le_of_ble_eq_true rfl) dX8_runOrders_67) w (fun H locs w => ?_)
            refine lv_iconst (v := 1) hx hb dX8_runOrders_70 (by decide) ?_
            refine lv_icmp_eq (tgt := 77) hx hb dX8_runOrders_71 (by decide) (fun c50 => ?_) (fun c50 => ?_)
            · replace h := ifT h c50
              refine lv_aload_n hx hb dX8_runOrders_77 rfl (lv_at hl 0 rfl) ?_
              refine m_get X w o (shn hs 0 rfl) (shk hs 0 rfl : S.2.1 o = 8) ci8 8 (by decide) (fvR (shk hs 0 rfl : S.2.1 o = 8) rfl (shq hs 0 8 rfl rfl : S.2.2.2.1 o 8 = (o + 42) + 1)) rfl fl_X8_50 dX8_runOrders_78 ?_
              refine lv_aload_n hx hb dX8_runOrders_81 rfl (lv_at hl 1 rfl) ?_
              refine m_getN X w a1 (Nat.lt_of_le_of_lt (Nat.le_add_right a1 2) hs_a1.1.1) hs_a1.1.2 ci7 0 (by decide) (fvR hs_a1.1.2 rfl hs_a1.2.1.1) rfl nf_X8_343 dX8_runOrders_82 ?_
              refine lv_aload_n hx hb dX8_runOrders_85 rfl (lv_at hl 1 rfl) ?_
              refine lv_iload hx hb dX8_runOrders_86 (lv_at hl 4 rfl) ?_
              refine lv_iconst (v := 0) hx hb dX8_runOrders_88 (by decide) ?_
              obtain ⟨r51, q52, h⟩ := ob1i h
              refine m_ci (m_rV (As := [.int v4, .int (0 : Int32)]) (rest := [.ref (ad (a1 + 1)), .ref (ad (o + 42))]) X w hl mi_X7_sumPlace ml_X8_353 a1 (Nat.lt_of_le_of_lt (Nat.le_add_right a1 2) hs_a1.1.1) hs_a1.1.2 rfl (c_X7_sumPlace l D cy ad A Kc C0 N S V49 a1 hs_a1 v4 (0 : Int32) r51 q52) ⟨⟨rfl, rfl, Nat.le_of_ble_eq_true rfl, Nat.le_of_ble_eq_true rfl⟩, Nat.le_of_ble_eq_true rfl, Nat.le_of_ble_eq_true rfl⟩ rfl rfl (Nat.le_of_ble_eq_true rfl) dX8_runOrders_89) w (fun H locs w => ?_)
              refine lv_aload_n hx hb dX8_runOrders_92 rfl (lv_at hl 0 rfl) ?_
              refine m_get X w o (shn hs 0 rfl) (shk hs 0 rfl : S.2.1 o = 8) ci8 12 (by decide) (fvR (shk hs 0 rfl : S.2.1 o = 8) rfl (shq hs 0 12 rfl rfl : S.2.2.2.1 o 12 = (o + 61) + 1)) rfl fl_X8_75 dX8_runOrders_93 ?_
              refine lv_iconst (v := 0) hx hb dX8_runOrders_96 (by decide) ?_
              obtain ⟨r53, V55, q54, h⟩ := obi h
              refine m_ci (m_rV (As := [.ref (ad (a1 + 1)), .int r51, .ref (ad (o + 61)), .int (0 : Int32)]) (rest := []) X w hl mi_X4_worthAt ml_X8_349 (o + 42) (shn hs 42 rfl) (shk hs 42 rfl : S.2.1 (o + 42) = 4) rfl (c_X4_worthAt l D cy ad A Kc C0 N S V49 (o + 42) (sb_8_42 hs) (a1 + 1) ⟨(Nat.lt_of_succ_lt hs_a1.1.1), hs_a1.2.2.1⟩ r51 (o + 61) ⟨(shn hs 61 rfl), (shk hs 61 rfl : S.2.1 (o + 61) = 11)⟩ (0 : Int32) r53 V55 q54) ⟨⟨rfl, rfl, Nat.le_of_ble_eq_true rfl, Nat.le_of_ble_eq_true rfl⟩, Nat.le_of_ble_eq_true rfl, Nat.le_of_ble_eq_true rfl⟩ rfl rfl (Nat.le_of_ble_eq_true rfl) dX8_runOrders_97) w (fun H locs w => ?_)
              refine lv_istore (lv' := [(8, .int r53), (0, .ref (ad o)), (1, .ref (ad a1)), (2, .int v2), (3, .int v3), (4, .int v4), (5, .int v5), (6, .int v6), (7, .int v7)]) hx hb dX8_runOrders_100 hl (by decide) rfl (fun ls hl => ?_)
              refine lv_aload_n hx hb dX8_runOrders_102 rfl (lv_at hl 1 rfl) ?_
              refine m_get X w o (shn hs 0 rfl) (shk hs 0 rfl : S.2.1 o = 8) ci8 8 (by decide) (fvR (shk hs 0 rfl : S.2.1 o = 8) rfl (shq hs 0 8 rfl rfl : S.2.2.2.1 o 8 = (o + 42) + 1)) rfl fl_X8_50 dX8_runOrders_103 ?_
              refine lv_aload_n hx hb dX8_runOrders_106 rfl (lv_at hl 2 rfl) ?_
              refine m_getN X w a1 (Nat.lt_of_le_of_lt (Nat.le_add_right a1 2) hs_a1.1.1) hs_a1.1.2 ci7 0 (by decide) (fvR hs_a1.1.2 rfl hs_a1.2.1.1) rfl nf_X8_343 dX8_runOrders_107 ?_
              refine lv_aload_n hx hb dX8_runOrders_110 rfl (lv_at hl 2 rfl) ?_
              refine lv_iload hx hb dX8_runOrders_111 (lv_at hl 5 rfl) ?_
              refine lv_iconst (v := 1) hx hb dX8_runOrders_113 (by decide) ?_
              obtain ⟨r56, q57, h⟩ := ob1i h
              refine m_ci (m_rV (As := [.int v4, .int (1 : Int32)]) (rest := [.ref (ad (a1 + 1)), .ref (ad (o + 42))]) X w hl mi_X7_sumPlace ml_X8_353 a1 (Nat.lt_of_le_of_lt (Nat.le_add_right a1 2) hs_a1.1.1) hs_a1.1.2 rfl (c_X7_sumPlace l D cy ad A Kc C0 N S V55 a1 hs_a1 v4 (1 : Int32) r56 q57) ⟨⟨rfl, rfl, Nat.le_of_ble_eq_true rfl, Nat.le_of_ble_eq_true rfl⟩, Nat.le_of_ble_eq_true rfl, Nat.le_of_ble_eq_true rfl⟩ rfl rfl (Nat.le_of_ble_eq_true rfl) dX8_runOrders_114) w (fun H locs w => ?_)
              refine lv_aload_n hx hb dX8_runOrders_117 rfl (lv_at hl 1 rfl) ?_
              refine m_get X w o (shn hs 0 rfl) (shk hs 0 rfl : S.2.1 o = 8) ci8 12 (by decide) (fvR (shk hs 0 rfl : S.2.1 o = 8) rfl (shq hs 0 12 rfl rfl : S.2.2.2.1 o 12 = (o + 61) + 1)) rfl fl_X8_75 dX8_runOrders_118 ?_
              refine lv_iconst (v := 0) hx hb dX8_runOrders_121 (by decide) ?_
              obtain ⟨r58, V60, q59, h⟩ := obi h
              refine m_ci (m_rV (As := [.ref (ad (a1 + 1)), .int r56, .ref (ad (o + 61)), .int (0 : Int32)]) (rest := []) X w hl mi_X4_worthAt ml_X8_349 (o + 42) (shn hs 42 rfl) (shk hs 42 rfl : S.2.1 (o + 42) = 4) rfl (c_X4_worthAt l D cy ad A Kc C0 N S V55 (o + 42) (sb_8_42 hs) (a1 + 1) ⟨(Nat.lt_of_succ_lt hs_a1.1.1), hs_a1.2.2.1⟩ r56 (o + 61) ⟨(shn hs 61 rfl), (shk hs 61 rfl : S.2.1 (o + 61) = 11)⟩ (0 : Int32) r58 V60 q59) ⟨⟨rfl, rfl, Nat.le_of_ble_eq_true rfl, Nat.le_of_ble_eq_true rfl⟩, Nat.le_of_ble_eq_true rfl, Nat.le_of_ble_eq_true rfl⟩ rfl rfl (Nat.le_of_ble_eq_true rfl) dX8_runOrders_122) w (fun H locs w => ?_)
              refine lv_istore (lv' := [(9, .int r58), (8, .int r53), (0, .ref (ad o)), (1, .ref (ad a1)), (2, .int v2), (3, .int v3), (4, .int v4), (5, .int v5), (6, .int v6), (7, .int v7)]) hx hb dX8_runOrders_125 hl (by decide) rfl (fun ls hl => ?_)
              refine lv_aload_n hx hb dX8_runOrders_127 rfl (lv_at hl 2 rfl) ?_
              refine m_get X w o (shn hs 0 rfl) (shk hs 0 rfl : S.2.1 o = 8) ci8 8 (by decide) (fvR (shk hs 0 rfl : S.2.1 o = 8) rfl (shq hs 0 8 rfl rfl : S.2.2.2.1 o 8 = (o + 42) + 1)) rfl fl_X8_50 dX8_runOrders_128 ?_
              refine lv_aload_n hx hb dX8_runOrders_131 rfl (lv_at hl 3 rfl) ?_
              refine m_getN X w a1 (Nat.lt_of_le_of_lt (Nat.le_add_right a1 2) hs_a1.1.1) hs_a1.1.2 ci7 0 (by decide) (fvR hs_a1.1.2 rfl hs_a1.2.1.1) rfl nf_X8_343 dX8_runOrders_132 ?_
              refine lv_aload_n hx hb dX8_runOrders_135 rfl (lv_at hl 3 rfl) ?_
              refine lv_iload hx hb dX8_runOrders_136 (lv_at hl 6 rfl) ?_
              refine lv_iconst (v := 2) hx hb dX8_runOrders_138 (by decide) ?_
              obtain ⟨r61, q62, h⟩ := ob1i h
              refine m_ci (m_rV (As := [.int v4, .int (2 : Int32)]) (rest := [.ref (ad (a1 + 1)), .ref (ad (o + 42))]) X w hl mi_X7_sumPlace ml_X8_353 a1 (Nat.lt_of_le_of_lt (Nat.le_add_right a1 2) hs_a1.1.1) hs_a1.1.2 rfl (c_X7_sumPlace l D cy ad A Kc C0 N S V60 a1 hs_a1 v4 (2 : Int32) r61 q62) ⟨⟨rfl, rfl, Nat.le_of_ble_eq_true rfl, Nat.le_of_ble_eq_true rfl⟩, Nat.le_of_ble_eq_true rfl, Nat.le_of_ble_eq_true rfl⟩ rfl rfl (Nat.le_of_ble_eq_true rfl) dX8_runOrders_139) w (fun H locs w => ?_)
              refine lv_aload_n hx hb dX8_runOrders_142 rfl (lv_at hl 2 rfl) ?_
              refine m_get X w o (shn hs 0 rfl) (shk hs 0 rfl : S.2.1 o = 8) ci8 12 (by decide) (fvR (shk hs 0 rfl : S.2.1 o = 8) rfl (shq hs 0 12 rfl rfl : S.2.2.2.1 o 12 = (o + 61) + 1)) rfl fl_X8_75 dX8_runOrders_143 ?_
              refine lv_iconst (v := 0) hx hb dX8_runOrders_146 (by decide) ?_
              obtain ⟨r63, V65, q64, h⟩ := obi h
              refine m_ci (m_rV (As := [.ref (ad (a1 + 1)), .int r61, .ref (ad (o + 61)), .int (0 : Int32)]) (rest := []) X w hl mi_X4_worthAt ml_X8_349 (o + 42) (shn hs 42 rfl) (shk hs 42 rfl : S.2.1 (o + 42) = 4) rfl (c_X4_worthAt l D cy ad A Kc C0 N S V60 (o + 42) (sb_8_42 hs) (a1 + 1) ⟨(Nat.lt_of_succ_lt hs_a1.1.1), hs_a1.2.2.1⟩ r61 (o + 61) ⟨(shn hs 61 rfl), (shk hs 61 rfl : S.2.1 (o + 61) = 11)⟩ (0 : Int32) r63 V65 q64) ⟨⟨rfl, rfl, Nat.le_of_ble_eq_true rfl, Nat.le_of_ble_eq_true rfl⟩, Nat.le_of_ble_eq_true rfl, Nat.le_of_ble_eq_true rfl⟩ rfl rfl (Nat.le_of_ble_eq_true rfl) dX8_runOrders_147) w (fun H locs w => ?_)
              refine lv_istore (lv' := [(10, .int r63), (9, .int r58), (8, .int r53), (0, .ref (ad o)), (1, .ref (ad a1)), (2, .int v2), (3, .int v3), (4, .int v4), (5, .int v5), (6, .int v6), (7, .int v7)]) hx hb dX8_runOrders_150 hl (by decide) rfl (fun ls hl => ?_)
              refine lv_aload_n hx hb dX8_runOrders_152 rfl (lv_at hl 3 rfl) ?_
              refine lv_iload hx hb dX8_runOrders_153 (lv_at hl 8 rfl) ?_
              refine lv_iload hx hb dX8_runOrders_155 (lv_at hl 2 rfl) ?_
              refine lv_iload hx hb dX8_runOrders_157 (lv_at hl 1 rfl) ?_
              refine lv_iload hx hb dX8_runOrders_159 (lv_at hl 0 rfl) ?_
              obtain ⟨r66, V68, q67, h⟩ := obi h
              refine m_ci (m_rV (As := [.int v5, .int r53, .int r58, .int r63]) (rest := []) X w hl mi_X8_carryOut ml_X8_197 o (shn hs 0 rfl) (shk hs 0 rfl : S.2.1 o = 8) rfl (c_X8_carryOut l D cy ad A Kc C0 N S V65 o hs v5 r53 r58 r63 r66 V68 q67) ⟨⟨rfl, rfl, Nat.le_of_ble_eq_true rfl, Nat.le_of_ble_eq_true rfl⟩, Nat.le_of_ble_eq_true rfl, Nat.le_of_ble_eq_true rfl⟩ rfl rfl (Nat.le_of_ble_eq_true rfl) dX8_runOrders_161) w (fun H locs w => ?_)
              refine lv_istore (lv' := [(11, .int r66), (10, .int r63), (9, .int r58), (8, .int r53), (0, .ref (ad o)), (1, .ref (ad a1)), (2, .int v2), (3, .int v3), (4, .int v4), (5, .int v5), (6, .int v6), (7, .int v7)]) hx hb dX8_runOrders_164 hl (by decide) rfl (fun ls hl => ?_)
              refine lv_iload hx hb dX8_runOrders_166 (lv_at hl 0 rfl) ?_
              refine lv_if_ge (tgt := 180) hx hb dX8_runOrders_168 (by decide) (fun c69 => ?_) (fun c69 => ?_)
              · replace h := ifT h c69
                obtain ⟨x70, ex70⟩ : ∃ y : Int32, y = v2 + (1 : Int32) := ⟨_, rfl⟩
                replace h := bdi h _ ex70
                refine lv_iinc (v := x70) (lv' := [(2, .int x70), (11, .int r66), (10, .int r63), (9, .int r58), (8, .int r53), (0, .ref (ad o)), (1, .ref (ad a1)), (3, .int v3), (4, .int v4), (5, .int v5), (6, .int v6), (7, .int v7)]) hx hb dX8_runOrders_180 hl (k := 6) rfl (by rw [ex70]; rfl) (by decide) rfl (fun ls hl => ?_)
                refine lv_iload hx hb dX8_runOrders_183 (lv_at hl 9 rfl) ?_
                refine lv_if_ne (tgt := 193) hx hb dX8_runOrders_185 (by decide) (fun c71 => ?_) (fun c71 => ?_)
                · replace h := ifF h c71
                  refine lv_iload_n hx hb dX8_runOrders_193 rfl (lv_at hl 7 rfl) ?_
                  have g := B194 V68 x70 v4 v5 v6 v7 v3 h
                  rw [hG] at g
                  exact g H locs ls w (lv_sub hl [5, 6, 0, 8, 9, 10, 11] rfl)
                · replace h := ifT h c71
                  refine lv_iload hx hb dX8_runOrders_188 (lv_at hl 1 rfl) ?_
                  refine lv_goto (tgt := 194) hx hb dX8_runOrders_190 (by decide) ?_
                  have g := B194 V68 x70 v4 v5 v6 v7 r66 h
                  rw [hG] at g
                  exact g H locs ls w (lv_sub hl [5, 6, 0, 8, 9, 10, 11] rfl)
              · replace h := ifF h c69
                refine lv_aload_n hx hb dX8_runOrders_171 rfl (lv_at hl 4 rfl) ?_
                refine lv_iload hx hb dX8_runOrders_172 (lv_at hl 8 rfl) ?_
                refine m_put X w o (shn hs 0 rfl) (shk hs 0 rfl : S.2.1 o = 8) ci8 17 (by decide) rfl rfl rfl rfl rfl fl_X8_85 dX8_runOrders_174 (fun V73 H locs eV73 w => ?_)
                replace h := bdi h _ eV73
                refine lv_bipush (v := (-3)) hx hb dX8_runOrders_177 (by decide) ?_
                obtain ⟨rfl, rfl⟩ := reti h
                exact m_ri X w hr hlocks dX8_runOrders_179
            · replace h := ifF h c50
              refine lv_goto (tgt := 195) hx hb dX8_runOrders_74 (by decide) ?_
              have g := B195 V49 v2 v3 v4 v5 v6 v7 h
              rw [hG] at g
              exact g H locs ls w (lv_sub hl [0, 1, 2, 3, 4, 5, 6, 7] rfl)
      intro V v2 v3 v4 h
      rw [hG]
      intro H locs ls w hl
      rw [f_X8_runOrders_t_7] at h
      refine lv_iload hx hb dX8_runOrders_7 (lv_at hl 4 rfl) ?_
      refine lv_aload_n hx hb dX8_runOrders_9 rfl (lv_at hl 1 rfl) ?_
      refine m_getN X w a1 (Nat.lt_of_le_of_lt (Nat.le_add_right a1 2) hs_a1.1.1) hs_a1.1.2 ci7 2 (by decide) (fvI hs_a1.1.2 rfl) rfl nf_X8_329 dX8_runOrders_10 ?_
      refine lv_icmp_ge (tgt := 207) hx hb dX8_runOrders_13 (by decide) (fun c35 => ?_) (fun c35 => ?_)
      · replace h := ifT h c35
        refine lv_iload_n hx hb dX8_runOrders_207 rfl (lv_at hl 2 rfl) ?_
        obtain ⟨rfl, rfl⟩ := reti h
        exact m_ri X w hr hlocks dX8_runOrders_208
      · replace h := ifF h c35
        refine lv_aload_n hx hb dX8_runOrders_16 rfl (lv_at hl 1 rfl) ?_
        refine lv_iload hx hb dX8_runOrders_17 (lv_at hl 4 rfl) ?_
        obtain ⟨r36, q37, h⟩ := ob1i h
        refine m_ci (m_rV (As := [.int v4]) (rest := []) X w hl mi_X7_kindOf ml_X8_334 a1 (Nat.lt_of_le_of_lt (Nat.le_add_right a1 2) hs_a1.1.1) hs_a1.1.2 rfl (c_X7_kindOf l D cy ad A Kc C0 N S V a1 hs_a1 v4 r36 q37) ⟨⟨rfl, rfl, Nat.le_of_ble_eq_true rfl, Nat.le_of_ble_eq_true rfl⟩, Nat.le_of_ble_eq_true rfl, Nat.le_of_ble_eq_true rfl⟩ rfl rfl (Nat.le_of_ble_eq_true rfl) dX8_runOrders_19) w (fun H locs w => ?_)
        refine lv_istore (lv' := [(5, .int r36), (0, .ref (ad o)), (1, .ref (ad a1)), (2, .int v2), (3, .int v3), (4, .int v4)]) hx hb dX8_runOrders_22 hl (by decide) rfl (fun ls hl => ?_)
        refine lv_aload_n hx hb dX8_runOrders_24 rfl (lv_at hl 2 rfl) ?_
        refine lv_iload hx hb dX8_runOrders_25 (lv_at hl 5 rfl) ?_
        obtain ⟨r38, q39, h⟩ := ob1i h
        refine m_ci (m_rV (As := [.int v4]) (rest := []) X w hl mi_X7_timesOf ml_X8_337 a1 (Nat.lt_of_le_of_lt (Nat.le_add_right a1 2) hs_a1.1.1) hs_a1.1.2 rfl (c_X7_timesOf l D cy ad A Kc C0 N S V a1 hs_a1 v4 r38 q39) ⟨⟨rfl, rfl, Nat.le_of_ble_eq_true rfl, Nat.le_of_ble_eq_true rfl⟩, Nat.le_of_ble_eq_true rfl, Nat.le_of_ble_eq_true rfl⟩ rfl rfl (Nat.le_of_ble_eq_true rfl) dX8_runOrders_27) w (fun H locs w => ?_)
        refine lv_istore (lv' := [(6, .int r38), (5, .int r36), (0, .ref (ad o)), (1, .ref (ad a1)), (2, .int v2), (3, .int v3), (4, .int v4)]) hx hb dX8_runOrders_30 hl (by decide) rfl (fun ls hl => ?_)
        refine lv_iconst (v := 0) hx hb dX8_runOrders_32 (by decide) ?_
        refine lv_istore (lv' := [(7, .int (0 : Int32)), (6, .int r38), (5, .int r36), (0, .ref (ad o)), (1, .ref (ad a1)), (2, .int v2), (3, .int v3), (4, .int v4)]) hx hb dX8_runOrders_33 hl (by decide) rfl (fun ls hl => ?_)
        have g := L35 N V v2 v3 v4 r36 r38 (0 : Int32) h
        rw [hG] at g
        exact g H locs ls w (lv_sub hl [3, 4, 5, 6, 7, 2, 1, 0] rfl)
  rw [f_X8_runOrders_t] at h
  refine lv_iconst (v := 0) hx hb dX8_runOrders_0 (by decide) ?_
  refine lv_istore_n (lv' := [(2, .int (0 : Int32)), (0, .ref (ad o)), (1, .ref (ad a1))]) hx hb dX8_runOrders_1 rfl hl (by decide) rfl (fun ls hl => ?_)
  refine lv_iconst (v := (-1)) hx hb dX8_runOrders_2 (by decide) ?_
  refine lv_istore_n (lv' := [(3, .int (-1 : Int32)), (2, .int (0 : Int32)), (0, .ref (ad o)), (1, .ref (ad a1))]) hx hb dX8_runOrders_3 rfl hl (by decide) rfl (fun ls hl => ?_)
  refine lv_iconst (v := 0) hx hb dX8_runOrders_4 (by decide) ?_
  refine lv_istore (lv' := [(4, .int (0 : Int32)), (3, .int (-1 : Int32)), (2, .int (0 : Int32)), (0, .ref (ad o)), (1, .ref (ad a1))]) hx hb dX8_runOrders_5 hl (by decide) rfl (fun ls hl => ?_)
  have g := L7 N V (0 : Int32) (-1 : Int32) (0 : Int32) h
  rw [hG] at g
  exact g H locs ls w (lv_sub hl [3, 4, 2, 1, 0] rfl)
def f_X8_fits (N : Nat) (S : St) (V : Vt) (o : Nat) : Option (Int32 × Vt) := ob (f_X3_fitting N S V (o + 48) (o + 1)) (fun r4 V6 => some (r4, V6))
set_option maxHeartbeats 4000000 in
set_option maxRecDepth 100000 in
theorem c_X8_fits (l : Launch) (D : va_G) (cy : Nat → ClassId) (ad : Nat → Nat) (A : Nat → Prop) (Kc : State → Prop) (C0 : Cx ad A Kc) (N : Nat) (S : St) (V : Vt) (o : Nat) (hs : shp S o t8) (r : Int32) (V' : Vt) (h : f_X8_fits N S V o = some (r, V')) : Met l yX8_fits (mw yX8_fits cX8_fits 1 (some .int)) { frames := 6, cells := 0, slots := 0, locals := 156 } (PreM D cy ad Kc S V [.ref (ad o)]) (QI D cy ad A r S V') 0 0 A := by
  refine ct_go C0 (own := RX8) rfl (by decide) rfl ?_
  intro p e s m below meth c ls H locs X hr hlocks hnm hl w
  have hx := X.1.1
  have hb := X.1.2.1
  have hown := X.2.1
  have hts := X.2.2.1
  have hl : lv_has ls 1 [(0, .ref (ad o))] := hl
  rw [f_X8_fits] at h
  refine lv_aload_n hx hb dX8_fits_0 rfl (lv_at hl 0 rfl) ?_
  refine m_get X w o (shn hs 0 rfl) (shk hs 0 rfl : S.2.1 o = 8) ci8 10 (by decide) (fvR (shk hs 0 rfl : S.2.1 o = 8) rfl (shq hs 0 10 rfl rfl : S.2.2.2.1 o 10 = (o + 48) + 1)) rfl fl_X8_64 dX8_fits_1 ?_
  refine lv_aload_n hx hb dX8_fits_4 rfl (lv_at hl 0 rfl) ?_
  refine m_get X w o (shn hs 0 rfl) (shk hs 0 rfl : S.2.1 o = 8) ci8 0 (by decide) (fvR (shk hs 0 rfl : S.2.1 o = 8) rfl (shq hs 0 0 rfl rfl : S.2.2.2.1 o 0 = (o + 1) + 1)) rfl fl_X8_12 dX8_fits_5 ?_
  obtain ⟨r4, V6, q5, h⟩ := obi h
  refine m_ci (m_rV (As := [.ref (ad (o + 1))]) (rest := []) X w hl mi_X3_fitting ml_X8_254 (o + 48) (shn hs 48 rfl) (shk hs 48 rfl : S.2.1 (o + 48) = 3) rfl (c_X3_fitting l D cy ad A Kc C0 N S V (o + 48) (sb_8_48 hs) (o + 1) (sb_8_1 hs) r4 V6 q5) ⟨⟨rfl, rfl, Nat.le_of_ble_eq_true rfl, Nat.le_of_ble_eq_true rfl⟩, Nat.le_of_ble_eq_true rfl, Nat.le_of_ble_eq_true rfl⟩ rfl rfl (Nat.le_of_ble_eq_true rfl) dX8_fits_8) w (fun H locs w => ?_)
  obtain ⟨rfl, rfl⟩ := reti h
  exact m_ri X w hr hlocks dX8_fits_11
def f_X8_next_92 (N : Nat) (S : St) (o : Nat) (K58 : Vt → Int32 → Int32 → Int32 → Int32 → Option (Int32 × Vt)) (V : Vt) (v2 : Int32) (v3 : Int32) (v4 : Int32) (v5 : Int32) : Option (Int32 × Vt) := bd (v5 + (1 : Int32)) (fun x40 => K58 V v2 v3 v4 x40)
def f_X8_next_58 (N : Nat) (S : St) (o : Nat) : Nat → Vt → Int32 → Int32 → Int32 → Int32 → Option (Int32 × Vt)
  | 0, _, _, _, _, _ => none
  | n + 1, V, v2, v3, v4, v5 => if (25 : Int32) ≤ v5 then if v2 = 0 then some (v4, V) else ob1 (f_X3_mostAlike N S V (o + 48) v4 v3) (fun r33 => some (r33, V)) else ob1 (f_X3_mostAlike N S V (o + 48) v5 v3) (fun r35 => ob1 (f_X3_mostAlike N S V (o + 48) v4 v3) (fun r37 => if r37 ≤ r35 then f_X8_next_92 N S o (f_X8_next_58 N S o n) V v2 v3 v4 v5 else f_X8_next_92 N S o (f_X8_next_58 N S o n) V v2 v3 v5 v5))
def f_X8_next (N : Nat) (S : St) (V : Vt) (o : Nat) (a1 : Int32) (a2 : Int32) : Option (Int32 × Vt) := ob1 (f_X8_isWithin N a1 (0 : Int32) (99 : Int32)) (fun r18 => if r18 = 0 then some ((-1 : Int32), V) else ob1 (f_X8_isWithin N a2 (0 : Int32) (1 : Int32)) (fun r21 => if r21 = 0 then some ((-1 : Int32), V) else ob (f_X3_fitting N S V (o + 48) (o + 1)) (fun r24 V26 => if r24 = 0 then some ((-1 : Int32), V26) else obv (f_X3_learnPlaces N S V26 (o + 48) (o + 1) r24 a1) (fun V30 => f_X8_next_58 N S o N V30 a2 r24 (0 : Int32) (1 : Int32)))))
set_option maxHeartbeats 4000000 in
set_option maxRecDepth 100000 in
theorem c_X8_next (l : Launch) (D : va_G) (cy : Nat → ClassId) (ad : Nat → Nat) (A : Nat → Prop) (Kc : State → Prop) (C0 : Cx ad A Kc) (N : Nat) (S : St) (V : Vt) (o : Nat) (hs : shp S o t8) (a1 : Int32) (a2 : Int32) (r : Int32) (V' : Vt) (h : f_X8_next N S V o a1 a2 = some (r, V')) : Met l yX8_next (mw yX8_next cX8_next 6 (some .int)) { frames := 6, cells := 0, slots := 0, locals := 156 } (PreM D cy ad Kc S V [.ref (ad o), .int a1, .int a2]) (QI D cy ad A r S V') 0 0 A := by
  refine ct_go C0 (own := RX8) rfl (by decide) rfl ?_
  intro p e s m below meth c ls H locs X hr hlocks hnm hl w
  have hx := X.1.1
  have hb := X.1.2.1
  have hown := X.2.1
  have hts := X.2.2.1
  have hl : lv_has ls 6 [(0, .ref (ad o)), (1, .int a1), (2, .int a2)] := hl
  obtain ⟨G, hG⟩ : ∃ G : Nat → Vt → List (Nat × Value) → List Value → Prop, G = fun pc V lv st => ∀ (H : Heap) (locs : List Loc) (ls : Array Slot), Wd D cy ad A s.heap S V H locs → lv_has ls 6 lv → W p l e { frames := 6, cells := 0, slots := 0, locals := 156 } s m ([.ref (ad o), .int a1, .int a2] : List Value).toArray below meth c H locs 0 0 (MQ below (QI D cy ad A r S V') ([.ref (ad o), .int a1, .int a2] : List Value).toArray s 0 0 A) (F0 m pc ls st) := ⟨_, rfl⟩
  have L58 : ∀ (n58 : Nat) (V : Vt) (v2 : Int32) (v3 : Int32) (v4 : Int32) (v5 : Int32), f_X8_next_58 N S o n58 V v2 v3 v4 v5 = some (r, V') → G 58 V [(0, .ref (ad o)), (2, .int v2), (3, .int v3), (4, .int v4), (5, .int v5)] [] := by
    intro n58
    induction n58 with
    | zero => intro V v2 v3 v4 v5 h; rw [f_X8_next_58] at h; cases h
    | succ n58 ih58 =>
      have B92 : ∀ (V : Vt) (v2 : Int32) (v3 : Int32) (v4 : Int32) (v5 : Int32), f_X8_next_92 N S o (f_X8_next_58 N S o n58) V v2 v3 v4 v5 = some (r, V') → G 92 V [(0, .ref (ad o)), (2, .int v2), (3, .int v3), (4, .int v4), (5, .int v5)] [] := by
        intro V v2 v3 v4 v5 h
        rw [hG]
        intro H locs ls w hl
        rw [f_X8_next_92] at h
        obtain ⟨x40, ex40⟩ : ∃ y : Int32, y = v5 + (1 : Int32) := ⟨_, rfl⟩
        replace h := bdi h _ ex40
        refine lv_iinc (v := x40) (lv' := [(5, .int x40), (0, .ref (ad o)), (2, .int v2), (3, .int v3), (4, .int v4)]) hx hb dX8_next_92 hl (k := 4) rfl (by rw [ex40]; rfl) (by decide) rfl (fun ls hl => ?_)
        refine lv_goto (tgt := 58) hx hb dX8_next_95 (by decide) ?_
        have g := ih58 V v2 v3 v4 x40 h
        rw [hG] at g
        exact g H locs ls w (lv_sub hl [1, 2, 3, 4, 0] rfl)
      intro V v2 v3 v4 v5 h
      rw [hG]
      intro H locs ls w hl
      rw [f_X8_next_58] at h
      refine lv_iload hx hb dX8_next_58 (lv_at hl 4 rfl) ?_
      refine lv_bipush (v := 25) hx hb dX8_next_60 (by decide) ?_
      refine lv_icmp_ge (tgt := 98) hx hb dX8_next_62 (by decide) (fun c31 => ?_) (fun c31 => ?_)
      · replace h := ifT h c31
        refine lv_iload_n hx hb dX8_next_98 rfl (lv_at hl 1 rfl) ?_
        refine lv_if_ne (tgt := 107) hx hb dX8_next_99 (by decide) (fun c32 => ?_) (fun c32 => ?_)
        · replace h := ifF h c32
          refine lv_aload_n hx hb dX8_next_107 rfl (lv_at hl 0 rfl) ?_
          refine m_get X w o (shn hs 0 rfl) (shk hs 0 rfl : S.2.1 o = 8) ci8 10 (by decide) (fvR (shk hs 0 rfl : S.2.1 o = 8) rfl (shq hs 0 10 rfl rfl : S.2.2.2.1 o 10 = (o + 48) + 1)) rfl fl_X8_64 dX8_next_108 ?_
          refine lv_iload hx hb dX8_next_111 (lv_at hl 3 rfl) ?_
          refine lv_iload_n hx hb dX8_next_113 rfl (lv_at hl 2 rfl) ?_
          obtain ⟨r33, q34, h⟩ := ob1i h
          refine m_ci (m_rV (As := [.int v4, .int v3]) (rest := []) X w hl mi_X3_mostAlike ml_X8_261 (o + 48) (shn hs 48 rfl) (shk hs 48 rfl : S.2.1 (o + 48) = 3) rfl (c_X3_mostAlike l D cy ad A Kc C0 N S V (o + 48) (sb_8_48 hs) v4 v3 r33 q34) ⟨⟨rfl, rfl, Nat.le_of_ble_eq_true rfl, Nat.le_of_ble_eq_true rfl⟩, Nat.le_of_ble_eq_true rfl, Nat.le_of_ble_eq_true rfl⟩ rfl rfl (Nat.le_of_ble_eq_true rfl) dX8_next_114) w (fun H locs w => ?_)
          obtain ⟨rfl, rfl⟩ := reti h
          exact m_ri X w hr hlocks dX8_next_117
        · replace h := ifT h c32
          refine lv_iload hx hb dX8_next_102 (lv_at hl 3 rfl) ?_
          refine lv_goto (tgt := 117) hx hb dX8_next_104 (by decide) ?_
          obtain ⟨rfl, rfl⟩ := reti h
          exact m_ri X w hr hlocks dX8_next_117
      · replace h := ifF h c31
        refine lv_aload_n hx hb dX8_next_65 rfl (lv_at hl 0 rfl) ?_
        refine m_get X w o (shn hs 0 rfl) (shk hs 0 rfl : S.2.1 o = 8) ci8 10 (by decide) (fvR (shk hs 0 rfl : S.2.1 o = 8) rfl (shq hs 0 10 rfl rfl : S.2.2.2.1 o 10 = (o + 48) + 1)) rfl fl_X8_64 dX8_next_66 ?_
        refine lv_iload hx hb dX8_next_69 (lv_at hl 4 rfl) ?_
        refine lv_iload_n hx hb dX8_next_71 rfl (lv_at hl 2 rfl) ?_
        obtain ⟨r35, q36, h⟩ := ob1i h
        refine m_ci (m_rV (As := [.int v5, .int v3]) (rest := []) X w hl mi_X3_mostAlike ml_X8_261 (o + 48) (shn hs 48 rfl) (shk hs 48 rfl : S.2.1 (o + 48) = 3) rfl (c_X3_mostAlike l D cy ad A Kc C0 N S V (o + 48) (sb_8_48 hs) v5 v3 r35 q36) ⟨⟨rfl, rfl, Nat.le_of_ble_eq_true rfl, Nat.le_of_ble_eq_true rfl⟩, Nat.le_of_ble_eq_true rfl, Nat.le_of_ble_eq_true rfl⟩ rfl rfl (Nat.le_of_ble_eq_true rfl) dX8_next_72) w (fun H locs w => ?_)
        refine lv_aload_n hx hb dX8_next_75 rfl (lv_at hl 0 rfl) ?_
        refine m_get X w o (shn hs 0 rfl) (shk hs 0 rfl : S.2.1 o = 8) ci8 10 (by decide) (fvR (shk hs 0 rfl : S.2.1 o = 8) rfl (shq hs 0 10 rfl rfl : S.2.2.2.1 o 10 = (o + 48) + 1)) rfl fl_X8_64 dX8_next_76 ?_
        refine lv_iload hx hb dX8_next_79 (lv_at hl 3 rfl) ?_
        refine lv_iload_n hx hb dX8_next_81 rfl (lv_at hl 2 rfl) ?_
        obtain ⟨r37, q38, h⟩ := ob1i h
        refine m_ci (m_rV (As := [.int v4, .int v3]) (rest := [.int r35]) X w hl mi_X3_mostAlike ml_X8_261 (o + 48) (shn hs 48 rfl) (shk hs 48 rfl : S.2.1 (o + 48) = 3) rfl (c_X3_mostAlike l D cy ad A Kc C0 N S V (o + 48) (sb_8_48 hs) v4 v3 r37 q38) ⟨⟨rfl, rfl, Nat.le_of_ble_eq_true rfl, Nat.le_of_ble_eq_true rfl⟩, Nat.le_of_ble_eq_true rfl, Nat.le_of_ble_eq_true rfl⟩ rfl rfl (Nat.le_of_ble_eq_true rfl) dX8_next_82) w (fun H locs w => ?_)
        refine lv_icmp_ge (tgt := 92) hx hb dX8_next_85 (by decide) (fun c39 => ?_) (fun c39 => ?_)
        · replace h := ifT h c39
          have g := B92 V v2 v3 v4 v5 h
          rw [hG] at g
          exact g H locs ls w (lv_sub hl [0, 1, 2, 3, 4] rfl)
        · replace h := ifF h c39
          refine lv_iload hx hb dX8_next_88 (lv_at hl 4 rfl) ?_
          refine lv_istore (lv' := [(4, .int v5), (0, .ref (ad o)), (2, .int v2), (3, .int v3), (5, .int v5)]) hx hb dX8_next_90 hl (by decide) rfl (fun ls hl => ?_)
          have g := B92 V v2 v3 v5 v5 h
          rw [hG] at g
          exact g H locs ls w (lv_sub hl [1, 2, 3, 0, 4] rfl)
  rw [f_X8_next] at h
  refine lv_iload_n hx hb dX8_next_0 rfl (lv_at hl 1 rfl) ?_
  refine lv_iconst (v := 0) hx hb dX8_next_1 (by decide) ?_
  refine lv_bipush (v := 99) hx hb dX8_next_2 (by decide) ?_
  obtain ⟨r18, q19, h⟩ := ob1i h
  refine m_ci (m_rS (As := [.int a1, .int (0 : Int32), .int (99 : Int32)]) (rest := []) X w hl mi_X8_isWithin ml_X8_93 (c_X8_isWithin l D cy ad A Kc C0 N S V a1 (0 : Int32) (99 : Int32) r18 q19) ⟨⟨rfl, rfl, Nat.le_of_ble_eq_true rfl, Nat.le_of_ble_eq_true rfl⟩, Nat.le_of_ble_eq_true rfl, Nat.le_of_ble_eq_true rfl⟩ rfl rfl (Nat.le_of_ble_eq_true rfl) dX8_next_4) w (fun H locs w => ?_)
  refine lv_if_eq (tgt := 19) hx hb dX8_next_7 (by decide) (fun c20 => ?_) (fun c20 => ?_)
  · replace h := ifT h c20
    refine lv_iconst (v := (-1)) hx hb dX8_next_19 (by decide) ?_
    obtain ⟨rfl, rfl⟩ := reti h
    exact m_ri X w hr hlocks dX8_next_20
  · replace h := ifF h c20
    refine lv_iload_n hx hb dX8_next_10 rfl (lv_at hl 2 rfl) ?_
    refine lv_iconst (v := 0) hx hb dX8_next_11 (by decide) ?_
    refine lv_iconst (v := 1) hx hb dX8_next_12 (by decide) ?_
    obtain ⟨r21, q22, h⟩ := ob1i h
    refine m_ci (m_rS (As := [.int a2, .int (0 : Int32), .int (1 : Int32)]) (rest := []) X w hl mi_X8_isWithin ml_X8_93 (c_X8_isWithin l D cy ad A Kc C0 N S V a2 (0 : Int32) (1 : Int32) r21 q22) ⟨⟨rfl, rfl, Nat.le_of_ble_eq_true rfl, Nat.le_of_ble_eq_true rfl⟩, Nat.le_of_ble_eq_true rfl, Nat.le_of_ble_eq_true rfl⟩ rfl rfl (Nat.le_of_ble_eq_true rfl) dX8_next_13) w (fun H locs w => ?_)
    refine lv_if_ne (tgt := 21) hx hb dX8_next_16 (by decide) (fun c23 => ?_) (fun c23 => ?_)
    · replace h := ifF h c23
      refine lv_aload_n hx hb dX8_next_21 rfl (lv_at hl 0 rfl) ?_
      refine m_get X w o (shn hs 0 rfl) (shk hs 0 rfl : S.2.1 o = 8) ci8 10 (by decide) (fvR (shk hs 0 rfl : S.2.1 o = 8) rfl (shq hs 0 10 rfl rfl : S.2.2.2.1 o 10 = (o + 48) + 1)) rfl fl_X8_64 dX8_next_22 ?_
      refine lv_aload_n hx hb dX8_next_25 rfl (lv_at hl 0 rfl) ?_
      refine m_get X w o (shn hs 0 rfl) (shk hs 0 rfl : S.2.1 o = 8) ci8 0 (by decide) (fvR (shk hs 0 rfl : S.2.1 o = 8) rfl (shq hs 0 0 rfl rfl : S.2.2.2.1 o 0 = (o + 1) + 1)) rfl fl_X8_12 dX8_next_26 ?_
      obtain ⟨r24, V26, q25, h⟩ := obi h
      refine m_ci (m_rV (As := [.ref (ad (o + 1))]) (rest := []) X w hl mi_X3_fitting ml_X8_254 (o + 48) (shn hs 48 rfl) (shk hs 48 rfl : S.2.1 (o + 48) = 3) rfl (c_X3_fitting l D cy ad A Kc C0 N S V (o + 48) (sb_8_48 hs) (o + 1) (sb_8_1 hs) r24 V26 q25) ⟨⟨rfl, rfl, Nat.le_of_ble_eq_true rfl, Nat.le_of_ble_eq_true rfl⟩, Nat.le_of_ble_eq_true rfl, Nat.le_of_ble_eq_true rfl⟩ rfl rfl (Nat.le_of_ble_eq_true rfl) dX8_next_29) w (fun H locs w => ?_)
      refine lv_istore_n (lv' := [(3, .int r24), (0, .ref (ad o)), (1, .int a1), (2, .int a2)]) hx hb dX8_next_32 rfl hl (by decide) rfl (fun ls hl => ?_)
      refine lv_iload_n hx hb dX8_next_33 rfl (lv_at hl 0 rfl) ?_
      refine lv_if_ne (tgt := 39) hx hb dX8_next_34 (by decide) (fun c27 => ?_) (fun c27 => ?_)
      · replace h := ifF h c27
        refine lv_aload_n hx hb dX8_next_39 rfl (lv_at hl 1 rfl) ?_
        refine m_get X w o (shn hs 0 rfl) (shk hs 0 rfl : S.2.1 o = 8) ci8 10 (by decide) (fvR (shk hs 0 rfl : S.2.1 o = 8) rfl (shq hs 0 10 rfl rfl : S.2.2.2.1 o 10 = (o + 48) + 1)) rfl fl_X8_64 dX8_next_40 ?_
        refine lv_aload_n hx hb dX8_next_43 rfl (lv_at hl 1 rfl) ?_
        refine m_get X w o (shn hs 0 rfl) (shk hs 0 rfl : S.2.1 o = 8) ci8 0 (by decide) (fvR (shk hs 0 rfl : S.2.1 o = 8) rfl (shq hs 0 0 rfl rfl : S.2.2.2.1 o 0 = (o + 1) + 1)) rfl fl_X8_12 dX8_next_44 ?_
        refine lv_iload_n hx hb dX8_next_47 rfl (lv_at hl 0 rfl) ?_
        refine lv_iload_n hx hb dX8_next_48 rfl (lv_at hl 2 rfl) ?_
        obtain ⟨V30, q29, h⟩ := obvi h
        refine m_cv (m_rV (As := [.ref (ad (o + 1)), .int r24, .int a1]) (rest := []) X w hl mi_X3_learnPlaces ml_X8_257 (o + 48) (shn hs 48 rfl) (shk hs 48 rfl : S.2.1 (o + 48) = 3) rfl (c_X3_learnPlaces l D cy ad A Kc C0 N S V26 (o + 48) (sb_8_48 hs) (o + 1) (sb_8_1 hs) r24 a1 V30 q29) ⟨⟨rfl, rfl, Nat.le_of_ble_eq_true rfl, Nat.le_of_ble_eq_true rfl⟩, Nat.le_of_ble_eq_true rfl, Nat.le_of_ble_eq_true rfl⟩ rfl rfl (Nat.le_of_ble_eq_true rfl) dX8_next_49) w (fun H locs w => ?_)
        refine lv_iconst (v := 0) hx hb dX8_next_52 (by decide) ?_
        refine lv_istore (lv' := [(4, .int (0 : Int32)), (3, .int r24), (0, .ref (ad o)), (1, .int a1), (2, .int a2)]) hx hb dX8_next_53 hl (by decide) rfl (fun ls hl => ?_)
        refine lv_iconst (v := 1) hx hb dX8_next_55 (by decide) ?_
        refine lv_istore (lv' := [(5, .int (1 : Int32)), (4, .int (0 : Int32)), (3, .int r24), (0, .ref (ad o)), (1, .int a1), (2, .int a2)]) hx hb dX8_next_56 hl (by decide) rfl (fun ls hl => ?_)
        have g := L58 N V30 a2 r24 (0 : Int32) (1 : Int32) h
        rw [hG] at g
        exact g H locs ls w (lv_sub hl [3, 5, 2, 1, 0] rfl)
      · replace h := ifT h c27
        refine lv_iconst (v := (-1)) hx hb dX8_next_37 (by decide) ?_
        obtain ⟨rfl, rfl⟩ := reti h
        exact m_ri X w hr hlocks dX8_next_38
    · replace h := ifT h c23
      refine lv_iconst (v := (-1)) hx hb dX8_next_19 (by decide) ?_
      obtain ⟨rfl, rfl⟩ := reti h
      exact m_ri X w hr hlocks dX8_next_20
