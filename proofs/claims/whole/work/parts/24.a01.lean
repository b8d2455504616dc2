set_option maxHeartbeats 4000000 in
set_option maxRecDepth 100000 in
def f_X5_readText_115 (N : Nat) (ad : Nat → Nat) (S : St) (o : Nat) (a1 : Nat) (K82 : Vt → Int32 → Option (Nat × St × Vt)) (V : Vt) (v4 : Int32) : Option (Nat × St × Vt) := if (V.1 o 6) = (V.1 o 5) then cg (ad S.1 == S.2.2.2.2) (bd S.1 (fun q82 => bd (nwO S 7) (fun S => bd (zV V q82) (fun V84 => cg (shpB S o t5) (cg (Nat.ble (V84.1 o 10).toNatClampNeg 448) (oa (f_J7_copyOf_59c91 N ad S V84 (o + 3) (V84.1 o 10)) (fun r86 S V87 => cg (shpB S o t5) (nl r86 (cg (Nat.ble ((6 : Int32) * (V87.1 o 11)).toNatClampNeg 72) (oa (f_J7_copyOf_59c91 N ad S V87 (o + 4) ((6 : Int32) * (V87.1 o 11))) (fun r94 S V95 => cg (shpB S o t5) (nl r94 (none) (fun q100 => cg (true) (none)))))) (fun q92 => cg (true) (cg (Nat.ble ((6 : Int32) * (V87.1 o 11)).toNatClampNeg 72) (oa (f_J7_copyOf_59c91 N ad S V87 (o + 4) ((6 : Int32) * (V87.1 o 11))) (fun r102 S V103 => cg (shpB S o t5) (nl r102 (none) (fun q108 => cg (true) (oav (f_X7_init N ad S V103 q82 q92 q108 (V103.1 o 11)) (fun S V110 => cg (shpB S o t5) (some ((q82 + 1), S, V110)))))))))))))))))) else ob (f_X5_readSign N S V o 19) (fun r77 V79 => if r77 = 0 then some (0, S, V79) else bd (v4 + (1 : Int32)) (fun x81 => K82 V79 x81))
set_option maxHeartbeats 4000000 in
set_option maxRecDepth 100000 in
def f_X5_readText_82 (N : Nat) (ad : Nat → Nat) (S : St) (o : Nat) (a1 : Nat) : Nat → Vt → Int32 → Option (Nat × St × Vt)
  | 0, _, _ => none
  | n + 1, V, v4 => if (12 : Int32) ≤ v4 then ob (f_X5_fails N S V o) (fun r68 V70 => some (0, S, V70)) else if (V.1 o 4) = 0 then ob (f_X5_readOrderClause N S V o) (fun r72 V74 => if r72 = 0 then some (0, S, V74) else f_X5_readText_115 N ad S o a1 (f_X5_readText_82 N ad S o a1 n) V74 v4) else ob (f_X5_readLawClause N S V o) (fun r113 V115 => if r113 = 0 then some (0, S, V115) else f_X5_readText_115 N ad S o a1 (f_X5_readText_82 N ad S o a1 n) V115 v4)
set_option maxHeartbeats 4000000 in
set_option maxRecDepth 100000 in
def f_X5_readText_3 (N : Nat) (ad : Nat → Nat) (S : St) (o : Nat) (a1 : Nat) : Nat → Vt → Int32 → Int32 → Int32 → Option (Nat × St × Vt)
  | 0, _, _, _, _ => none
  | n + 1, V, v2, v3, v4 => if v2 ≤ v4 then cb v3 (bd (sF V o 4 v3) (fun V57 => bd (sF V57 o 5 v2) (fun V58 => bd (sF V58 o 7 (0 : Int32)) (fun V59 => bd (sF V59 o 8 (-1 : Int32)) (fun V60 => bd (sF V60 o 9 (0 : Int32)) (fun V61 => bd (sF V61 o 10 (0 : Int32)) (fun V62 => bd (sF V62 o 11 (0 : Int32)) (fun V63 => obv (f_X5_move N S V63 o) (fun V66 => f_X5_readText_82 N ad S o a1 N V66 (0 : Int32)))))))))) else ck v4 (S.2.2.1 a1) (ck v4 400 (bd (sA V (o + 1) v4.toNatClampNeg (V.2.1 a1 v4.toNatClampNeg)) (fun V119 => ck v4 (S.2.2.1 a1) (ob1 (f_X5_kindOfByte N (V119.2.1 a1 v4.toNatClampNeg)) (fun r121 => ck v4 400 (bd (sA V119 (o + 2) v4.toNatClampNeg r121) (fun V124 => bd (v4 + (1 : Int32)) (fun x125 => (f_X5_readText_3 N ad S o a1 n) V124 v2 v3 x125))))))))
set_option maxHeartbeats 4000000 in
set_option maxRecDepth 100000 in
def f_X5_readText (N : Nat) (ad : Nat → Nat) (S : St) (V : Vt) (o : Nat) (a1 : Nat) (a2 : Int32) (a3 : Int32) : Option (Nat × St × Vt) := f_X5_readText_3 N ad S o a1 N V a2 a3 (0 : Int32)
set_option maxHeartbeats 4000000 in
set_option maxRecDepth 100000 in
theorem c_X5_readText (l : Launch) (D : va_G) (cy : Nat → ClassId) (ad : Nat → Nat) (A : Nat → Prop) (aK aV : Nat → Nat) (C0 : Cx ad A (KX A aK aV)) (N : Nat) (S : St) (V : Vt) (o : Nat) (hs : shp S o t5) (a1 : Nat) (hs_a1 : ash S a1) (a2 : Int32) (a3 : Int32) (r : Nat) (S' : St) (V' : Vt) (h : f_X5_readText N ad S V o a1 a2 a3 = some (r, S', V')) : Met l yX5_readText (mw yX5_readText cX5_readText 5 (some (.object "LedgerHounds$Text"))) { frames := 90, cells := 3, slots := 523, locals := 5021 } (PreM D cy ad (KX A aK aV) S V [.ref (ad o), .ref (ad a1), .int a2, .int a3]) (QN D cy ad A r S' V') 3 523 A := by
  refine ct_goK C0 (own := RX5) rfl (by decide) rfl ?_
  intro p e s m below meth c ls H locs hKc X hr hlocks hnm hl w
  have hx := X.1.1
  have hb := X.1.2.1
  have hown := X.2.1
  have hts := X.2.2.1
  have hl : lv_has ls 5 [(0, .ref (ad o)), (1, .ref (ad a1)), (2, .int a2), (3, .int a3)] := hl
  obtain ⟨G, hG⟩ : ∃ G : Nat → Vt → List (Nat × Value) → List Value → Prop, G = fun pc V lv st => ∀ (H : Heap) (locs : List Loc) (ls : Array Slot), Wd D cy ad A s.heap S V H locs → lv_has ls 5 lv → W p l e { frames := 90, cells := 3, slots := 523, locals := 5021 } s m ([.ref (ad o), .ref (ad a1), .int a2, .int a3] : List Value).toArray below meth c H locs 0 0 (MQ below (QN D cy ad A r S' V') ([.ref (ad o), .ref (ad a1), .int a2, .int a3] : List Value).toArray s 3 523 A) (F0 m pc ls st) := ⟨_, rfl⟩
  have L82 : ∀ (n82 : Nat) (V : Vt) (v4 : Int32), f_X5_readText_82 N ad S o a1 n82 V v4 = some (r, S', V') → G 82 V [(0, .ref (ad o)), (4, .int v4)] [] := by
    intro n82
    induction n82 with
    | zero => intro V v4 h; rw [f_X5_readText_82] at h; cases h
    | succ n82 ih82 =>
      have B115 : ∀ (V : Vt) (v4 : Int32), f_X5_readText_115 N ad S o a1 (f_X5_readText_82 N ad S o a1 n82) V v4 = some (r, S', V') → G 115 V [(0, .ref (ad o)), (4, .int v4)] [] := by
        intro V v4 h
        rw [hG]
        intro H locs ls w hl
        rw [f_X5_readText_115] at h
        refine lv_aload_n hx hb dX5_readText_115 rfl (lv_at hl 0 rfl) ?_
        refine m_get X w o (shn hs 0 rfl) (shk hs 0 rfl : S.2.1 o = 5) ci5 6 (by decide) (fvI (shk hs 0 rfl : S.2.1 o = 5) rfl) rfl fl_X5_63 dX5_readText_116 ?_
        refine lv_aload_n hx hb dX5_readText_119 rfl (lv_at hl 0 rfl) ?_
        refine m_get X w o (shn hs 0 rfl) (shk hs 0 rfl : S.2.1 o = 5) ci5 5 (by decide) (fvI (shk hs 0 rfl : S.2.1 o = 5) rfl) rfl fl_X5_38 dX5_readText_120 ?_
        refine lv_icmp_ne (tgt := 163) hx hb dX5_readText_123 (by decide) (fun c76 => ?_) (fun c76 => ?_)
        · replace h := ifF h c76
          refine lv_aload_n hx hb dX5_readText_163 rfl (lv_at hl 0 rfl) ?_
          refine va_ldcS hx hb hown (ks_19 hKc) dX5_readText_164 ?_
          obtain ⟨r77, V79, q78, h⟩ := obi h
          refine m_ci (m_rV (As := [.ref (aK 19)]) (rest := []) X w hl mi_X5_readSign ml_X5_77 o (shn hs 0 rfl) (shk hs 0 rfl : S.2.1 o = 5) rfl (c_X5_readSign l D cy ad A aK aV C0 N S V o hs 19 (Nat.le_of_ble_eq_true rfl) r77 V79 q78) ⟨⟨rfl, rfl, Nat.le_of_ble_eq_true rfl, Nat.le_of_ble_eq_true rfl⟩, Nat.le_of_ble_eq_true rfl, Nat.le_of_ble_eq_true rfl⟩ rfl rfl (Nat.le_of_ble_eq_true rfl) dX5_readText_166) w (fun H locs w => ?_)
          refine lv_if_ne (tgt := 174) hx hb dX5_readText_169 (by decide) (fun c80 => ?_) (fun c80 => ?_)
          · replace h := ifF h c80
            obtain ⟨x81, ex81⟩ : ∃ y : Int32, y = v4 + (1 : Int32) := ⟨_, rfl⟩
            replace h := bdi h _ ex81
            refine lv_iinc (v := x81) (lv' := [(4, .int x81), (0, .ref (ad o))]) hx hb dX5_readText_174 hl (k := 1) rfl (by rw [ex81]; rfl) (by decide) rfl (fun ls hl => ?_)
            refine lv_goto (tgt := 82) hx hb dX5_readText_177 (by decide) ?_
            have g := ih82 V79 x81 h
            rw [hG] at g
            exact g H locs ls w (lv_sub hl [1, 0] rfl)
          · replace h := ifT h c80
            refine lv_null hx hb dX5_readText_172 ?_
            obtain ⟨rfl, rfl, rfl⟩ := retA h
            refine W.widen (k := 3) (n := 523) (Nat.le_of_ble_eq_true rfl) (Nat.le_of_ble_eq_true rfl) ?_
            exact m_rn0 X w hr (Or.inl ⟨_, rfl⟩) hlocks dX5_readText_173
        · replace h := ifT h c76
          obtain ⟨g83, h⟩ := cgi h
          have g83 := beq_iff_eq.mp g83
          obtain ⟨q82, eq82⟩ : ∃ y : Nat, y = S.1 := ⟨_, rfl⟩
          replace h := bdi h _ eq82
          refine m_new X w g83 ci7 dv_7 cl_X5_21 in_7 ii_7 dX5_readText_126 (Nat.le_of_ble_eq_true rfl) (Nat.le_of_ble_eq_true rfl) (fun S V84 H locs eS eV84 w => ?_)
          rw [← eq82] at eV84 ⊢
          replace h := bdi h _ eS
          replace h := bdi h _ eV84
          refine W.widen (k := 1) (n := 3) (Nat.le_of_ble_eq_true rfl) (Nat.le_of_ble_eq_true rfl) ?_
          obtain ⟨g85, h⟩ := cgi h
          have hs := shp_of g85
          refine lv_dup hx hb dX5_readText_129 rfl ?_
          refine lv_aload_n hx hb dX5_readText_130 rfl (lv_at hl 0 rfl) ?_
          refine m_get X w o (shn hs 0 rfl) (shk hs 0 rfl : S.2.1 o = 5) ci5 2 (by decide) (fvR (shk hs 0 rfl : S.2.1 o = 5) rfl (shq hs 0 2 rfl rfl : S.2.2.2.1 o 2 = (o + 3) + 1)) rfl fl_X5_18 dX5_readText_131 ?_
          refine lv_aload_n hx hb dX5_readText_134 rfl (lv_at hl 0 rfl) ?_
          refine m_get X w o (shn hs 0 rfl) (shk hs 0 rfl : S.2.1 o = 5) ci5 10 (by decide) (fvI (shk hs 0 rfl : S.2.1 o = 5) rfl) rfl fl_X5_47 dX5_readText_135 ?_
          obtain ⟨g89, h⟩ := cgi h
          have g89 := Nat.le_of_ble_eq_true g89
          obtain ⟨r86, S9, V87, q88, h⟩ := oai h
          refine m_cn (m_rS (As := [.ref (ad (o + 3)), .int (V84.1 o 10)]) (rest := [.ref (ad q82), .ref (ad q82)]) X w hl mi_J7_copyOf_59c91 ml_X5_66 (c_J7_copyOf_59c91 l D cy ad A aK aV C0 N _ V84 (o + 3) ⟨(shn hs 3 rfl), (shk hs 3 rfl : S.2.1 (o + 3) = 11)⟩ (V84.1 o 10) 448 g89 _ _ _ q88) ⟨⟨rfl, rfl, (Nat.le_of_ble_eq_true rfl), (Nat.le_of_ble_eq_true rfl)⟩, (Nat.le_of_ble_eq_true rfl), (Nat.le_of_ble_eq_true rfl)⟩ rfl rfl (Nat.le_of_ble_eq_true rfl) dX5_readText_138) w (fun H locs w => ?_)
          obtain ⟨S, hS9⟩ : ∃ q, q = S9 := ⟨_, rfl⟩
          subst hS9
          refine W.widen (k := 2) (n := 451) (Nat.le_of_ble_eq_true rfl) (Nat.le_of_ble_eq_true rfl) ?_
          obtain ⟨g90, h⟩ := cgi h
          have hs := shp_of g90
          cases r86 with
          | zero =>
            replace h := nl0 h
            refine lv_aload_n hx hb dX5_readText_141 rfl (lv_at hl 0 rfl) ?_
            refine m_get X w o (shn hs 0 rfl) (shk hs 0 rfl : S.2.1 o = 5) ci5 3 (by decide) (fvR (shk hs 0 rfl : S.2.1 o = 5) rfl (shq hs 0 3 rfl rfl : S.2.2.2.1 o 3 = (o + 4) + 1)) rfl fl_X5_23 dX5_readText_142 ?_
            refine lv_bipush (v := 6) hx hb dX5_readText_145 (by decide) ?_
            refine lv_aload_n hx hb dX5_readText_147 rfl (lv_at hl 0 rfl) ?_
            refine m_get X w o (shn hs 0 rfl) (shk hs 0 rfl : S.2.1 o = 5) ci5 11 (by decide) (fvI (shk hs 0 rfl : S.2.1 o = 5) rfl) rfl fl_X5_50 dX5_readText_148 ?_
            refine lv_imul hx hb dX5_readText_151 ?_
            obtain ⟨g97, h⟩ := cgi h
            have g97 := Nat.le_of_ble_eq_true g97
            obtain ⟨r94, S9, V95, q96, h⟩ := oai h
            refine m_cn (m_rS (As := [.ref (ad (o + 4)), .int ((6 : Int32) * (V87.1 o 11))]) (rest := [.null, .ref (ad q82), .ref (ad q82)]) X w hl mi_J7_copyOf_59c91 ml_X5_66 (c_J7_copyOf_59c91 l D cy ad A aK aV C0 N _ V87 (o + 4) ⟨(shn hs 4 rfl), (shk hs 4 rfl : S.2.1 (o + 4) = 11)⟩ ((6 : Int32) * (V87.1 o 11)) 72 g97 _ _ _ q96) ⟨⟨rfl, rfl, (Nat.le_of_ble_eq_true rfl), (Nat.le_of_ble_eq_true rfl)⟩, (Nat.le_of_ble_eq_true rfl), (Nat.le_of_ble_eq_true rfl)⟩ rfl rfl (Nat.le_of_ble_eq_true rfl) dX5_readText_152) w (fun H locs w => ?_)
            obtain ⟨S, hS9⟩ : ∃ q, q = S9 := ⟨_, rfl⟩
            subst hS9
            refine W.widen (k := 3) (n := 523) (Nat.le_of_ble_eq_true rfl) (Nat.le_of_ble_eq_true rfl) ?_
            obtain ⟨g98, h⟩ := cgi h
            have hs := shp_of g98
            cases r94 with
            | zero =>
              replace h := nl0 h
              refine lv_aload_n hx hb dX5_readText_155 rfl (lv_at hl 0 rfl) ?_
              refine m_get X w o (shn hs 0 rfl) (shk hs 0 rfl : S.2.1 o = 5) ci5 11 (by decide) (fvI (shk hs 0 rfl : S.2.1 o = 5) rfl) rfl fl_X5_50 dX5_readText_156 ?_
              cases h
            | succ q100 =>
              replace h := nls h
              obtain ⟨g101, h⟩ := cgi h
              have hz_q100 := id g101
              refine lv_aload_n hx hb dX5_readText_155 rfl (lv_at hl 0 rfl) ?_
              refine m_get X w o (shn hs 0 rfl) (shk hs 0 rfl : S.2.1 o = 5) ci5 11 (by decide) (fvI (shk hs 0 rfl : S.2.1 o = 5) rfl) rfl fl_X5_50 dX5_readText_156 ?_
              cases h
          | succ q92 =>
            replace h := nls h
            obtain ⟨g93, h⟩ := cgi h
            have hz_q92 := id g93
            refine lv_aload_n hx hb dX5_readText_141 rfl (lv_at hl 0 rfl) ?_
            refine m_get X w o (shn hs 0 rfl) (shk hs 0 rfl : S.2.1 o = 5) ci5 3 (by decide) (fvR (shk hs 0 rfl : S.2.1 o = 5) rfl (shq hs 0 3 rfl rfl : S.2.2.2.1 o 3 = (o + 4) + 1)) rfl fl_X5_23 dX5_readText_142 ?_
            refine lv_bipush (v := 6) hx hb dX5_readText_145 (by decide) ?_
            refine lv_aload_n hx hb dX5_readText_147 rfl (lv_at hl 0 rfl) ?_
            refine m_get X w o (shn hs 0 rfl) (shk hs 0 rfl : S.2.1 o = 5) ci5 11 (by decide) (fvI (shk hs 0 rfl : S.2.1 o = 5) rfl) rfl fl_X5_50 dX5_readText_148 ?_
            refine lv_imul hx hb dX5_readText_151 ?_
            obtain ⟨g105, h⟩ := cgi h
            have g105 := Nat.le_of_ble_eq_true g105
            obtain ⟨r102, S9, V103, q104, h⟩ := oai h
            refine m_cn (m_rS (As := [.ref (ad (o + 4)), .int ((6 : Int32) * (V87.1 o 11))]) (rest := [.ref (ad q92), .ref (ad q82), .ref (ad q82)]) X w hl mi_J7_copyOf_59c91 ml_X5_66 (c_J7_copyOf_59c91 l D cy ad A aK aV C0 N _ V87 (o + 4) ⟨(shn hs 4 rfl), (shk hs 4 rfl : S.2.1 (o + 4) = 11)⟩ ((6 : Int32) * (V87.1 o 11)) 72 g105 _ _ _ q104) ⟨⟨rfl, rfl, (Nat.le_of_ble_eq_true rfl), (Nat.le_of_ble_eq_true rfl)⟩, (Nat.le_of_ble_eq_true rfl), (Nat.le_of_ble_eq_true rfl)⟩ rfl rfl (Nat.le_of_ble_eq_true rfl) dX5_readText_152) w (fun H locs w => ?_)
            obtain ⟨S, hS9⟩ : ∃ q, q = S9 := ⟨_, rfl⟩
            subst hS9
            refine W.widen (k := 3) (n := 523) (Nat.le_of_ble_eq_true rfl) (Nat.le_of_ble_eq_true rfl) ?_
            obtain ⟨g106, h⟩ := cgi h
            have hs := shp_of g106
            cases r102 with
            | zero =>
              replace h := nl0 h
              refine lv_aload_n hx hb dX5_readText_155 rfl (lv_at hl 0 rfl) ?_
              refine m_get X w o (shn hs 0 rfl) (shk hs 0 rfl : S.2.1 o = 5) ci5 11 (by decide) (fvI (shk hs 0 rfl : S.2.1 o = 5) rfl) rfl fl_X5_50 dX5_readText_156 ?_
              cases h
            | succ q108 =>
              replace h := nls h
              obtain ⟨g109, h⟩ := cgi h
              have hz_q108 := id g109
              refine lv_aload_n hx hb dX5_readText_155 rfl (lv_at hl 0 rfl) ?_
              refine m_get X w o (shn hs 0 rfl) (shk hs 0 rfl : S.2.1 o = 5) ci5 11 (by decide) (fvI (shk hs 0 rfl : S.2.1 o = 5) rfl) rfl fl_X5_50 dX5_readText_156 ?_
              obtain ⟨S, V110, q111, h⟩ := oavi h
              refine m_cv (m_rI (As := [.ref (ad q92), .ref (ad q108), .int (V103.1 o 11)]) (rest := [.ref (ad q82)]) X w hl mi_X7_init ml_X5_72 (ad q82) (c_X7_init l D cy ad A aK aV C0 N _ V103 q82 q92 q108 (V103.1 o 11) _ _ q111) ⟨⟨rfl, rfl, (Nat.le_of_ble_eq_true rfl), (Nat.le_of_ble_eq_true rfl)⟩, (Nat.le_of_ble_eq_true rfl), (Nat.le_of_ble_eq_true rfl)⟩ rfl rfl (Nat.le_of_ble_eq_true rfl) dX5_readText_159) w (fun H locs w => ?_)
              refine W.widen (k := 3) (n := 523) (Nat.le_of_ble_eq_true rfl) (Nat.le_of_ble_eq_true rfl) ?_
              obtain ⟨g112, h⟩ := cgi h
              have hs := shp_of g112
              obtain ⟨rfl, rfl, rfl⟩ := retA h
              refine W.widen (k := 3) (n := 523) (Nat.le_of_ble_eq_true rfl) (Nat.le_of_ble_eq_true rfl) ?_
              exact m_rn1 X w hr (Or.inl ⟨_, rfl⟩) hlocks dX5_readText_162
      intro V v4 h
      rw [hG]
      intro H locs ls w hl
      rw [f_X5_readText_82] at h
      refine lv_iload hx hb dX5_readText_82 (lv_at hl 1 rfl) ?_
      refine lv_bipush (v := 12) hx hb dX5_readText_84 (by decide) ?_
      refine lv_icmp_ge (tgt := 180) hx hb dX5_readText_86 (by decide) (fun c67 => ?_) (fun c67 => ?_)
      · replace h := ifT h c67
        refine lv_aload_n hx hb dX5_readText_180 rfl (lv_at hl 0 rfl) ?_
        obtain ⟨r68, V70, q69, h⟩ := obi h
        refine m_ci (m_rV (As := []) (rest := []) X w hl mi_X5_fails ml_X5_81 o (shn hs 0 rfl) (shk hs 0 rfl : S.2.1 o = 5) rfl (c_X5_fails l D cy ad A (KX A aK aV) C0 N S V o hs r68 V70 q69) ⟨⟨rfl, rfl, Nat.le_of_ble_eq_true rfl, Nat.le_of_ble_eq_true rfl⟩, Nat.le_of_ble_eq_true rfl, Nat.le_of_ble_eq_true rfl⟩ rfl rfl (Nat.le_of_ble_eq_true rfl) dX5_readText_181) w (fun H locs w => ?_)
        refine lv_pop hx hb dX5_readText_184 rfl ?_
        refine lv_null hx hb dX5_readText_185 ?_
        obtain ⟨rfl, rfl, rfl⟩ := retA h
        refine W.widen (k := 3) (n := 523) (Nat.le_of_ble_eq_true rfl) (Nat.le_of_ble_eq_true rfl) ?_
        exact m_rn0 X w hr (Or.inl ⟨_, rfl⟩) hlocks dX5_readText_186
      · replace h := ifF h c67
        refine lv_aload_n hx hb dX5_readText_89 rfl (lv_at hl 0 rfl) ?_
        refine m_get X w o (shn hs 0 rfl) (shk hs 0 rfl : S.2.1 o = 5) ci5 4 (by decide) (fvI (shk hs 0 rfl : S.2.1 o = 5) rfl) rfl fl_X5_34 dX5_readText_90 ?_
        refine lv_if_eq (tgt := 106) hx hb dX5_readText_93 (by decide) (fun c71 => ?_) (fun c71 => ?_)
        · replace h := ifT h c71
          refine lv_aload_n hx hb dX5_readText_106 rfl (lv_at hl 0 rfl) ?_
          obtain ⟨r72, V74, q73, h⟩ := obi h
          refine m_ci (m_rV (As := []) (rest := []) X w hl mi_X5_readOrderClause ml_X5_60 o (shn hs 0 rfl) (shk hs 0 rfl : S.2.1 o = 5) rfl (c_X5_readOrderClause l D cy ad A aK aV C0 N S V o hs r72 V74 q73) ⟨⟨rfl, rfl, Nat.le_of_ble_eq_true rfl, Nat.le_of_ble_eq_true rfl⟩, Nat.le_of_ble_eq_true rfl, Nat.le_of_ble_eq_true rfl⟩ rfl rfl (Nat.le_of_ble_eq_true rfl) dX5_readText_107) w (fun H locs w => ?_)
          refine lv_if_ne (tgt := 115) hx hb dX5_readText_110 (by decide) (fun c75 => ?_) (fun c75 => ?_)
          · replace h := ifF h c75
            have g := B115 V74 v4 h
            rw [hG] at g
            exact g H locs ls w (lv_sub hl [0, 1] rfl)
          · replace h := ifT h c75
            refine lv_null hx hb dX5_readText_113 ?_
            obtain ⟨rfl, rfl, rfl⟩ := retA h
            refine W.widen (k := 3) (n := 523) (Nat.le_of_ble_eq_true rfl) (Nat.le_of_ble_eq_true rfl) ?_
            exact m_rn0 X w hr (Or.inl ⟨_, rfl⟩) hlocks dX5_readText_114
        · replace h := ifF h c71
          refine lv_aload_n hx hb dX5_readText_96 rfl (lv_at hl 0 rfl) ?_
          obtain ⟨r113, V115, q114, h⟩ := obi h
          refine m_ci (m_rV (As := []) (rest := []) X w hl mi_X5_readLawClause ml_X5_56 o (shn hs 0 rfl) (shk hs 0 rfl : S.2.1 o = 5) rfl (c_X5_readLawClause l D cy ad A aK aV C0 N S V o hs r113 V115 q114) ⟨⟨rfl, rfl, Nat.le_of_ble_eq_true rfl, Nat.le_of_ble_eq_true rfl⟩, Nat.le_of_ble_eq_true rfl, Nat.le_of_ble_eq_true rfl⟩ rfl rfl (Nat.le_of_ble_eq_true rfl) dX5_readText_97) w (fun H locs w => ?_)
          refine lv_if_eq (tgt := 113) hx hb dX5_readText_100 (by decide) (fun c116 => ?_) (fun c116 => ?_)
          · replace h := ifT h c116
            refine lv_null hx hb dX5_readText_113 ?_
            obtain ⟨rfl, rfl, rfl⟩ := retA h
            refine W.widen (k := 3) (n := 523) (Nat.le_of_ble_eq_true rfl) (Nat.le_of_ble_eq_true rfl) ?_
            exact m_rn0 X w hr (Or.inl ⟨_, rfl⟩) hlocks dX5_readText_114
          · replace h := ifF h c116
            refine lv_goto (tgt := 115) hx hb dX5_readText_103 (by decide) ?_
            have g := B115 V115 v4 h
            rw [hG] at g
            exact g H locs ls w (lv_sub hl [0, 1] rfl)
  have L3 : ∀ (n3 : Nat) (V : Vt) (v2 : Int32) (v3 : Int32) (v4 : Int32), f_X5_readText_3 N ad S o a1 n3 V v2 v3 v4 = some (r, S', V') → G 3 V [(0, .ref (ad o)), (1, .ref (ad a1)), (2, .int v2), (3, .int v3), (4, .int v4)] [] := by
    intro n3
    induction n3 with
    | zero => intro V v2 v3 v4 h; rw [f_X5_readText_3] at h; cases h
    | succ n3 ih3 =>
      intro V v2 v3 v4 h
      rw [hG]
      intro H locs ls w hl
      rw [f_X5_readText_3] at h
      refine lv_iload hx hb dX5_readText_3 (lv_at hl 4 rfl) ?_
      refine lv_iload_n hx hb dX5_readText_5 rfl (lv_at hl 2 rfl) ?_
      refine lv_icmp_ge (tgt := 40) hx hb dX5_readText_6 (by decide) (fun c55 => ?_) (fun c55 => ?_)
      · replace h := ifT h c55
        refine lv_aload_n hx hb dX5_readText_40 rfl (lv_at hl 0 rfl) ?_
        refine lv_iload_n hx hb dX5_readText_41 rfl (lv_at hl 3 rfl) ?_
        obtain ⟨g56, h⟩ := cbi h
        refine m_put X w o (shn hs 0 rfl) (shk hs 0 rfl : S.2.1 o = 5) ci5 4 (by decide) rfl rfl rfl (nb01 g56) (fb01 g56) fl_X5_34 dX5_readText_42 (fun V57 H locs eV57 w => ?_)
        replace h := bdi h _ eV57
        refine lv_aload_n hx hb dX5_readText_45 rfl (lv_at hl 0 rfl) ?_
        refine lv_iload_n hx hb dX5_readText_46 rfl (lv_at hl 2 rfl) ?_
        refine m_put X w o (shn hs 0 rfl) (shk hs 0 rfl : S.2.1 o = 5) ci5 5 (by decide) rfl rfl rfl rfl rfl fl_X5_38 dX5_readText_47 (fun V58 H locs eV58 w => ?_)
        replace h := bdi h _ eV58
        refine lv_aload_n hx hb dX5_readText_50 rfl (lv_at hl 0 rfl) ?_
        refine lv_iconst (v := 0) hx hb dX5_readText_51 (by decide) ?_
        refine m_put X w o (shn hs 0 rfl) (shk hs 0 rfl : S.2.1 o = 5) ci5 7 (by decide) rfl rfl rfl rfl rfl fl_X5_41 dX5_readText_52 (fun V59 H locs eV59 w => ?_)
        replace h := bdi h _ eV59
        refine lv_aload_n hx hb dX5_readText_55 rfl (lv_at hl 0 rfl) ?_
        refine lv_iconst (v := (-1)) hx hb dX5_readText_56 (by decide) ?_
        refine m_put X w o (shn hs 0 rfl) (shk hs 0 rfl : S.2.1 o = 5) ci5 8 (by decide) rfl rfl rfl rfl rfl fl_X5_26 dX5_readText_57 (fun V60 H locs eV60 w => ?_)
        replace h := bdi h _ eV60
        refine lv_aload_n hx hb dX5_readText_60 rfl (lv_at hl 0 rfl) ?_
        refine lv_iconst (v := 0) hx hb dX5_readText_61 (by decide) ?_
        refine m_put X w o (shn hs 0 rfl) (shk hs 0 rfl : S.2.1 o = 5) ci5 9 (by decide) rfl rfl rfl rfl rfl fl_X5_44 dX5_readText_62 (fun V61 H locs eV61 w => ?_)
        replace h := bdi h _ eV61
        refine lv_aload_n hx hb dX5_readText_65 rfl (lv_at hl 0 rfl) ?_
        refine lv_iconst (v := 0) hx hb dX5_readText_66 (by decide) ?_
        refine m_put X w o (shn hs 0 rfl) (shk hs 0 rfl : S.2.1 o = 5) ci5 10 (by decide) rfl rfl rfl rfl rfl fl_X5_47 dX5_readText_67 (fun V62 H locs eV62 w => ?_)
        replace h := bdi h _ eV62
        refine lv_aload_n hx hb dX5_readText_70 rfl (lv_at hl 0 rfl) ?_
        refine lv_iconst (v := 0) hx hb dX5_readText_71 (by decide) ?_
        refine m_put X w o (shn hs 0 rfl) (shk hs 0 rfl : S.2.1 o = 5) ci5 11 (by decide) rfl rfl rfl rfl rfl fl_X5_50 dX5_readText_72 (fun V63 H locs eV63 w => ?_)
        replace h := bdi h _ eV63
        refine lv_aload_n hx hb dX5_readText_75 rfl (lv_at hl 0 rfl) ?_
        obtain ⟨V66, q65, h⟩ := obvi h
        refine m_cv (m_rV (As := []) (rest := []) X w hl mi_X5_move ml_X5_53 o (shn hs 0 rfl) (shk hs 0 rfl : S.2.1 o = 5) rfl (c_X5_move l D cy ad A (KX A aK aV) C0 N S V63 o hs V66 q65) ⟨⟨rfl, rfl, Nat.le_of_ble_eq_true rfl, Nat.le_of_ble_eq_true rfl⟩, Nat.le_of_ble_eq_true rfl, Nat.le_of_ble_eq_true rfl⟩ rfl rfl (Nat.le_of_ble_eq_true rfl) dX5_readText_76) w (fun H locs w => ?_)
        refine lv_iconst (v := 0) hx hb dX5_readText_79 (by decide) ?_
        refine lv_istore (lv' := [(4, .int (0 : Int32)), (0, .ref (ad o)), (1, .ref (ad a1)), (2, .int v2), (3, .int v3)]) hx hb dX5_readText_80 hl (by decide) rfl (fun ls hl => ?_)
        have g := L82 N V66 (0 : Int32) h
        rw [hG] at g
        exact g H locs ls w (lv_sub hl [1, 0] rfl)
      · replace h := ifF h c55
        refine lv_aload_n hx hb dX5_readText_9 rfl (lv_at hl 0 rfl) ?_
        refine m_get X w o (shn hs 0 rfl) (shk hs 0 rfl : S.2.1 o = 5) ci5 0 (by decide) (fvR (shk hs 0 rfl : S.2.1 o = 5) rfl (shq hs 0 0 rfl rfl : S.2.2.2.1 o 0 = (o + 1) + 1)) rfl fl_X5_9 dX5_readText_10 ?_
        refine lv_iload hx hb dX5_readText_13 (lv_at hl 4 rfl) ?_
        refine lv_aload_n hx hb dX5_readText_15 rfl (lv_at hl 1 rfl) ?_
        refine lv_iload hx hb dX5_readText_16 (lv_at hl 4 rfl) ?_
        obtain ⟨g117, h⟩ := cki h
        refine m_iald X w a1 hs_a1.1 hs_a1.2 rfl g117 dX5_readText_18 ?_
        obtain ⟨g118, h⟩ := cki h
        refine m_iast X w (o + 1) (shn hs 1 rfl) (shk hs 1 rfl : S.2.1 (o + 1) = 11) (shz hs 1 rfl : S.2.2.1 (o + 1) = 400) g118 dX5_readText_19 (fun V119 H locs eV119 w => ?_)
        replace h := bdi h _ eV119
        refine lv_aload_n hx hb dX5_readText_20 rfl (lv_at hl 0 rfl) ?_
        refine m_get X w o (shn hs 0 rfl) (shk hs 0 rfl : S.2.1 o = 5) ci5 1 (by decide) (fvR (shk hs 0 rfl : S.2.1 o = 5) rfl (shq hs 0 1 rfl rfl : S.2.2.2.1 o 1 = (o + 2) + 1)) rfl fl_X5_15 dX5_readText_21 ?_
        refine lv_iload hx hb dX5_readText_24 (lv_at hl 4 rfl) ?_
        refine lv_aload_n hx hb dX5_readText_26 rfl (lv_at hl 1 rfl) ?_
        refine lv_iload hx hb dX5_readText_27 (lv_at hl 4 rfl) ?_
        obtain ⟨g120, h⟩ := cki h
        refine m_iald X w a1 hs_a1.1 hs_a1.2 rfl g120 dX5_readText_29 ?_
        obtain ⟨r121, q122, h⟩ := ob1i h
        refine m_ci (m_rS (As := [.int (V119.2.1 a1 v4.toNatClampNeg)]) (rest := [.int v4, .ref (ad (o + 2))]) X w hl mi_X5_kindOfByte ml_X5_30 (c_X5_kindOfByte l D cy ad A (KX A aK aV) C0 N S V119 (V119.2.1 a1 v4.toNatClampNeg) r121 q122) ⟨⟨rfl, rfl, Nat.le_of_ble_eq_true rfl, Nat.le_of_ble_eq_true rfl⟩, Nat.le_of_ble_eq_true rfl, Nat.le_of_ble_eq_true rfl⟩ rfl rfl (Nat.le_of_ble_eq_true rfl) dX5_readText_30) w (fun H locs w => ?_)
        obtain ⟨g123, h⟩ := cki h
        refine m_iast X w (o + 2) (shn hs 2 rfl) (shk hs 2 rfl : S.2.1 (o + 2) = 11) (shz hs 2 rfl : S.2.2.1 (o + 2) = 400) g123 dX5_readText_33 (fun V124 H locs eV124 w => ?_)
        replace h := bdi h _ eV124
        obtain ⟨x125, ex125⟩ : ∃ y : Int32, y = v4 + (1 : Int32) := ⟨_, rfl⟩
        replace h := bdi h _ ex125
        refine lv_iinc (v := x125) (lv' := [(4, .int x125), (0, .ref (ad o)), (1, .ref (ad a1)), (2, .int v2), (3, .int v3)]) hx hb dX5_readText_34 hl (k := 4) rfl (by rw [ex125]; rfl) (by decide) rfl (fun ls hl => ?_)
        refine lv_goto (tgt := 3) hx hb dX5_readText_37 (by decide) ?_
        have g := ih3 V124 v2 v3 x125 h
        rw [hG] at g
        exact g H locs ls w (lv_sub hl [1, 2, 3, 4, 0] rfl)
  rw [f_X5_readText] at h
  refine lv_iconst (v := 0) hx hb dX5_readText_0 (by decide) ?_
  refine lv_istore (lv' := [(4, .int (0 : Int32)), (0, .ref (ad o)), (1, .ref (ad a1)), (2, .int a2), (3, .int a3)]) hx hb dX5_readText_1 hl (by decide) rfl (fun ls hl => ?_)
  have g := L3 N V a2 a3 (0 : Int32) h
  rw [hG] at g
  exact g H locs ls w (lv_sub hl [1, 2, 3, 4, 0] rfl)
set_option maxHeartbeats 4000000 in
set_option maxRecDepth 100000 in
def f_X8_law (N : Nat) (ad : Nat → Nat) (S : St) (V : Vt) (o : Nat) : Option (Int32 × St × Vt) := if (V.1 (o + 1) 10) < (6 : Int32) then oa (f_X5_readText N ad S V (o + 37) (o + 36) (V.1 o 15) (1 : Int32)) (fun r22 S V23 => cg (shpB S o t8) (nl r22 (bd (sF V23 o 15 (0 : Int32)) (fun V28 => ob (f_X8_refused N S V28 o (-6 : Int32)) (fun r29 V31 => some (r29, S, V31)))) (fun q26 => cg (tshB S q26) (bd (sF V23 o 15 (0 : Int32)) (fun V32 => bd (V32.1 (o + 1) 10) (fun x33 => ck x33 6 (bd (sR V32 (o + 8) x33.toNatClampNeg (q26 + 1)) (fun V35 => bd (sF V35 (o + 1) 10 (x33 + (1 : Int32))) (fun V36 => ob (f_X8_granted N S V36 o x33) (fun r37 V39 => some (r37, S, V39))))))))))) else bd (sF V o 15 (0 : Int32)) (fun V40 => ob (f_X8_refused N S V40 o (-5 : Int32)) (fun r41 V43 => some (r41, S, V43)))
set_option maxHeartbeats 4000000 in
set_option maxRecDepth 100000 in
theorem c_X8_law (l : Launch) (D : va_G) (cy : Nat → ClassId) (ad : Nat → Nat) (A : Nat → Prop) (aK aV : Nat → Nat) (C0 : Cx ad A (KX A aK aV)) (N : Nat) (S : St) (V : Vt) (o : Nat) (hs : shp S o t8) (r : Int32) (S' : St) (V' : Vt) (h : f_X8_law N ad S V o = some (r, S', V')) : Met l yX8_law (mw yX8_law cX8_law 3 (some .int)) { frames := 91, cells := 3, slots := 523, locals := 5045 } (PreM D cy ad (KX A aK aV) S V [.ref (ad o)]) (QI D cy ad A r S' V') 3 523 A := by
  refine ct_goK C0 (own := RX8) rfl (by decide) rfl ?_
  intro p e s m below meth c ls H locs hKc X hr hlocks hnm hl w
  have hx := X.1.1
  have hb := X.1.2.1
  have hown := X.2.1
  have hts := X.2.2.1
  have hl : lv_has ls 3 [(0, .ref (ad o))] := hl
  rw [f_X8_law] at h
  refine lv_aload_n hx hb dX8_law_0 rfl (lv_at hl 0 rfl) ?_
  refine m_get X w o (shn hs 0 rfl) (shk hs 0 rfl : S.2.1 o = 8) ci8 0 (by decide) (fvR (shk hs 0 rfl : S.2.1 o = 8) rfl (shq hs 0 0 rfl rfl : S.2.2.2.1 o 0 = (o + 1) + 1)) rfl fl_X8_12 dX8_law_1 ?_
  refine m_getN X w (o + 1) (shn hs 1 rfl) (shk hs 1 rfl : S.2.1 (o + 1) = 0) ci0 10 (by decide) (fvI (shk hs 1 rfl : S.2.1 (o + 1) = 0) rfl) rfl nf_X8_169 dX8_law_4 ?_
  refine lv_bipush (v := 6) hx hb dX8_law_7 (by decide) ?_
  refine lv_icmp_lt (tgt := 24) hx hb dX8_law_9 (by decide) (fun c21 => ?_) (fun c21 => ?_)
  · replace h := ifT h c21
    refine lv_aload_n hx hb dX8_law_24 rfl (lv_at hl 0 rfl) ?_
    refine m_get X w o (shn hs 0 rfl) (shk hs 0 rfl : S.2.1 o = 8) ci8 7 (by decide) (fvR (shk hs 0 rfl : S.2.1 o = 8) rfl (shq hs 0 7 rfl rfl : S.2.2.2.1 o 7 = (o + 37) + 1)) rfl fl_X8_43 dX8_law_25 ?_
    refine lv_aload_n hx hb dX8_law_28 rfl (lv_at hl 0 rfl) ?_
    refine m_get X w o (shn hs 0 rfl) (shk hs 0 rfl : S.2.1 o = 8) ci8 6 (by decide) (fvR (shk hs 0 rfl : S.2.1 o = 8) rfl (shq hs 0 6 rfl rfl : S.2.2.2.1 o 6 = (o + 36) + 1)) rfl fl_X8_36 dX8_law_29 ?_
    refine lv_aload_n hx hb dX8_law_32 rfl (lv_at hl 0 rfl) ?_
    refine m_get X w o (shn hs 0 rfl) (shk hs 0 rfl : S.2.1 o = 8) ci8 15 (by decide) (fvI (shk hs 0 rfl : S.2.1 o = 8) rfl) rfl fl_X8_159 dX8_law_33 ?_
    refine lv_iconst (v := 1) hx hb dX8_law_36 (by decide) ?_
    obtain ⟨r22, S9, V23, q24, h⟩ := oai h
    refine m_cn (m_rV (As := [.ref (ad (o + 36)), .int (V.1 o 15), .int (1 : Int32)]) (rest := []) X w hl mi_X5_readText ml_X8_172 (o + 37) (shn hs 37 rfl) (shk hs 37 rfl : S.2.1 (o + 37) = 5) rfl (c_X5_readText l D cy ad A aK aV C0 N _ V (o + 37) (sb_8_37 hs) (o + 36) ⟨(shn hs 36 rfl), (shk hs 36 rfl : S.2.1 (o + 36) = 11)⟩ (V.1 o 15) (1 : Int32) _ _ _ q24) ⟨⟨rfl, rfl, (Nat.le_of_ble_eq_true rfl), (Nat.le_of_ble_eq_true rfl)⟩, (Nat.le_of_ble_eq_true rfl), (Nat.le_of_ble_eq_true rfl)⟩ rfl rfl (Nat.le_of_ble_eq_true rfl) dX8_law_37) w (fun H locs w => ?_)
    obtain ⟨S, hS9⟩ : ∃ q, q = S9 := ⟨_, rfl⟩
    subst hS9
    refine W.widen (k := 3) (n := 523) (Nat.le_of_ble_eq_true rfl) (Nat.le_of_ble_eq_true rfl) ?_
    obtain ⟨g25, h⟩ := cgi h
    have hs := shp_of g25
    cases r22 with
    | zero =>
      replace h := nl0 h
      refine lv_astore_nN (lv' := [(1, .null), (0, .ref (ad o))]) hx hb dX8_law_40 rfl hl (by decide) rfl (fun ls hl => ?_)
      refine lv_aload_n hx hb dX8_law_41 rfl (lv_at hl 1 rfl) ?_
      refine lv_iconst (v := 0) hx hb dX8_law_42 (by decide) ?_
      refine m_put X w o (shn hs 0 rfl) (shk hs 0 rfl : S.2.1 o = 8) ci8 15 (by decide) rfl rfl rfl rfl rfl fl_X8_159 dX8_law_43 (fun V28 H locs eV28 w => ?_)
      replace h := bdi h _ eV28
      refine lv_aload_nN hx hb dX8_law_46 rfl (lv_at hl 0 rfl) ?_
      refine lv_ifnonnullN hx hb dX8_law_47 ?_
      refine lv_aload_n hx hb dX8_law_50 rfl (lv_at hl 1 rfl) ?_
      refine lv_bipush (v := (-6)) hx hb dX8_law_51 (by decide) ?_
      obtain ⟨r29, V31, q30, h⟩ := obi h
      refine m_ci (m_rV (As := [.int (-6 : Int32)]) (rest := []) X w hl mi_X8_refused ml_X8_97 o (shn hs 0 rfl) (shk hs 0 rfl : S.2.1 o = 8) rfl (c_X8_refused l D cy ad A (KX A aK aV) C0 N S V28 o hs (-6 : Int32) r29 V31 q30) ⟨⟨rfl, rfl, Nat.le_of_ble_eq_true rfl, Nat.le_of_ble_eq_true rfl⟩, Nat.le_of_ble_eq_true rfl, Nat.le_of_ble_eq_true rfl⟩ rfl rfl (Nat.le_of_ble_eq_true rfl) dX8_law_53) w (fun H locs w => ?_)
      obtain ⟨rfl, rfl, rfl⟩ := retA h
      refine W.widen (k := 3) (n := 523) (Nat.le_of_ble_eq_true rfl) (Nat.le_of_ble_eq_true rfl) ?_
      exact m_ri X w hr hlocks dX8_law_56
    | succ q26 =>
      replace h := nls h
      obtain ⟨g27, h⟩ := cgi h
      have hs_q26 := tsh_of g27
      refine lv_astore_n (lv' := [(1, .ref (ad q26)), (0, .ref (ad o))]) hx hb dX8_law_40 rfl hl (by decide) rfl (fun ls hl => ?_)
      refine lv_aload_n hx hb dX8_law_41 rfl (lv_at hl 1 rfl) ?_
      refine lv_iconst (v := 0) hx hb dX8_law_42 (by decide) ?_
      refine m_put X w o (shn hs 0 rfl) (shk hs 0 rfl : S.2.1 o = 8) ci8 15 (by decide) rfl rfl rfl rfl rfl fl_X8_159 dX8_law_43 (fun V32 H locs eV32 w => ?_)
      replace h := bdi h _ eV32
      refine lv_aload_n hx hb dX8_law_46 rfl (lv_at hl 0 rfl) ?_
      refine lv_ifnonnull (tgt := 57) hx hb dX8_law_47 (by decide) ?_
      refine lv_aload_n hx hb dX8_law_57 rfl (lv_at hl 1 rfl) ?_
      refine m_get X w o (shn hs 0 rfl) (shk hs 0 rfl : S.2.1 o = 8) ci8 0 (by decide) (fvR (shk hs 0 rfl : S.2.1 o = 8) rfl (shq hs 0 0 rfl rfl : S.2.2.2.1 o 0 = (o + 1) + 1)) rfl fl_X8_12 dX8_law_58 ?_
      refine m_getN X w (o + 1) (shn hs 1 rfl) (shk hs 1 rfl : S.2.1 (o + 1) = 0) ci0 10 (by decide) (fvI (shk hs 1 rfl : S.2.1 (o + 1) = 0) rfl) rfl nf_X8_169 dX8_law_61 ?_
      refine lv_topi (fun x33 ex33 => ?_)
      replace h := bdi h _ ex33
      refine lv_istore_n (lv' := [(2, .int x33), (1, .ref (ad q26)), (0, .ref (ad o))]) hx hb dX8_law_64 rfl hl (by decide) rfl (fun ls hl => ?_)
      refine lv_aload_n hx hb dX8_law_65 rfl (lv_at hl 2 rfl) ?_
      refine m_get X w o (shn hs 0 rfl) (shk hs 0 rfl : S.2.1 o = 8) ci8 0 (by decide) (fvR (shk hs 0 rfl : S.2.1 o = 8) rfl (shq hs 0 0 rfl rfl : S.2.2.2.1 o 0 = (o + 1) + 1)) rfl fl_X8_12 dX8_law_66 ?_
      refine m_getN X w (o + 1) (shn hs 1 rfl) (shk hs 1 rfl : S.2.1 (o + 1) = 0) ci0 6 (by decide) (fvR (shk hs 1 rfl : S.2.1 (o + 1) = 0) rfl (shq hs 1 6 rfl rfl : S.2.2.2.1 (o + 1) 6 = (o + 8) + 1)) rfl nf_X8_176 dX8_law_69 ?_
      refine lv_iload_n hx hb dX8_law_72 rfl (lv_at hl 0 rfl) ?_
      refine lv_aload_n hx hb dX8_law_73 rfl (lv_at hl 1 rfl) ?_
      obtain ⟨g34, h⟩ := cki h
      refine m_aast X w (o + 8) (shn hs 8 rfl) (shk hs 8 rfl : S.2.1 (o + 8) = 15) 5 rfl rfl rfl (shz hs 8 rfl : S.2.2.1 (o + 8) = 6) g34 q26 (Nat.lt_of_le_of_lt (Nat.le_add_right q26 2) hs_q26.1.1) hs_q26.1.2 rfl rfl dX8_law_74 (fun V35 H locs eV35 w => ?_)
      replace h := bdi h _ eV35
      refine lv_aload_n hx hb dX8_law_75 rfl (lv_at hl 2 rfl) ?_
      refine m_get X w o (shn hs 0 rfl) (shk hs 0 rfl : S.2.1 o = 8) ci8 0 (by decide) (fvR (shk hs 0 rfl : S.2.1 o = 8) rfl (shq hs 0 0 rfl rfl : S.2.2.2.1 o 0 = (o + 1) + 1)) rfl fl_X8_12 dX8_law_76 ?_
      refine lv_iload_n hx hb dX8_law_79 rfl (lv_at hl 0 rfl) ?_
      refine lv_iconst (v := 1) hx hb dX8_law_80 (by decide) ?_
      refine lv_iadd hx hb dX8_law_81 ?_
      refine m_putN X w (o + 1) (shn hs 1 rfl) (shk hs 1 rfl : S.2.1 (o + 1) = 0) ci0 10 (by decide) rfl rfl rfl rfl rfl nf_X8_169 dX8_law_82 (fun V36 H locs eV36 w => ?_)
      replace h := bdi h _ eV36
      refine lv_aload_n hx hb dX8_law_85 rfl (lv_at hl 2 rfl) ?_
      refine lv_iload_n hx hb dX8_law_86 rfl (lv_at hl 0 rfl) ?_
      obtain ⟨r37, V39, q38, h⟩ := obi h
      refine m_ci (m_rV (As := [.int x33]) (rest := []) X w hl mi_X8_granted ml_X8_107 o (shn hs 0 rfl) (shk hs 0 rfl : S.2.1 o = 8) rfl (c_X8_granted l D cy ad A (KX A aK aV) C0 N S V36 o hs x33 r37 V39 q38) ⟨⟨rfl, rfl, Nat.le_of_ble_eq_true rfl, Nat.le_of_ble_eq_true rfl⟩, Nat.le_of_ble_eq_true rfl, Nat.le_of_ble_eq_true rfl⟩ rfl rfl (Nat.le_of_ble_eq_true rfl) dX8_law_87) w (fun H locs w => ?_)
      obtain ⟨rfl, rfl, rfl⟩ := retA h
      refine W.widen (k := 3) (n := 523) (Nat.le_of_ble_eq_true rfl) (Nat.le_of_ble_eq_true rfl) ?_
      exact m_ri X w hr hlocks dX8_law_90
  · replace h := ifF h c21
    refine lv_aload_n hx hb dX8_law_12 rfl (lv_at hl 0 rfl) ?_
    refine lv_iconst (v := 0) hx hb dX8_law_13 (by decide) ?_
    refine m_put X w o (shn hs 0 rfl) (shk hs 0 rfl : S.2.1 o = 8) ci8 15 (by decide) rfl rfl rfl rfl rfl fl_X8_159 dX8_law_14 (fun V40 H locs eV40 w => ?_)
    replace h := bdi h _ eV40
    refine lv_aload_n hx hb dX8_law_17 rfl (lv_at hl 0 rfl) ?_
    refine lv_bipush (v := (-5)) hx hb dX8_law_18 (by decide) ?_
    obtain ⟨r41, V43, q42, h⟩ := obi h
    refine m_ci (m_rV (As := [.int (-5 : Int32)]) (rest := []) X w hl mi_X8_refused ml_X8_97 o (shn hs 0 rfl) (shk hs 0 rfl : S.2.1 o = 8) rfl (c_X8_refused l D cy ad A (KX A aK aV) C0 N S V40 o hs (-5 : Int32) r41 V43 q42) ⟨⟨rfl, rfl, Nat.le_of_ble_eq_true rfl, Nat.le_of_ble_eq_true rfl⟩, Nat.le_of_ble_eq_true rfl, Nat.le_of_ble_eq_true rfl⟩ rfl rfl (Nat.le_of_ble_eq_true rfl) dX8_law_20) w (fun H locs w => ?_)
    obtain ⟨rfl, rfl, rfl⟩ := retA h
    refine W.widen (k := 3) (n := 523) (Nat.le_of_ble_eq_true rfl) (Nat.le_of_ble_eq_true rfl) ?_
    exact m_ri X w hr hlocks dX8_law_23
set_option maxHeartbeats 4000000 in
set_option maxRecDepth 100000 in
def f_X8_orders (N : Nat) (ad : Nat → Nat) (S : St) (V : Vt) (o : Nat) : Option (Int32 × St × Vt) := bd (sF V o 17 (-1 : Int32)) (fun V32 => oa (f_X5_readText N ad S V32 (o + 37) (o + 36) (V32.1 o 15) (0 : Int32)) (fun r33 S V34 => cg (shpB S o t8) (nl r33 (bd (sF V34 o 15 (0 : Int32)) (fun V39 => ob (f_X8_refused N S V39 o (-6 : Int32)) (fun r40 V42 => some (r40, S, V42)))) (fun q37 => cg (tshB S q37) (bd (sF V34 o 15 (0 : Int32)) (fun V43 => obv (f_X0_copyFrom N S V43 (o + 12) (o + 1)) (fun V46 => obv (f_X1_copyFrom N S V46 (o + 34) (o + 32)) (fun V49 => ob (f_X8_runOrders_t N S V49 o q37) (fun r50 V52 => if r50 < 0 then obv (f_X0_copyFrom N S V52 (o + 1) (o + 12)) (fun V56 => obv (f_X1_copyFrom N S V56 (o + 32) (o + 34)) (fun V59 => ob (f_X8_refused N S V59 o (-3 : Int32)) (fun r60 V62 => some (r60, S, V62)))) else ob (f_X8_granted N S V52 o r50) (fun r63 V65 => some (r63, S, V65)))))))))))
set_option maxHeartbeats 4000000 in
set_option maxRecDepth 100000 in
theorem c_X8_orders (l : Launch) (D : va_G) (cy : Nat → ClassId) (ad : Nat → Nat) (A : Nat → Prop) (aK aV : Nat → Nat) (C0 : Cx ad A (KX A aK aV)) (N : Nat) (S : St) (V : Vt) (o : Nat) (hs : shp S o t8) (r : Int32) (S' : St) (V' : Vt) (h : f_X8_orders N ad S V o = some (r, S', V')) : Met l yX8_orders (mw yX8_orders cX8_orders 3 (some .int)) { frames := 91, cells := 3, slots := 523, locals := 5045 } (PreM D cy ad (KX A aK aV) S V [.ref (ad o)]) (QI D cy ad A r S' V') 3 523 A := by
  refine ct_goK C0 (own := RX8) rfl (by decide) rfl ?_
  intro p e s m below meth c ls H locs hKc X hr hlocks hnm hl w
  have hx := X.1.1
  have hb := X.1.2.1
  have hown := X.2.1
  have hts := X.2.2.1
  have hl : lv_has ls 3 [(0, .ref (ad o))] := hl
  rw [f_X8_orders] at h
  refine lv_aload_n hx hb dX8_orders_0 rfl (lv_at hl 0 rfl) ?_
  refine lv_iconst (v := (-1)) hx hb dX8_orders_1 (by decide) ?_
  refine m_put X w o (shn hs 0 rfl) (shk hs 0 rfl : S.2.1 o = 8) ci8 17 (by decide) rfl rfl rfl rfl rfl fl_X8_85 dX8_orders_2 (fun V32 H locs eV32 w => ?_)
  replace h := bdi h _ eV32
  refine lv_aload_n hx hb dX8_orders_5 rfl (lv_at hl 0 rfl) ?_
  refine m_get X w o (shn hs 0 rfl) (shk hs 0 rfl : S.2.1 o = 8) ci8 7 (by decide) (fvR (shk hs 0 rfl : S.2.1 o = 8) rfl (shq hs 0 7 rfl rfl : S.2.2.2.1 o 7 = (o + 37) + 1)) rfl fl_X8_43 dX8_orders_6 ?_
  refine lv_aload_n hx hb dX8_orders_9 rfl (lv_at hl 0 rfl) ?_
  refine m_get X w o (shn hs 0 rfl) (shk hs 0 rfl : S.2.1 o = 8) ci8 6 (by decide) (fvR (shk hs 0 rfl : S.2.1 o = 8) rfl (shq hs 0 6 rfl rfl : S.2.2.2.1 o 6 = (o + 36) + 1)) rfl fl_X8_36 dX8_orders_10 ?_
  refine lv_aload_n hx hb dX8_orders_13 rfl (lv_at hl 0 rfl) ?_
  refine m_get X w o (shn hs 0 rfl) (shk hs 0 rfl : S.2.1 o = 8) ci8 15 (by decide) (fvI (shk hs 0 rfl : S.2.1 o = 8) rfl) rfl fl_X8_159 dX8_orders_14 ?_
  refine lv_iconst (v := 0) hx hb dX8_orders_17 (by decide) ?_
  obtain ⟨r33, S9, V34, q35, h⟩ := oai h
  refine m_cn (m_rV (As := [.ref (ad (o + 36)), .int (V32.1 o 15), .int (0 : Int32)]) (rest := []) X w hl mi_X5_readText ml_X8_172 (o + 37) (shn hs 37 rfl) (shk hs 37 rfl : S.2.1 (o + 37) = 5) rfl (c_X5_readText l D cy ad A aK aV C0 N _ V32 (o + 37) (sb_8_37 hs) (o + 36) ⟨(shn hs 36 rfl), (shk hs 36 rfl : S.2.1 (o + 36) = 11)⟩ (V32.1 o 15) (0 : Int32) _ _ _ q35) ⟨⟨rfl, rfl, (Nat.le_of_ble_eq_true rfl), (Nat.le_of_ble_eq_true rfl)⟩, (Nat.le_of_ble_eq_true rfl), (Nat.le_of_ble_eq_true rfl)⟩ rfl rfl (Nat.le_of_ble_eq_true rfl) dX8_orders_18) w (fun H locs w => ?_)
  obtain ⟨S, hS9⟩ : ∃ q, q = S9 := ⟨_, rfl⟩
  subst hS9
  refine W.widen (k := 3) (n := 523) (Nat.le_of_ble_eq_true rfl) (Nat.le_of_ble_eq_true rfl) ?_
  obtain ⟨g36, h⟩ := cgi h
  have hs := shp_of g36
  cases r33 with
  | zero =>
    replace h := nl0 h
    refine lv_astore_nN (lv' := [(1, .null), (0, .ref (ad o))]) hx hb dX8_orders_21 rfl hl (by decide) rfl (fun ls hl => ?_)
    refine lv_aload_n hx hb dX8_orders_22 rfl (lv_at hl 1 rfl) ?_
    refine lv_iconst (v := 0) hx hb dX8_orders_23 (by decide) ?_
    refine m_put X w o (shn hs 0 rfl) (shk hs 0 rfl : S.2.1 o = 8) ci8 15 (by decide) rfl rfl rfl rfl rfl fl_X8_159 dX8_orders_24 (fun V39 H locs eV39 w => ?_)
    replace h := bdi h _ eV39
    refine lv_aload_nN hx hb dX8_orders_27 rfl (lv_at hl 0 rfl) ?_
    refine lv_ifnonnullN hx hb dX8_orders_28 ?_
    refine lv_aload_n hx hb dX8_orders_31 rfl (lv_at hl 1 rfl) ?_
    refine lv_bipush (v := (-6)) hx hb dX8_orders_32 (by decide) ?_
    obtain ⟨r40, V42, q41, h⟩ := obi h
    refine m_ci (m_rV (As := [.int (-6 : Int32)]) (rest := []) X w hl mi_X8_refused ml_X8_97 o (shn hs 0 rfl) (shk hs 0 rfl : S.2.1 o = 8) rfl (c_X8_refused l D cy ad A (KX A aK aV) C0 N S V39 o hs (-6 : Int32) r40 V42 q41) ⟨⟨rfl, rfl, Nat.le_of_ble_eq_true rfl, Nat.le_of_ble_eq_true rfl⟩, Nat.le_of_ble_eq_true rfl, Nat.le_of_ble_eq_true rfl⟩ rfl rfl (Nat.le_of_ble_eq_true rfl) dX8_orders_34) w (fun H locs w => ?_)
    obtain ⟨rfl, rfl, rfl⟩ := retA h
    refine W.widen (k := 3) (n := 523) (Nat.le_of_ble_eq_true rfl) (Nat.le_of_ble_eq_true rfl) ?_
    exact m_ri X w hr hlocks dX8_orders_37
  | succ q37 =>
    replace h := nls h
    obtain ⟨g38, h⟩ := cgi h
    have hs_q37 := tsh_of g38
    refine lv_astore_n (lv' := [(1, .ref (ad q37)), (0, .ref (ad o))]) hx hb dX8_orders_21 rfl hl (by decide) rfl (fun ls hl => ?_)
    refine lv_aload_n hx hb dX8_orders_22 rfl (lv_at hl 1 rfl) ?_
    refine lv_iconst (v := 0) hx hb dX8_orders_23 (by decide) ?_
    refine m_put X w o (shn hs 0 rfl) (shk hs 0 rfl : S.2.1 o = 8) ci8 15 (by decide) rfl rfl rfl rfl rfl fl_X8_159 dX8_orders_24 (fun V43 H locs eV43 w => ?_)
    replace h := bdi h _ eV43
    refine lv_aload_n hx hb dX8_orders_27 rfl (lv_at hl 0 rfl) ?_
    refine lv_ifnonnull (tgt := 38) hx hb dX8_orders_28 (by decide) ?_
    refine lv_aload_n hx hb dX8_orders_38 rfl (lv_at hl 1 rfl) ?_
    refine m_get X w o (shn hs 0 rfl) (shk hs 0 rfl : S.2.1 o = 8) ci8 2 (by decide) (fvR (shk hs 0 rfl : S.2.1 o = 8) rfl (shq hs 0 2 rfl rfl : S.2.2.2.1 o 2 = (o + 12) + 1)) rfl fl_X8_20 dX8_orders_39 ?_
    refine lv_aload_n hx hb dX8_orders_42 rfl (lv_at hl 1 rfl) ?_
    refine m_get X w o (shn hs 0 rfl) (shk hs 0 rfl : S.2.1 o = 8) ci8 0 (by decide) (fvR (shk hs 0 rfl : S.2.1 o = 8) rfl (shq hs 0 0 rfl rfl : S.2.2.2.1 o 0 = (o + 1) + 1)) rfl fl_X8_12 dX8_orders_43 ?_
    obtain ⟨V46, q45, h⟩ := obvi h
    refine m_cv (m_rV (As := [.ref (ad (o + 1))]) (rest := []) X w hl mi_X0_copyFrom ml_X8_180 (o + 12) (shn hs 12 rfl) (shk hs 12 rfl : S.2.1 (o + 12) = 0) rfl (c_X0_copyFrom l D cy ad A (KX A aK aV) C0 N S V43 (o + 12) (sb_8_12 hs) (o + 1) (sb_8_1 hs) V46 q45) ⟨⟨rfl, rfl, Nat.le_of_ble_eq_true rfl, Nat.le_of_ble_eq_true rfl⟩, Nat.le_of_ble_eq_true rfl, Nat.le_of_ble_eq_true rfl⟩ rfl rfl (Nat.le_of_ble_eq_true rfl) dX8_orders_46) w (fun H locs w => ?_)
    refine lv_aload_n hx hb dX8_orders_49 rfl (lv_at hl 1 rfl) ?_
    refine m_get X w o (shn hs 0 rfl) (shk hs 0 rfl : S.2.1 o = 8) ci8 5 (by decide) (fvR (shk hs 0 rfl : S.2.1 o = 8) rfl (shq hs 0 5 rfl rfl : S.2.2.2.1 o 5 = (o + 34) + 1)) rfl fl_X8_33 dX8_orders_50 ?_
    refine lv_aload_n hx hb dX8_orders_53 rfl (lv_at hl 1 rfl) ?_
    refine m_get X w o (shn hs 0 rfl) (shk hs 0 rfl : S.2.1 o = 8) ci8 4 (by decide) (fvR (shk hs 0 rfl : S.2.1 o = 8) rfl (shq hs 0 4 rfl rfl : S.2.2.2.1 o 4 = (o + 32) + 1)) rfl fl_X8_29 dX8_orders_54 ?_
    obtain ⟨V49, q48, h⟩ := obvi h
    refine m_cv (m_rV (As := [.ref (ad (o + 32))]) (rest := []) X w hl mi_X1_copyFrom ml_X8_184 (o + 34) (shn hs 34 rfl) (shk hs 34 rfl : S.2.1 (o + 34) = 1) rfl (c_X1_copyFrom l D cy ad A (KX A aK aV) C0 N S V46 (o + 34) (sb_8_34 hs) (o + 32) (sb_8_32 hs) V49 q48) ⟨⟨rfl, rfl, Nat.le_of_ble_eq_true rfl, Nat.le_of_ble_eq_true rfl⟩, Nat.le_of_ble_eq_true rfl, Nat.le_of_ble_eq_true rfl⟩ rfl rfl (Nat.le_of_ble_eq_true rfl) dX8_orders_57) w (fun H locs w => ?_)
    refine lv_aload_n hx hb dX8_orders_60 rfl (lv_at hl 1 rfl) ?_
    refine lv_aload_n hx hb dX8_orders_61 rfl (lv_at hl 0 rfl) ?_
    obtain ⟨r50, V52, q51, h⟩ := obi h
    refine m_ci (m_rV (As := [.ref (ad q37)]) (rest := []) X w hl mi_X8_runOrders ml_X8_187 o (shn hs 0 rfl) (shk hs 0 rfl : S.2.1 o = 8) rfl (c_X8_runOrders_t l D cy ad A (KX A aK aV) C0 N S V49 o hs q37 hs_q37 r50 V52 q51) ⟨⟨rfl, rfl, Nat.le_of_ble_eq_true rfl, Nat.le_of_ble_eq_true rfl⟩, Nat.le_of_ble_eq_true rfl, Nat.le_of_ble_eq_true rfl⟩ rfl rfl (Nat.le_of_ble_eq_true rfl) dX8_orders_62) w (fun H locs w => ?_)
    refine lv_istore_n (lv' := [(2, .int r50), (1, .ref (ad q37)), (0, .ref (ad o))]) hx hb dX8_orders_65 rfl hl (by decide) rfl (fun ls hl => ?_)
    refine lv_iload_n hx hb dX8_orders_66 rfl (lv_at hl 0 rfl) ?_
    refine lv_if_lt (tgt := 76) hx hb dX8_orders_67 (by decide) (fun c53 => ?_) (fun c53 => ?_)
    · replace h := ifT h c53
      refine lv_aload_n hx hb dX8_orders_76 rfl (lv_at hl 2 rfl) ?_
      refine m_get X w o (shn hs 0 rfl) (shk hs 0 rfl : S.2.1 o = 8) ci8 0 (by decide) (fvR (shk hs 0 rfl : S.2.1 o = 8) rfl (shq hs 0 0 rfl rfl : S.2.2.2.1 o 0 = (o + 1) + 1)) rfl fl_X8_12 dX8_orders_77 ?_
      refine lv_aload_n hx hb dX8_orders_80 rfl (lv_at hl 2 rfl) ?_
      refine m_get X w o (shn hs 0 rfl) (shk hs 0 rfl : S.2.1 o = 8) ci8 2 (by decide) (fvR (shk hs 0 rfl : S.2.1 o = 8) rfl (shq hs 0 2 rfl rfl : S.2.2.2.1 o 2 = (o + 12) + 1)) rfl fl_X8_20 dX8_orders_81 ?_
      obtain ⟨V56, q55, h⟩ := obvi h
      refine m_cv (m_rV (As := [.ref (ad (o + 12))]) (rest := []) X w hl mi_X0_copyFrom ml_X8_180 (o + 1) (shn hs 1 rfl) (shk hs 1 rfl : S.2.1 (o + 1) = 0) rfl (c_X0_copyFrom l D cy ad A (KX A aK aV) C0 N S V52 (o + 1) (sb_8_1 hs) (o + 12) (sb_8_12 hs) V56 q55) ⟨⟨rfl, rfl, Nat.le_of_ble_eq_true rfl, Nat.le_of_ble_eq_true rfl⟩, Nat.le_of_ble_eq_true rfl, Nat.le_of_ble_eq_true rfl⟩ rfl rfl (Nat.le_of_ble_eq_true rfl) dX8_orders_84) w (fun H locs w => ?_)
      refine lv_aload_n hx hb dX8_orders_87 rfl (lv_at hl 2 rfl) ?_
      refine m_get X w o (shn hs 0 rfl) (shk hs 0 rfl : S.2.1 o = 8) ci8 4 (by decide) (fvR (shk hs 0 rfl : S.2.1 o = 8) rfl (shq hs 0 4 rfl rfl : S.2.2.2.1 o 4 = (o + 32) + 1)) rfl fl_X8_29 dX8_orders_88 ?_
      refine lv_aload_n hx hb dX8_orders_91 rfl (lv_at hl 2 rfl) ?_
      refine m_get X w o (shn hs 0 rfl) (shk hs 0 rfl : S.2.1 o = 8) ci8 5 (by decide) (fvR (shk hs 0 rfl : S.2.1 o = 8) rfl (shq hs 0 5 rfl rfl : S.2.2.2.1 o 5 = (o + 34) + 1)) rfl fl_X8_33 dX8_orders_92 ?_
      obtain ⟨V59, q58, h⟩ := obvi h
      refine m_cv (m_rV (As := [.ref (ad (o + 34))]) (rest := []) X w hl mi_X1_copyFrom ml_X8_184 (o + 32) (shn hs 32 rfl) (shk hs 32 rfl : S.2.1 (o + 32) = 1) rfl (c_X1_copyFrom l D cy ad A (KX A aK aV) C0 N S V56 (o + 32) (sb_8_32 hs) (o + 34) (sb_8_34 hs) V59 q58) ⟨⟨rfl, rfl, Nat.le_of_ble_eq_true rfl, Nat.le_of_ble_eq_true rfl⟩, Nat.le_of_ble_eq_true rfl, Nat.le_of_ble_eq_true rfl⟩ rfl rfl (Nat.le_of_ble_eq_true rfl) dX8_orders_95) w (fun H locs w => ?_)
      refine lv_aload_n hx hb dX8_orders_98 rfl (lv_at hl 2 rfl) ?_
      refine lv_bipush (v := (-3)) hx hb dX8_orders_99 (by decide) ?_
      obtain ⟨r60, V62, q61, h⟩ := obi h
      refine m_ci (m_rV (As := [.int (-3 : Int32)]) (rest := []) X w hl mi_X8_refused ml_X8_97 o (shn hs 0 rfl) (shk hs 0 rfl : S.2.1 o = 8) rfl (c_X8_refused l D cy ad A (KX A aK aV) C0 N S V59 o hs (-3 : Int32) r60 V62 q61) ⟨⟨rfl, rfl, Nat.le_of_ble_eq_true rfl, Nat.le_of_ble_eq_true rfl⟩, Nat.le_of_ble_eq_true rfl, Nat.le_of_ble_eq_true rfl⟩ rfl rfl (Nat.le_of_ble_eq_true rfl) dX8_orders_101) w (fun H locs w => ?_)
      obtain ⟨rfl, rfl, rfl⟩ := retA h
      refine W.widen (k := 3) (n := 523) (Nat.le_of_ble_eq_true rfl) (Nat.le_of_ble_eq_true rfl) ?_
      exact m_ri X w hr hlocks dX8_orders_104
    · replace h := ifF h c53
      refine lv_aload_n hx hb dX8_orders_70 rfl (lv_at hl 2 rfl) ?_
      refine lv_iload_n hx hb dX8_orders_71 rfl (lv_at hl 0 rfl) ?_
      obtain ⟨r63, V65, q64, h⟩ := obi h
      refine m_ci (m_rV (As := [.int r50]) (rest := []) X w hl mi_X8_granted ml_X8_107 o (shn hs 0 rfl) (shk hs 0 rfl : S.2.1 o = 8) rfl (c_X8_granted l D cy ad A (KX A aK aV) C0 N S V52 o hs r50 r63 V65 q64) ⟨⟨rfl, rfl, Nat.le_of_ble_eq_true rfl, Nat.le_of_ble_eq_true rfl⟩, Nat.le_of_ble_eq_true rfl, Nat.le_of_ble_eq_true rfl⟩ rfl rfl (Nat.le_of_ble_eq_true rfl) dX8_orders_72) w (fun H locs w => ?_)
      obtain ⟨rfl, rfl, rfl⟩ := retA h
      refine W.widen (k := 3) (n := 523) (Nat.le_of_ble_eq_true rfl) (Nat.le_of_ble_eq_true rfl) ?_
      exact m_ri X w hr hlocks dX8_orders_75
set_option maxHeartbeats 4000000 in
set_option maxRecDepth 100000 in
def f_X8_image (N : Nat) (ad : Nat → Nat) (S : St) (V : Vt) (o : Nat) (a1 : Int32) : Option (Int32 × St × Vt) := ob1 (f_X8_isWithin N a1 (0 : Int32) (1 : Int32)) (fun r28 => if r28 = 0 then ob (f_X8_refused N S V o (-1 : Int32)) (fun r65 V67 => some (r65, S, V67)) else ck a1 2 (bd (V.2.2.2 (o + 11) a1.toNatClampNeg) (fun t32 => nl t32 (cg (ad S.1 == S.2.2.2.2) (bd S.1 (fun q35 => bd (nwO S 0) (fun S => bd (zV V q35) (fun V37 => cg (shpB S o t8) (oav (f_X0_init N ad S V37 q35) (fun S V39 => cg (shpB S o t8) (cg (ooB S q35 0) (ck a1 2 (bd (sR V39 (o + 11) a1.toNatClampNeg (q35 + 1)) (fun V44 => ck a1 2 (bd (V44.2.2.2 (o + 11) a1.toNatClampNeg) (fun t46 => nl t46 (none) (fun q47 => cg (shpB S q47 t0) (obv (f_X0_copyFrom N S V44 q47 (o + 1)) (fun V51 => ob (f_X8_granted N S V51 o (0 : Int32)) (fun r52 V54 => some (r52, S, V54)))))))))))))))))) (fun q33 => cg (shpB S q33 t0) (ck a1 2 (bd (V.2.2.2 (o + 11) a1.toNatClampNeg) (fun t56 => nl t56 (none) (fun q57 => cg (shpB S q57 t0) (obv (f_X0_copyFrom N S V q57 (o + 1)) (fun V61 => ob (f_X8_granted N S V61 o (0 : Int32)) (fun r62 V64 => some (r62, S, V64))))))))))))
set_option maxHeartbeats 4000000 in
set_option maxRecDepth 100000 in
theorem c_X8_image (l : Launch) (D : va_G) (cy : Nat → ClassId) (ad : Nat → Nat) (A : Nat → Prop) (aK aV : Nat → Nat) (C0 : Cx ad A (KX A aK aV)) (N : Nat) (S : St) (V : Vt) (o : Nat) (hs : shp S o t8) (a1 : Int32) (r : Int32) (S' : St) (V' : Vt) (h : f_X8_image N ad S V o a1 = some (r, S', V')) : Met l yX8_image (mw yX8_image cX8_image 2 (some .int)) { frames := 2, cells := 10, slots := 147, locals := 84 } (PreM D cy ad (KX A aK aV) S V [.ref (ad o), .int a1]) (QI D cy ad A r S' V') 10 147 A := by
  refine ct_goK C0 (own := RX8) rfl (by decide) rfl ?_
  intro p e s m below meth c ls H locs hKc X hr hlocks hnm hl w
  have hx := X.1.1
  have hb := X.1.2.1
  have hown := X.2.1
  have hts := X.2.2.1
  have hl : lv_has ls 2 [(0, .ref (ad o)), (1, .int a1)] := hl
  rw [f_X8_image] at h
  refine lv_iload_n hx hb dX8_image_0 rfl (lv_at hl 1 rfl) ?_
  refine lv_iconst (v := 0) hx hb dX8_image_1 (by decide) ?_
  refine lv_iconst (v := 1) hx hb dX8_image_2 (by decide) ?_
  obtain ⟨r28, q29, h⟩ := ob1i h
  refine m_ci (m_rS (As := [.int a1, .int (0 : Int32), .int (1 : Int32)]) (rest := []) X w hl mi_X8_isWithin ml_X8_93 (c_X8_isWithin l D cy ad A (KX A aK aV) C0 N S V a1 (0 : Int32) (1 : Int32) r28 q29) ⟨⟨rfl, rfl, Nat.le_of_ble_eq_true rfl, Nat.le_of_ble_eq_true rfl⟩, Nat.le_of_ble_eq_true rfl, Nat.le_of_ble_eq_true rfl⟩ rfl rfl (Nat.le_of_ble_eq_true rfl) dX8_image_3) w (fun H locs w => ?_)
  refine lv_if_ne (tgt := 15) hx hb dX8_image_6 (by decide) (fun c30 => ?_) (fun c30 => ?_)
  · replace h := ifF h c30
    refine lv_aload_n hx hb dX8_image_15 rfl (lv_at hl 0 rfl) ?_
    refine m_get X w o (shn hs 0 rfl) (shk hs 0 rfl : S.2.1 o = 8) ci8 1 (by decide) (fvR (shk hs 0 rfl : S.2.1 o = 8) rfl (shq hs 0 1 rfl rfl : S.2.2.2.1 o 1 = (o + 11) + 1)) rfl fl_X8_16 dX8_image_16 ?_
    refine lv_iload_n hx hb dX8_image_19 rfl (lv_at hl 1 rfl) ?_
    obtain ⟨g31, h⟩ := cki h
    refine m_aald X w (o + 11) (shn hs 11 rfl) (shk hs 11 rfl : S.2.1 (o + 11) = 14) 4 rfl rfl rfl rfl (shz hs 11 rfl : S.2.2.1 (o + 11) = 2) g31 dX8_image_20 ?_
    obtain ⟨t32, et32⟩ : ∃ y : Nat, y = V.2.2.2 (o + 11) a1.toNatClampNeg := ⟨_, rfl⟩
    rw [← et32]
    replace h := bdi h _ et32
    cases t32 with
    | zero =>
      replace h := nl0 h
      refine lv_ifnonnullN hx hb dX8_image_21 ?_
      refine lv_aload_n hx hb dX8_image_24 rfl (lv_at hl 0 rfl) ?_
      refine m_get X w o (shn hs 0 rfl) (shk hs 0 rfl : S.2.1 o = 8) ci8 1 (by decide) (fvR (shk hs 0 rfl : S.2.1 o = 8) rfl (shq hs 0 1 rfl rfl : S.2.2.2.1 o 1 = (o + 11) + 1)) rfl fl_X8_16 dX8_image_25 ?_
      refine lv_iload_n hx hb dX8_image_28 rfl (lv_at hl 1 rfl) ?_
      obtain ⟨g36, h⟩ := cgi h
      have g36 := beq_iff_eq.mp g36
      obtain ⟨q35, eq35⟩ : ∃ y : Nat, y = S.1 := ⟨_, rfl⟩
      replace h := bdi h _ eq35
      refine m_new X w g36 ci0 dv_0 cl_X8_9 in_0 ii_0 dX8_image_29 (Nat.le_of_ble_eq_true rfl) (Nat.le_of_ble_eq_true rfl) (fun S V37 H locs eS eV37 w => ?_)
      rw [← eq35] at eV37 ⊢
      replace h := bdi h _ eS
      replace h := bdi h _ eV37
      refine W.widen (k := 1) (n := 14) (Nat.le_of_ble_eq_true rfl) (Nat.le_of_ble_eq_true rfl) ?_
      obtain ⟨g38, h⟩ := cgi h
      have hs := shp_of g38
      refine lv_dup hx hb dX8_image_32 rfl ?_
      obtain ⟨S, V39, q40, h⟩ := oavi h
      refine m_cv (m_rIN (As := []) (rest := [.ref (ad q35), .int a1, .ref (ad (o + 11))]) X w hl mi_X0_init nm_X8_11 (ad q35) (c_X0_init l D cy ad A aK aV C0 N _ V37 q35 _ _ q40) ⟨⟨rfl, rfl, (Nat.le_of_ble_eq_true rfl), (Nat.le_of_ble_eq_true rfl)⟩, (Nat.le_of_ble_eq_true rfl), (Nat.le_of_ble_eq_true rfl)⟩ rfl rfl (Nat.le_of_ble_eq_true rfl) dX8_image_33) w (fun H locs w => ?_)
      refine W.widen (k := 10) (n := 147) (Nat.le_of_ble_eq_true rfl) (Nat.le_of_ble_eq_true rfl) ?_
      obtain ⟨g41, h⟩ := cgi h
      have hs := shp_of g41
      obtain ⟨g42, h⟩ := cgi h
      have g42 := ooB_of g42
      obtain ⟨g43, h⟩ := cki h
      refine m_aast X w (o + 11) (shn hs 11 rfl) (shk hs 11 rfl : S.2.1 (o + 11) = 14) 4 rfl rfl rfl (shz hs 11 rfl : S.2.2.1 (o + 11) = 2) g43 q35 g42.1 g42.2 rfl rfl dX8_image_36 (fun V44 H locs eV44 w => ?_)
      replace h := bdi h _ eV44
      refine lv_aload_n hx hb dX8_image_37 rfl (lv_at hl 0 rfl) ?_
      refine m_get X w o (shn hs 0 rfl) (shk hs 0 rfl : S.2.1 o = 8) ci8 1 (by decide) (fvR (shk hs 0 rfl : S.2.1 o = 8) rfl (shq hs 0 1 rfl rfl : S.2.2.2.1 o 1 = (o + 11) + 1)) rfl fl_X8_16 dX8_image_38 ?_
      refine lv_iload_n hx hb dX8_image_41 rfl (lv_at hl 1 rfl) ?_
      obtain ⟨g45, h⟩ := cki h
      refine m_aald X w (o + 11) (shn hs 11 rfl) (shk hs 11 rfl : S.2.1 (o + 11) = 14) 4 rfl rfl rfl rfl (shz hs 11 rfl : S.2.2.1 (o + 11) = 2) g45 dX8_image_42 ?_
      obtain ⟨t46, et46⟩ : ∃ y : Nat, y = V44.2.2.2 (o + 11) a1.toNatClampNeg := ⟨_, rfl⟩
      rw [← et46]
      replace h := bdi h _ et46
      cases t46 with
      | zero =>
        replace h := nl0 h
        refine lv_aload_n hx hb dX8_image_43 rfl (lv_at hl 0 rfl) ?_
        refine m_get X w o (shn hs 0 rfl) (shk hs 0 rfl : S.2.1 o = 8) ci8 0 (by decide) (fvR (shk hs 0 rfl : S.2.1 o = 8) rfl (shq hs 0 0 rfl rfl : S.2.2.2.1 o 0 = (o + 1) + 1)) rfl fl_X8_12 dX8_image_44 ?_
        cases h
      | succ q47 =>
        replace h := nls h
        obtain ⟨g48, h⟩ := cgi h
        have hs_q47 := shp_of g48
        refine lv_aload_n hx hb dX8_image_43 rfl (lv_at hl 0 rfl) ?_
        refine m_get X w o (shn hs 0 rfl) (shk hs 0 rfl : S.2.1 o = 8) ci8 0 (by decide) (fvR (shk hs 0 rfl : S.2.1 o = 8) rfl (shq hs 0 0 rfl rfl : S.2.2.2.1 o 0 = (o + 1) + 1)) rfl fl_X8_12 dX8_image_44 ?_
        obtain ⟨V51, q50, h⟩ := obvi h
        refine m_cv (m_rV (As := [.ref (ad (o + 1))]) (rest := []) X w hl mi_X0_copyFrom ml_X8_180 q47 (shn hs_q47 0 rfl) (shk hs_q47 0 rfl : S.2.1 q47 = 0) rfl (c_X0_copyFrom l D cy ad A (KX A aK aV) C0 N S V44 q47 hs_q47 (o + 1) (sb_8_1 hs) V51 q50) ⟨⟨rfl, rfl, Nat.le_of_ble_eq_true rfl, Nat.le_of_ble_eq_true rfl⟩, Nat.le_of_ble_eq_true rfl, Nat.le_of_ble_eq_true rfl⟩ rfl rfl (Nat.le_of_ble_eq_true rfl) dX8_image_47) w (fun H locs w => ?_)
        refine lv_aload_n hx hb dX8_image_50 rfl (lv_at hl 0 rfl) ?_
        refine lv_iconst (v := 0) hx hb dX8_image_51 (by decide) ?_
        obtain ⟨r52, V54, q53, h⟩ := obi h
        refine m_ci (m_rV (As := [.int (0 : Int32)]) (rest := []) X w hl mi_X8_granted ml_X8_107 o (shn hs 0 rfl) (shk hs 0 rfl : S.2.1 o = 8) rfl (c_X8_granted l D cy ad A (KX A aK aV) C0 N S V51 o hs (0 : Int32) r52 V54 q53) ⟨⟨rfl, rfl, Nat.le_of_ble_eq_true rfl, Nat.le_of_ble_eq_true rfl⟩, Nat.le_of_ble_eq_true rfl, Nat.le_of_ble_eq_true rfl⟩ rfl rfl (Nat.le_of_ble_eq_true rfl) dX8_image_52) w (fun H locs w => ?_)
        obtain ⟨rfl, rfl, rfl⟩ := retA h
        refine W.widen (k := 10) (n := 147) (Nat.le_of_ble_eq_true rfl) (Nat.le_of_ble_eq_true rfl) ?_
        exact m_ri X w hr hlocks dX8_image_55
    | succ q33 =>
      replace h := nls h
      obtain ⟨g34, h⟩ := cgi h
      have hs_q33 := shp_of g34
      refine lv_ifnonnull (tgt := 37) hx hb dX8_image_21 (by decide) ?_
      refine lv_aload_n hx hb dX8_image_37 rfl (lv_at hl 0 rfl) ?_
      refine m_get X w o (shn hs 0 rfl) (shk hs 0 rfl : S.2.1 o = 8) ci8 1 (by decide) (fvR (shk hs 0 rfl : S.2.1 o = 8) rfl (shq hs 0 1 rfl rfl : S.2.2.2.1 o 1 = (o + 11) + 1)) rfl fl_X8_16 dX8_image_38 ?_
      refine lv_iload_n hx hb dX8_image_41 rfl (lv_at hl 1 rfl) ?_
      obtain ⟨g55, h⟩ := cki h
      refine m_aald X w (o + 11) (shn hs 11 rfl) (shk hs 11 rfl : S.2.1 (o + 11) = 14) 4 rfl rfl rfl rfl (shz hs 11 rfl : S.2.2.1 (o + 11) = 2) g55 dX8_image_42 ?_
      obtain ⟨t56, et56⟩ : ∃ y : Nat, y = V.2.2.2 (o + 11) a1.toNatClampNeg := ⟨_, rfl⟩
      rw [← et56]
      replace h := bdi h _ et56
      cases t56 with
      | zero =>
        replace h := nl0 h
        refine lv_aload_n hx hb dX8_image_43 rfl (lv_at hl 0 rfl) ?_
        refine m_get X w o (shn hs 0 rfl) (shk hs 0 rfl : S.2.1 o = 8) ci8 0 (by decide) (fvR (shk hs 0 rfl : S.2.1 o = 8) rfl (shq hs 0 0 rfl rfl : S.2.2.2.1 o 0 = (o + 1) + 1)) rfl fl_X8_12 dX8_image_44 ?_
        cases h
      | succ q57 =>
        replace h := nls h
        obtain ⟨g58, h⟩ := cgi h
        have hs_q57 := shp_of g58
        refine lv_aload_n hx hb dX8_image_43 rfl (lv_at hl 0 rfl) ?_
        refine m_get X w o (shn hs 0 rfl) (shk hs 0 rfl : S.2.1 o = 8) ci8 0 (by decide) (fvR (shk hs 0 rfl : S.2.1 o = 8) rfl (shq hs 0 0 rfl rfl : S.2.2.2.1 o 0 = (o + 1) + 1)) rfl fl_X8_12 dX8_image_44 ?_
        obtain ⟨V61, q60, h⟩ := obvi h
        refine m_cv (m_rV (As := [.ref (ad (o + 1))]) (rest := []) X w hl mi_X0_copyFrom ml_X8_180 q57 (shn hs_q57 0 rfl) (shk hs_q57 0 rfl : S.2.1 q57 = 0) rfl (c_X0_copyFrom l D cy ad A (KX A aK aV) C0 N S V q57 hs_q57 (o + 1) (sb_8_1 hs) V61 q60) ⟨⟨rfl, rfl, Nat.le_of_ble_eq_true rfl, Nat.le_of_ble_eq_true rfl⟩, Nat.le_of_ble_eq_true rfl, Nat.le_of_ble_eq_true rfl⟩ rfl rfl (Nat.le_of_ble_eq_true rfl) dX8_image_47) w (fun H locs w => ?_)
        refine lv_aload_n hx hb dX8_image_50 rfl (lv_at hl 0 rfl) ?_
        refine lv_iconst (v := 0) hx hb dX8_image_51 (by decide) ?_
        obtain ⟨r62, V64, q63, h⟩ := obi h
        refine m_ci (m_rV (As := [.int (0 : Int32)]) (rest := []) X w hl mi_X8_granted ml_X8_107 o (shn hs 0 rfl) (shk hs 0 rfl : S.2.1 o = 8) rfl (c_X8_granted l D cy ad A (KX A aK aV) C0 N S V61 o hs (0 : Int32) r62 V64 q63) ⟨⟨rfl, rfl, Nat.le_of_ble_eq_true rfl, Nat.le_of_ble_eq_true rfl⟩, Nat.le_of_ble_eq_true rfl, Nat.le_of_ble_eq_true rfl⟩ rfl rfl (Nat.le_of_ble_eq_true rfl) dX8_image_52) w (fun H locs w => ?_)
        obtain ⟨rfl, rfl, rfl⟩ := retA h
        refine W.widen (k := 10) (n := 147) (Nat.le_of_ble_eq_true rfl) (Nat.le_of_ble_eq_true rfl) ?_
        exact m_ri X w hr hlocks dX8_image_55
  · replace h := ifT h c30
    refine lv_aload_n hx hb dX8_image_9 rfl (lv_at hl 0 rfl) ?_
    refine lv_iconst (v := (-1)) hx hb dX8_image_10 (by decide) ?_
    obtain ⟨r65, V67, q66, h⟩ := obi h
    refine m_ci (m_rV (As := [.int (-1 : Int32)]) (rest := []) X w hl mi_X8_refused ml_X8_97 o (shn hs 0 rfl) (shk hs 0 rfl : S.2.1 o = 8) rfl (c_X8_refused l D cy ad A (KX A aK aV) C0 N S V o hs (-1 : Int32) r65 V67 q66) ⟨⟨rfl, rfl, Nat.le_of_ble_eq_true rfl, Nat.le_of_ble_eq_true rfl⟩, Nat.le_of_ble_eq_true rfl, Nat.le_of_ble_eq_true rfl⟩ rfl rfl (Nat.le_of_ble_eq_true rfl) dX8_image_11) w (fun H locs w => ?_)
    obtain ⟨rfl, rfl, rfl⟩ := retA h
    refine W.widen (k := 10) (n := 147) (Nat.le_of_ble_eq_true rfl) (Nat.le_of_ble_eq_true rfl) ?_
    exact m_ri X w hr hlocks dX8_image_14
